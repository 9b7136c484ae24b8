/-! judge and fits, on both sides -/
def jdS (A : Nat → Int64) : Nat → Nat → Int32
  | 0, _ => -1
  | k + 1, i => if A (i + 1) = 0 then nI i else jdS A k (i + 1)
section PXJD
variable {d D n q L cc tc rl sg tp c k s m : Nat} {so : Option Nat} {dr R : px_HR} {ds S : px_HS} {I I0 : px_HI} {J : px_HJ} {xs : Nat → Int32} {ca kd nb ta ua wa tz : Nat → Nat} {x y z v w : Int32}
theorem w_jdC (h : Inv xs L so dr ds I0 n cc tc rl sg tp ca kd nb ta ua wa tz) (hs : s < 4) (hm : m ≤ 6) (e2 : I0 (20 + 2 * s) 2 = nI m) : ∀ k i (I : px_HI) (J : px_HJ), i + k = m → kpF wa tc I0 I → (∀ j, j < 6 → I 4 j = I0 2 j) → I 4 6 = nI i → (∀ j, j < i → I 5 j = I0 (21 + 2 * s) j) → ∃ I' J', px_ev (d + 8) 119 35 [some (.ref 0), some (.int (nI s)), some (.ref (20 + 2 * s)), some (.int 0), some (.int (nI i))] [] I J (dR so dr) (dS L ds) n q (some (.int (jdS (fun t => gA (gW I0 tz kd nb (I0 31 7) (I0 31 8) (I0 31 9) (I0 31 10) (I0 31 11) rl t (I0 (21 + 2 * s))) cc) k i)), I', J', dR so dr, dS L ds, n, q) ∧ kpF wa tc I0 I'
  | 0, i, I, J, hi, hk, g4, g6, g5 => by
    obtain ⟨s1, s2, s3, s4⟩ := sh_S (ds := ds) (L := L) (so := so) (dr := dr) hs
    have e2' : I (20 + 2 * s) 2 = nI m := (hk.lo h (by omega) (by omega) (by omega) (by omega) (by omega) (by omega) (by omega)).trans e2
    refine ⟨I, J, ?_, hk⟩
    repeat refine e_s rfl ?_
    refine e_gi rfl s1 rfl ?_
    rw [e2']
    refine e_s rfl ?_
    refine e_bt (nI_le (by omega) (by omega)) ?_
    repeat refine e_s rfl ?_
    exact e_r rfl
  | k + 1, i, I, J, hi, hk, g4, g6, g5 => by
    obtain ⟨s1, s2, s3, s4⟩ := sh_S (ds := ds) (L := L) (so := so) (dr := dr) hs
    obtain ⟨a1, a2, a3, a4, a5, a6, a7, a8, a9, a10, a11⟩ := h.2.1
    have e2' : I (20 + 2 * s) 2 = nI m := (hk.lo h (by omega) (by omega) (by omega) (by omega) (by omega) (by omega) (by omega)).trans e2
    have e21 : I (21 + 2 * s) i = I0 (21 + 2 * s) i := hk.lo h (by omega) (by omega) (by omega) (by omega) (by omega) (by omega) (by omega)
    have fb : kpF wa tc I (px_u (px_u I 5 i (I (21 + 2 * s) i)) 4 6 (nI (i + 1))) := fun a j q => by
      rw [u_ne (fun e => absurd (Or.inl e) q), u_ne (fun e => absurd (Or.inr (Or.inl e)) q)]
    have hb := (h.keep hk).keep fb
    have c4 : ∀ j, j < 6 → px_u (px_u I 5 i (I (21 + 2 * s) i)) 4 6 (nI (i + 1)) 4 j = I0 2 j := fun j hj => by
      rw [u_ne (fun _ => by omega), u_ne (by omega), g4 j hj]
    have c5 : ∀ j, j < i + 1 → px_u (px_u I 5 i (I (21 + 2 * s) i)) 4 6 (nI (i + 1)) 5 j = I0 (21 + 2 * s) j := fun j hj => by
      rw [u_ne (by omega)]
      by_cases e : j = i
      · subst e
        rw [u_eq, e21]
      · rw [u_ne (fun _ => e), g5 j (by omega)]
    obtain ⟨I1, J1, k1, k2, k3, k4, k5, k6, k7, k8⟩ := q_tho (d := 0) (q := q) (J := J) (rl' := rl) (sg' := i + 1) hb h.1 ((c4 5 (by decide)).trans a6) u_eq (by omega)
    obtain ⟨_, _, _, _, e32⟩ := mW_k h (hk.trans fb)
    have eW : gW (px_u (px_u I 5 i (I (21 + 2 * s) i)) 4 6 (nI (i + 1))) tz kd nb (px_u (px_u I 5 i (I (21 + 2 * s) i)) 4 6 (nI (i + 1)) 4 0) (px_u (px_u I 5 i (I (21 + 2 * s) i)) 4 6 (nI (i + 1)) 4 1) (px_u (px_u I 5 i (I (21 + 2 * s) i)) 4 6 (nI (i + 1)) 4 2) (px_u (px_u I 5 i (I (21 + 2 * s) i)) 4 6 (nI (i + 1)) 4 3) (px_u (px_u I 5 i (I (21 + 2 * s) i)) 4 6 (nI (i + 1)) 4 4) rl (i + 1) (px_u (px_u I 5 i (I (21 + 2 * s) i)) 4 6 (nI (i + 1)) 5) = gW I0 tz kd nb (I0 31 7) (I0 31 8) (I0 31 9) (I0 31 10) (I0 31 11) rl (i + 1) (I0 (21 + 2 * s)) := by
      rw [c4 0 (by decide), c4 1 (by decide), c4 2 (by decide), c4 3 (by decide), c4 4 (by decide), a1, a2, a3, a4, a5]
      exact gW_c e32 c5
    rw [eW] at k7
    have hk1 := (hk.trans fb).trans k2
    have head : ∀ r, px_ev (d + 8) 119 65 [some (.ref 0), some (.int (nI s)), some (.ref (20 + 2 * s)), some (.int 0), some (.int (nI i))] [] I1 J1 (dR so dr) (dS L ds) n q r → px_ev (d + 8) 119 35 [some (.ref 0), some (.int (nI s)), some (.ref (20 + 2 * s)), some (.int 0), some (.int (nI i))] [] I J (dR so dr) (dS L ds) n q r := by
      intro r kk
      repeat refine e_s rfl ?_
      refine e_gi rfl s1 rfl ?_
      rw [e2']
      refine e_s rfl ?_
      refine e_bf (nI_ge (by omega) (by omega)) ?_
      repeat refine e_s rfl ?_
      refine e_cv rfl rfl rfl s1 rfl rfl (r_shAt (d := 0) (i := i) hs e2' (by omega) (by omega)) (by omega) ?_
      refine e_c rfl (r_sadd_4 (d := 0) g6 (show i < 6 by omega)) (by omega) ?_
      repeat refine e_s rfl ?_
      refine e_c rfl k1 (by omega) ?_
      exact kk
    unfold jdS
    by_cases hz : gA (gW I0 tz kd nb (I0 31 7) (I0 31 8) (I0 31 9) (I0 31 10) (I0 31 11) rl (i + 1) (I0 (21 + 2 * s))) cc = 0
    · rw [if_pos hz]
      refine ⟨I1, J1, head _ ?_, hk1⟩
      refine e_s rfl ?_
      refine e_s rfl ?_
      rw [k7, hz]
      repeat refine e_s rfl ?_
      exact e_r rfl
    · rw [if_neg hz]
      obtain ⟨I', J', r1, r2⟩ := w_jdC h hs hm e2 k (i + 1) I1 J1 (by omega) hk1 (fun j hj => (k3 j).trans (c4 j hj)) ((k3 6).trans u_eq) (fun j hj => (k4 j).trans (c5 j hj))
      refine ⟨I', J', head _ ?_, r2⟩
      refine e_s rfl ?_
      refine e_s rfl ?_
      rw [k7]
      refine e_s rfl ?_
      refine e_s rfl ?_
      refine e_s rfl ?_
      refine e_bt (fun g => hz ((lg_cmp_eq _ _).mp g)) ?_
      refine e_s rfl ?_
      refine e_s rfl ?_
      rw [nI_1]
      exact r1
theorem w_jdM (h : Inv xs L so dr ds I0 n cc tc rl sg tp ca kd nb ta ua wa tz) (hs : s < 4) (hm : m ≤ 6) (e2 : I0 47 s = nI m) : ∀ k i (I : px_HI) (J : px_HJ), i + k = m → kpF wa tc I0 I → ∃ I' J', px_ev (D + 84) 221 14 [some (.ref 31), some (.int (nI s)), some (.int 0), some (.int (nI i))] [] I J (dR so dr) (dS L ds) n q (some (.int (jdS (fun t => gA (gW I0 tz kd nb (I0 31 7) (I0 31 8) (I0 31 9) (I0 31 10) (I0 31 11) rl t (fun j => I0 48 (40 * s + j))) cc) k i)), I', J', dR so dr, dS L ds, n, q) ∧ kpF wa tc I0 I'
  | 0, i, I, J, hi, hk => by
    have e2' : I 47 s = nI m := (hk.lo h (by omega) (by omega) (by omega) (by omega) (by omega) (by omega) (by omega)).trans e2
    refine ⟨I, J, ?_, hk⟩
    repeat refine e_s rfl ?_
    refine e_ia rfl rfl rfl hs (by decide) ?_
    rw [e2']
    refine e_s rfl ?_
    refine e_bt (nI_le (by omega) (by omega)) ?_
    repeat refine e_s rfl ?_
    exact e_r rfl
  | k + 1, i, I, J, hi, hk => by
    have e2' : I 47 s = nI m := (hk.lo h (by omega) (by omega) (by omega) (by omega) (by omega) (by omega) (by omega)).trans e2
    obtain ⟨I1, J1, k1, k2, k3, k4⟩ := m_alone (D := D) (q := q) (J := J) (m := i + 1) (h.keep hk) hs (by omega)
    have e : ∀ j, j < 12 → I 31 j = I0 31 j := fun j hj => hk.lo h (by omega) (by omega) (by omega) (by omega) (by omega) (by omega) (by omega)
    have eW : gW I tz kd nb (I 31 7) (I 31 8) (I 31 9) (I 31 10) (I 31 11) rl (i + 1) (fun j => I 48 (40 * s + j)) = gW I0 tz kd nb (I0 31 7) (I0 31 8) (I0 31 9) (I0 31 10) (I0 31 11) rl (i + 1) (fun j => I0 48 (40 * s + j)) := by
      rw [e 7 (by omega), e 8 (by omega), e 9 (by omega), e 10 (by omega), e 11 (by omega)]
      exact gW_c (fun j => hk.lo h (by omega) (by omega) (by omega) (by omega) (by omega) (by omega) (by omega)) (fun j hj => hk.lo h (by omega) (by omega) (by omega) (by omega) (by omega) (by omega) (by omega))
    rw [eW] at k4
    have head : ∀ r, px_ev (D + 84) 221 32 [some (.ref 31), some (.int (nI s)), some (.int 0), some (.int (nI i))] [] I1 J1 (dR so dr) (dS L ds) n q r → px_ev (D + 84) 221 14 [some (.ref 31), some (.int (nI s)), some (.int 0), some (.int (nI i))] [] I J (dR so dr) (dS L ds) n q r := by
      intro r kk
      repeat refine e_s rfl ?_
      refine e_ia rfl rfl rfl hs (by decide) ?_
      rw [e2']
      refine e_s rfl ?_
      refine e_bf (nI_ge (by omega) (by omega)) ?_
      repeat refine e_s rfl ?_
      rw [nI_1]
      refine e_c rfl k1 (by omega) ?_
      exact kk
    unfold jdS
    by_cases hz : gA (gW I0 tz kd nb (I0 31 7) (I0 31 8) (I0 31 9) (I0 31 10) (I0 31 11) rl (i + 1) (fun j => I0 48 (40 * s + j))) cc = 0
    · rw [if_pos hz]
      refine ⟨I1, J1, head _ ?_, hk.trans k2⟩
      refine e_s rfl ?_
      refine e_s rfl ?_
      rw [k4, hz]
      repeat refine e_s rfl ?_
      exact e_r rfl
    · rw [if_neg hz]
      obtain ⟨I', J', r1, r2⟩ := w_jdM h hs hm e2 k (i + 1) I1 J1 (by omega) (hk.trans k2)
      refine ⟨I', J', head _ ?_, r2⟩
      refine e_s rfl ?_
      refine e_s rfl ?_
      rw [k4]
      refine e_s rfl ?_
      refine e_s rfl ?_
      refine e_s rfl ?_
      refine e_bt (fun g => hz ((lg_cmp_eq _ _).mp g)) ?_
      refine e_s rfl ?_
      refine e_s rfl ?_
      rw [nI_1]
      exact r1
theorem jdS_c {A B : Nat → Int64} : ∀ k i, (∀ t, t ≤ i + k → A t = B t) → jdS A k i = jdS B k i
  | 0, _, _ => rfl
  | k + 1, i, h => by
    unfold jdS
    rw [h (i + 1) (by omega), jdS_c k (i + 1) (fun t ht => h t (by omega))]
theorem o_judge (h : Inv xs L so dr ds I n cc tc rl sg tp ca kd nb ta ua wa tz) : ∃ I1 J1 I2 J2 v, px_mt (D + 84) 119 [.ref 0, .int x] I J (dR so dr) (dS L ds) n q (some (.int v), I1, J1, dR so dr, dS L ds, n, q) ∧ px_mt (D + 84) 221 [.ref 31, .int x] I1 J1 (dR so dr) (dS L ds) n q (some (.int v), I2, J2, dR so dr, dS L ds, n, q) ∧ Inv xs L so dr ds I2 n cc tc rl sg tp ca kd nb ta ua wa tz := by
  rcases ix_or (x := x) (k := 4) (by decide) with g | ⟨s, hs, rfl⟩
  · refine ⟨I, J, I, J, -2, ?_, ?_, h⟩
    · unfold px_mt
      repeat refine e_s rfl ?_
      refine e_c rfl (r_sheetNo (d := 0) g) (by omega) ?_
      repeat refine e_s rfl ?_
      refine e_c rfl (k := 120) (d' := 1) (v := some (.int (-2))) (I1 := I) (J1 := J) (R1 := dR so dr) (S1 := dS L ds) (n1 := n) (q1 := q) ?_ (by omega) ?_
      · unfold px_mt
        repeat refine e_s rfl ?_
        exact e_r rfl
      · repeat refine e_s rfl ?_
        exact e_r rfl
    · unfold px_mt
      repeat refine e_s rfl ?_
      refine e_c rfl (k := 222) (d' := 3) (v := some (.int (-2))) (I1 := I) (J1 := J) (R1 := dR so dr) (S1 := dS L ds) (n1 := n) (q1 := q) ?_ (by omega) ?_
      · unfold px_mt
        repeat refine e_s rfl ?_
        refine e_c rfl (r_isSheet (d := 0)) (by omega) ?_
        rw [out_k g]
        repeat refine e_s rfl ?_
        exact e_r rfl
      · repeat refine e_s rfl ?_
        exact e_r rfl
  obtain ⟨s1, s2, s3, s4⟩ := sh_S (ds := ds) (L := L) (so := so) (dr := dr) hs
  rcases h.2.2.2.2.2.2.1 s hs with ⟨q1, q2, q3⟩ | ⟨u, m, q1, q2, q3, q4, q5, q6, q7, q8⟩
  · refine ⟨I, J, I, J, -11, ?_, ?_, h⟩
    · unfold px_mt
      repeat refine e_s rfl ?_
      refine e_c rfl (r_sheetAt (d := 0) hs) (by omega) ?_
      repeat refine e_s rfl ?_
      refine e_c rfl (k := 120) (d' := 2) (v := some (.int (-11))) (I1 := I) (J1 := J) (R1 := dR so dr) (S1 := dS L ds) (n1 := n) (q1 := q) ?_ (by omega) ?_
      · unfold px_mt
        repeat refine e_s rfl ?_
        refine e_cv rfl rfl rfl s1 rfl rfl (r_miss (d := 0) hs) (by omega) ?_
        rw [decide_eq_true q2]
        repeat refine e_s rfl ?_
        exact e_r rfl
      · repeat refine e_s rfl ?_
        exact e_r rfl
    · unfold px_mt
      repeat refine e_s rfl ?_
      refine e_c rfl (k := 222) (d' := 3) (v := some (.int (-11))) (I1 := I) (J1 := J) (R1 := dR so dr) (S1 := dS L ds) (n1 := n) (q1 := q) ?_ (by omega) ?_
      · unfold px_mt
        repeat refine e_s rfl ?_
        refine e_c rfl (r_isSheet (d := 0)) (by omega) ?_
        rw [in_k hs (by decide)]
        repeat refine e_s rfl ?_
        refine e_za rfl rfl rfl hs (by decide) ?_
        rw [q1]
        repeat refine e_s rfl ?_
        exact e_r rfl
      · repeat refine e_s rfl ?_
        exact e_r rfl
  have hne : ¬ I (20 + 2 * s) 1 = -1 := by
    rw [q4]
    match u, q1 with
    | 0, _ => decide
    | 1, _ => decide
    | 2, _ => decide
  have erf : rfS (fun j => I 48 (40 * s + j)) m = rfS (I (21 + 2 * s)) m := by
    unfold rfS
    rw [okS_c m 0 (fun j hj => (q8 j (by omega)).symm)]
  by_cases hr : rfS (I (21 + 2 * s)) m = 0
  · have hm : m ≤ 6 := by
      by_cases g : m ≤ 6
      · exact g
      · unfold rfS at hr
        rw [if_neg g] at hr
        exact absurd hr (by decide)
    obtain ⟨Ia, b1, b2, b3, b4, b5⟩ := r_unh_4_2 (d := 0) (n := n) (q := q) (L := L) (so := so) (dr := dr) (ds := ds) (I := I) (J := J)
    have fb : kpF wa tc I Ia := fun a j g => b5 a j (fun e => g (Or.inl e)) (fun e => g (Or.inr (Or.inl e)))
    obtain ⟨I1, J1, c1, c2⟩ := w_jdC (d := D + 76) (q := q) h hs hm q6 m 0 Ia J (by omega) fb b2 b3 (fun j hj => by omega)
    have h' := h.keep c2
    have lo : ∀ a j, 30 < a → a < 49 → a ≠ 31 → a ≠ 41 → I1 a j = I a j := fun a j g1 g2 g3 g4 => c2.lo h (by omega) (by omega) (by omega) (by omega) (by omega) (by omega) (by omega)
    obtain ⟨I2, J2, m1, m2⟩ := w_jdM (D := D) (q := q) h' hs hm ((lo 47 s (by omega) (by omega) (by omega) (by omega)).trans q7) m 0 I1 J1 (by omega) kpF.refl
    have e31 : ∀ j, j < 12 → I1 31 j = I 31 j := fun j hj => c2.lo h (by omega) (by omega) (by omega) (by omega) (by omega) (by omega) (by omega)
    have ev : jdS (fun t => gA (gW I1 tz kd nb (I1 31 7) (I1 31 8) (I1 31 9) (I1 31 10) (I1 31 11) rl t (fun j => I1 48 (40 * s + j))) cc) m 0 = jdS (fun t => gA (gW I tz kd nb (I 31 7) (I 31 8) (I 31 9) (I 31 10) (I 31 11) rl t (I (21 + 2 * s))) cc) m 0 := by
      refine jdS_c m 0 (fun t ht => ?_)
      show gA (gW I1 tz kd nb (I1 31 7) (I1 31 8) (I1 31 9) (I1 31 10) (I1 31 11) rl t (fun j => I1 48 (40 * s + j))) cc = gA (gW I tz kd nb (I 31 7) (I 31 8) (I 31 9) (I 31 10) (I 31 11) rl t (I (21 + 2 * s))) cc
      rw [e31 7 (by omega), e31 8 (by omega), e31 9 (by omega), e31 10 (by omega), e31 11 (by omega), gW_c (I := I) (g := I (21 + 2 * s)) (fun j => lo 32 j (by omega) (by omega) (by omega) (by omega)) (fun j hj => by rw [lo 48 _ (by omega) (by omega) (by omega) (by omega), q8 j (by omega)])]
    rw [ev] at m1
    refine ⟨I1, J1, I2, J2, jdS (fun t => gA (gW I tz kd nb (I 31 7) (I 31 8) (I 31 9) (I 31 10) (I 31 11) rl t (I (21 + 2 * s))) cc) m 0, ?_, ?_, h'.keep m2⟩
    · unfold px_mt
      repeat refine e_s rfl ?_
      refine e_c rfl (r_sheetAt (d := 0) hs) (by omega) ?_
      repeat refine e_s rfl ?_
      refine e_c rfl (r_refC (d := 0) hs q2 hne q6) (by omega) ?_
      rw [hr]
      repeat refine e_s rfl ?_
      refine e_c rfl b1 (by omega) ?_
      refine e_s rfl ?_
      refine e_s rfl ?_
      exact c1
    · have hrM := r_refM (d := 0) (n := n) (q := q) (L := L) (so := so) (dr := dr) (ds := ds) (J := J1) (I := I1) hs q2 ((lo 45 s (by omega) (by omega) (by omega) (by omega)).trans q3) ((lo 47 s (by omega) (by omega) (by omega) (by omega)).trans q7)
      rw [show (fun j => I1 48 (40 * s + j)) = fun j => I 48 (40 * s + j) from funext (fun j => lo 48 _ (by omega) (by omega) (by omega) (by omega)), erf, hr] at hrM
      unfold px_mt
      repeat refine e_s rfl ?_
      refine e_c rfl hrM (by omega) ?_
      refine e_s rfl ?_
      refine e_s rfl ?_
      refine e_s rfl ?_
      refine e_s rfl ?_
      refine e_s rfl ?_
      exact m1
  · refine ⟨I, J, I, J, rfS (I (21 + 2 * s)) m, ?_, ?_, h⟩
    · unfold px_mt
      repeat refine e_s rfl ?_
      refine e_c rfl (r_sheetAt (d := 0) hs) (by omega) ?_
      repeat refine e_s rfl ?_
      refine e_c rfl (r_refC (d := 0) hs q2 hne q6) (by omega) ?_
      repeat refine e_s rfl ?_
      refine e_bf hr ?_
      refine e_s rfl ?_
      exact e_r rfl
    · have hrM := r_refM (d := 0) (n := n) (q := q) (L := L) (so := so) (dr := dr) (ds := ds) (J := J) (I := I) hs q2 q3 q7
      rw [erf] at hrM
      unfold px_mt
      repeat refine e_s rfl ?_
      refine e_c rfl hrM (by omega) ?_
      repeat refine e_s rfl ?_
      refine e_bf hr ?_
      refine e_s rfl ?_
      exact e_r rfl
end PXJD
