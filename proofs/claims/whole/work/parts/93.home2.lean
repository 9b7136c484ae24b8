/-! home, on both sides: the call -/
theorem nI_nm1 {t : Nat} (h : t < 1000) : ¬ nI t = -1 := fun e => by
  have := nI_pos (n := t) (by omega)
  rw [e] at this
  exact this (by decide)
section PXHM
variable {d D n q L cc tc rl sg tp c k s m : Nat} {so : Option Nat} {dr R : px_HR} {ds S : px_HS} {I I0 : px_HI} {J : px_HJ} {xs : Nat → Int32} {ca kd nb ta ua wa tz : Nat → Nat} {x y z v w : Int32} {W : Nat → Int64}
theorem w_hiM (h : Inv xs L so dr ds I0 n cc tc rl sg tp ca kd nb ta ua wa tz) {t : Nat} (ht : t < 24) : ∀ k i (a : Int64) (I : px_HI) (J : px_HJ), i + k = cc → kpF wa tc I0 I → J 40 t = a → ∃ I' J', J' 40 t = sm (hTm I0 tz kd rl sg t) k i a ∧ (∀ j, j ≠ t → J' 40 j = J 40 j) ∧ kpF wa tc I0 I' ∧ ∀ r, px_ev (D + 81) 217 95 [some (.ref 31), some (.int x), some (.int w), some (.int (nI t)), some (.int (nI cc)), none, none, none, none, none] [] I' J' (dR so dr) (dS L ds) n q r → px_ev (D + 81) 217 44 [some (.ref 31), some (.int x), some (.int w), some (.int (nI t)), some (.int (nI i)), none, none, none, none, none] [] I J (dR so dr) (dS L ds) n q r
  | 0, i, a, I, J, hi, hk, ea => by
    have c7 := h.2.2.1.1
    have e14 := (h.keep hk).2.2.1.2.2.1
    have e : i = cc := by omega
    subst e
    refine ⟨I, J, ea, fun _ _ => rfl, hk, fun r kk => ?_⟩
    refine e_s rfl ?_
    refine e_s rfl ?_
    refine e_s rfl ?_
    rw [e14]
    refine e_s rfl ?_
    refine e_bt (nI_le (by omega) (by omega)) ?_
    exact kk
  | k + 1, i, a, I, J, hi, hk, ea => by
    have c7 := h.2.2.1.1
    have hI := h.keep hk
    have e14 := hI.2.2.1.2.2.1
    obtain ⟨a1, a2, a3, a4, a5, a6, a7, a8, a9, a10, a11⟩ := hI.2.1
    obtain ⟨g1, g2, g3, g4, g5, g6, g7, g8⟩ := hI.2.2.1.2.2.2 i (by omega)
    obtain ⟨I1, J1, k1, k2⟩ := r_says0 (D := D + 80) (n := n) (q := q) (J := J) (x := nI t) (c := i) (by omega) hI.2.2.2.1 a7 h.1 (by omega)
    have hk1 := hk.trans (mFr3_k (wa := wa) (tc := tc) k2)
    have hI1 := h.keep hk1
    obtain ⟨b1, b2, b3, b4, b5, b6, b7, b8, b9, b10, b11⟩ := hI1.2.1
    obtain ⟨I2, J2, l1, l2⟩ := r_says1 (D := D + 80) (n := n) (q := q) (J := J1) (x := nI t) (c := i) (by omega) hI1.2.2.2.1 b7 h.1 (by omega)
    have hk2 := hk1.trans (mFr3_k (wa := wa) (tc := tc) l2)
    obtain ⟨_, _, _, _, e32⟩ := mW_k h hk
    obtain ⟨_, _, _, _, e32'⟩ := mW_k h hk1
    have e31 : ∀ j, j < 12 → I 31 j = I0 31 j := fun j hj => hk.lo h (by omega) (by omega) (by omega) (by omega) (by omega) (by omega) (by omega)
    have e31' : ∀ j, j < 12 → I1 31 j = I0 31 j := fun j hj => hk1.lo h (by omega) (by omega) (by omega) (by omega) (by omega) (by omega) (by omega)
    rw [e31 8 (by decide), e31 9 (by decide), a9, g7, tV_fr e32] at k1
    rw [e31' 8 (by decide), e31' 9 (by decide), b9, (hI1.2.2.1.2.2.2 i (by omega)).2.2.2.2.2.2.1, tV_fr e32'] at l1
    have j40 : ∀ j, J2 40 j = J 40 j := fun j => (l2.2 40 j (by omega)).trans (k2.2 40 j (by omega))
    obtain ⟨I', J', r1, r2, r3, r5⟩ := w_hiM h ht k (i + 1) (a + hTm I0 tz kd rl sg t i) I2 (px_u J2 40 t (a + hTm I0 tz kd rl sg t i)) (by omega) hk2 u_eq
    refine ⟨I', J', r1, fun j hj => (r2 j hj).trans ((u_ne (fun _ => hj)).trans (j40 j)), r3, fun r kk => ?_⟩
    refine e_s rfl ?_
    refine e_s rfl ?_
    refine e_s rfl ?_
    rw [e14]
    refine e_s rfl ?_
    refine e_bf (nI_ge (by omega) (by omega)) ?_
    repeat refine e_s rfl ?_
    refine e_la rfl rfl rfl ht (by decide) ?_
    rw [ea]
    repeat refine e_s rfl ?_
    refine e_c rfl (r_styM (D := 0) g3 (show i < 7 by omega) g7) (by omega) ?_
    rw [e31 10 (by decide), e31 11 (by decide)]
    repeat refine e_s rfl ?_
    refine e_c rfl k1 (by omega) ?_
    repeat refine e_s rfl ?_
    refine e_c rfl l1 (by omega) ?_
    refine e_s rfl ?_
    refine e_s rfl ?_
    refine e_s rfl ?_
    refine e_ls rfl rfl rfl ht (by decide) ?_
    refine e_s rfl ?_
    refine e_s rfl ?_
    rw [nI_1]
    exact r5 r kk
theorem w_hoM (h : Inv xs L so dr ds I0 n cc tc rl sg tp ca kd nb ta ua wa tz) : ∀ k t (I : px_HI) (J : px_HJ) (x4 : Option Value), t + k = 24 → kpF wa tc I0 I → (∀ j, j < t → J 40 j = hWo I0 tz kd rl sg cc j) → ∃ I' J' x4', kpF wa tc I0 I' ∧ (∀ j, j < 24 → J' 40 j = hWo I0 tz kd rl sg cc j) ∧ ∀ r, px_ev (D + 81) 217 101 [some (.ref 31), some (.int x), some (.int w), some (.int (nI 24)), x4', none, none, none, none, none] [] I' J' (dR so dr) (dS L ds) n q r → px_ev (D + 81) 217 28 [some (.ref 31), some (.int x), some (.int w), some (.int (nI t)), x4, none, none, none, none, none] [] I J (dR so dr) (dS L ds) n q r
  | 0, t, I, J, x4, ht, hk, ej => by
    have e : t = 24 := by omega
    subst e
    refine ⟨I, J, x4, hk, ej, fun r kk => ?_⟩
    refine e_s rfl ?_
    refine e_s rfl ?_
    refine e_s rfl ?_
    exact kk
  | k + 1, t, I, J, x4, ht, hk, ej => by
    obtain ⟨I1, J1, r1, r2, r3, r5⟩ := w_hiM (D := D) (q := q) (x := x) (w := w) h (show t < 24 by omega) cc 0 0 I (px_u J 40 t 0) (by omega) hk u_eq
    obtain ⟨I', J', x4', p1, p2, p3⟩ := w_hoM h k (t + 1) I1 J1 (some (.int (nI cc))) (by omega) r3 (fun j hj => by
      by_cases e : j = t
      · subst e
        exact r1
      · rw [r2 j e, u_ne (fun _ => e)]
        exact ej j (by omega))
    refine ⟨I', J', x4', p1, p2, fun r kk => ?_⟩
    repeat refine e_s rfl ?_
    refine e_bf (nI_ge (b := 24) (by omega) (by decide)) ?_
    repeat refine e_s rfl ?_
    refine e_ls rfl rfl rfl (show t < 24 by omega) (by decide) ?_
    refine e_s rfl ?_
    refine e_s rfl ?_
    refine r5 _ ?_
    refine e_s rfl ?_
    refine e_s rfl ?_
    rw [nI_1]
    exact p3 r kk
theorem w_hfM (hW : ∀ j, j < 24 → J 40 j = W j) {f N : Nat} (hf : f + N ≤ 24) {b : Int32} {a0 : Int64} {r : Option Value × px_G} : ∀ k i (a : Int64), i + k = f + N → px_ev (d + 1) 217 152 [some (.ref 31), some (.int (nI N)), some (.int w), some (.int b), some (.long a0), none, some (.int (nI f)), some (.long (sm W k i a)), none, some (.int (nI (f + N)))] [] I J (dR so dr) (dS L ds) n q r → px_ev (d + 1) 217 125 [some (.ref 31), some (.int (nI N)), some (.int w), some (.int b), some (.long a0), none, some (.int (nI f)), some (.long a), none, some (.int (nI i))] [] I J (dR so dr) (dS L ds) n q r
  | 0, i, a, hi, kk => by
    have e : i = f + N := by omega
    subst e
    refine e_s rfl ?_
    refine e_s rfl ?_
    refine e_s rfl ?_
    refine e_s rfl ?_
    rw [nI_add]
    refine e_s rfl ?_
    refine e_bt (nI_le (by omega) (by omega)) ?_
    exact kk
  | k + 1, i, a, hi, kk => by
    repeat refine e_s rfl ?_
    rw [nI_add]
    refine e_bf (nI_ge (by omega) (by omega)) ?_
    repeat refine e_s rfl ?_
    refine e_la rfl rfl rfl (show i < 24 by omega) (by decide) ?_
    rw [hW i (by omega)]
    refine e_s rfl ?_
    refine e_s rfl ?_
    refine e_s rfl ?_
    refine e_s rfl ?_
    rw [nI_1]
    exact w_hfM hW hf k (i + 1) _ (by omega) kk
theorem w_hmM (hW : ∀ j, j < 24 → J 40 j = W j) {N : Nat} (h1 : 1 ≤ N) (h24 : N ≤ 24) : ∀ k t (b : Int32) (a : Int64) (x7 x9 : Option Value), t + k = 25 - N → ¬ b = -1 → px_ev (d + 1) 217 109 [some (.ref 31), some (.int (nI N)), some (.int w), some (.int b), some (.long a), none, some (.int (nI t)), x7, none, x9] [] I J (dR so dr) (dS L ds) n q (some (.long (hmA w (opn (fun t => sm W N t 0) k t b a))), I, J, dR so dr, dS L ds, n, q)
  | 0, t, b, a, x7, x9, ht, hb => by
    repeat refine e_s rfl ?_
    rw [show (24 : Int32) - nI N = nI (24 - N) from pk_sub (a := 24) h24]
    refine e_bt (nI_lt (by omega) (by omega)) ?_
    repeat refine e_s rfl ?_
    unfold opn hmA
    by_cases e : w = 0
    · refine e_bf (fun g => g e) ?_
      rw [if_pos e]
      repeat refine e_s rfl ?_
      exact e_r rfl
    · refine e_bt e ?_
      rw [if_neg e]
      repeat refine e_s rfl ?_
      exact e_r rfl
  | k + 1, t, b, a, x7, x9, ht, hb => by
    refine e_s rfl ?_
    refine e_s rfl ?_
    refine e_s rfl ?_
    refine e_s rfl ?_
    rw [show (24 : Int32) - nI N = nI (24 - N) from pk_sub (a := 24) h24]
    refine e_s rfl ?_
    refine e_bf (nI_nlt (by omega) (by omega)) ?_
    refine e_s rfl ?_
    refine e_s rfl ?_
    refine e_s rfl ?_
    refine e_s rfl ?_
    refine w_hfM hW (show t + N ≤ 24 by omega) N t 0 (by omega) ?_
    refine e_s rfl ?_
    refine e_s rfl ?_
    refine e_s rfl ?_
    refine e_bf hb ?_
    refine e_s rfl ?_
    refine e_s rfl ?_
    refine e_s rfl ?_
    refine e_s rfl ?_
    unfold opn
    refine e_b (fun h => ?_) (fun h => ?_)
    · rw [if_neg (lg_le_not_lt ((lg_cmp_le _ _).mp h))]
      refine e_s rfl ?_
      refine e_s rfl ?_
      rw [nI_1]
      exact w_hmM hW h1 h24 k (t + 1) b a _ _ (by omega) hb
    · rw [if_pos ((lg_cmp_gt _ _).mp (Int32.not_le.mp h))]
      refine e_s rfl ?_
      refine e_s rfl ?_
      refine e_s rfl ?_
      refine e_s rfl ?_
      refine e_s rfl ?_
      refine e_s rfl ?_
      rw [nI_1]
      exact w_hmM hW h1 h24 k (t + 1) _ _ _ _ (by omega) (nI_nm1 (by omega))
theorem o_home (h : Inv xs L so dr ds I n cc tc rl sg tp ca kd nb ta ua wa tz) : ∃ I1 J1 I2 J2 v, px_mt (D + 81) 109 [.ref 0, .int x, .int w] I J (dR so dr) (dS L ds) n q (some (.long v), I1, J1, dR so dr, dS L ds, n, q) ∧ px_mt (D + 81) 217 [.ref 31, .int x, .int w] I1 J1 (dR so dr) (dS L ds) n q (some (.long v), I2, J2, dR so dr, dS L ds, n, q) ∧ Inv xs L so dr ds I2 n cc tc rl sg tp ca kd nb ta ua wa tz := by
  by_cases hx1 : x < 1
  · have ein : inI 1 24 x = false := decide_eq_false (fun g => absurd g.1 (Int32.not_le.mpr hx1))
    refine ⟨I, J, I, J, NOl, ?_, ?_, h⟩
    · unfold px_mt
      repeat refine e_s rfl ?_
      refine e_bt hx1 ?_
      repeat refine e_s rfl ?_
      exact e_r rfl
    · unfold px_mt
      repeat refine e_s rfl ?_
      refine e_c rfl (r_inI (D := 0) (a := 1) (c := 24) (by decide) (by decide)) (by omega) ?_
      rw [ein]
      repeat refine e_s rfl ?_
      exact e_r rfl
  by_cases hx2 : 24 < x
  · have ein : inI 1 24 x = false := decide_eq_false (fun g => absurd g.2 (Int32.not_le.mpr hx2))
    refine ⟨I, J, I, J, NOl, ?_, ?_, h⟩
    · unfold px_mt
      repeat refine e_s rfl ?_
      refine e_bf hx1 ?_
      repeat refine e_s rfl ?_
      refine e_bt hx2 ?_
      repeat refine e_s rfl ?_
      exact e_r rfl
    · unfold px_mt
      repeat refine e_s rfl ?_
      refine e_c rfl (r_inI (D := 0) (a := 1) (c := 24) (by decide) (by decide)) (by omega) ?_
      rw [ein]
      repeat refine e_s rfl ?_
      exact e_r rfl
  have ein : inI 1 24 x = true := decide_eq_true ⟨Int32.not_lt.mp hx1, Int32.not_lt.mp hx2⟩
  by_cases hw1 : w < 0
  · have ein2 : inI 0 1 w = false := decide_eq_false (fun g => absurd g.1 (Int32.not_le.mpr hw1))
    refine ⟨I, J, I, J, NOl, ?_, ?_, h⟩
    · unfold px_mt
      repeat refine e_s rfl ?_
      refine e_bf hx1 ?_
      repeat refine e_s rfl ?_
      refine e_bf hx2 ?_
      repeat refine e_s rfl ?_
      refine e_bt hw1 ?_
      repeat refine e_s rfl ?_
      exact e_r rfl
    · unfold px_mt
      repeat refine e_s rfl ?_
      refine e_c rfl (r_inI (D := 0) (a := 1) (c := 24) (by decide) (by decide)) (by omega) ?_
      rw [ein]
      repeat refine e_s rfl ?_
      refine e_c rfl (r_inI (D := 0) (a := 0) (c := 1) (by decide) (by decide)) (by omega) ?_
      rw [ein2]
      repeat refine e_s rfl ?_
      exact e_r rfl
  by_cases hw2 : w ≤ 1
  rotate_left
  · have ein2 : inI 0 1 w = false := decide_eq_false (fun g => hw2 g.2)
    refine ⟨I, J, I, J, NOl, ?_, ?_, h⟩
    · unfold px_mt
      repeat refine e_s rfl ?_
      refine e_bf hx1 ?_
      repeat refine e_s rfl ?_
      refine e_bf hx2 ?_
      repeat refine e_s rfl ?_
      refine e_bf hw1 ?_
      repeat refine e_s rfl ?_
      refine e_bf hw2 ?_
      repeat refine e_s rfl ?_
      exact e_r rfl
    · unfold px_mt
      repeat refine e_s rfl ?_
      refine e_c rfl (r_inI (D := 0) (a := 1) (c := 24) (by decide) (by decide)) (by omega) ?_
      rw [ein]
      repeat refine e_s rfl ?_
      refine e_c rfl (r_inI (D := 0) (a := 0) (c := 1) (by decide) (by decide)) (by omega) ?_
      rw [ein2]
      repeat refine e_s rfl ?_
      exact e_r rfl
  have ein2 : inI 0 1 w = true := decide_eq_true ⟨Int32.not_lt.mp hw1, hw2⟩
  obtain ⟨N, h1, h24, rfl⟩ : ∃ N, 1 ≤ N ∧ N ≤ 24 ∧ x = nI N := by
    have hx0 : ¬ x < 0 := fun g => hx1 (Int32.lt_of_lt_of_le g (by decide))
    obtain ⟨N, hN, e⟩ := nI_of2 (M := 24) (n := 24) (by decide) hx0 (Int32.not_lt.mp hx2)
    refine ⟨N, ?_, hN, e⟩
    by_cases g : 1 ≤ N
    · exact g
    · have g' : N = 0 := by omega
      rw [g'] at e
      exact absurd (show x < 1 by rw [e]; decide) hx1
  obtain ⟨Ia, b1, b2, b3, b4⟩ := r_bec_4_2 (d := 0) (n := n) (q := q) (L := L) (so := so) (dr := dr) (ds := ds) (I := I) (J := J)
  have fb : kpF wa tc I Ia := fun a j g => b4 a j (fun e => g (Or.inl e)) (fun e => g (Or.inr (Or.inl e)))
  obtain ⟨I1, J1, c1, c2, c3⟩ := w_fh (d := 0) (q := q) h 24 0 Ia J none none (by omega) fb (fun j _ hj2 => b2 j hj2) (fun j hj => by omega)
  have h' := h.keep c2
  obtain ⟨I2, J2, x4, m1, m2, m3⟩ := w_hoM (D := D) (q := q) (x := nI N) (w := w) h' 24 0 I1 J1 none (by omega) kpF.refl (fun j hj => by omega)
  have eW : ∀ j, hWo I1 tz kd rl sg cc j = hWo I tz kd rl sg cc j := fun j => by
    have e31 : ∀ j, j < 12 → I1 31 j = I 31 j := fun j hj => c2.lo h (by omega) (by omega) (by omega) (by omega) (by omega) (by omega) (by omega)
    have e32 : ∀ j, I1 32 j = I 32 j := fun j => c2.lo h (by omega) (by omega) (by omega) (by omega) (by omega) (by omega) (by omega)
    unfold hWo
    refine sm_c cc 0 0 (fun i hi => ?_)
    unfold hTm comS worS
    rw [e31 8 (by decide), e31 9 (by decide), e31 10 (by decide), e31 11 (by decide), tV_fr e32, tV_fr e32]
  simp only [eW] at m2
  refine ⟨I1, J1, I2, J2, hmA w (opn (fun t => sm (hWo I tz kd rl sg cc) N t 0) (24 - N) 1 0 (sm (hWo I tz kd rl sg cc) N 0 0)), ?_, ?_, h'.keep m1⟩
  · unfold px_mt
    repeat refine e_s rfl ?_
    refine e_bf hx1 ?_
    repeat refine e_s rfl ?_
    refine e_bf hx2 ?_
    repeat refine e_s rfl ?_
    refine e_bf hw1 ?_
    repeat refine e_s rfl ?_
    refine e_bt hw2 ?_
    repeat refine e_s rfl ?_
    refine e_c rfl (k := 110) (d' := 6) (v := none) (I1 := I1) (J1 := J1) (R1 := dR so dr) (S1 := dS L ds) (n1 := n) (q1 := q) ?_ (by omega) ?_
    · unfold px_mt
      repeat refine e_s rfl ?_
      refine e_c rfl b1 (by omega) ?_
      refine e_s rfl ?_
      refine e_s rfl ?_
      exact c1
    · repeat refine e_s rfl ?_
      refine e_c rfl (r_hf (d := 0) (f := 0) c3 (show 0 + N ≤ 24 by omega)) (by omega) ?_
      refine e_s rfl ?_
      refine e_s rfl ?_
      refine e_s rfl ?_
      exact w_hm (d := D + 79) c3 h1 h24 (24 - N) 1 0 _ none (by omega)
  · unfold px_mt
    repeat refine e_s rfl ?_
    refine e_c rfl (r_inI (D := 0) (a := 1) (c := 24) (by decide) (by decide)) (by omega) ?_
    rw [ein]
    repeat refine e_s rfl ?_
    refine e_c rfl (r_inI (D := 0) (a := 0) (c := 1) (by decide) (by decide)) (by omega) ?_
    rw [ein2]
    refine e_s rfl ?_
    refine e_s rfl ?_
    refine e_s rfl ?_
    refine m3 _ ?_
    refine e_s rfl ?_
    refine e_s rfl ?_
    refine e_s rfl ?_
    refine e_s rfl ?_
    refine e_s rfl ?_
    refine e_s rfl ?_
    refine e_s rfl ?_
    refine e_s rfl ?_
    refine e_s rfl ?_
    refine e_s rfl ?_
    rw [show (24 : Int32) - nI N = nI (24 - N) from pk_sub (a := 24) h24]
    refine e_s rfl ?_
    refine e_bf (nI_nlt (b := 0) (by omega) (by omega)) ?_
    refine e_s rfl ?_
    refine e_s rfl ?_
    refine e_s rfl ?_
    refine e_s rfl ?_
    refine w_hfM (f := 0) m2 (show 0 + N ≤ 24 by omega) N 0 0 (by omega) ?_
    refine e_s rfl ?_
    refine e_s rfl ?_
    refine e_s rfl ?_
    refine e_s rfl ?_
    refine e_s rfl ?_
    refine e_s rfl ?_
    refine e_s rfl ?_
    refine e_s rfl ?_
    refine e_s rfl ?_
    exact w_hmM m2 h1 h24 (24 - N) 1 0 _ _ _ (by omega) (by decide)
end PXHM
