/-! the thought scene, and the model in another house; guard -/
section PXQ3
variable {d D n q L cc tc rl sg rl' sg' tp : Nat} {so : Option Nat} {dr : px_HR} {ds : px_HS} {I I' I0 : px_HI} {J : px_HJ} {xs : Nat → Int32} {ca kd nb ta ua wa tz : Nat → Nat} {x y : Int32}
theorem q_tho (h : Inv xs L so dr ds I n cc tc rl sg tp ca kd nb ta ua wa tz) (hr : rl' < tc) (e5 : I 4 5 = nI rl') (e6 : I 4 6 = nI sg') (h6 : sg' ≤ 6) : ∃ I' J', px_mt (d + 7) 83 [.ref 0, .ref 4] I J (dR so dr) (dS L ds) n q (none, I', J', dR so dr, dS L ds, n, q) ∧ kpF wa tc I I' ∧ (∀ j, I' 4 j = I 4 j) ∧ (∀ j, I' 5 j = I 5 j) ∧ (∀ t, t < cc → J' 17 t = gW I tz kd nb (I 4 0) (I 4 1) (I 4 2) (I 4 3) (I 4 4) rl' sg' (I 5) t) ∧ (∀ t, t < cc → I' 18 t = gX I tz kd (I 4 0) (I 4 1) (I 4 2) rl' sg' t) ∧ J' 0 13 = gA (gW I tz kd nb (I 4 0) (I 4 1) (I 4 2) (I 4 3) (I 4 4) rl' sg' (I 5)) cc ∧ I' 0 14 = clp 0 99 (tV I tz rl' 2 (nmE (I 4 0) (I 4 1) 0 (I 4 2) (nI sg') 0)) := by
  have hw := h.wst hr
  obtain ⟨h0, h1, h2, h3, h4, h5, h6', h7, h8, h9, h10, h11, h12⟩ := h
  obtain ⟨I', J', k1, k2, k3, k4, k5, k6, k7⟩ := r_reckon (d := d) (n := n) (q := q) (J0 := J) (sc := 4) (hs := 5) h3 h2 rfl rfl rfl (by decide) (by decide) (by decide) (by decide) e5 hr e6 h6
  exact ⟨I', J', k1, fun a j g => k2 a j (fun e => g (Or.inr (Or.inr (Or.inr (Or.inr (Or.inl ⟨rl', hr, e⟩)))))) (fun e => g (Or.inr (Or.inr (Or.inl e)))) (fun e e2 => g (Or.inr (Or.inr (Or.inr (Or.inl ⟨e, e2⟩))))), fun j => k2 4 j (by omega) (by omega) (by omega), fun j => k2 5 j (by omega) (by omega) (by omega), k4, k5, k6, k7⟩
/-- what a supposition of the model may change -/
def sFp (a j : Nat) : Prop := a = 31 ∧ (j = 4 ∨ 7 ≤ j ∧ j ≤ 11 ∨ j = 16) ∨ a = 37
theorem sup_c (h : Inv xs L so dr ds I0 n cc tc rl sg tp ca kd nb ta ua wa tz) (f : ∀ a j, ¬ sFp a j → I a j = I0 a j) : cIv I (dR so dr) (dS L ds) cc ca kd nb := by
  obtain ⟨h0, h1, h2, h3, h4, h5, h6, h7, h8, h9, h10, h11, h12⟩ := h
  refine h2.g (fun i hi => (h10 i hi).1) (fun a j g => f a j ?_)
  unfold cFt at g
  unfold sFp
  omega
theorem sup_t (h : Inv xs L so dr ds I0 n cc tc rl sg tp ca kd nb ta ua wa tz) (f : ∀ a j, ¬ sFp a j → I a j = I0 a j) : tIv I (dR so dr) (dS L ds) tc ta ua wa tz := by
  obtain ⟨h0, h1, h2, h3, h4, h5, h6, h7, h8, h9, h10, h11, h12⟩ := h
  refine h3.g (fun t ht => (h12 t ht).1) (fun a j g => f a j ?_)
  unfold tFt at g
  unfold sFp
  omega
theorem r_gWith (h : Inv xs L so dr ds I n cc tc rl sg tp ca kd nb ta ua wa tz) : ∃ I' J', px_mt (D + 83) 216 [.ref 31, .int x, .int y] I J (dR so dr) (dS L ds) n q (some (.long (gG (gW I tz kd nb (I 31 7) (I 31 8) (I 31 9) x y rl sg (I 37)) (mX I tz kd rl sg) kd nb (I 31 7) (mC I tz rl sg) cc 0)), I', J', dR so dr, dS L ds, n, q) ∧ kpF wa tc I I' := by
  have hh := h
  have sup : ∀ a j, ¬ sFp a j → px_u (px_u I 31 10 x) 31 11 y a j = I a j := by
    intro a j g
    unfold sFp at g
    rw [u_ne (fun e => by omega), u_ne (fun e => by omega)]
  have hC := sup_c h sup
  have hT := sup_t h sup
  obtain ⟨h0, h1, h2, h3, h4, h5, h6, h7, h8, h9, h10, h11, h12⟩ := h
  obtain ⟨a1, a2, a3, a4, a5, a6, a7, a8, a9, a10, a11⟩ := h1
  obtain ⟨I1, J1, k1, k2, k3, k4, k5, k6⟩ := r_gathers (D := D) (n := n) (q := q) (J0 := J) hT hC a7 h0 a9 a10
  have hC1 : cIv I1 (dR so dr) (dS L ds) cc ca kd nb := by
    refine hC.g (fun i hi => (h10 i hi).1) (fun a j g => k2 a j (fun e => ?_))
    unfold cFt at g
    omega
  have hT1 : tIv I1 (dR so dr) (dS L ds) tc ta ua wa tz := by
    refine hT.g (fun t ht => (h12 t ht).1) (fun a j g => k2 a j (fun e => ?_))
    unfold tFt at g
    omega
  have e31 : ∀ j, j < 17 → I1 31 j = px_u (px_u I 31 10 x) 31 11 y 31 j := fun j hj => k2 31 j (fun _ => Or.inl hj)
  obtain ⟨I2, J2, p1, p2⟩ := r_gainM (D := D) (n := n) (q := q) (mn := 0) (X := fun t => (mX I tz kd rl sg t).toInt64) hT1 hC1 ((e31 4 (by decide)).trans a7) h0 ((e31 16 (by decide)).trans a9) k4 (fun t ht => (k5 t ht).trans (congrArg Int32.toInt64 (congrFun (gX_c (fun j => rfl)) t)))
  rw [k6, e31 7 (by decide), e31 8 (by decide), e31 9 (by decide), tV_fr (I' := I1) (I := I) (fun j => (k2 32 j (fun e => by omega)).trans rfl)] at p1
  refine ⟨px_u (px_u I2 31 10 (I 31 10)) 31 11 (I 31 11), J2, ?_, ?_⟩
  · unfold px_mt
    repeat refine e_s rfl ?_
    refine e_c rfl k1 (by omega) ?_
    repeat refine e_s rfl ?_
    refine e_c rfl p1 (by omega) ?_
    repeat refine e_s rfl ?_
    exact e_r rfl
  · intro a j g
    by_cases e : a = 31
    · subst e
      by_cases e1 : j = 11
      · subst e1
        rw [u_eq]
      · rw [u_ne (fun _ => e1)]
        by_cases e2 : j = 10
        · subst e2
          rw [u_eq]
        · have e3 : j < 17 ∨ 31 < j := by
            by_cases e4 : j < 17 ∨ 31 < j
            · exact e4
            · exact absurd (Or.inr (Or.inr (Or.inr (Or.inr (Or.inr (Or.inl ⟨rfl, Or.inl (by omega)⟩)))))) g
          rw [u_ne (fun _ => e2), p2.1 31 j (fun _ => e3), k2 31 j (fun _ => e3), u_ne (fun _ => e1), u_ne (fun _ => e2)]
    · rw [u_ne (fun e' => absurd e' e), u_ne (fun e' => absurd e' e), p2.1 a j (fun e' => absurd e' e), k2 a j (fun e' => absurd e' e), u_ne (fun e' => absurd e' e), u_ne (fun e' => absurd e' e)]
theorem o_guard0 (h : Inv xs L so dr ds I n cc tc rl sg tp ca kd nb ta ua wa tz) : ∃ I1 J1 I2 J2 v, px_mt (D + 84) 108 [.ref 0, .int 0] I J (dR so dr) (dS L ds) n q (some (.long v), I1, J1, dR so dr, dS L ds, n, q) ∧ px_mt (D + 84) 215 [.ref 31, .int 0] I1 J1 (dR so dr) (dS L ds) n q (some (.long v), I2, J2, dR so dr, dS L ds, n, q) ∧ Inv xs L so dr ds I2 n cc tc rl sg tp ca kd nb ta ua wa tz := by
  have hh := h
  obtain ⟨h0, h1, h2, h3, h4, h5, h6, h7, h8, h9, h10, h11, h12⟩ := h
  obtain ⟨a1, a2, a3, a4, a5, a6, a7, a8, a9, a10, a11⟩ := h1
  obtain ⟨Ia, b1, b2, b3, b4⟩ := r_bec_4_2 (d := 0) (n := n) (q := q) (L := L) (so := so) (dr := dr) (ds := ds) (I := I) (J := J)
  have fb : kpF wa tc I (px_u Ia 4 3 1) := fun a j g => by
    rw [u_ne (fun e => absurd (Or.inl e) g)]
    exact b4 a j (fun e => g (Or.inl e)) (fun e => g (Or.inr (Or.inl e)))
  have hb := hh.keep fb
  obtain ⟨I1, J1, k1, k2, k3, k4, k5, k6, k7, k8⟩ := q_tho (d := 0) (q := q) (J := J) (rl' := rl) (sg' := sg) hb h0 ((b2 5 (by decide)).trans a6) ((b2 6 (by decide)).trans a8) a10
  have h1' := hb.keep k2
  have fc : kpF wa tc I1 (px_u I1 4 3 0) := fun a j g => by
    rw [u_ne (fun e => absurd (Or.inl e) g)]
  have hc := h1'.keep fc
  have e4 : ∀ j, I1 4 j = px_u Ia 4 3 1 4 j := k3
  obtain ⟨I2, J2, l1, l2, l3, l4, l5, l6, l7, l8⟩ := q_tho (d := 0) (q := q) (J := J1) (rl' := rl) (sg' := sg) hc h0 ((e4 5).trans ((b2 5 (by decide)).trans a6)) ((e4 6).trans ((b2 6 (by decide)).trans a8)) a10
  have h2' := hc.keep l2
  have f2 : kpF wa tc I I2 := ((fb.trans k2).trans fc).trans l2
  obtain ⟨ew, ex, ec, eh, e32⟩ := mW_k hh f2
  have f1 : kpF wa tc I I1 := fb.trans k2
  obtain ⟨_, _, _, _, e32a⟩ := mW_k hh fb
  obtain ⟨_, _, _, _, e32b⟩ := mW_k hh (f1.trans fc)
  have eW1 : gW (px_u Ia 4 3 1) tz kd nb (px_u Ia 4 3 1 4 0) (px_u Ia 4 3 1 4 1) (px_u Ia 4 3 1 4 2) (px_u Ia 4 3 1 4 3) (px_u Ia 4 3 1 4 4) rl sg (px_u Ia 4 3 1 5) = gW I tz kd nb (I 31 7) (I 31 8) (I 31 9) 1 (I 31 11) rl sg (I 37) := by
    rw [show px_u Ia 4 3 1 4 0 = I 31 7 from (b2 0 (by decide)).trans a1, show px_u Ia 4 3 1 4 1 = I 31 8 from (b2 1 (by decide)).trans a2, show px_u Ia 4 3 1 4 2 = I 31 9 from (b2 2 (by decide)).trans a3, show px_u Ia 4 3 1 4 3 = 1 from rfl, show px_u Ia 4 3 1 4 4 = (I 31 11) from (b2 4 (by decide)).trans a5]
    exact gW_c e32a (fun j hj => (b3 j (by omega)).trans (a11 j (by omega)))
  have eX1 : gX (px_u Ia 4 3 1) tz kd (px_u Ia 4 3 1 4 0) (px_u Ia 4 3 1 4 1) (px_u Ia 4 3 1 4 2) rl sg = mX I tz kd rl sg := by
    rw [show px_u Ia 4 3 1 4 0 = I 31 7 from (b2 0 (by decide)).trans a1, show px_u Ia 4 3 1 4 1 = I 31 8 from (b2 1 (by decide)).trans a2, show px_u Ia 4 3 1 4 2 = I 31 9 from (b2 2 (by decide)).trans a3]
    exact gX_c e32a
  have eC1 : I1 0 14 = mC I tz rl sg := by
    rw [k8, show px_u Ia 4 3 1 4 0 = I 31 7 from (b2 0 (by decide)).trans a1, show px_u Ia 4 3 1 4 1 = I 31 8 from (b2 1 (by decide)).trans a2, show px_u Ia 4 3 1 4 2 = I 31 9 from (b2 2 (by decide)).trans a3, tV_fr e32a]
    rfl
  have g0 : px_u I1 4 3 0 4 0 = I 31 7 := (e4 0).trans ((b2 0 (by decide)).trans a1)
  have g1 : px_u I1 4 3 0 4 1 = I 31 8 := (e4 1).trans ((b2 1 (by decide)).trans a2)
  have g2 : px_u I1 4 3 0 4 2 = I 31 9 := (e4 2).trans ((b2 2 (by decide)).trans a3)
  have eW2 : gW (px_u I1 4 3 0) tz kd nb (px_u I1 4 3 0 4 0) (px_u I1 4 3 0 4 1) (px_u I1 4 3 0 4 2) (px_u I1 4 3 0 4 3) (px_u I1 4 3 0 4 4) rl sg (px_u I1 4 3 0 5) = gW I tz kd nb (I 31 7) (I 31 8) (I 31 9) 0 (I 31 11) rl sg (I 37) := by
    rw [g0, g1, g2, show px_u I1 4 3 0 4 3 = 0 from rfl, show px_u I1 4 3 0 4 4 = (I 31 11) from (e4 4).trans ((b2 4 (by decide)).trans a5)]
    exact gW_c e32b (fun j hj => (k4 j).trans ((b3 j (by omega)).trans (a11 j (by omega))))
  have eX2 : gX (px_u I1 4 3 0) tz kd (px_u I1 4 3 0 4 0) (px_u I1 4 3 0 4 1) (px_u I1 4 3 0 4 2) rl sg = mX I tz kd rl sg := by
    rw [g0, g1, g2]
    exact gX_c e32b
  have eC2 : I2 0 14 = mC I tz rl sg := by
    rw [l8, g0, g1, g2, tV_fr e32b]
    rfl
  rw [eW1] at k5 k7
  rw [eX1] at k6
  rw [eW2] at l5 l7
  rw [eX2] at l6
  have eh2 : I1 2 0 = I 31 7 := (f1.lo hh (by omega) (by omega) (by omega) (by omega) (by omega) (by omega) (by omega)).trans a1
  have eh3 : I2 2 0 = I 31 7 := (f2.lo hh (by omega) (by omega) (by omega) (by omega) (by omega) (by omega) (by omega)).trans a1
  obtain ⟨I3, J3, m1, m2⟩ := r_gWith (D := D) (q := q) (J := J2) (x := 1) (y := (I2 31 11)) h2'
  have h3' := h2'.keep m2
  obtain ⟨I4, J4, n1, n2⟩ := r_gWith (D := D) (q := q) (J := J3) (x := 0) (y := (I3 31 11)) h3'
  have e31 : ∀ j, j < 12 → I2 31 j = I 31 j := fun j hj => f2.lo hh (by omega) (by omega) (by omega) (by omega) (by omega) (by omega) (by omega)
  have f3 := f2.trans m2
  have e31' : ∀ j, j < 12 → I3 31 j = I 31 j := fun j hj => f3.lo hh (by omega) (by omega) (by omega) (by omega) (by omega) (by omega) (by omega)
  obtain ⟨_, ex3, ec3, _, e323⟩ := mW_k hh f3
  have v1 : gW I2 tz kd nb (I2 31 7) (I2 31 8) (I2 31 9) 1 (I2 31 11) rl sg (I2 37) = gW I tz kd nb (I 31 7) (I 31 8) (I 31 9) 1 (I 31 11) rl sg (I 37) := by
    rw [e31 7 (by decide), e31 8 (by decide), e31 9 (by decide), e31 11 (by decide)]
    exact gW_c e32 (fun j _ => f2.lo hh (by omega) (by omega) (by omega) (by omega) (by omega) (by omega) (by omega))
  have v2 : gW I3 tz kd nb (I3 31 7) (I3 31 8) (I3 31 9) 0 (I3 31 11) rl sg (I3 37) = gW I tz kd nb (I 31 7) (I 31 8) (I 31 9) 0 (I 31 11) rl sg (I 37) := by
    rw [e31' 7 (by decide), e31' 8 (by decide), e31' 9 (by decide), e31' 11 (by decide)]
    exact gW_c e323 (fun j _ => f3.lo hh (by omega) (by omega) (by omega) (by omega) (by omega) (by omega) (by omega))
  rw [v1, ex, ec, eh] at m1
  rw [v2, ex3, ec3, e31' 7 (by decide)] at n1
  refine ⟨I2, J2, I4, J4, gG (gW I tz kd nb (I 31 7) (I 31 8) (I 31 9) 1 (I 31 11) rl sg (I 37)) (mX I tz kd rl sg) kd nb (I 31 7) (mC I tz rl sg) cc 0 - gG (gW I tz kd nb (I 31 7) (I 31 8) (I 31 9) 0 (I 31 11) rl sg (I 37)) (mX I tz kd rl sg) kd nb (I 31 7) (mC I tz rl sg) cc 0, ?_, ?_, h3'.keep n2⟩
  rotate_left
  · unfold px_mt
    repeat refine e_s rfl ?_
    refine e_c rfl (r_inI (D := 0) (a := 0) (c := 1) (by decide) (by decide)) (by omega) ?_
    repeat refine e_s rfl ?_
    refine e_c rfl m1 (by omega) ?_
    repeat refine e_s rfl ?_
    refine e_c rfl n1 (by omega) ?_
    repeat refine e_s rfl ?_
    exact e_r rfl
  · unfold px_mt
    repeat refine e_s rfl ?_
    refine e_c rfl b1 (by omega) ?_
    repeat refine e_s rfl ?_
    refine e_c rfl (pq_3 (d := 0) (v := 1)) (by omega) ?_
    repeat refine e_s rfl ?_
    refine e_c rfl k1 (by omega) ?_
    repeat refine e_s rfl ?_
    refine e_c rfl (q_gain (d := 0) h1'.2.2.1 eh2 k5 k6 k7 eC1) (by omega) ?_
    repeat refine e_s rfl ?_
    refine e_c rfl (pq_3 (d := 0) (v := 0)) (by omega) ?_
    repeat refine e_s rfl ?_
    refine e_c rfl l1 (by omega) ?_
    repeat refine e_s rfl ?_
    refine e_c rfl (q_gain (d := 0) h2'.2.2.1 eh3 l5 l6 l7 eC2) (by omega) ?_
    repeat refine e_s rfl ?_
    exact e_r rfl
theorem o_guard1 (h : Inv xs L so dr ds I n cc tc rl sg tp ca kd nb ta ua wa tz) : ∃ I1 J1 I2 J2 v, px_mt (D + 84) 108 [.ref 0, .int 1] I J (dR so dr) (dS L ds) n q (some (.long v), I1, J1, dR so dr, dS L ds, n, q) ∧ px_mt (D + 84) 215 [.ref 31, .int 1] I1 J1 (dR so dr) (dS L ds) n q (some (.long v), I2, J2, dR so dr, dS L ds, n, q) ∧ Inv xs L so dr ds I2 n cc tc rl sg tp ca kd nb ta ua wa tz := by
  have hh := h
  obtain ⟨h0, h1, h2, h3, h4, h5, h6, h7, h8, h9, h10, h11, h12⟩ := h
  obtain ⟨a1, a2, a3, a4, a5, a6, a7, a8, a9, a10, a11⟩ := h1
  obtain ⟨Ia, b1, b2, b3, b4⟩ := r_bec_4_2 (d := 0) (n := n) (q := q) (L := L) (so := so) (dr := dr) (ds := ds) (I := I) (J := J)
  have fb : kpF wa tc I (px_u Ia 4 4 1) := fun a j g => by
    rw [u_ne (fun e => absurd (Or.inl e) g)]
    exact b4 a j (fun e => g (Or.inl e)) (fun e => g (Or.inr (Or.inl e)))
  have hb := hh.keep fb
  obtain ⟨I1, J1, k1, k2, k3, k4, k5, k6, k7, k8⟩ := q_tho (d := 0) (q := q) (J := J) (rl' := rl) (sg' := sg) hb h0 ((b2 5 (by decide)).trans a6) ((b2 6 (by decide)).trans a8) a10
  have h1' := hb.keep k2
  have fc : kpF wa tc I1 (px_u I1 4 4 0) := fun a j g => by
    rw [u_ne (fun e => absurd (Or.inl e) g)]
  have hc := h1'.keep fc
  have e4 : ∀ j, I1 4 j = px_u Ia 4 4 1 4 j := k3
  obtain ⟨I2, J2, l1, l2, l3, l4, l5, l6, l7, l8⟩ := q_tho (d := 0) (q := q) (J := J1) (rl' := rl) (sg' := sg) hc h0 ((e4 5).trans ((b2 5 (by decide)).trans a6)) ((e4 6).trans ((b2 6 (by decide)).trans a8)) a10
  have h2' := hc.keep l2
  have f2 : kpF wa tc I I2 := ((fb.trans k2).trans fc).trans l2
  obtain ⟨ew, ex, ec, eh, e32⟩ := mW_k hh f2
  have f1 : kpF wa tc I I1 := fb.trans k2
  obtain ⟨_, _, _, _, e32a⟩ := mW_k hh fb
  obtain ⟨_, _, _, _, e32b⟩ := mW_k hh (f1.trans fc)
  have eW1 : gW (px_u Ia 4 4 1) tz kd nb (px_u Ia 4 4 1 4 0) (px_u Ia 4 4 1 4 1) (px_u Ia 4 4 1 4 2) (px_u Ia 4 4 1 4 3) (px_u Ia 4 4 1 4 4) rl sg (px_u Ia 4 4 1 5) = gW I tz kd nb (I 31 7) (I 31 8) (I 31 9) (I 31 10) 1 rl sg (I 37) := by
    rw [show px_u Ia 4 4 1 4 0 = I 31 7 from (b2 0 (by decide)).trans a1, show px_u Ia 4 4 1 4 1 = I 31 8 from (b2 1 (by decide)).trans a2, show px_u Ia 4 4 1 4 2 = I 31 9 from (b2 2 (by decide)).trans a3, show px_u Ia 4 4 1 4 3 = (I 31 10) from (b2 3 (by decide)).trans a4, show px_u Ia 4 4 1 4 4 = 1 from rfl]
    exact gW_c e32a (fun j hj => (b3 j (by omega)).trans (a11 j (by omega)))
  have eX1 : gX (px_u Ia 4 4 1) tz kd (px_u Ia 4 4 1 4 0) (px_u Ia 4 4 1 4 1) (px_u Ia 4 4 1 4 2) rl sg = mX I tz kd rl sg := by
    rw [show px_u Ia 4 4 1 4 0 = I 31 7 from (b2 0 (by decide)).trans a1, show px_u Ia 4 4 1 4 1 = I 31 8 from (b2 1 (by decide)).trans a2, show px_u Ia 4 4 1 4 2 = I 31 9 from (b2 2 (by decide)).trans a3]
    exact gX_c e32a
  have eC1 : I1 0 14 = mC I tz rl sg := by
    rw [k8, show px_u Ia 4 4 1 4 0 = I 31 7 from (b2 0 (by decide)).trans a1, show px_u Ia 4 4 1 4 1 = I 31 8 from (b2 1 (by decide)).trans a2, show px_u Ia 4 4 1 4 2 = I 31 9 from (b2 2 (by decide)).trans a3, tV_fr e32a]
    rfl
  have g0 : px_u I1 4 4 0 4 0 = I 31 7 := (e4 0).trans ((b2 0 (by decide)).trans a1)
  have g1 : px_u I1 4 4 0 4 1 = I 31 8 := (e4 1).trans ((b2 1 (by decide)).trans a2)
  have g2 : px_u I1 4 4 0 4 2 = I 31 9 := (e4 2).trans ((b2 2 (by decide)).trans a3)
  have eW2 : gW (px_u I1 4 4 0) tz kd nb (px_u I1 4 4 0 4 0) (px_u I1 4 4 0 4 1) (px_u I1 4 4 0 4 2) (px_u I1 4 4 0 4 3) (px_u I1 4 4 0 4 4) rl sg (px_u I1 4 4 0 5) = gW I tz kd nb (I 31 7) (I 31 8) (I 31 9) (I 31 10) 0 rl sg (I 37) := by
    rw [g0, g1, g2, show px_u I1 4 4 0 4 3 = (I 31 10) from (e4 3).trans ((b2 3 (by decide)).trans a4), show px_u I1 4 4 0 4 4 = 0 from rfl]
    exact gW_c e32b (fun j hj => (k4 j).trans ((b3 j (by omega)).trans (a11 j (by omega))))
  have eX2 : gX (px_u I1 4 4 0) tz kd (px_u I1 4 4 0 4 0) (px_u I1 4 4 0 4 1) (px_u I1 4 4 0 4 2) rl sg = mX I tz kd rl sg := by
    rw [g0, g1, g2]
    exact gX_c e32b
  have eC2 : I2 0 14 = mC I tz rl sg := by
    rw [l8, g0, g1, g2, tV_fr e32b]
    rfl
  rw [eW1] at k5 k7
  rw [eX1] at k6
  rw [eW2] at l5 l7
  rw [eX2] at l6
  have eh2 : I1 2 0 = I 31 7 := (f1.lo hh (by omega) (by omega) (by omega) (by omega) (by omega) (by omega) (by omega)).trans a1
  have eh3 : I2 2 0 = I 31 7 := (f2.lo hh (by omega) (by omega) (by omega) (by omega) (by omega) (by omega) (by omega)).trans a1
  obtain ⟨I3, J3, m1, m2⟩ := r_gWith (D := D) (q := q) (J := J2) (x := (I2 31 10)) (y := 1) h2'
  have h3' := h2'.keep m2
  obtain ⟨I4, J4, n1, n2⟩ := r_gWith (D := D) (q := q) (J := J3) (x := (I3 31 10)) (y := 0) h3'
  have e31 : ∀ j, j < 12 → I2 31 j = I 31 j := fun j hj => f2.lo hh (by omega) (by omega) (by omega) (by omega) (by omega) (by omega) (by omega)
  have f3 := f2.trans m2
  have e31' : ∀ j, j < 12 → I3 31 j = I 31 j := fun j hj => f3.lo hh (by omega) (by omega) (by omega) (by omega) (by omega) (by omega) (by omega)
  obtain ⟨_, ex3, ec3, _, e323⟩ := mW_k hh f3
  have v1 : gW I2 tz kd nb (I2 31 7) (I2 31 8) (I2 31 9) (I2 31 10) 1 rl sg (I2 37) = gW I tz kd nb (I 31 7) (I 31 8) (I 31 9) (I 31 10) 1 rl sg (I 37) := by
    rw [e31 7 (by decide), e31 8 (by decide), e31 9 (by decide), e31 10 (by decide)]
    exact gW_c e32 (fun j _ => f2.lo hh (by omega) (by omega) (by omega) (by omega) (by omega) (by omega) (by omega))
  have v2 : gW I3 tz kd nb (I3 31 7) (I3 31 8) (I3 31 9) (I3 31 10) 0 rl sg (I3 37) = gW I tz kd nb (I 31 7) (I 31 8) (I 31 9) (I 31 10) 0 rl sg (I 37) := by
    rw [e31' 7 (by decide), e31' 8 (by decide), e31' 9 (by decide), e31' 10 (by decide)]
    exact gW_c e323 (fun j _ => f3.lo hh (by omega) (by omega) (by omega) (by omega) (by omega) (by omega) (by omega))
  rw [v1, ex, ec, eh] at m1
  rw [v2, ex3, ec3, e31' 7 (by decide)] at n1
  refine ⟨I2, J2, I4, J4, gG (gW I tz kd nb (I 31 7) (I 31 8) (I 31 9) (I 31 10) 1 rl sg (I 37)) (mX I tz kd rl sg) kd nb (I 31 7) (mC I tz rl sg) cc 0 - gG (gW I tz kd nb (I 31 7) (I 31 8) (I 31 9) (I 31 10) 0 rl sg (I 37)) (mX I tz kd rl sg) kd nb (I 31 7) (mC I tz rl sg) cc 0, ?_, ?_, h3'.keep n2⟩
  rotate_left
  · unfold px_mt
    repeat refine e_s rfl ?_
    refine e_c rfl (r_inI (D := 0) (a := 0) (c := 1) (by decide) (by decide)) (by omega) ?_
    repeat refine e_s rfl ?_
    refine e_c rfl m1 (by omega) ?_
    repeat refine e_s rfl ?_
    refine e_c rfl n1 (by omega) ?_
    repeat refine e_s rfl ?_
    exact e_r rfl
  · unfold px_mt
    repeat refine e_s rfl ?_
    refine e_c rfl b1 (by omega) ?_
    repeat refine e_s rfl ?_
    refine e_c rfl (pq_4 (d := 0) (v := 1)) (by omega) ?_
    repeat refine e_s rfl ?_
    refine e_c rfl k1 (by omega) ?_
    repeat refine e_s rfl ?_
    refine e_c rfl (q_gain (d := 0) h1'.2.2.1 eh2 k5 k6 k7 eC1) (by omega) ?_
    repeat refine e_s rfl ?_
    refine e_c rfl (pq_4 (d := 0) (v := 0)) (by omega) ?_
    repeat refine e_s rfl ?_
    refine e_c rfl l1 (by omega) ?_
    repeat refine e_s rfl ?_
    refine e_c rfl (q_gain (d := 0) h2'.2.2.1 eh3 l5 l6 l7 eC2) (by omega) ?_
    repeat refine e_s rfl ?_
    exact e_r rfl
theorem o_guard (h : Inv xs L so dr ds I n cc tc rl sg tp ca kd nb ta ua wa tz) : ∃ I1 J1 I2 J2 v, px_mt (D + 84) 108 [.ref 0, .int x] I J (dR so dr) (dS L ds) n q (some (.long v), I1, J1, dR so dr, dS L ds, n, q) ∧ px_mt (D + 84) 215 [.ref 31, .int x] I1 J1 (dR so dr) (dS L ds) n q (some (.long v), I2, J2, dR so dr, dS L ds, n, q) ∧ Inv xs L so dr ds I2 n cc tc rl sg tp ca kd nb ta ua wa tz := by
  by_cases e0 : x = 0
  · subst e0
    exact o_guard0 h
  · by_cases e1 : x = 1
    · subst e1
      exact o_guard1 h
    · have ein : inI 0 1 x = false := by
        unfold inI
        refine decide_eq_false (fun g => ?_)
        rw [Int32.le_iff_toInt_le, Int32.le_iff_toInt_le, show (0 : Int32).toInt = 0 by decide, show (1 : Int32).toInt = 1 by decide] at g
        have : x.toInt = 0 ∨ x.toInt = 1 := by omega
        rcases this with t | t
        · exact e0 (Int32.toInt_inj.mp (t.trans (by decide)))
        · exact e1 (Int32.toInt_inj.mp (t.trans (by decide)))
      refine ⟨I, J, I, J, NOl, ?_, ?_, h⟩
      · unfold px_mt
        repeat refine e_s rfl ?_
        refine e_bf e0 ?_
        repeat refine e_s rfl ?_
        refine e_bf e1 ?_
        repeat refine e_s rfl ?_
        exact e_r rfl
      · unfold px_mt
        repeat refine e_s rfl ?_
        refine e_c rfl (r_inI (D := 0) (a := 0) (c := 1) (by decide) (by decide)) (by omega) ?_
        rw [ein]
        repeat refine e_s rfl ?_
        exact e_r rfl
end PXQ3
