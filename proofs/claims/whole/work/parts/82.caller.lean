/-! caller, on both sides -/
theorem bl_f {a b : Nat} (h : b < a) : Nat.ble a b = false := Bool.eq_false_iff.mpr (fun z => by have := Nat.le_of_ble_eq_true z; omega)
theorem dS_us {L k : Nat} {ds : px_HS} {v : Nat × Nat} (h : 48 < k) (h2 : k < 1000000) : px_us (dS L ds) k v = dS L (px_us ds k v) := by
  funext a
  by_cases e : a = k
  · subst e
    rw [us_eq]
    unfold dS
    rw [bl_f h, bl_f h2, us_eq]
    rfl
  · rw [us_ne e]
    unfold dS
    rw [us_ne e]
theorem dR_z {so : Option Nat} {k : Nat} {dr : px_HR} (h : 48 < k) (h2 : k < 1000000) : px_z (dR so dr) k none = dR so (px_z dr k none) := by
  funext a j
  by_cases e : a = k
  · subst e
    rw [z_eq]
    unfold dR
    rw [bl_f h, bl_f h2, z_eq]
    rfl
  · rw [z_ne e]
    unfold dR
    rw [z_ne e]
theorem dR_u {so : Option Nat} {k i : Nat} {x : Option Nat} {dr : px_HR} (h : k = 1 ∨ k = 15) : px_u (dR so dr) k i x = dR so (px_u dr k i x) := by
  funext a j
  by_cases e : a = k ∧ j = i
  · obtain ⟨rfl, rfl⟩ := e
    rw [u_eq]
    rcases h with rfl | rfl
    · show x = px_u dr 1 j x 1 j
      rw [u_eq]
    · show x = px_u dr 15 j x 15 j
      rw [u_eq]
  · have e' : a = k → j ≠ i := fun g g' => e ⟨g, g'⟩
    rw [u_ne e']
    unfold dR
    rw [u_ne e']
theorem dS_d {L a : Nat} {ds : px_HS} (h : 48 < a) (h2 : a < 1000000) : dS L ds a = ds a := by
  unfold dS
  rw [bl_f h, bl_f h2]
  rfl
theorem dR_d {so : Option Nat} {a j : Nat} {dr : px_HR} (h : 48 < a) (h2 : a < 1000000) : dR so dr a j = dr a j := by
  unfold dR
  rw [bl_f h, bl_f h2]
  rfl
/-- texts stay as they are, when cells behind n are made -/
theorem tIv.g3 {I I' : px_HI} {R R' : px_HR} {S S' : px_HS} {tc n : Nat} {ta ua wa tz : Nat → Nat} (h : tIv I R S tc ta ua wa tz) (hn : ∀ t, t < tc → ta t < n ∧ ua t < n ∧ wa t < n) (f1 : I' 0 9 = I 0 9) (f2 : I' 31 3 = I 31 3) (f3 : ∀ j, I' 32 j = I 32 j) (f4 : ∀ j, I' 33 j = I 33 j) (f5 : ∀ t j, t < tc → I' (ta t) j = I (ta t) j) (f6 : ∀ t j, t < tc → I' (ua t) j = I (ua t) j) (f7 : ∀ t, t < tc → R' 15 t = R 15 t) (f8 : ∀ t j, t < tc → R' (ta t) j = R (ta t) j) (f9 : ∀ a, a < n → S' a = S a) : tIv I' R' S' tc ta ua wa tz := by
  obtain ⟨h1, h2, h3, h4, h5⟩ := h
  refine ⟨h1, h2, f1.trans h3, f2.trans h4, fun t ht => ?_⟩
  obtain ⟨g1, g2, g3, g4, g5, g6, g7, g8⟩ := h5 t ht
  obtain ⟨n1, n2, n3⟩ := hn t ht
  have eb : (fun j => I' 32 (160 * t + j)) = fun j => I 32 (160 * t + j) := funext (fun j => f3 _)
  refine ⟨(f7 t ht).trans g1, ?_, (f4 t).trans g3, g4, fun j hj => by rw [f3]; exact g5 j hj, g6, g7, g8⟩
  rw [eb]
  obtain ⟨k1, k2, k3, k4, k5, k6, k7, k8, k9, k10, k11⟩ := g2
  exact ⟨(f9 _ n1).trans k1, (f8 t 0 ht).trans k2, (f8 t 3 ht).trans k3, (f9 _ n2).trans k4, (f9 _ n3).trans k5, k6, k7, (f5 t 1 ht).trans k8, (f5 t 2 ht).trans k9, fun j hj => (f6 t j ht).trans (k10 j hj), k11⟩
section PXCA
variable {d D n q L cc tc rl sg tp c k : Nat} {so : Option Nat} {dr R : px_HR} {ds S : px_HS} {I I0 : px_HI} {J : px_HJ} {xs : Nat → Int32} {ca kd nb ta ua wa tz : Nat → Nat} {x y z v w : Int32}
theorem i_52 {kk : Nat} (hk : kk ≤ 5) (hS : S c = (cls kk, 2)) : px_mt (d + 1) 52 [.ref c, .int x, .int y] I J R S n q (none, px_u (px_u I c 0 x) c 1 y, J, R, S, n, q) := by
  unfold px_mt
  refine e_s rfl ?_
  refine e_s rfl ?_
  refine e_s rfl ?_
  refine e_s rfl ?_
  refine e_pi rfl hS (cl_lk hk) rfl ?_
  refine e_s rfl ?_
  refine e_s rfl ?_
  refine e_pi rfl hS (cl_lk hk) rfl ?_
  exact e_r rfl
theorem i_51_1 (hS : S c = (13, 2)) : px_mt (d + 2) 51 [.ref c, .int x, .int y] I J R S n q (none, px_u (px_u I c 0 x) c 1 y, J, R, S, n, q) := by
  unfold px_mt
  refine e_s rfl ?_
  refine e_s rfl ?_
  refine e_s rfl ?_
  refine e_cv rfl rfl rfl hS rfl rfl (i_52 (kk := 1) (by decide) hS) (show d + 1 ≤ d + 1 by omega) ?_
  exact e_r rfl
theorem i_51_3 (hS : S c = (12, 2)) : px_mt (d + 2) 51 [.ref c, .int x, .int y] I J R S n q (none, px_u (px_u I c 0 x) c 1 y, J, R, S, n, q) := by
  unfold px_mt
  refine e_s rfl ?_
  refine e_s rfl ?_
  refine e_s rfl ?_
  refine e_cv rfl rfl rfl hS rfl rfl (i_52 (kk := 3) (by decide) hS) (show d + 1 ≤ d + 1 by omega) ?_
  exact e_r rfl
theorem i_51_5 (hS : S c = (14, 2)) : px_mt (d + 2) 51 [.ref c, .int x, .int y] I J R S n q (none, px_u (px_u I c 0 x) c 1 y, J, R, S, n, q) := by
  unfold px_mt
  refine e_s rfl ?_
  refine e_s rfl ?_
  refine e_s rfl ?_
  refine e_cv rfl rfl rfl hS rfl rfl (i_52 (kk := 5) (by decide) hS) (show d + 1 ≤ d + 1 by omega) ?_
  exact e_r rfl
theorem i_53_2 (hS : S c = (15, 2)) : px_mt (d + 2) 53 [.ref c, .int x, .int y] I J R S n q (none, px_u (px_u I c 0 x) c 1 y, J, R, S, n, q) := by
  unfold px_mt
  refine e_s rfl ?_
  refine e_s rfl ?_
  refine e_s rfl ?_
  refine e_cv rfl rfl rfl hS rfl rfl (i_52 (kk := 2) (by decide) hS) (show d + 1 ≤ d + 1 by omega) ?_
  exact e_r rfl
theorem i_53_4 (hS : S c = (11, 2)) : px_mt (d + 2) 53 [.ref c, .int x, .int y] I J R S n q (none, px_u (px_u I c 0 x) c 1 y, J, R, S, n, q) := by
  unfold px_mt
  refine e_s rfl ?_
  refine e_s rfl ?_
  refine e_s rfl ?_
  refine e_cv rfl rfl rfl hS rfl rfl (i_52 (kk := 4) (by decide) hS) (show d + 1 ≤ d + 1 by omega) ?_
  exact e_r rfl
theorem i_54_3 (hS : S c = (12, 2)) : px_mt (d + 3) 54 [.ref c, .int x, .int y] I J R S n q (none, px_u (px_u I c 0 x) c 1 y, J, R, S, n, q) := by
  unfold px_mt
  refine e_s rfl ?_
  refine e_s rfl ?_
  refine e_s rfl ?_
  refine e_cv rfl rfl rfl hS rfl rfl (i_51_3 hS) (show d + 2 ≤ d + 2 by omega) ?_
  exact e_r rfl
theorem i_55_4 (hS : S c = (11, 2)) : px_mt (d + 3) 55 [.ref c, .int x, .int y] I J R S n q (none, px_u (px_u I c 0 x) c 1 y, J, R, S, n, q) := by
  unfold px_mt
  refine e_s rfl ?_
  refine e_s rfl ?_
  refine e_s rfl ?_
  refine e_cv rfl rfl rfl hS rfl rfl (i_53_4 hS) (show d + 2 ≤ d + 2 by omega) ?_
  exact e_r rfl
theorem i_56_5 (hS : S c = (14, 2)) : px_mt (d + 3) 56 [.ref c, .int x, .int y] I J R S n q (none, px_u (px_u I c 0 x) c 1 y, J, R, S, n, q) := by
  unfold px_mt
  refine e_s rfl ?_
  refine e_s rfl ?_
  refine e_s rfl ?_
  refine e_cv rfl rfl rfl hS rfl rfl (i_51_5 hS) (show d + 2 ≤ d + 2 by omega) ?_
  exact e_r rfl
theorem r_callerOf (hk : k ≤ 5) (hn : 49 ≤ n) (hn2 : n < 1000000) : px_mt (d + 4) 50 [.int (nI k), .int y] I J (dR so dr) (dS L ds) n q (some (.ref n), px_u (px_u (px_z I n 0) n 0 (nI k)) n 1 y, px_z J n 0, dR so (px_z dr n none), dS L (px_us ds n (cls k, 2)), n + 1, q + 2) := by
  match k, hk with
  | 0, _ =>
    rw [← dR_z (by omega) hn2, ← dS_us (by omega) hn2]
    unfold px_mt
    refine e_s rfl ?_
    refine e_s rfl ?_
    refine e_nw rfl hn2 ?_
    refine e_s rfl ?_
    refine e_s rfl ?_
    refine e_s rfl ?_
    refine e_cv (kd := 10) (len := 2) rfl rfl rfl us_eq rfl rfl (i_52 (kk := 0) (by decide) us_eq) (show d + 1 ≤ d + 3 by omega) ?_
    exact e_r rfl
  | 1, _ =>
    rw [← dR_z (by omega) hn2, ← dS_us (by omega) hn2]
    unfold px_mt
    refine e_s rfl ?_
    refine e_s rfl ?_
    refine e_nw rfl hn2 ?_
    refine e_s rfl ?_
    refine e_s rfl ?_
    refine e_s rfl ?_
    refine e_cv (kd := 13) (len := 2) rfl rfl rfl us_eq rfl rfl (i_51_1 us_eq) (show d + 2 ≤ d + 3 by omega) ?_
    exact e_r rfl
  | 2, _ =>
    rw [← dR_z (by omega) hn2, ← dS_us (by omega) hn2]
    unfold px_mt
    refine e_s rfl ?_
    refine e_s rfl ?_
    refine e_nw rfl hn2 ?_
    refine e_s rfl ?_
    refine e_s rfl ?_
    refine e_s rfl ?_
    refine e_cv (kd := 15) (len := 2) rfl rfl rfl us_eq rfl rfl (i_53_2 us_eq) (show d + 2 ≤ d + 3 by omega) ?_
    exact e_r rfl
  | 3, _ =>
    rw [← dR_z (by omega) hn2, ← dS_us (by omega) hn2]
    unfold px_mt
    refine e_s rfl ?_
    refine e_s rfl ?_
    refine e_nw rfl hn2 ?_
    refine e_s rfl ?_
    refine e_s rfl ?_
    refine e_s rfl ?_
    refine e_cv (kd := 12) (len := 2) rfl rfl rfl us_eq rfl rfl (i_54_3 us_eq) (show d + 3 ≤ d + 3 by omega) ?_
    exact e_r rfl
  | 4, _ =>
    rw [← dR_z (by omega) hn2, ← dS_us (by omega) hn2]
    unfold px_mt
    refine e_s rfl ?_
    refine e_s rfl ?_
    refine e_nw rfl hn2 ?_
    refine e_s rfl ?_
    refine e_s rfl ?_
    refine e_s rfl ?_
    refine e_cv (kd := 11) (len := 2) rfl rfl rfl us_eq rfl rfl (i_55_4 us_eq) (show d + 3 ≤ d + 3 by omega) ?_
    exact e_r rfl
  | 5, _ =>
    rw [← dR_z (by omega) hn2, ← dS_us (by omega) hn2]
    unfold px_mt
    refine e_s rfl ?_
    refine e_s rfl ?_
    refine e_nw rfl hn2 ?_
    refine e_s rfl ?_
    refine e_s rfl ?_
    refine e_s rfl ?_
    refine e_cv (kd := 14) (len := 2) rfl rfl rfl us_eq rfl rfl (i_56_5 us_eq) (show d + 3 ≤ d + 3 by omega) ?_
    exact e_r rfl
theorem o_caller (h : Inv xs L so dr ds I n cc tc rl sg tp ca kd nb ta ua wa tz) (hn1 : n + 1 < 1000000) : ∃ I1 J1 I2 v n' q' dr' ds' cc' ca' kd' nb', n' ≤ n + 1 ∧ q' ≤ q + 2 ∧ px_mt (d + 5) 49 [.ref 0, .int x, .int y] I J (dR so dr) (dS L ds) n q (some (.int v), I1, J1, dR so dr', dS L ds', n', q') ∧ px_mt (d + 5) 146 [.ref 31, .int x, .int y] I1 J1 (dR so dr') (dS L ds') n' q' (some (.int v), I2, J1, dR so dr', dS L ds', n', q') ∧ Inv xs L so dr' ds' I2 n' cc' tc rl sg tp ca' kd' nb' ta ua wa tz := by
  have hh := h
  obtain ⟨h0, h1, h2, h3, h4, h5, h6, h7, h8, h9, h10, h11, h12⟩ := h
  have ex6 : decide (0 ≤ x ∧ x < 6) = inI 0 5 x := in_lt 5 (by decide) (by decide)
  have ey10 : decide (0 ≤ y ∧ y < 10) = inI 0 9 y := in_lt 9 (by decide) (by decide)
  have c7 := h2.1
  cases hx : inI 0 5 x with
  | false =>
    refine ⟨I, J, I, -2, n, q, dr, ds, cc, ca, kd, nb, by omega, by omega, ?_, ?_, hh⟩
    · unfold px_mt
      repeat refine e_s rfl ?_
      refine e_c rfl (r_below (d := d)) (by omega) ?_
      rw [ex6, hx]
      repeat refine e_s rfl ?_
      exact e_r rfl
    · unfold px_mt
      repeat refine e_s rfl ?_
      refine e_c rfl (r_inI (D := d) (a := 0) (c := 5) (by decide) (by decide)) (by omega) ?_
      rw [hx]
      repeat refine e_s rfl ?_
      exact e_r rfl
  | true =>
  cases hy : inI 0 9 y with
  | false =>
    refine ⟨I, J, I, -2, n, q, dr, ds, cc, ca, kd, nb, by omega, by omega, ?_, ?_, hh⟩
    · unfold px_mt
      repeat refine e_s rfl ?_
      refine e_c rfl (r_below (d := d)) (by omega) ?_
      rw [ex6, hx]
      repeat refine e_s rfl ?_
      refine e_c rfl (r_below (d := d)) (by omega) ?_
      rw [ey10, hy]
      repeat refine e_s rfl ?_
      exact e_r rfl
    · unfold px_mt
      repeat refine e_s rfl ?_
      refine e_c rfl (r_inI (D := d) (a := 0) (c := 5) (by decide) (by decide)) (by omega) ?_
      rw [hx]
      repeat refine e_s rfl ?_
      refine e_c rfl (r_inI (D := d) (a := 0) (c := 9) (by decide) (by decide)) (by omega) ?_
      rw [hy]
      repeat refine e_s rfl ?_
      exact e_r rfl
  | true =>
  by_cases hf : cc = 7
  · refine ⟨I, J, I, -4, n, q, dr, ds, cc, ca, kd, nb, by omega, by omega, ?_, ?_, hh⟩
    · unfold px_mt
      repeat refine e_s rfl ?_
      refine e_c rfl (r_below (d := d)) (by omega) ?_
      rw [ex6, hx]
      repeat refine e_s rfl ?_
      refine e_c rfl (r_below (d := d)) (by omega) ?_
      rw [ey10, hy]
      repeat refine e_s rfl ?_
      rw [h2.2.1, hf]
      repeat refine e_s rfl ?_
      exact e_r rfl
    · unfold px_mt
      repeat refine e_s rfl ?_
      refine e_c rfl (r_inI (D := d) (a := 0) (c := 5) (by decide) (by decide)) (by omega) ?_
      rw [hx]
      repeat refine e_s rfl ?_
      refine e_c rfl (r_inI (D := d) (a := 0) (c := 9) (by decide) (by decide)) (by omega) ?_
      rw [hy]
      repeat refine e_s rfl ?_
      rw [h2.2.2.1, hf]
      repeat refine e_s rfl ?_
      exact e_r rfl
  have cc7 : cc < 7 := by omega
  obtain ⟨k, hk, rfl⟩ : ∃ t, t ≤ 5 ∧ x = nI t := by
    have hv := of_decide_eq_true (ex6.trans hx)
    rcases pk_ix x (n := 6) (by omega) with g | g | ⟨j, hj, e⟩
    · exact absurd hv.1 (Int32.not_le.mpr g)
    · exact absurd hv.2 (Int32.not_lt.mpr g)
    · exact ⟨j, by omega, e⟩
  obtain ⟨b, hb, rfl⟩ : ∃ t, t ≤ 9 ∧ y = nI t := by
    have hv := of_decide_eq_true (ey10.trans hy)
    rcases pk_ix y (n := 10) (by omega) with g | g | ⟨j, hj, e⟩
    · exact absurd hv.1 (Int32.not_le.mpr g)
    · exact absurd hv.2 (Int32.not_lt.mpr g)
    · exact ⟨j, by omega, e⟩
  have e01 : px_u (px_u (px_z I n 0) n 0 (nI k)) n 1 (nI b) 0 1 = nI cc := by
    rw [u_ne (fun e => by omega), u_ne (fun e => by omega), z_ne (by omega), h2.2.1]
  have e14 : px_u (px_u (px_u (px_z I n 0) n 0 (nI k)) n 1 (nI b)) 0 1 (nI (cc + 1)) 31 14 = nI cc := by
    rw [u_ne (by decide), u_ne (fun e => by omega), u_ne (fun e => by omega), z_ne (by omega), h2.2.2.1]
  have fS : ∀ a, a ≠ n → dS L (px_us ds n (cls k, 2)) a = dS L ds a := fun a g => by
    rw [← dS_us (by omega) h9, us_ne g]
  have fR : ∀ a j, a ≠ n → (a = 1 → j ≠ cc) → dR so (px_u (px_z dr n none) 1 cc (some n)) a j = dR so dr a j := fun a j g g2 => by
    rw [← dR_u (Or.inl rfl), u_ne g2, ← dR_z (by omega) h9, z_ne g]
  have fI : ∀ a j, a ≠ n → (a = 0 → j ≠ 1) → a ≠ 35 → a ≠ 36 → (a = 31 → j ≠ 14) → px_u (px_u (px_u (px_u (px_u (px_u (px_z I n 0) n 0 (nI k)) n 1 (nI b)) 0 1 (nI (cc + 1))) 35 cc (nI k)) 36 cc (nI b)) 31 14 (nI (cc + 1)) a j = I a j := fun a j g1 g2 g3 g4 g5 => by
    rw [u_ne g5, u_ne (fun e => absurd e g4), u_ne (fun e => absurd e g3), u_ne g2, u_ne (fun e => absurd e g1), u_ne (fun e => absurd e g1), z_ne g1]
  refine ⟨px_u (px_u (px_u (px_z I n 0) n 0 (nI k)) n 1 (nI b)) 0 1 (nI (cc + 1)), px_z J n 0, px_u (px_u (px_u (px_u (px_u (px_u (px_z I n 0) n 0 (nI k)) n 1 (nI b)) 0 1 (nI (cc + 1))) 35 cc (nI k)) 36 cc (nI b)) 31 14 (nI (cc + 1)), nI cc, n + 1, q + 2, px_u (px_z dr n none) 1 cc (some n), px_us ds n (cls k, 2), cc + 1, fun i => if i = cc then n else ca i, fun i => if i = cc then k else kd i, fun i => if i = cc then b else nb i, by omega, by omega, ?_, ?_, h0, h1.fr (fun a j g => ?_), ?_, h3.g3 (n := n) (fun t ht => (h12 t ht).2) (fI _ _ (by omega) (by omega) (by omega) (by omega) (by omega)) (fI _ _ (by omega) (by omega) (by omega) (by omega) (by omega)) (fun j => fI _ _ (by omega) (by omega) (by omega) (by omega) (by omega)) (fun j => fI _ _ (by omega) (by omega) (by omega) (by omega) (by omega)) (fun t j ht => ?_) (fun t j ht => ?_) (fun t ht => fR _ _ (by omega) (by omega)) (fun t j ht => ?_) (fun a ha => fS a (by omega)), h4.fr (fun a j g => ?_), ?_, h6.fr (fun a j g => ?_), fun a j g => ?_, by omega, hn1, fun i hi => ?_, fun i j hi hj e => ?_, fun t ht => ?_⟩
  · unfold px_mt
    repeat refine e_s rfl ?_
    refine e_c rfl (r_below (d := d)) (by omega) ?_
    rw [ex6, hx]
    repeat refine e_s rfl ?_
    refine e_c rfl (r_below (d := d)) (by omega) ?_
    rw [ey10, hy]
    repeat refine e_s rfl ?_
    rw [h2.2.1]
    refine e_bt (nI_lt (b := 7) cc7 (by decide)) ?_
    repeat refine e_s rfl ?_
    rw [h2.2.1]
    refine e_c rfl (r_callerOf (d := d) hk h8 h9) (by omega) ?_
    refine e_as (kx := cls k) (lx := 2) rfl rfl ((dS_d (by omega) h9).trans us_eq) ?_ cc7 (by decide) ?_
    · match k, hk with
      | 0, _ => rfl
      | 1, _ => rfl
      | 2, _ => rfl
      | 3, _ => rfl
      | 4, _ => rfl
      | 5, _ => rfl
    rw [dR_u (Or.inl rfl)]
    repeat refine e_s rfl ?_
    rw [e01]
    repeat refine e_s rfl ?_
    rw [nI_1]
    repeat refine e_s rfl ?_
    rw [show px_u (px_u (px_u (px_z I n 0) n 0 (nI k)) n 1 (nI b)) 0 1 (nI (cc + 1)) 0 1 = nI (cc + 1) from u_eq, nI_pred]
    exact e_r rfl
  · unfold px_mt
    repeat refine e_s rfl ?_
    refine e_c rfl (r_inI (D := d) (a := 0) (c := 5) (by decide) (by decide)) (by omega) ?_
    rw [hx]
    repeat refine e_s rfl ?_
    refine e_c rfl (r_inI (D := d) (a := 0) (c := 9) (by decide) (by decide)) (by omega) ?_
    rw [hy]
    repeat refine e_s rfl ?_
    rw [e14]
    refine e_bt (fun g => hf ((nI_eq (b := 7) (by omega) (by decide)).mp g)) ?_
    repeat refine e_s rfl ?_
    rw [e14]
    refine e_is rfl rfl rfl cc7 (by decide) ?_
    repeat refine e_s rfl ?_
    rw [u_ne (by omega), e14]
    refine e_is rfl rfl rfl cc7 (by decide) ?_
    repeat refine e_s rfl ?_
    rw [show px_u (px_u (px_u (px_u (px_u (px_z I n 0) n 0 (nI k)) n 1 (nI b)) 0 1 (nI (cc + 1))) 35 cc (nI k)) 36 cc (nI b) 31 14 = nI cc from ((u_ne (by omega)).trans (u_ne (by omega))).trans e14]
    rw [nI_1, show px_u (px_u (px_u (px_u (px_u (px_u (px_z I n 0) n 0 (nI k)) n 1 (nI b)) 0 1 (nI (cc + 1))) 35 cc (nI k)) 36 cc (nI b)) 31 14 (nI (cc + 1)) 31 14 = nI (cc + 1) from u_eq, nI_pred]
    exact e_r rfl
  · unfold hFt at g
    exact fI a j (by omega) (by omega) (by omega) (by omega) (by omega)
  · refine ⟨by omega, ?_, u_eq, fun i hi => ?_⟩
    · rw [u_ne (by decide), u_ne (by omega), u_ne (by omega), u_eq]
    · show dR so _ 1 i = some (if i = cc then n else ca i) ∧ dS L _ (if i = cc then n else ca i) = (cls (if i = cc then k else kd i), 2) ∧ (if i = cc then k else kd i) ≤ 5 ∧ (if i = cc then b else nb i) ≤ 9 ∧ px_u (px_u (px_u (px_u (px_u (px_u (px_z I n 0) n 0 (nI k)) n 1 (nI b)) 0 1 (nI (cc + 1))) 35 cc (nI k)) 36 cc (nI b)) 31 14 (nI (cc + 1)) (if i = cc then n else ca i) 0 = nI (if i = cc then k else kd i) ∧ px_u (px_u (px_u (px_u (px_u (px_u (px_z I n 0) n 0 (nI k)) n 1 (nI b)) 0 1 (nI (cc + 1))) 35 cc (nI k)) 36 cc (nI b)) 31 14 (nI (cc + 1)) (if i = cc then n else ca i) 1 = nI (if i = cc then b else nb i) ∧ px_u (px_u (px_u (px_u (px_u (px_u (px_z I n 0) n 0 (nI k)) n 1 (nI b)) 0 1 (nI (cc + 1))) 35 cc (nI k)) 36 cc (nI b)) 31 14 (nI (cc + 1)) 35 i = nI (if i = cc then k else kd i) ∧ px_u (px_u (px_u (px_u (px_u (px_u (px_z I n 0) n 0 (nI k)) n 1 (nI b)) 0 1 (nI (cc + 1))) 35 cc (nI k)) 36 cc (nI b)) 31 14 (nI (cc + 1)) 36 i = nI (if i = cc then b else nb i)
      by_cases e : i = cc
      · subst e
        simp only [if_pos]
        refine ⟨?_, (dS_d (by omega) h9).trans us_eq, hk, hb, ?_, ?_, ?_, ?_⟩
        · rw [← dR_u (Or.inl rfl), u_eq]
        · rw [u_ne (by omega), u_ne (by omega), u_ne (by omega), u_ne (by omega), u_ne (by omega), u_eq]
        · rw [u_ne (by omega), u_ne (by omega), u_ne (by omega), u_ne (by omega), u_eq]
        · rw [u_ne (by omega), u_ne (by omega), u_eq]
        · rw [u_ne (by omega), u_eq]
      · simp only [if_neg e]
        have hi' : i < cc := by omega
        obtain ⟨g1, g2, g3, g4, g5, g6, g7, g8⟩ := h2.2.2.2 i hi'
        obtain ⟨c49, cn⟩ := h10 i hi'
        refine ⟨(fR 1 i (by omega) (by omega)).trans g1, (fS _ (by omega)).trans g2, g3, g4, (fI _ _ (by omega) (by omega) (by omega) (by omega) (by omega)).trans g5, (fI _ _ (by omega) (by omega) (by omega) (by omega) (by omega)).trans g6, ?_, ?_⟩
        · rw [u_ne (by omega), u_ne (by omega), u_ne (by omega), u_ne (by omega), u_ne (by omega), u_ne (by omega), z_ne (by omega), g7]
        · rw [u_ne (by omega), u_ne (by omega), u_ne (by omega), u_ne (by omega), u_ne (by omega), u_ne (by omega), z_ne (by omega), g8]
  · have := h12 t ht
    exact fI _ _ (by omega) (by omega) (by omega) (by omega) (by omega)
  · have := h12 t ht
    have := (h3.2.2.2.2 t ht).2.2.2.2.2.2.1
    exact fI _ _ (by omega) (by omega) (by omega) (by omega) (by omega)
  · have := h12 t ht
    exact fR _ _ (by omega) (by omega)
  · unfold pFt at g
    exact fI a j (by omega) (by omega) (by omega) (by omega) (by omega)
  · have fk : ∀ a j, kFt a j → px_u (px_u (px_u (px_u (px_u (px_u (px_z I n 0) n 0 (nI k)) n 1 (nI b)) 0 1 (nI (cc + 1))) 35 cc (nI k)) 36 cc (nI b)) 31 14 (nI (cc + 1)) a j = I a j := fun a j g => by
      unfold kFt at g
      exact fI a j (by omega) (by omega) (by omega) (by omega) (by omega)
    refine kIv.fr ?_ fk
    rcases h5 with g | ⟨kc, kr, ks, y1, y2⟩
    · exact Or.inl g
    · exact Or.inr ⟨kc, kr, ks, by omega, y2⟩
  · unfold sFt at g
    exact fI a j (by omega) (by omega) (by omega) (by omega) (by omega)
  · rw [fI a j (by omega) (by omega) (by omega) (by omega) (by omega)]
    exact h7 a j g
  · show 49 ≤ (if i = cc then n else ca i) ∧ (if i = cc then n else ca i) < n + 1
    by_cases e : i = cc
    · rw [if_pos e]
      omega
    · rw [if_neg e]
      have := h10 i (by omega)
      omega
  · have e' : (if i = cc then n else ca i) = (if j = cc then n else ca j) := e
    by_cases e1 : i = cc
    · by_cases e2 : j = cc
      · omega
      · rw [if_pos e1, if_neg e2] at e'
        have := h10 j (by omega)
        omega
    · by_cases e2 : j = cc
      · rw [if_neg e1, if_pos e2] at e'
        have := h10 i (by omega)
        omega
      · rw [if_neg e1, if_neg e2] at e'
        exact h11 i j (by omega) (by omega) e'
  · have := h12 t ht
    exact ⟨this.1, by omega, by omega, by omega⟩
end PXCA
