/-! text, on both sides -/
theorem dS_of {L : Nat} {ds S' : px_HS} (h : ∀ a, a ≤ 48 ∨ 1000000 ≤ a → S' a = dS L ds a) : S' = dS L S' := by
  funext a
  by_cases h1 : a ≤ 48
  · rw [h a (Or.inl h1)]
    unfold dS
    rw [Nat.ble_eq_true_of_le h1]
    rfl
  · by_cases h2 : 1000000 ≤ a
    · rw [h a (Or.inr h2)]
      unfold dS
      rw [bl_f (by omega), Nat.ble_eq_true_of_le h2]
      rfl
    · rw [dS_d (by omega) (by omega)]
theorem dR_of {so : Option Nat} {dr R' : px_HR} (h : ∀ a j, a ≤ 48 ∨ 1000000 ≤ a → R' a j = dR so dr a j) : R' = dR so R' := by
  funext a j
  by_cases h1 : a ≤ 48
  · have e := h a j (Or.inl h1)
    have e2 : dR so dr a j = (match RF a j with
      | some r => some r
      | none => dr a j) := by
      unfold dR
      rw [Nat.ble_eq_true_of_le h1]
      rfl
    have e3 : dR so R' a j = (match RF a j with
      | some r => some r
      | none => R' a j) := by
      unfold dR
      rw [Nat.ble_eq_true_of_le h1]
      rfl
    rw [e3]
    cases hf : RF a j with
    | none => rfl
    | some r =>
      rw [e, e2, hf]
  · by_cases h2 : 1000000 ≤ a
    · rw [h a j (Or.inr h2)]
      unfold dR
      rw [bl_f (by omega), Nat.ble_eq_true_of_le h2]
      rfl
    · rw [dR_d (by omega) (by omega)]
theorem txOK_c {I I' : px_HI} {R R' : px_HR} {S S' : px_HS} {a u w z : Nat} {b b' : Nat → Int32} (h : txOK I R S a u w b z) (hb : ∀ j, j < z → b j = b' j) (f1 : S' a = S a) (f2 : R' a 0 = R a 0) (f3 : R' a 3 = R a 3) (f4 : S' u = S u) (f5 : S' w = S w) (f6 : ∀ j, I' a j = I a j) (f7 : ∀ j, I' u j = I u j) : txOK I' R' S' a u w b' z := by
  obtain ⟨k1, k2, k3, k4, k5, k6, k7, k8, k9, k10, k11⟩ := h
  obtain ⟨e1, e2, e3, e4⟩ := rd_c hb
  unfold txOK
  rw [← e1, ← e2, ← e3, ← e4]
  exact ⟨f1.trans k1, f2.trans k2, f3.trans k3, f4.trans k4, f5.trans k5, k6, k7, (f6 1).trans k8, (f6 2).trans k9, fun j hj => (f7 j).trans (k10 j hj), k11⟩
/-- texts stay as they are, when what lies behind their letters changes -/
theorem tIv.g4 {I I' : px_HI} {R R' : px_HR} {S S' : px_HS} {tc n : Nat} {ta ua wa tz : Nat → Nat} (h : tIv I R S tc ta ua wa tz) (hn : ∀ t, t < tc → ta t < n ∧ ua t < n ∧ wa t < n) (f3 : ∀ t j, t < tc → j < 160 → I' 32 (160 * t + j) = I 32 (160 * t + j)) (f4 : ∀ t, t < tc → I' 33 t = I 33 t) (f5 : ∀ t j, t < tc → I' (ta t) j = I (ta t) j) (f6 : ∀ t j, t < tc → I' (ua t) j = I (ua t) j) (f7 : ∀ t, t < tc → R' 15 t = R 15 t) (f8 : ∀ t j, t < tc → R' (ta t) j = R (ta t) j) (f9 : ∀ a, a < n → S' a = S a) : ∀ t, t < tc → R' 15 t = some (ta t) ∧ txOK I' R' S' (ta t) (ua t) (wa t) (fun j => I' 32 (160 * t + j)) (tz t) ∧ I' 33 t = nI (tz t) ∧ tz t ≤ 160 ∧ (∀ j, j < tz t → 0 ≤ I' 32 (160 * t + j)) ∧ (wa t = 30 ∨ 49 ≤ wa t) ∧ (ua t = 29 ∨ 49 ≤ ua t) ∧ ∀ t', t' < tc → ¬ ua t' = wa t := by
  obtain ⟨h1, h2, h3, h4, h5⟩ := h
  intro t ht
  obtain ⟨g1, g2, g3, g4, g5, g6, g7, g8⟩ := h5 t ht
  obtain ⟨n1, n2, n3⟩ := hn t ht
  exact ⟨(f7 t ht).trans g1, txOK_c g2 (fun j hj => (f3 t j ht (by omega)).symm) (f9 _ n1) (f8 t 0 ht) (f8 t 3 ht) (f9 _ n2) (f9 _ n3) (fun j => f5 t j ht) (fun j => f6 t j ht), (f4 t ht).trans g3, g4, fun j hj => by rw [f3 t j ht (by omega)]; exact g5 j hj, g6, g7, g8⟩
section PXTX
variable {d D n q L cc tc rl sg tp c k : Nat} {so : Option Nat} {dr R : px_HR} {ds S : px_HS} {I I0 : px_HI} {J : px_HJ} {xs : Nat → Int32} {ca kd nb ta ua wa tz : Nat → Nat} {x y z v w : Int32}
theorem w_tx (ht : tc < 6) (hp : tp ≤ 160) : ∀ k i (I : px_HI), i + k = tp → I 31 3 = nI tc → I 31 6 = nI tp → ∃ I', (∀ j, i ≤ j → j < tp → I' 32 (160 * tc + j) = I 34 j) ∧ (∀ a j, (a = 32 → j < 160 * tc + i ∨ 160 * tc + tp ≤ j) → I' a j = I a j) ∧ ∀ r, px_ev (d + 1) 154 49 [some (.ref 31), some (.int (nI tp))] [] I' J (dR so dr) (dS L ds) n q r → px_ev (d + 1) 154 14 [some (.ref 31), some (.int (nI i))] [] I J (dR so dr) (dS L ds) n q r
  | 0, i, I, hi, e3, e6 => by
    refine ⟨I, fun j h1 h2 => by omega, fun _ _ _ => rfl, fun r kk => ?_⟩
    have e : i = tp := by omega
    subst e
    refine e_s rfl ?_
    refine e_s rfl ?_
    refine e_s rfl ?_
    rw [e6]
    refine e_s rfl ?_
    refine e_bt (nI_le (by omega) (by omega)) ?_
    exact kk
  | k + 1, i, I, hi, e3, e6 => by
    obtain ⟨I', r1, r2, r3⟩ := w_tx ht hp k (i + 1) (px_u I 32 (160 * tc + i) (I 34 i)) (by omega) e3 e6
    refine ⟨I', fun j h1 h2 => ?_, fun a j g => ?_, fun r kk => ?_⟩
    · by_cases e : j = i
      · subst e
        rw [r2 32 _ (fun _ => by omega), u_eq]
      · rw [r1 j (by omega) h2, u_ne (by omega)]
    · rw [r2 a j (fun e => by have := g e; omega), u_ne (fun e => by have := g e; omega)]
    · refine e_s rfl ?_
      refine e_s rfl ?_
      refine e_s rfl ?_
      rw [e6]
      refine e_s rfl ?_
      refine e_bf (nI_ge (by omega) (by omega)) ?_
      repeat refine e_s rfl ?_
      rw [e3, show (160 : Int32) * nI tc = nI (160 * tc) from pk_mul 160 tc, nI_add]
      refine e_ia rfl rfl rfl (show i < 160 by omega) (by decide) ?_
      refine e_is rfl rfl rfl (show 160 * tc + i < 960 by omega) (by decide) ?_
      refine e_s rfl ?_
      refine e_s rfl ?_
      rw [nI_1]
      exact r3 r kk
/-- the model's text(), where there is room -/
theorem m_text (hD : 70 ≤ D) (ht : tc < 6) (hp : tp ≤ 160) (e3 : I 31 3 = nI tc) (e6 : I 31 6 = nI tp) (hb : ∀ j, j < tp → 0 ≤ I 34 j) : ∃ I' J', (rdOK (I 34) tp = true → px_mt (D + 1) 154 [.ref 31] I J (dR so dr) (dS L ds) n q (some (.int (nI tc)), I', J', dR so dr, dS L ds, n, q) ∧ I' 31 3 = nI (tc + 1)) ∧ (rdOK (I 34) tp = false → px_mt (D + 1) 154 [.ref 31] I J (dR so dr) (dS L ds) n q (some (.int (-100 - nI (rd3 (I 34) tp).2.1)), I', J', dR so dr, dS L ds, n, q) ∧ I' 31 3 = nI tc) ∧ (∀ j, j < tp → I' 32 (160 * tc + j) = I 34 j) ∧ I' 33 tc = nI tp ∧ I' 31 6 = 0 ∧ ∀ a j, (a = 32 → j < 160 * tc ∨ 160 * tc + tp ≤ j) → (a = 33 → j ≠ tc) → (a = 31 → j ≠ 3 ∧ j ≠ 6 ∧ (j < 23 ∨ 31 < j)) → I' a j = I a j := by
  obtain ⟨Ia, r1, r2, r3⟩ := w_tx (d := D) (n := n) (q := q) (L := L) (so := so) (dr := dr) (ds := ds) (J := J) ht hp tp 0 I (by omega) e3 e6
  have a3 : Ia 31 3 = nI tc := (r2 31 3 (by omega)).trans e3
  have a6 : Ia 31 6 = nI tp := (r2 31 6 (by omega)).trans e6
  have eb : ∀ j, j < tp → px_u (px_u Ia 33 tc (nI tp)) 31 6 0 32 (160 * tc + j) = I 34 j := fun j hj => by
    rw [u_ne (by omega), u_ne (by omega), r1 j (by omega) hj]
  obtain ⟨I2, J2, x, m1, m2, m3, m4⟩ := r_readM (D := D) (n := n) (q := q) (so := so) (dr := dr) (L := L) (ds := ds) (J := J) (I := px_u (px_u Ia 33 tc (nI tp)) 31 6 0) (t := tc) (z := tp) (wh := 0) hD ht (by omega) (by rw [u_ne (by omega), u_eq]) hp (fun j hj => by rw [eb j hj]; exact hb j hj)
  obtain ⟨c1, c2, c3, c4⟩ := rd_c eb
  rw [c4] at m3 m4
  rw [c3] at m4
  have b3 : I2 31 3 = nI tc := by
    rw [m2.1 31 3 (fun _ => by omega), u_ne (by omega), u_ne (by omega), a3]
  have head : ∀ r, px_ev (D + 1) 154 77 [some (.ref 31), some (.int x)] [] I2 J2 (dR so dr) (dS L ds) n q r → px_mt (D + 1) 154 [.ref 31] I J (dR so dr) (dS L ds) n q r := by
    intro r kk
    unfold px_mt
    refine e_s rfl ?_
    refine e_s rfl ?_
    rw [e3]
    refine e_s rfl ?_
    refine e_s rfl ?_
    refine e_bt (fun g => absurd ((nI_eq (b := 6) (by omega) (by decide)).mp g) (by omega)) ?_
    refine e_s rfl ?_
    refine e_s rfl ?_
    refine r3 r ?_
    repeat refine e_s rfl ?_
    rw [a3, a6]
    refine e_is rfl rfl rfl ht (by decide) ?_
    repeat refine e_s rfl ?_
    rw [show px_u (px_u Ia 33 tc (nI tp)) 31 6 0 31 3 = nI tc from a3]
    refine e_c rfl m1 (by omega) ?_
    refine e_s rfl ?_
    exact kk
  cases hok : rdOK (I 34) tp with
  | true =>
    obtain ⟨k1, k2⟩ := m3 hok
    refine ⟨px_u I2 31 3 (nI (tc + 1)), J2, fun _ => ⟨?_, u_eq⟩, fun e => (by cases e), fun j hj => ?_, ?_, ?_, fun a j g1 g2 g3 => ?_⟩
    · refine head _ ?_
      repeat refine e_s rfl ?_
      rw [k1]
      repeat refine e_s rfl ?_
      rw [b3, nI_1]
      rw [show px_u I2 31 3 (nI (tc + 1)) 31 3 = nI (tc + 1) from u_eq, nI_pred]
      exact e_r rfl
    · rw [u_ne (by omega), m2.1 32 _ (fun e => by omega), eb j hj]
    · rw [u_ne (by omega), m2.1 33 _ (fun e => by omega), u_ne (by omega), u_eq]
    · rw [u_ne (by omega), m2.1 31 6 (fun e => by omega), u_eq]
    · rw [u_ne (fun e => (g3 e).1), m2.1 a j (fun e => (g3 e).2.2), u_ne (fun e => (g3 e).2.1), u_ne g2, r2 a j g1]
  | false =>
    obtain ⟨k1, k2⟩ := m4 hok
    refine ⟨I2, J2, fun e => (by cases e), fun _ => ⟨?_, b3⟩, fun j hj => ?_, ?_, ?_, fun a j g1 g2 g3 => ?_⟩
    · refine head _ ?_
      repeat refine e_s rfl ?_
      rw [k1]
      repeat refine e_s rfl ?_
      rw [k2]
      exact e_r rfl
    · rw [m2.1 32 _ (fun e => by omega), eb j hj]
    · rw [m2.1 33 _ (fun e => by omega), u_ne (by omega), u_eq]
    · rw [m2.1 31 6 (fun e => by omega), u_eq]
    · rw [m2.1 a j (fun e => (g3 e).2.2), u_ne (fun e => (g3 e).2.1), u_ne g2, r2 a j g1]
end PXTX
