/-! the law, from its start -/
theorem frL_nn : ((List.range 48).all (fun j => decide (0 ≤ frL j))) = true := by decide +kernel
theorem dS_of2 {L : Nat} {S : px_HS} (h : ∀ a, a ≤ 48 → S a = SH a) (h2 : ∀ a, 1000000 ≤ a → S a = px_S0 L a) : S = dS L S := by
  funext a
  by_cases h1 : a ≤ 48
  · unfold dS
    rw [Nat.ble_eq_true_of_le h1, h a h1]
    rfl
  · by_cases h3 : 1000000 ≤ a
    · unfold dS
      rw [bl_f (by omega), Nat.ble_eq_true_of_le h3, h2 a h3]
      rfl
    · rw [dS_d (by omega) (by omega)]
theorem dR_of2 {so : Option Nat} {R : px_HR} (h : ∀ a j r, a ≤ 48 → RF a j = some r → R a j = some r) (h2 : ∀ a j, 1000000 ≤ a → R a j = px_R0 so a j) : R = dR so R := by
  funext a j
  by_cases h1 : a ≤ 48
  · have e3 : dR so R a j = (match RF a j with
      | some r => some r
      | none => R a j) := by
      unfold dR
      rw [Nat.ble_eq_true_of_le h1]
      rfl
    rw [e3]
    cases hf : RF a j with
    | none => rfl
    | some r => exact h a j r h1 hf
  · by_cases h3 : 1000000 ≤ a
    · unfold dR
      rw [bl_f (by omega), Nat.ble_eq_true_of_le h3, h2 a j h3]
      rfl
    · rw [dR_d (by omega) (by omega)]
theorem px_law : px_Law := by
  intro L xs so hL
  obtain ⟨I1, J1, R1, S1, q1, c0, cq, c1, c2, c3, c4, c5, c6, c7, v1, v2, v3, v4, v5, v6, v7, v8, v9, v10, v11, v12, v13, v14, v15, v16⟩ := c_ctor (d := 0) (xs := xs) (so := so) (L := L)
  obtain ⟨I2, J2, R2, S2, q2, m0, mq, m1, m2, m3, m4, m5, w1, w2, w3, w4, w5, w6, w7, w8, w9, w10, w11, w12, w13, w14, w15⟩ := c_mod (d := 0) (q := q1 + 49) (I := I1) (J := J1) (R := R1) (S := S1)
  have eS : S2 = dS L S2 := dS_of2 (fun a ha => by
    by_cases g : a < 31
    · rw [m2 a (Or.inl g), c1 a g]
    · exact m1 a (by omega) ha) (fun a ha => by rw [m2 a (Or.inr ha), c2 a ha])
  have eR : R2 = dR so R2 := dR_of2 (fun a j r ha hf => by
    rcases RF_m ha hf with g | g | g
    · rw [m4 a j (by omega)]
      exact c3 _ g.1
    · rw [m4 a j (by omega)]
      exact c4 _ g.1
    · exact m3 _ g.1) (fun a j ha => by rw [m4 a j (Or.inr ha), c6 a j ha])
  have lo : ∀ a j, a < 31 → I2 a j = I1 a j := fun a j ha => m5 a j (Or.inl ha)
  have eb : ∀ j, j < 48 → frL j = I2 32 (160 * 0 + j) := fun j hj => by
    rw [show 160 * 0 + j = j by omega, w15 j hj]
  obtain ⟨x1, x2, x3, x4⟩ := rd_c eb
  have inv : Inv xs L so R2 S2 I2 49 0 1 0 0 0 (fun _ => 0) (fun _ => 0) (fun _ => 0) (fun _ => 28) (fun _ => 29) (fun _ => 30) (fun _ => 48) := by
    refine ⟨by omega, ?_, ?_, ?_, ?_, ?_, ?_, ?_, by omega, by omega, fun i hi => by omega, fun i j hi => by omega, fun t ht => ?_⟩
    · refine ⟨?_, ?_, ?_, ?_, ?_, ?_, w2, ?_, w10, by omega, fun j hj => ?_⟩
      · rw [lo 2 0 (by omega), v4, w4]
      · rw [lo 2 1 (by omega), v5, w5]
      · rw [lo 2 2 (by omega), v6, w6]
      · rw [lo 2 3 (by omega), v7, w7]
      · rw [lo 2 4 (by omega), v8, w8]
      · rw [lo 2 5 (by omega), v9]
        rfl
      · rw [lo 2 6 (by omega), v10]
        rfl
      · rw [lo 3 j (by omega), v11 j, w12 j]
    · exact ⟨by omega, (lo 0 1 (by omega)).trans v1, w9, fun i hi => by omega⟩
    · refine ⟨by omega, by omega, (lo 0 9 (by omega)).trans v3, w1, fun t ht => ?_⟩
      have t0 : t = 0 := by omega
      subst t0
      refine ⟨?_, ?_, w14, show 48 ≤ 160 by decide, fun j hj => ?_, Or.inl rfl, Or.inl rfl, fun t' ht' => show ¬ 29 = 30 by decide⟩
      · show R2 15 0 = some 28
        rw [m4 15 0 (by omega), c5]
      · show txOK I2 (dR so R2) (dS L S2) 28 29 30 (fun j => I2 32 (160 * 0 + j)) 48
        unfold txOK
        rw [← x1, ← x2, ← x3, ← x4]
        refine ⟨rfl, rfl, rfl, ?_, ?_, by decide, ?_, ?_, ?_, fun j hj => ?_, frL_ok⟩
        · rw [frL_len]
          rfl
        · rw [frL_len]
          rfl
        · rw [frL_len]
          decide
        · rw [lo 28 1 (by omega), v14]
        · rw [lo 28 2 (by omega), v15]
        · rw [lo 29 j (by omega), v16 j hj]
      · rw [← eb j hj]
        exact of_decide_eq_true (List.all_eq_true.mp frL_nn j (List.mem_range.mpr hj))
    · exact ⟨(lo 10 1 (by omega)).trans v12, w3, by omega, fun j hj => by omega⟩
    · exact Or.inl ⟨(lo 0 6 (by omega)).trans v2, w11⟩
    · intro s hs
      refine Or.inl ⟨w13 s, ?_, ?_⟩
      · rw [lo _ _ (by omega)]
        exact (v13 s hs).1
      · rw [lo _ _ (by omega)]
        exact (v13 s hs).2
    · intro a j ha
      rw [m5 a j (Or.inr ha), c7 a j ha]
    · exact ⟨Or.inl rfl, show 28 < 49 by decide, show 29 < 49 by decide, show 30 < 49 by decide⟩
  obtain ⟨I', J', R', S', n', q', b1, b2, fin⟩ := w_law (xs := xs) (so := so) hL 512 0 I2 J2 49 q2 R2 S2 (by omega) (by omega) (by omega) (by omega) ⟨_, _, _, _, _, _, _, _, _, _, _, _, inv⟩
  rw [← eR, ← eS] at fin
  refine ⟨I', J', R', S', n', q', by omega, by omega, ?_⟩
  unfold px_mt
  repeat refine e_s rfl ?_
  refine e_c rfl c0 (by omega) ?_
  repeat refine e_s rfl ?_
  refine e_c rfl m0 (by omega) ?_
  refine e_s rfl ?_
  refine e_s rfl ?_
  refine e_s rfl ?_
  exact fin
