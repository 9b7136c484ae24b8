/-! the constructor of the class, with its first rule -/
def frL (j : Nat) : Int32 := (px_by.getD 0 []).getD j 0 &&& 255
theorem frL_ok : rdOK frL 48 = true := by decide +kernel
theorem frL_len : (rd3 frL 48).2.2.1.length = 9 := by decide +kernel
theorem tS_of {L : Nat} {S : px_HS} (h : ∀ a, a < 28 → S a = SH a) (h2 : ∀ a, 1000000 ≤ a → S a = px_S0 L a) : S = tS L S := by
  funext a
  unfold tS
  cases hb : (Nat.ble 9 a && Nat.ble a 14) with
  | true =>
    have h3 := Nat.le_of_ble_eq_true (Bool.and_eq_true_iff.mp hb).2
    rw [h a (by omega)]
    rfl
  | false =>
    cases hc : Nat.ble 1000000 a with
    | true =>
      rw [h2 a (Nat.le_of_ble_eq_true hc)]
      rfl
    | false => rfl
theorem tR_of {so : Option Nat} {R : px_HR} (h : ∀ p, p ∈ rfA → R p.1 p.2.1 = some p.2.2) (h2 : ∀ a j, 1000000 ≤ a → R a j = px_R0 so a j) : R = tR so R := by
  funext a j
  unfold tR
  cases hb : (Nat.ble 9 a && Nat.ble a 14) with
  | true =>
    have h3 := Nat.le_of_ble_eq_true (Bool.and_eq_true_iff.mp hb).2
    show R a j = match RF a j with
      | some r => some r
      | none => R a j
    cases hf : RF a j with
    | none => rfl
    | some r =>
      rcases RF_m (by omega) hf with g | g | g
      · exact h _ g.1
      · omega
      · omega
  | false =>
    cases hc : Nat.ble 1000000 a with
    | true =>
      rw [h2 a j (Nat.le_of_ble_eq_true hc)]
      rfl
    | false => rfl
section PXC3
variable {d n q L c : Nat} {so : Option Nat} {r0 R : px_HR} {s0 S : px_HS} {I : px_HI} {J : px_HJ} {xs : Nat → Int32}
theorem w_ct (h0 : tS L s0 0 = (21, 16)) (h07 : tR so r0 0 7 = some 9) : ∀ k i (I : px_HI), i + k = 48 → I 10 1 = nI i → (∀ a j, 1000000 ≤ a → I a j = px_I0 xs a j) → ∃ I', (∀ r, px_ev (d + 5) 1 194 [some (.ref 0), some (.int (nI 48))] [] I' J (tR so r0) (tS L s0) n q r → px_ev (d + 5) 1 163 [some (.ref 0), some (.int (nI i))] [] I J (tR so r0) (tS L s0) n q r) ∧ I' 10 1 = nI 48 ∧ (∀ j, i ≤ j → j < 48 → I' 11 j = frL j) ∧ ∀ a j, (a = 10 → j ≠ 1) → (a = 11 → j < i) → I' a j = I a j
  | 0, i, I, hi, e1, ro => by
    have e : i = 48 := by omega
    subst e
    refine ⟨I, fun r kk => ?_, e1, fun j h1 h2 => by omega, fun _ _ _ _ => rfl⟩
    refine e_s rfl ?_
    refine e_s rfl ?_
    refine e_c rfl (r_len (d := 0) (w := 1000010) (v := 1000040) (len := 48) (z := 0) rfl ((ro 1000010 1 (by decide)).trans rfl) rfl rfl (by decide)) (by omega) ?_
    refine e_s rfl ?_
    exact kk
  | k + 1, i, I, hi, e1, ro => by
    have el : I 1000040 i &&& 255 = frL i := by
      rw [ro 1000040 i (by decide)]
      rfl
    obtain ⟨I', r1, r2, r3, r4⟩ := w_ct h0 h07 k (i + 1) (px_u (px_u I 11 i (frL i)) 10 1 (nI (i + 1))) (by omega) u_eq (fun a j ha => by
      rw [u_ne (by omega), u_ne (by omega), ro a j ha])
    refine ⟨I', fun r kk => ?_, r2, fun j h1 h2 => ?_, fun a j g1 g2 => ?_⟩
    · refine e_s rfl ?_
      refine e_s rfl ?_
      refine e_c rfl (r_len (d := 0) (w := 1000010) (v := 1000040) (len := 48) (z := 0) rfl ((ro 1000010 1 (by decide)).trans rfl) rfl rfl (by decide)) (by omega) ?_
      refine e_s rfl ?_
      refine e_bf (nI_ge (by omega) (by omega)) ?_
      refine e_s rfl ?_
      refine e_gr rfl h0 rfl h07 ?_
      refine e_s rfl ?_
      refine e_s rfl ?_
      refine e_s rfl ?_
      refine e_c rfl (r_char (d := 0) (w := 1000010) (v := 1000040) (len := 48) (z := 0) (i := i) rfl ((ro 1000010 1 (by decide)).trans rfl) rfl rfl (by omega) (by decide)) (by omega) ?_
      rw [el]
      refine e_c rfl (r_put (d := 0) (show i < 160 by omega) e1) (by omega) ?_
      refine e_s rfl ?_
      refine e_s rfl ?_
      rw [nI_1]
      exact r1 r kk
    · by_cases e : j = i
      · subst e
        rw [r4 11 j (by omega) (by omega), u_ne (by omega), u_eq]
      · exact r3 j (by omega) h2
    · rw [r4 a j g1 (fun e => by have := g2 e; omega), u_ne g1, u_ne (fun e => by have := g2 e; omega)]
theorem c_ctor : ∃ (I1 : px_HI) (J1 : px_HJ) (R1 : px_HR) (S1 : px_HS) (q1 : Nat), px_mt (d + 151) 1 [.ref 0] (px_z (px_I0 xs) 0 0) (px_z px_J0 0 0) (px_z (px_R0 so) 0 none) (px_us (px_S0 L) 0 (21, 16)) 1 16 (none, I1, J1, R1, S1, 31, q1) ∧ q1 ≤ 3000 ∧ (∀ a, a < 31 → S1 a = SH a) ∧ (∀ a, 1000000 ≤ a → S1 a = px_S0 L a) ∧ (∀ p, p ∈ rfA → R1 p.1 p.2.1 = some p.2.2) ∧ (∀ p, p ∈ rfB → R1 p.1 p.2.1 = some p.2.2) ∧ R1 15 0 = some 28 ∧ (∀ a j, 1000000 ≤ a → R1 a j = px_R0 so a j) ∧ (∀ a j, 1000000 ≤ a → I1 a j = px_I0 xs a j) ∧ I1 0 1 = 0 ∧ I1 0 6 = -1 ∧ I1 0 9 = 1 ∧ I1 2 0 = 9 ∧ I1 2 1 = 0 ∧ I1 2 2 = 1 ∧ I1 2 3 = 0 ∧ I1 2 4 = 0 ∧ I1 2 5 = 0 ∧ I1 2 6 = 0 ∧ (∀ j, I1 3 j = 0) ∧ I1 10 1 = 0 ∧ (∀ s, s < 4 → I1 (20 + 2 * s) 1 = -1 ∧ I1 (20 + 2 * s) 2 = 0) ∧ I1 28 1 = nI (rd1 frL 48).2.2.1.length ∧ I1 28 2 = nI (rd2 frL 48).2.2.1.length ∧ ∀ j, j < (rd3 frL 48).2.2.1.length → I1 29 j = (rd3 frL 48).2.2.1.getD j 0 := by
  obtain ⟨I1, J1, R1, S1, q1, f0, fq, f1, f2, f3, f4, f5, v1, v2, v3, v4, v5, v6, v7, v8, v9, v10, v11, v12⟩ := c_A (d := d + 148) (so := so) (L := L) (xs := xs)
  have eS : S1 = tS L S1 := tS_of f1 f2
  have eR : R1 = tR so R1 := tR_of f3 f4
  have h0 : tS L S1 0 = (21, 16) := f1 0 (by decide)
  have h07 : tR so R1 0 7 = some 9 := f3 (0, 7, 9) (by decide)
  have h08 : tR so R1 0 8 = some 15 := f3 (0, 8, 15) (by decide)
  obtain ⟨I2, g1, g2, g3, g4⟩ := w_ct (d := d + 146) (n := 28) (q := q1) (J := J1) (xs := xs) h0 h07 48 0 I1 (by omega) v11 f5
  have ro2 : ∀ a j, 1000000 ≤ a → I2 a j = px_I0 xs a j := fun a j ha => (g4 a j (by omega) (by omega)).trans (f5 a j ha)
  obtain ⟨c1, c2, c3, c4⟩ := rd_c (b := I2 11) (b' := frL) (z := 48) (fun j hj => g3 j (by omega) hj)
  have hT := r_readT (D := d + 150) (n := 28) (q := q1) (L := L) (so := so) (r0 := R1) (s0 := S1) (J := J1) (xs := xs) (I := I2) (z := 48) (by omega) (by omega) g2 (fun a j g => ro2 a j (by omega)) (by omega) (by omega) (c4.trans frL_ok)
  rw [c1, c2, c3, frL_len] at hT
  obtain ⟨I3, r1, s1, k1, k2, k3, k4, k5, k6, k7, k8, k9, k10, k11, k12, k13, k14⟩ := hT
  have fS : ∀ a, a ≠ 28 → a ≠ 29 → a ≠ 30 → tS L s1 a = S1 a := fun a q1 q2 q3 => by
    have e : tS L s1 a = tS L S1 a := by
      unfold tS
      rw [k4 a q1 q2 q3]
    rw [e, ← eS]
  have fR : ∀ a j, a ≠ 28 → a ≠ 29 → a ≠ 30 → tR so r1 a j = R1 a j := fun a j q1 q2 q3 => by
    have e : tR so r1 a j = tR so R1 a j := by
      unfold tR
      rw [k3 a j q1 q2 q3]
    rw [e, ← eR]
  have fI : ∀ a j, a ≠ 28 → a ≠ 29 → a ≠ 30 → a ≠ 12 → a ≠ 13 → a ≠ 14 → a ≠ 9 → a ≠ 10 → a ≠ 11 → (a = 0 → j ≠ 9) → px_u I3 0 9 1 a j = I1 a j := fun a j q1 q2 q3 q4 q5 q6 q7 q8 q9 q10 => by
    rw [u_ne q10, k2 a j q1 q2 q3 q4 q5 q6 (fun e => absurd e q7) (fun e => absurd e q8), g4 a j (by omega) (by omega)]
  have fRA : ∀ a j r, (a, j, r) ∈ rfA → a < 28 ∧ ¬ a = 15 := by
    intro a j r h
    unfold rfA at h
    simp only [List.mem_cons, List.not_mem_nil, or_false, Prod.mk.injEq] at h
    omega
  refine ⟨px_u I3 0 9 1, px_z (px_z (px_z J1 28 0) (28 + 1) 0) (28 + 2) 0, px_u (tR so r1) 15 0 (some 28), tS L s1, q1 + 4 + 9 + 9, f0 _ ?_, by omega, fun a ha => ?_, fun a ha => ?_, fun p hp => ?_, fun p hp => ?_, u_eq, fun a j ha => ?_, fun a j ha => ?_, (fI _ _ (by omega) (by omega) (by omega) (by omega) (by omega) (by omega) (by omega) (by omega) (by omega) (by omega)).trans v1, (fI _ _ (by omega) (by omega) (by omega) (by omega) (by omega) (by omega) (by omega) (by omega) (by omega) (by omega)).trans v2, u_eq, (fI _ _ (by omega) (by omega) (by omega) (by omega) (by omega) (by omega) (by omega) (by omega) (by omega) (by omega)).trans v3, (fI _ _ (by omega) (by omega) (by omega) (by omega) (by omega) (by omega) (by omega) (by omega) (by omega) (by omega)).trans v4, (fI _ _ (by omega) (by omega) (by omega) (by omega) (by omega) (by omega) (by omega) (by omega) (by omega) (by omega)).trans v5, (fI _ _ (by omega) (by omega) (by omega) (by omega) (by omega) (by omega) (by omega) (by omega) (by omega) (by omega)).trans v6, (fI _ _ (by omega) (by omega) (by omega) (by omega) (by omega) (by omega) (by omega) (by omega) (by omega) (by omega)).trans v7, (fI _ _ (by omega) (by omega) (by omega) (by omega) (by omega) (by omega) (by omega) (by omega) (by omega) (by omega)).trans v8, (fI _ _ (by omega) (by omega) (by omega) (by omega) (by omega) (by omega) (by omega) (by omega) (by omega) (by omega)).trans v9, fun j => (fI _ _ (by omega) (by omega) (by omega) (by omega) (by omega) (by omega) (by omega) (by omega) (by omega) (by omega)).trans (v10 j), ?_, fun s hs => ⟨(fI _ _ (by omega) (by omega) (by omega) (by omega) (by omega) (by omega) (by omega) (by omega) (by omega) (by omega)).trans (v12 s hs).1, (fI _ _ (by omega) (by omega) (by omega) (by omega) (by omega) (by omega) (by omega) (by omega) (by omega) (by omega)).trans (v12 s hs).2⟩, ?_, ?_, fun j hj => ?_⟩
  · rw [eS, eR]
    refine g1 _ ?_
    refine e_s rfl ?_
    refine e_gr rfl h0 rfl h08 ?_
    refine e_s rfl ?_
    refine e_s rfl ?_
    refine e_gr rfl h0 rfl h07 ?_
    refine e_c rfl k1 (by omega) ?_
    refine e_as (j := 0) (o := 15) (y := 28) (kd := 105) (len := 6) (kx := 20) (lx := 4) rfl ((fS 15 (by decide) (by decide) (by decide)).trans (f1 15 (by decide))) ((tS_o (by decide) (by decide)).trans k6) rfl (by decide) (by decide) ?_
    refine e_s rfl ?_
    refine e_s rfl ?_
    refine e_pi (o := 0) rfl ((fS 0 (by decide) (by decide) (by decide)).trans h0) rfl rfl ?_
    exact e_r rfl
  · by_cases e28 : a = 28
    · subst e28
      rw [tS_o (by decide) (by decide), k6]
      rfl
    · by_cases e29 : a = 29
      · subst e29
        rw [tS_o (by decide) (by decide), k7]
        rfl
      · by_cases e30 : a = 30
        · subst e30
          rw [tS_o (by decide) (by decide), k8]
          rfl
        · rw [fS a e28 e29 e30, f1 a (by omega)]
  · rw [fS a (by omega) (by omega) (by omega), f2 a ha]
  · obtain ⟨a, j, r⟩ := p
    have := fRA a j r hp
    show px_u (tR so r1) 15 0 (some 28) a j = some r
    rw [u_ne (by omega), fR a j (by omega) (by omega) (by omega)]
    exact f3 _ hp
  · unfold rfB at hp
    simp only [List.mem_cons, List.not_mem_nil, or_false] at hp
    rcases hp with rfl | rfl
    · show px_u (tR so r1) 15 0 (some 28) 28 0 = some 29
      rw [u_ne (by decide), tR_o (by decide) (by decide), k9]
    · show px_u (tR so r1) 15 0 (some 28) 28 3 = some 30
      rw [u_ne (by decide), tR_o (by decide) (by decide), k10]
  · rw [u_ne (by omega), fR a j (by omega) (by omega) (by omega), f4 a j ha]
  · rw [fI _ _ (by omega) (by omega) (by omega) (by omega) (by omega) (by omega) (by omega) (by omega) (by omega) (by omega), f5 a j ha]
  · rw [u_ne (by decide), k5]
  · rw [u_ne (by decide), k11]
  · rw [u_ne (by decide), k12]
  · rw [u_ne (by omega)]
    exact k14 j (by rw [frL_len] at hj; exact hj)
end PXC3
