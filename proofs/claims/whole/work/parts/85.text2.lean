/-! text, on both sides: the call -/
section PXTY
variable {d D n q L cc tc rl sg tp c k : Nat} {so : Option Nat} {dr R : px_HR} {ds S : px_HS} {I I0 : px_HI} {J : px_HJ} {xs : Nat → Int32} {ca kd nb ta ua wa tz : Nat → Nat} {x y z v w : Int32}
theorem o_text (h : Inv xs L so dr ds I n cc tc rl sg tp ca kd nb ta ua wa tz) (hn3 : n + 3 < 1000000) : ∃ I1 J1 I2 J2 v n' q' dr' ds' tc' tp' ta' ua' wa' tz', n' ≤ n + 3 ∧ q' ≤ q + 324 ∧ px_mt (d + 151) 80 [.ref 0] I J (dR so dr) (dS L ds) n q (some (.int v), I1, J1, dR so dr', dS L ds', n', q') ∧ px_mt (d + 151) 154 [.ref 31] I1 J1 (dR so dr') (dS L ds') n' q' (some (.int v), I2, J2, dR so dr', dS L ds', n', q') ∧ Inv xs L so dr' ds' I2 n' cc tc' rl sg tp' ca kd nb ta' ua' wa' tz' := by
  have hh := h
  obtain ⟨h0, h1, h2, h3, h4, h5, h6, h7, h8, h9, h10, h11, h12⟩ := h
  obtain ⟨t1, t2, t3, t4, t5⟩ := h3
  obtain ⟨p1, p2, p3, p4⟩ := h4
  by_cases hf : tc = 6
  · refine ⟨I, J, I, J, -4, n, q, dr, ds, tc, tp, ta, ua, wa, tz, by omega, by omega, ?_, ?_, hh⟩
    · unfold px_mt
      repeat refine e_s rfl ?_
      rw [t3, hf]
      repeat refine e_s rfl ?_
      exact e_r rfl
    · unfold px_mt
      repeat refine e_s rfl ?_
      rw [t4, hf]
      repeat refine e_s rfl ?_
      exact e_r rfl
  have tc6 : tc < 6 := by omega
  have e1134 : ∀ j, j < tp → I 11 j = I 34 j := fun j hj => (p4 j hj).1
  obtain ⟨c1, c2, c3, c4⟩ := rd_c e1134
  cases hok : rdOK (I 11) tp with
  | false =>
    have hF := r_readF (D := d + 150) (n := n) (q := q) (L := L) (so := so) (r0 := dR so dr) (s0 := dS L ds) (J := J) (xs := xs) (by omega) p3 p1 (fun a j g => h7 a j (by omega)) hok
    rw [← dR_t, ← dS_t] at hF
    obtain ⟨I1, k1, k2, k3, k4, k5⟩ := hF
    have f34 : ∀ j, I1 34 j = I 34 j := fun j => k2 34 j (by omega) (by omega) (by omega) (by omega) (by omega)
    have e34 : I1 34 = I 34 := funext f34
    have f31 : ∀ j, I1 31 j = I 31 j := fun j => k2 31 j (by omega) (by omega) (by omega) (by omega) (by omega)
    obtain ⟨I2, J2, m1, m2, m3, m4, m5, m6⟩ := m_text (D := d + 150) (n := n) (q := q) (L := L) (so := so) (dr := dr) (ds := ds) (J := J) (I := I1) (by omega) tc6 p3 ((f31 3).trans t4) ((f31 6).trans p2) (fun j hj => by rw [f34]; exact (p4 j hj).2)
    rw [e34] at m1 m2
    obtain ⟨m2a, m2b⟩ := m2 (c4.symm.trans hok)
    rw [← c3] at m2a
    have fI : ∀ a j, a ≠ 12 → a ≠ 13 → a ≠ 14 → a ≠ 9 → a ≠ 10 → (a = 32 → j < 160 * tc ∨ 160 * tc + tp ≤ j) → (a = 33 → j ≠ tc) → (a = 31 → j ≠ 3 ∧ j ≠ 6 ∧ (j < 23 ∨ 31 < j)) → I2 a j = I a j := fun a j g1 g2 g3 g4 g5 g6 g7 g8 => by
      rw [m6 a j g6 g7 g8, k2 a j g1 g2 g3 (fun e => absurd e g4) (fun e => absurd e g5)]
    refine ⟨I1, J, I2, J2, -100 - nI (rd3 (I 11) tp).2.1, n, q, dr, ds, tc, 0, ta, ua, wa, tz, by omega, by omega, ?_, m2a, h0, h1.fr (fun a j g => ?_), h2.g (fun i hi => (h10 i hi).1) (fun a j g => ?_), ⟨t1, t2, ?_, m2b, tIv.g4 (n := n) ⟨t1, t2, t3, t4, t5⟩ (fun t ht => (h12 t ht).2) (fun t j ht hj => fI _ _ (by omega) (by omega) (by omega) (by omega) (by omega) (by omega) (by omega) (by omega)) (fun t ht => fI _ _ (by omega) (by omega) (by omega) (by omega) (by omega) (by omega) (by omega) (by omega)) (fun t j ht => ?_) (fun t j ht => ?_) (fun _ _ => rfl) (fun _ _ _ => rfl) (fun _ _ => rfl)⟩, ⟨?_, m5, by omega, fun j hj => by omega⟩, h5.fr (fun a j g => ?_), h6.fr (fun a j g => ?_), fun a j g => ?_, h8, h9, h10, h11, h12⟩
    · unfold px_mt
      repeat refine e_s rfl ?_
      rw [t3]
      refine e_bt (nI_lt (b := 6) tc6 (by decide)) ?_
      repeat refine e_s rfl ?_
      refine e_c rfl k1 (by omega) ?_
      repeat refine e_s rfl ?_
      rw [k3]
      exact e_r rfl
    · unfold hFt at g
      exact fI _ _ (by omega) (by omega) (by omega) (by omega) (by omega) (by omega) (by omega) (by omega)
    · unfold cFt at g
      exact fI _ _ (by omega) (by omega) (by omega) (by omega) (by omega) (by omega) (by omega) (by omega)
    · exact (fI _ _ (by omega) (by omega) (by omega) (by omega) (by omega) (by omega) (by omega) (by omega)).trans t3
    · have := h12 t ht
      exact fI _ _ (by omega) (by omega) (by omega) (by omega) (by omega) (by omega) (by omega) (by omega)
    · have := (t5 t ht).2.2.2.2.2.2.1
      exact fI _ _ (by omega) (by omega) (by omega) (by omega) (by omega) (by omega) (by omega) (by omega)
    · rw [m6 10 1 (by omega) (by omega) (by omega), k5]
      rfl
    · unfold kFt at g
      exact fI _ _ (by omega) (by omega) (by omega) (by omega) (by omega) (by omega) (by omega) (by omega)
    · unfold sFt at g
      exact fI _ _ (by omega) (by omega) (by omega) (by omega) (by omega) (by omega) (by omega) (by omega)
    · rw [fI _ _ (by omega) (by omega) (by omega) (by omega) (by omega) (by omega) (by omega) (by omega)]
      exact h7 a j g
  | true =>
    have hT := r_readT (D := d + 150) (n := n) (q := q) (L := L) (so := so) (r0 := dR so dr) (s0 := dS L ds) (J := J) (xs := xs) (by omega) p3 p1 (fun a j g => h7 a j (by omega)) (by omega) (by omega) hok
    rw [← dR_t, ← dS_t] at hT
    obtain ⟨Ia, r1, s1, k1, k2, k3, k4, k5, k6, k7, k8, k9, k10, k11, k12, k13, k14⟩ := hT
    have fR0 : ∀ a j, a ≠ n → a ≠ n + 1 → a ≠ n + 2 → tR so r1 a j = dR so dr a j := fun a j g1 g2 g3 => by
      have e : tR so r1 a j = tR so (dR so dr) a j := by
        unfold tR
        rw [k3 a j g1 g2 g3]
      rw [e, ← dR_t]
    have fS0 : ∀ a, a ≠ n → a ≠ n + 1 → a ≠ n + 2 → tS L s1 a = dS L ds a := fun a g1 g2 g3 => by
      have e : tS L s1 a = tS L (dS L ds) a := by
        unfold tS
        rw [k4 a g1 g2 g3]
      rw [e, ← dS_t]
    obtain ⟨dr', edr⟩ : ∃ dr', tR so r1 = dR so dr' := ⟨_, dR_of (dr := dr) (fun a j g => fR0 a j (by omega) (by omega) (by omega))⟩
    obtain ⟨ds', eds⟩ : ∃ ds', tS L s1 = dS L ds' := ⟨_, dS_of (ds := ds) (fun a g => fS0 a (by omega) (by omega) (by omega))⟩
    have sn : dS L ds' n = (20, 4) := by
      rw [← eds, tS_o (by omega) (by omega), k6]
    have sn1 : dS L ds' (n + 1) = (100, (rd3 (I 11) tp).2.2.1.length) := by
      rw [← eds, tS_o (by omega) (by omega), k7]
    have sn2 : dS L ds' (n + 2) = (100, (rd3 (I 11) tp).2.2.1.length) := by
      rw [← eds, tS_o (by omega) (by omega), k8]
    have rn0 : dR so dr' n 0 = some (n + 1) := by
      rw [← edr, tR_o (by omega) (by omega), k9]
    have rn3 : dR so dr' n 3 = some (n + 2) := by
      rw [← edr, tR_o (by omega) (by omega), k10]
    rw [edr] at fR0 k1
    rw [eds] at fS0 k1
    have fR : ∀ a j, a ≠ n → a ≠ n + 1 → a ≠ n + 2 → (a = 15 → j ≠ tc) → dR so (px_u dr' 15 tc (some n)) a j = dR so dr a j := fun a j g1 g2 g3 g4 => by
      rw [← dR_u (Or.inr rfl), u_ne g4, fR0 a j g1 g2 g3]
    have e09 : Ia 0 9 = nI tc := (k2 0 9 (by omega) (by omega) (by omega) (by omega) (by omega) (by omega) (by omega) (by omega)).trans t3
    have f1 : ∀ a j, a ≠ n → a ≠ n + 1 → a ≠ n + 2 → a ≠ 12 → a ≠ 13 → a ≠ 14 → a ≠ 9 → a ≠ 10 → (a = 0 → j ≠ 9) → px_u Ia 0 9 (nI (tc + 1)) a j = I a j := fun a j g1 g2 g3 g4 g5 g6 g7 g8 g9 => by
      rw [u_ne g9, k2 a j g1 g2 g3 g4 g5 g6 (fun e => absurd e g7) (fun e => absurd e g8)]
    have f34 : ∀ j, px_u Ia 0 9 (nI (tc + 1)) 34 j = I 34 j := fun j => f1 34 j (by omega) (by omega) (by omega) (by omega) (by omega) (by omega) (by omega) (by omega) (by omega)
    have e34 : px_u Ia 0 9 (nI (tc + 1)) 34 = I 34 := funext f34
    have f31 : ∀ j, px_u Ia 0 9 (nI (tc + 1)) 31 j = I 31 j := fun j => f1 31 j (by omega) (by omega) (by omega) (by omega) (by omega) (by omega) (by omega) (by omega) (by omega)
    obtain ⟨I2, J2, m1, m2, m3, m4, m5, m6⟩ := m_text (D := d + 150) (n := n + 3) (q := q + 4 + (rd3 (I 11) tp).2.2.1.length + (rd3 (I 11) tp).2.2.1.length) (L := L) (so := so) (dr := px_u dr' 15 tc (some n)) (ds := ds') (J := px_z (px_z (px_z J n 0) (n + 1) 0) (n + 2) 0) (I := px_u Ia 0 9 (nI (tc + 1))) (by omega) tc6 p3 ((f31 3).trans t4) ((f31 6).trans p2) (fun j hj => by rw [f34]; exact (p4 j hj).2)
    rw [e34] at m1 m2
    obtain ⟨m1a, m1b⟩ := m1 (c4.symm.trans hok)
    have fI : ∀ a j, a ≠ n → a ≠ n + 1 → a ≠ n + 2 → a ≠ 12 → a ≠ 13 → a ≠ 14 → a ≠ 9 → a ≠ 10 → (a = 0 → j ≠ 9) → (a = 32 → j < 160 * tc ∨ 160 * tc + tp ≤ j) → (a = 33 → j ≠ tc) → (a = 31 → j ≠ 3 ∧ j ≠ 6 ∧ (j < 23 ∨ 31 < j)) → I2 a j = I a j := fun a j g1 g2 g3 g4 g5 g6 g7 g8 g9 g10 g11 g12 => by
      rw [m6 a j g10 g11 g12, f1 a j g1 g2 g3 g4 g5 g6 g7 g8 g9]
    have old := tIv.g4 (I' := I2) (R' := dR so (px_u dr' 15 tc (some n))) (S' := dS L ds') (n := n) ⟨t1, t2, t3, t4, t5⟩ (fun t ht => (h12 t ht).2) (fun t j ht hj => fI _ _ (by omega) (by omega) (by omega) (by omega) (by omega) (by omega) (by omega) (by omega) (by omega) (by omega) (by omega) (by omega)) (fun t ht => fI _ _ (by omega) (by omega) (by omega) (by omega) (by omega) (by omega) (by omega) (by omega) (by omega) (by omega) (by omega) (by omega)) (fun t j ht => by
      have := h12 t ht
      exact fI _ _ (by omega) (by omega) (by omega) (by omega) (by omega) (by omega) (by omega) (by omega) (by omega) (by omega) (by omega) (by omega)) (fun t j ht => by
      have := h12 t ht
      have := (t5 t ht).2.2.2.2.2.2.1
      exact fI _ _ (by omega) (by omega) (by omega) (by omega) (by omega) (by omega) (by omega) (by omega) (by omega) (by omega) (by omega) (by omega)) (fun t ht => fR _ _ (by omega) (by omega) (by omega) (by omega)) (fun t j ht => by
      have := h12 t ht
      exact fR _ _ (by omega) (by omega) (by omega) (by omega)) (fun a ha => fS0 a (by omega) (by omega) (by omega))
    refine ⟨px_u Ia 0 9 (nI (tc + 1)), px_z (px_z (px_z J n 0) (n + 1) 0) (n + 2) 0, I2, J2, nI tc, n + 3, q + 4 + (rd3 (I 11) tp).2.2.1.length + (rd3 (I 11) tp).2.2.1.length, px_u dr' 15 tc (some n), ds', tc + 1, 0, fun t => if t = tc then n else ta t, fun t => if t = tc then n + 1 else ua t, fun t => if t = tc then n + 2 else wa t, fun t => if t = tc then tp else tz t, by omega, by omega, ?_, m1a, by omega, h1.fr (fun a j g => ?_), ?_, ⟨by omega, by omega, ?_, m1b, fun t ht => ?_⟩, ⟨?_, m5, by omega, fun j hj => by omega⟩, ?_, h6.fr (fun a j g => ?_), fun a j g => ?_, by omega, hn3, fun i hi => ?_, h11, fun t ht => ?_⟩
    · unfold px_mt
      repeat refine e_s rfl ?_
      rw [t3]
      refine e_bt (nI_lt (b := 6) tc6 (by decide)) ?_
      repeat refine e_s rfl ?_
      refine e_c rfl k1 (by omega) ?_
      repeat refine e_s rfl ?_
      rw [e09]
      repeat refine e_s rfl ?_
      refine e_as (kx := 20) (lx := 4) rfl rfl sn rfl tc6 (by decide) ?_
      rw [dR_u (Or.inr rfl)]
      repeat refine e_s rfl ?_
      rw [e09, nI_1, show px_u Ia 0 9 (nI (tc + 1)) 0 9 = nI (tc + 1) from u_eq, nI_pred]
      exact e_r rfl
    · unfold hFt at g
      exact fI _ _ (by omega) (by omega) (by omega) (by omega) (by omega) (by omega) (by omega) (by omega) (by omega) (by omega) (by omega) (by omega)
    · refine ⟨h2.1, (fI _ _ (by omega) (by omega) (by omega) (by omega) (by omega) (by omega) (by omega) (by omega) (by omega) (by omega) (by omega) (by omega)).trans h2.2.1, (fI _ _ (by omega) (by omega) (by omega) (by omega) (by omega) (by omega) (by omega) (by omega) (by omega) (by omega) (by omega) (by omega)).trans h2.2.2.1, fun i hi => ?_⟩
      obtain ⟨g1, g2, g3, g4, g5, g6, g7, g8⟩ := h2.2.2.2 i hi
      obtain ⟨q1, q2⟩ := h10 i hi
      exact ⟨(fR _ _ (by omega) (by omega) (by omega) (by omega)).trans g1, (fS0 _ (by omega) (by omega) (by omega)).trans g2, g3, g4, (fI _ _ (by omega) (by omega) (by omega) (by omega) (by omega) (by omega) (by omega) (by omega) (by omega) (by omega) (by omega) (by omega)).trans g5, (fI _ _ (by omega) (by omega) (by omega) (by omega) (by omega) (by omega) (by omega) (by omega) (by omega) (by omega) (by omega) (by omega)).trans g6, (fI _ _ (by omega) (by omega) (by omega) (by omega) (by omega) (by omega) (by omega) (by omega) (by omega) (by omega) (by omega) (by omega)).trans g7, (fI _ _ (by omega) (by omega) (by omega) (by omega) (by omega) (by omega) (by omega) (by omega) (by omega) (by omega) (by omega) (by omega)).trans g8⟩
    · rw [m6 0 9 (by omega) (by omega) (by omega), u_eq]
    · show dR so _ 15 t = some (if t = tc then n else ta t) ∧ txOK I2 _ _ (if t = tc then n else ta t) (if t = tc then n + 1 else ua t) (if t = tc then n + 2 else wa t) (fun j => I2 32 (160 * t + j)) (if t = tc then tp else tz t) ∧ I2 33 t = nI (if t = tc then tp else tz t) ∧ (if t = tc then tp else tz t) ≤ 160 ∧ (∀ j, j < (if t = tc then tp else tz t) → 0 ≤ I2 32 (160 * t + j)) ∧ ((if t = tc then n + 2 else wa t) = 30 ∨ 49 ≤ (if t = tc then n + 2 else wa t)) ∧ ((if t = tc then n + 1 else ua t) = 29 ∨ 49 ≤ (if t = tc then n + 1 else ua t)) ∧ ∀ t', t' < tc + 1 → ¬ (if t' = tc then n + 1 else ua t') = (if t = tc then n + 2 else wa t)
      by_cases e : t = tc
      · subst e
        simp only [if_pos]
        refine ⟨?_, ?_, m4, p3, fun j hj => ?_, Or.inr (by omega), Or.inr (by omega), fun t' ht' => ?_⟩
        · rw [← dR_u (Or.inr rfl), u_eq]
        · have eb : ∀ j, j < tp → I 11 j = I2 32 (160 * t + j) := fun j hj => by
            rw [m3 j hj, f34, e1134 j hj]
          obtain ⟨x1, x2, x3, x4⟩ := rd_c eb
          unfold txOK
          rw [← x1, ← x2, ← x3, ← x4]
          refine ⟨sn, ?_, ?_, sn1, sn2, by omega, k13, ?_, ?_, fun j hj => ?_, hok⟩
          · rw [← dR_u (Or.inr rfl), u_ne (by omega), rn0]
          · rw [← dR_u (Or.inr rfl), u_ne (by omega), rn3]
          · rw [m6 n 1 (by omega) (by omega) (by omega), u_ne (by omega), k11]
          · rw [m6 n 2 (by omega) (by omega) (by omega), u_ne (by omega), k12]
          · rw [m6 (n + 1) j (by omega) (by omega) (by omega), u_ne (by omega), k14 j hj]
        · rw [m3 j hj, f34]
          exact (p4 j hj).2
        · by_cases e' : t' = t
          · rw [if_pos e']
            omega
          · rw [if_neg e']
            have := h12 t' (by omega)
            omega
      · simp only [if_neg e]
        obtain ⟨g1, g2, g3, g4, g5, g6, g7, g8⟩ := old t (by omega)
        refine ⟨g1, g2, g3, g4, g5, g6, g7, fun t' ht' => ?_⟩
        by_cases e' : t' = tc
        · rw [if_pos e']
          have := h12 t (by omega)
          omega
        · rw [if_neg e']
          exact g8 t' (by omega)
    · rw [m6 10 1 (by omega) (by omega) (by omega), u_ne (by omega), k5]
      rfl
    · have fk : ∀ a j, kFt a j → I2 a j = I a j := fun a j g => by
        unfold kFt at g
        exact fI _ _ (by omega) (by omega) (by omega) (by omega) (by omega) (by omega) (by omega) (by omega) (by omega) (by omega) (by omega) (by omega)
      refine kIv.fr ?_ fk
      rcases h5 with g | ⟨kc, kr, ks, y1, y2, y3⟩
      · exact Or.inl g
      · exact Or.inr ⟨kc, kr, ks, y1, by omega, y3⟩
    · unfold sFt at g
      exact fI _ _ (by omega) (by omega) (by omega) (by omega) (by omega) (by omega) (by omega) (by omega) (by omega) (by omega) (by omega) (by omega)
    · rw [fI _ _ (by omega) (by omega) (by omega) (by omega) (by omega) (by omega) (by omega) (by omega) (by omega) (by omega) (by omega) (by omega)]
      exact h7 a j g
    · have := h10 i hi
      omega
    · show ((if t = tc then n else ta t) = 28 ∨ 49 ≤ (if t = tc then n else ta t)) ∧ (if t = tc then n else ta t) < n + 3 ∧ (if t = tc then n + 1 else ua t) < n + 3 ∧ (if t = tc then n + 2 else wa t) < n + 3
      by_cases e : t = tc
      · rw [if_pos e, if_pos e, if_pos e]
        omega
      · rw [if_neg e, if_neg e, if_neg e]
        have := h12 t (by omega)
        omega
end PXTY
