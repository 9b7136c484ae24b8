/-! laws, on both sides -/
section PXLW
variable {d D n q L cc tc rl sg tp c k : Nat} {so : Option Nat} {dr R : px_HR} {ds S : px_HS} {I I0 : px_HI} {J : px_HJ} {xs : Nat → Int32} {ca kd nb ta ua wa tz : Nat → Nat} {x y z v w : Int32}
theorem w_lwC (h : Inv xs L so dr ds I0 n cc tc rl sg tp ca kd nb ta ua wa tz) : ∀ k t (a : Int32) (I : px_HI) (J : px_HJ), t + k = tc → kpF wa tc I0 I → (∀ j, j < 7 → j ≠ 5 → I 4 j = I0 2 j) → (∀ j, j < 6 → I 5 j = I0 3 j) → ∃ I' J', px_ev (d + 8) 123 31 [some (.ref 0), some (.int x), some (.int a), some (.int (nI t))] [] I J (dR so dr) (dS L ds) n q (some (.int (btS (fun t => decide (bstW (gW I0 tz kd nb (I0 31 7) (I0 31 8) (I0 31 9) (I0 31 10) (I0 31 11) t sg (I0 37)) cc = x)) k t a)), I', J', dR so dr, dS L ds, n, q) ∧ kpF wa tc I0 I'
  | 0, t, a, I, J, ht, hk, g4, g5 => by
    have h09 := (h.keep hk).2.2.2.1.2.2.1
    have t6 := h.2.2.2.1.2.1
    refine ⟨I, J, ?_, hk⟩
    repeat refine e_s rfl ?_
    rw [h09]
    refine e_bt (nI_le (by omega) (by omega)) ?_
    repeat refine e_s rfl ?_
    exact e_r rfl
  | k + 1, t, a, I, J, ht, hk, g4, g5 => by
    have h09 := (h.keep hk).2.2.2.1.2.2.1
    have t6 := h.2.2.2.1.2.1
    obtain ⟨a1, a2, a3, a4, a5, a6, a7, a8, a9, a10, a11⟩ := h.2.1
    have fb : kpF wa tc I (px_u I 4 5 (nI t)) := fun a j q => u_ne (fun e => absurd (Or.inl e) q)
    have hb := (h.keep hk).keep fb
    obtain ⟨I1, J1, k1, k2, k3, k4, k5, k6, k7, k8⟩ := q_tho (d := 0) (q := q) (J := J) (rl' := t) (sg' := sg) hb (by omega) u_eq ((u_ne (by decide)).trans ((g4 6 (by decide) (by decide)).trans a8)) a10
    have h1' := hb.keep k2
    obtain ⟨_, _, _, _, e32⟩ := mW_k h (hk.trans fb)
    have c4 : ∀ j, j < 5 → px_u I 4 5 (nI t) 4 j = I0 2 j := fun j hj => by
      rw [u_ne (fun _ => by omega), g4 j (by omega) (by omega)]
    have eW : gW (px_u I 4 5 (nI t)) tz kd nb (px_u I 4 5 (nI t) 4 0) (px_u I 4 5 (nI t) 4 1) (px_u I 4 5 (nI t) 4 2) (px_u I 4 5 (nI t) 4 3) (px_u I 4 5 (nI t) 4 4) t sg (px_u I 4 5 (nI t) 5) = gW I0 tz kd nb (I0 31 7) (I0 31 8) (I0 31 9) (I0 31 10) (I0 31 11) t sg (I0 37) := by
      rw [c4 0 (by decide), c4 1 (by decide), c4 2 (by decide), c4 3 (by decide), c4 4 (by decide), a1, a2, a3, a4, a5]
      exact gW_c e32 (fun j hj => (u_ne (by omega)).trans ((g5 j (by omega)).trans (a11 j (by omega))))
    rw [eW] at k5
    have hk1 := (hk.trans fb).trans k2
    have head : ∀ r, px_ev (d + 8) 123 59 [some (.ref 0), some (.int x), some (.int a), some (.int (nI t))] [.int (bstW (gW I0 tz kd nb (I0 31 7) (I0 31 8) (I0 31 9) (I0 31 10) (I0 31 11) t sg (I0 37)) cc)] I1 J1 (dR so dr) (dS L ds) n q r → px_ev (d + 8) 123 31 [some (.ref 0), some (.int x), some (.int a), some (.int (nI t))] [] I J (dR so dr) (dS L ds) n q r := by
      intro r kk
      repeat refine e_s rfl ?_
      rw [h09]
      refine e_bf (nI_ge (by omega) (by omega)) ?_
      repeat refine e_s rfl ?_
      refine e_c rfl k1 (by omega) ?_
      repeat refine e_s rfl ?_
      refine e_c rfl (r_heaviest (d := 0) h1'.2.2.1.2.1 h1'.2.2.1.1 k5) (by omega) ?_
      exact kk
    have n4 : ∀ j, j < 7 → j ≠ 5 → I1 4 j = I0 2 j := fun j hj hj5 => by
      rw [k3 j, u_ne (fun _ => hj5), g4 j hj hj5]
    have n5 : ∀ j, j < 6 → I1 5 j = I0 3 j := fun j hj => by
      rw [k4 j, u_ne (by omega), g5 j hj]
    unfold btS
    by_cases hB : bstW (gW I0 tz kd nb (I0 31 7) (I0 31 8) (I0 31 9) (I0 31 10) (I0 31 11) t sg (I0 37)) cc = x
    · rw [decide_eq_true hB]
      obtain ⟨I', J', r1, r2⟩ := w_lwC h k (t + 1) (a ||| ((1 : Int32) <<< (nI t &&& 31))) I1 J1 (by omega) hk1 n4 n5
      refine ⟨I', J', head _ ?_, r2⟩
      refine e_s rfl ?_
      refine e_s rfl ?_
      refine e_bf (fun g => g hB) ?_
      refine e_s rfl ?_
      refine e_s rfl ?_
      refine e_s rfl ?_
      refine e_s rfl ?_
      refine e_s rfl ?_
      refine e_s rfl ?_
      refine e_s rfl ?_
      refine e_s rfl ?_
      rw [nI_1]
      exact r1
    · rw [decide_eq_false hB]
      obtain ⟨I', J', r1, r2⟩ := w_lwC h k (t + 1) a I1 J1 (by omega) hk1 n4 n5
      refine ⟨I', J', head _ ?_, r2⟩
      refine e_s rfl ?_
      refine e_s rfl ?_
      refine e_bt hB ?_
      refine e_s rfl ?_
      refine e_s rfl ?_
      rw [nI_1]
      exact r1
theorem w_lwM (h : Inv xs L so dr ds I0 n cc tc rl sg tp ca kd nb ta ua wa tz) : ∀ k t (a : Int32) (I : px_HI) (J : px_HJ), t + k = tc → (∀ a j, (a = 31 → (j < 17 ∨ 31 < j) ∧ j ≠ 4) → I a j = I0 a j) → I 31 4 = nI t → ∃ I' J', px_ev (D + 84) 225 28 [some (.ref 31), some (.int x), some (.int (nI rl)), some (.int a)] [] I J (dR so dr) (dS L ds) n q (some (.int (btS (fun t => decide (bstW (gW I0 tz kd nb (I0 31 7) (I0 31 8) (I0 31 9) (I0 31 10) (I0 31 11) t sg (I0 37)) cc = x)) k t a)), I', J', dR so dr, dS L ds, n, q) ∧ ∀ a j, (a = 31 → j < 17 ∨ 31 < j) → I' a j = I0 a j
  | 0, t, a, I, J, ht, hk, h4 => by
    have t6 := h.2.2.2.1.2.1
    have h3 : I 31 3 = nI tc := (hk 31 3 (by omega)).trans h.2.2.2.1.2.2.2.1
    refine ⟨px_u I 31 4 (nI rl), J, ?_, fun a j q => ?_⟩
    · repeat refine e_s rfl ?_
      rw [h4, h3]
      refine e_bt (nI_le (by omega) (by omega)) ?_
      repeat refine e_s rfl ?_
      exact e_r rfl
    · by_cases e : a = 31 ∧ j = 4
      · obtain ⟨rfl, rfl⟩ := e
        rw [u_eq]
        exact h.2.1.2.2.2.2.2.2.1.symm
      · rw [u_ne (fun e1 e2 => e ⟨e1, e2⟩), hk a j (fun e1 => ⟨q e1, fun e2 => e ⟨e1, e2⟩⟩)]
  | k + 1, t, a, I, J, ht, hk, h4 => by
    have t6 := h.2.2.2.1.2.1
    have h3 : I 31 3 = nI tc := (hk 31 3 (by omega)).trans h.2.2.2.1.2.2.2.1
    have sup : ∀ a j, ¬ sFp a j → (a = 31 → j < 17 ∨ 31 < j) → I a j = I0 a j := fun a j q1 q2 => by
      unfold sFp at q1
      exact hk a j (fun e => ⟨q2 e, by omega⟩)
    have hC := sup_c2 h sup
    have hT := sup_t2 h sup
    have f31 : ∀ j, 7 ≤ j → j ≤ 16 → I 31 j = I0 31 j := fun j hj hj2 => hk 31 j (fun _ => ⟨by omega, by omega⟩)
    obtain ⟨I1, J1, k1, k2⟩ := m_who (D := D) (n := n) (q := q) (J := J) (I := I) (rl' := t) (sg' := sg) hT hC h4 (by omega) ((f31 16 (by decide) (by decide)).trans h.2.1.2.2.2.2.2.2.2.2.1) h.2.1.2.2.2.2.2.2.2.2.2.1
    have eW : gW I tz kd nb (I 31 7) (I 31 8) (I 31 9) (I 31 10) (I 31 11) t sg (I 37) = gW I0 tz kd nb (I0 31 7) (I0 31 8) (I0 31 9) (I0 31 10) (I0 31 11) t sg (I0 37) := by
      rw [f31 7 (by decide) (by decide), f31 8 (by decide) (by decide), f31 9 (by decide) (by decide), f31 10 (by decide) (by decide), f31 11 (by decide) (by decide)]
      exact gW_c (fun j => hk 32 j (by omega)) (fun j hj => hk 37 j (by omega))
    rw [eW] at k1
    have g4 : I1 31 4 = nI t := (k2 31 4 (fun _ => by omega)).trans h4
    have fr : ∀ a j, (a = 31 → (j < 17 ∨ 31 < j) ∧ j ≠ 4) → px_u I1 31 4 (nI (t + 1)) a j = I0 a j := fun a j q => by
      rw [u_ne (fun e => (q e).2), k2 a j (fun e => (q e).1), hk a j q]
    have head : ∀ r, px_ev (D + 84) 225 44 [some (.ref 31), some (.int x), some (.int (nI rl)), some (.int a)] [.int (bstW (gW I0 tz kd nb (I0 31 7) (I0 31 8) (I0 31 9) (I0 31 10) (I0 31 11) t sg (I0 37)) cc), .int a] I1 J1 (dR so dr) (dS L ds) n q r → px_ev (D + 84) 225 28 [some (.ref 31), some (.int x), some (.int (nI rl)), some (.int a)] [] I J (dR so dr) (dS L ds) n q r := by
      intro r kk
      repeat refine e_s rfl ?_
      rw [h4, h3]
      refine e_bf (nI_ge (by omega) (by omega)) ?_
      repeat refine e_s rfl ?_
      refine e_c rfl k1 (by omega) ?_
      exact kk
    unfold btS
    by_cases hB : bstW (gW I0 tz kd nb (I0 31 7) (I0 31 8) (I0 31 9) (I0 31 10) (I0 31 11) t sg (I0 37)) cc = x
    · rw [decide_eq_true hB]
      obtain ⟨I', J', r1, r2⟩ := w_lwM h k (t + 1) (a ||| ((1 : Int32) <<< (nI t &&& 31))) (px_u I1 31 4 (nI (t + 1))) J1 (by omega) fr u_eq
      refine ⟨I', J', head _ ?_, r2⟩
      refine e_s rfl ?_
      refine e_s rfl ?_
      refine e_bf (fun g => g hB) ?_
      refine e_s rfl ?_
      refine e_s rfl ?_
      refine e_s rfl ?_
      refine e_s rfl ?_
      rw [g4]
      refine e_s rfl ?_
      refine e_s rfl ?_
      refine e_s rfl ?_
      refine e_s rfl ?_
      refine e_s rfl ?_
      refine e_s rfl ?_
      rw [g4]
      refine e_s rfl ?_
      refine e_s rfl ?_
      rw [nI_1]
      refine e_s rfl ?_
      refine e_s rfl ?_
      exact r1
    · rw [decide_eq_false hB]
      obtain ⟨I', J', r1, r2⟩ := w_lwM h k (t + 1) a (px_u I1 31 4 (nI (t + 1))) J1 (by omega) fr u_eq
      refine ⟨I', J', head _ ?_, r2⟩
      refine e_s rfl ?_
      refine e_s rfl ?_
      refine e_bt hB ?_
      refine e_s rfl ?_
      refine e_s rfl ?_
      refine e_s rfl ?_
      rw [g4]
      refine e_s rfl ?_
      refine e_s rfl ?_
      rw [or_sh]
      refine e_s rfl ?_
      refine e_s rfl ?_
      refine e_s rfl ?_
      refine e_s rfl ?_
      rw [g4]
      refine e_s rfl ?_
      refine e_s rfl ?_
      rw [nI_1]
      refine e_s rfl ?_
      refine e_s rfl ?_
      exact r1
theorem o_laws (h : Inv xs L so dr ds I n cc tc rl sg tp ca kd nb ta ua wa tz) : ∃ I1 J1 I2 J2 v, px_mt (D + 84) 123 [.ref 0, .int x] I J (dR so dr) (dS L ds) n q (some (.int v), I1, J1, dR so dr, dS L ds, n, q) ∧ px_mt (D + 84) 225 [.ref 31, .int x] I1 J1 (dR so dr) (dS L ds) n q (some (.int v), I2, J2, dR so dr, dS L ds, n, q) ∧ Inv xs L so dr ds I2 n cc tc rl sg tp ca kd nb ta ua wa tz := by
  have c7 := h.2.2.1.1
  have go : (x = -1 ∨ ∃ i, i < cc ∧ x = nI i) → ∃ I1 J1 I2 J2 v, px_mt (D + 84) 123 [.ref 0, .int x] I J (dR so dr) (dS L ds) n q (some (.int v), I1, J1, dR so dr, dS L ds, n, q) ∧ px_mt (D + 84) 225 [.ref 31, .int x] I1 J1 (dR so dr) (dS L ds) n q (some (.int v), I2, J2, dR so dr, dS L ds, n, q) ∧ Inv xs L so dr ds I2 n cc tc rl sg tp ca kd nb ta ua wa tz := by
    intro hx
    obtain ⟨Ia, b1, b2, b3, b4⟩ := r_bec_4_2 (d := 0) (n := n) (q := q) (L := L) (so := so) (dr := dr) (ds := ds) (I := I) (J := J)
    have fb : kpF wa tc I Ia := fun a j g => b4 a j (fun e => g (Or.inl e)) (fun e => g (Or.inr (Or.inl e)))
    obtain ⟨I1, J1, c1, c2⟩ := w_lwC (d := D + 76) (q := q) (x := x) h tc 0 0 Ia J (by omega) fb (fun j hj _ => b2 j hj) b3
    have h' := h.keep c2
    obtain ⟨I2, J2, m1, m2⟩ := w_lwM (D := D) (q := q) (x := x) h' tc 0 0 (px_u I1 31 4 0) J1 (by omega) (fun a j q => u_ne (fun e => (q e).2)) u_eq
    have eW : ∀ t, gW I1 tz kd nb (I1 31 7) (I1 31 8) (I1 31 9) (I1 31 10) (I1 31 11) t sg (I1 37) = gW I tz kd nb (I 31 7) (I 31 8) (I 31 9) (I 31 10) (I 31 11) t sg (I 37) := fun t => by
      have e : ∀ j, j < 12 → I1 31 j = I 31 j := fun j hj => c2.lo h (by omega) (by omega) (by omega) (by omega) (by omega) (by omega) (by omega)
      rw [e 7 (by omega), e 8 (by omega), e 9 (by omega), e 10 (by omega), e 11 (by omega)]
      exact gW_c (fun j => c2.lo h (by omega) (by omega) (by omega) (by omega) (by omega) (by omega) (by omega)) (fun j hj => c2.lo h (by omega) (by omega) (by omega) (by omega) (by omega) (by omega) (by omega))
    simp only [eW] at m1
    refine ⟨I1, J1, I2, J2, btS (fun t => decide (bstW (gW I tz kd nb (I 31 7) (I 31 8) (I 31 9) (I 31 10) (I 31 11) t sg (I 37)) cc = x)) tc 0 0, ?_, ?_, h'.keep (mF3_k m2)⟩
    · have tail : px_ev (D + 84) 123 16 [some (.ref 0), some (.int x), none, none] [] I J (dR so dr) (dS L ds) n q (some (.int (btS (fun t => decide (bstW (gW I tz kd nb (I 31 7) (I 31 8) (I 31 9) (I 31 10) (I 31 11) t sg (I 37)) cc = x)) tc 0 0)), I1, J1, dR so dr, dS L ds, n, q) := by
        repeat refine e_s rfl ?_
        refine e_c rfl b1 (by omega) ?_
        refine e_s rfl ?_
        refine e_s rfl ?_
        refine e_s rfl ?_
        refine e_s rfl ?_
        exact c1
      unfold px_mt
      refine e_s rfl ?_
      refine e_s rfl ?_
      refine e_s rfl ?_
      by_cases e : x = -1
      · refine e_bt e ?_
        exact tail
      · obtain ⟨i, hi, rfl⟩ := hx.resolve_left e
        refine e_bf e ?_
        repeat refine e_s rfl ?_
        refine e_c rfl (r_callerAt (d := 0) h.2.2.1 hi) (by omega) ?_
        refine e_s rfl ?_
        exact tail
    · have e4 : I1 31 4 = nI rl := h'.2.1.2.2.2.2.2.2.1
      have tail : px_ev (D + 84) 225 16 [some (.ref 31), some (.int x), none, none] [] I1 J1 (dR so dr) (dS L ds) n q (some (.int (btS (fun t => decide (bstW (gW I tz kd nb (I 31 7) (I 31 8) (I 31 9) (I 31 10) (I 31 11) t sg (I 37)) cc = x)) tc 0 0)), I2, J2, dR so dr, dS L ds, n, q) := by
        refine e_s rfl ?_
        refine e_s rfl ?_
        rw [e4]
        refine e_s rfl ?_
        refine e_s rfl ?_
        refine e_s rfl ?_
        refine e_s rfl ?_
        refine e_s rfl ?_
        refine e_s rfl ?_
        exact m1
      unfold px_mt
      refine e_s rfl ?_
      refine e_s rfl ?_
      refine e_s rfl ?_
      by_cases e : x = -1
      · refine e_bt e ?_
        exact tail
      · obtain ⟨i, hi, rfl⟩ := hx.resolve_left e
        refine e_bf e ?_
        repeat refine e_s rfl ?_
        refine e_c rfl (r_isOne (d := 0) h'.2.2.1.2.2.1 c7) (by omega) ?_
        rw [in_k hi (by omega)]
        refine e_s rfl ?_
        exact tail
  by_cases e : x = -1
  · exact go (Or.inl e)
  · rcases ix_or (x := x) (k := cc) (by omega) with g | g
    · refine ⟨I, J, I, J, -2, ?_, ?_, h⟩
      · unfold px_mt
        repeat refine e_s rfl ?_
        refine e_bf e ?_
        repeat refine e_s rfl ?_
        refine e_c rfl (r_callerNo (d := 0) h.2.2.1 g) (by omega) ?_
        repeat refine e_s rfl ?_
        exact e_r rfl
      · unfold px_mt
        repeat refine e_s rfl ?_
        refine e_bf e ?_
        repeat refine e_s rfl ?_
        refine e_c rfl (r_isOne (d := 0) h.2.2.1.2.2.1 c7) (by omega) ?_
        rw [out_k g]
        repeat refine e_s rfl ?_
        exact e_r rfl
    · exact go (Or.inr g)
end PXLW
