/-! tells, on both sides -/
def tlS (B : Nat → Int32) (s : Int32) : Nat → Nat → Int32
  | 0, _ => -1
  | k + 1, g => if B g = -1 ∨ B g = s then tlS B s k (g + 1) else nI g
/-- what is heard, with one sign more -/
def hr1 (f : Nat → Int32) (sg g : Nat) (j : Nat) : Int32 := if j = sg then nI g else f j
section PXTL
variable {d D n q L cc tc rl sg tp c k : Nat} {so : Option Nat} {dr R : px_HR} {ds S : px_HS} {I I0 : px_HI} {J : px_HJ} {xs : Nat → Int32} {ca kd nb ta ua wa tz : Nat → Nat} {x y z v w : Int32}
theorem sup_c2 (h : Inv xs L so dr ds I0 n cc tc rl sg tp ca kd nb ta ua wa tz) (f : ∀ a j, ¬ sFp a j → (a = 31 → j < 17 ∨ 31 < j) → I a j = I0 a j) : cIv I (dR so dr) (dS L ds) cc ca kd nb := by
  obtain ⟨h0, h1, h2, h3, h4, h5, h6, h7, h8, h9, h10, h11, h12⟩ := h
  refine h2.g (fun i hi => (h10 i hi).1) (fun a j g => f a j ?_ ?_)
  · unfold cFt at g
    unfold sFp
    omega
  · unfold cFt at g
    omega
theorem sup_t2 (h : Inv xs L so dr ds I0 n cc tc rl sg tp ca kd nb ta ua wa tz) (f : ∀ a j, ¬ sFp a j → (a = 31 → j < 17 ∨ 31 < j) → I a j = I0 a j) : tIv I (dR so dr) (dS L ds) tc ta ua wa tz := by
  obtain ⟨h0, h1, h2, h3, h4, h5, h6, h7, h8, h9, h10, h11, h12⟩ := h
  refine h3.g (fun t ht => (h12 t ht).1) (fun a j g => f a j ?_ ?_)
  · unfold tFt at g
    unfold sFp
    omega
  · unfold tFt at g
    omega
theorem m_who {rl' sg' : Nat} (hT : tIv I (dR so dr) (dS L ds) tc ta ua wa tz) (hC : cIv I (dR so dr) (dS L ds) cc ca kd nb) (hr : I 31 4 = nI rl') (hrl : rl' < tc) (hg : I 31 16 = nI sg') (h6 : sg' ≤ 6) : ∃ I' J', px_mt (D + 83) 206 [.ref 31] I J (dR so dr) (dS L ds) n q (some (.int (bstW (gW I tz kd nb (I 31 7) (I 31 8) (I 31 9) (I 31 10) (I 31 11) rl' sg' (I 37)) cc)), I', J', dR so dr, dS L ds, n, q) ∧ mF3 I I' := by
  obtain ⟨I', J', k1, k2, k3, k4, k5, k6⟩ := r_gathers (D := D) (n := n) (q := q) (J0 := J) hT hC hr hrl hg h6
  refine ⟨I', J', ?_, k2⟩
  unfold px_mt
  repeat refine e_s rfl ?_
  refine e_c rfl k1 (by omega) ?_
  repeat refine e_s rfl ?_
  refine e_c rfl (r_likeliest (d := 0) ((k2 31 14 (fun _ => by omega)).trans hC.2.2.1) hC.1 k4) (by omega) ?_
  exact e_r rfl
theorem w_tlC (h : Inv xs L so dr ds I0 n cc tc rl sg tp ca kd nb ta ua wa tz) (h5 : sg < 6) (is : Int32) : ∀ k g (I : px_HI) (J : px_HJ) (x3 : Option Value), g + k = 4 → kpF wa tc I0 I → ∃ I' J', px_ev (d + 8) 106 34 [some (.ref 0), some (.int is), some (.int (nI g)), x3] [] I J (dR so dr) (dS L ds) n q (some (.int (tlS (fun g => bstW (gW I0 tz kd nb (I0 31 7) (I0 31 8) (I0 31 9) (I0 31 10) (I0 31 11) rl (sg + 1) (hr1 (I0 37) sg g)) cc) is k g)), I', J', dR so dr, dS L ds, n, q) ∧ kpF wa tc I0 I'
  | 0, g, I, J, x3, hg, hk => by
    refine ⟨I, J, ?_, hk⟩
    repeat refine e_s rfl ?_
    refine e_bt (nI_le (a := 4) (by omega) (by omega)) ?_
    repeat refine e_s rfl ?_
    exact e_r rfl
  | k + 1, g, I, J, x3, hg, hk => by
    have hh := h.keep hk
    obtain ⟨a1, a2, a3, a4, a5, a6, a7, a8, a9, a10, a11⟩ := hh.2.1
    obtain ⟨Ia, b1, b2, b3, b4⟩ := r_bec_4_2 (d := 0) (n := n) (q := q) (L := L) (so := so) (dr := dr) (ds := ds) (I := I) (J := J)
    have e46 : Ia 4 6 = nI sg := (b2 6 (by decide)).trans a8
    have fb : kpF wa tc I (px_u (px_u Ia 5 sg (nI g)) 4 6 (nI (sg + 1))) := fun a j q => by
      rw [u_ne (fun e => absurd (Or.inl e) q), u_ne (fun e => absurd (Or.inr (Or.inl e)) q)]
      exact b4 a j (fun e => q (Or.inl e)) (fun e => q (Or.inr (Or.inl e)))
    have hb := hh.keep fb
    obtain ⟨I1, J1, k1, k2, k3, k4, k5, k6, k7, k8⟩ := q_tho (d := 0) (q := q) (J := J) (rl' := rl) (sg' := sg + 1) hb h.1 ((u_ne (by decide)).trans ((u_ne (by omega)).trans ((b2 5 (by decide)).trans a6))) u_eq (by omega)
    have h1' := hb.keep k2
    obtain ⟨_, _, _, _, e32⟩ := mW_k h (hk.trans fb)
    have f31 : ∀ j, j < 12 → I 31 j = I0 31 j := fun j hj => hk.lo h (by omega) (by omega) (by omega) (by omega) (by omega) (by omega) (by omega)
    have f37 : ∀ j, I 37 j = I0 37 j := fun j => hk.lo h (by omega) (by omega) (by omega) (by omega) (by omega) (by omega) (by omega)
    have g4 : ∀ j, j < 6 → px_u (px_u Ia 5 sg (nI g)) 4 6 (nI (sg + 1)) 4 j = I 2 j := fun j hj => by
      rw [u_ne (fun _ => by omega), u_ne (by omega), b2 j (by omega)]
    have eW : gW (px_u (px_u Ia 5 sg (nI g)) 4 6 (nI (sg + 1))) tz kd nb (px_u (px_u Ia 5 sg (nI g)) 4 6 (nI (sg + 1)) 4 0) (px_u (px_u Ia 5 sg (nI g)) 4 6 (nI (sg + 1)) 4 1) (px_u (px_u Ia 5 sg (nI g)) 4 6 (nI (sg + 1)) 4 2) (px_u (px_u Ia 5 sg (nI g)) 4 6 (nI (sg + 1)) 4 3) (px_u (px_u Ia 5 sg (nI g)) 4 6 (nI (sg + 1)) 4 4) rl (sg + 1) (px_u (px_u Ia 5 sg (nI g)) 4 6 (nI (sg + 1)) 5) = gW I0 tz kd nb (I0 31 7) (I0 31 8) (I0 31 9) (I0 31 10) (I0 31 11) rl (sg + 1) (hr1 (I0 37) sg g) := by
      rw [g4 0 (by decide), g4 1 (by decide), g4 2 (by decide), g4 3 (by decide), g4 4 (by decide), a1, a2, a3, a4, a5, f31 7 (by decide), f31 8 (by decide), f31 9 (by decide), f31 10 (by decide), f31 11 (by decide)]
      refine gW_c e32 (fun j hj => ?_)
      unfold hr1
      rw [u_ne (by omega)]
      by_cases e : j = sg
      · subst e
        rw [u_eq, if_pos rfl]
      · rw [u_ne (fun _ => e), if_neg e, b3 j (by omega), a11 j (by omega), f37]
    rw [eW] at k5
    by_cases hB : bstW (gW I0 tz kd nb (I0 31 7) (I0 31 8) (I0 31 9) (I0 31 10) (I0 31 11) rl (sg + 1) (hr1 (I0 37) sg g)) cc = -1 ∨ bstW (gW I0 tz kd nb (I0 31 7) (I0 31 8) (I0 31 9) (I0 31 10) (I0 31 11) rl (sg + 1) (hr1 (I0 37) sg g)) cc = is
    · obtain ⟨I', J', r1, r2⟩ := w_tlC h h5 is k (g + 1) I1 J1 (some (.int (bstW (gW I0 tz kd nb (I0 31 7) (I0 31 8) (I0 31 9) (I0 31 10) (I0 31 11) rl (sg + 1) (hr1 (I0 37) sg g)) cc))) (by omega) ((hk.trans fb).trans k2)
      refine ⟨I', J', ?_, r2⟩
      unfold tlS
      rw [if_pos hB]
      repeat refine e_s rfl ?_
      refine e_bf (nI_ge (b := 4) (by omega) (by decide)) ?_
      repeat refine e_s rfl ?_
      refine e_c rfl b1 (by omega) ?_
      repeat refine e_s rfl ?_
      refine e_c rfl (r_sadd_4 (d := 0) e46 h5) (by omega) ?_
      repeat refine e_s rfl ?_
      refine e_c rfl k1 (by omega) ?_
      repeat refine e_s rfl ?_
      refine e_c rfl (r_heaviest (d := 0) h1'.2.2.1.2.1 h1'.2.2.1.1 k5) (by omega) ?_
      refine e_s rfl ?_
      refine e_s rfl ?_
      refine e_s rfl ?_
      refine e_s rfl ?_
      by_cases hB1 : bstW (gW I0 tz kd nb (I0 31 7) (I0 31 8) (I0 31 9) (I0 31 10) (I0 31 11) rl (sg + 1) (hr1 (I0 37) sg g)) cc = -1
      · refine e_bt hB1 ?_
        refine e_s rfl ?_
        refine e_s rfl ?_
        rw [nI_1]
        exact r1
      · refine e_bf hB1 ?_
        refine e_s rfl ?_
        refine e_s rfl ?_
        refine e_s rfl ?_
        refine e_bt (hB.resolve_left hB1) ?_
        refine e_s rfl ?_
        refine e_s rfl ?_
        rw [nI_1]
        exact r1
    · refine ⟨I1, J1, ?_, (hk.trans fb).trans k2⟩
      unfold tlS
      rw [if_neg hB]
      repeat refine e_s rfl ?_
      refine e_bf (nI_ge (b := 4) (by omega) (by decide)) ?_
      repeat refine e_s rfl ?_
      refine e_c rfl b1 (by omega) ?_
      repeat refine e_s rfl ?_
      refine e_c rfl (r_sadd_4 (d := 0) e46 h5) (by omega) ?_
      repeat refine e_s rfl ?_
      refine e_c rfl k1 (by omega) ?_
      repeat refine e_s rfl ?_
      refine e_c rfl (r_heaviest (d := 0) h1'.2.2.1.2.1 h1'.2.2.1.1 k5) (by omega) ?_
      refine e_s rfl ?_
      refine e_s rfl ?_
      refine e_s rfl ?_
      refine e_s rfl ?_
      refine e_bf (fun e => hB (Or.inl e)) ?_
      refine e_s rfl ?_
      refine e_s rfl ?_
      refine e_s rfl ?_
      refine e_bf (fun e => hB (Or.inr e)) ?_
      repeat refine e_s rfl ?_
      exact e_r rfl
theorem w_tlM (h : Inv xs L so dr ds I0 n cc tc rl sg tp ca kd nb ta ua wa tz) (h5 : sg < 6) (is : Int32) : ∀ k g (I : px_HI) (J : px_HJ) (x4 x5 : Option Value), g + k = 4 → (∀ a j, (a = 31 → (j < 17 ∨ 31 < j) ∧ j ≠ 16) → I a j = I0 a j) → I 31 16 = nI (sg + 1) → ∃ I' J', px_ev (D + 84) 214 35 [some (.ref 31), some (.int is), some (.int (-1)), some (.int (nI g)), x4, x5] [] I J (dR so dr) (dS L ds) n q (some (.int (tlS (fun g => bstW (gW I0 tz kd nb (I0 31 7) (I0 31 8) (I0 31 9) (I0 31 10) (I0 31 11) rl (sg + 1) (hr1 (I0 37) sg g)) cc) is k g)), I', J', dR so dr, dS L ds, n, q) ∧ ∀ a j, (a = 31 → j < 17 ∨ 31 < j) → I' a j = I0 a j
  | 0, g, I, J, x4, x5, hg, hk, h16 => by
    refine ⟨px_u I 31 16 (nI sg), J, ?_, fun a j q => ?_⟩
    · repeat refine e_s rfl ?_
      refine e_bt (nI_le (a := 4) (by omega) (by omega)) ?_
      repeat refine e_s rfl ?_
      rw [h16, nI_pred]
      exact e_r rfl
    · by_cases e : a = 31 ∧ j = 16
      · obtain ⟨rfl, rfl⟩ := e
        rw [u_eq]
        exact h.2.1.2.2.2.2.2.2.2.2.1.symm
      · rw [u_ne (fun e1 e2 => e ⟨e1, e2⟩), hk a j (fun e1 => ⟨q e1, fun e2 => e ⟨e1, e2⟩⟩)]
  | k + 1, g, I, J, x4, x5, hg, hk, h16 => by
    have sup : ∀ a j, ¬ sFp a j → (a = 31 → j < 17 ∨ 31 < j) → px_u I 37 sg (nI g) a j = I0 a j := fun a j q1 q2 => by
      unfold sFp at q1
      rw [u_ne (by omega), hk a j (fun e => ⟨q2 e, by omega⟩)]
    have hC := sup_c2 h sup
    have hT := sup_t2 h sup
    have f31 : ∀ j, j < 16 → I 31 j = I0 31 j := fun j hj => hk 31 j (fun _ => ⟨by omega, by omega⟩)
    obtain ⟨I1, J1, k1, k2⟩ := m_who (D := D) (n := n) (q := q) (J := J) (I := px_u I 37 sg (nI g)) (rl' := rl) (sg' := sg + 1) hT hC ((f31 4 (by decide)).trans h.2.1.2.2.2.2.2.2.1) h.1 h16 (by omega)
    have eW : gW (px_u I 37 sg (nI g)) tz kd nb (px_u I 37 sg (nI g) 31 7) (px_u I 37 sg (nI g) 31 8) (px_u I 37 sg (nI g) 31 9) (px_u I 37 sg (nI g) 31 10) (px_u I 37 sg (nI g) 31 11) rl (sg + 1) (px_u I 37 sg (nI g) 37) = gW I0 tz kd nb (I0 31 7) (I0 31 8) (I0 31 9) (I0 31 10) (I0 31 11) rl (sg + 1) (hr1 (I0 37) sg g) := by
      rw [show px_u I 37 sg (nI g) 31 7 = I0 31 7 from f31 7 (by decide), show px_u I 37 sg (nI g) 31 8 = I0 31 8 from f31 8 (by decide), show px_u I 37 sg (nI g) 31 9 = I0 31 9 from f31 9 (by decide), show px_u I 37 sg (nI g) 31 10 = I0 31 10 from f31 10 (by decide), show px_u I 37 sg (nI g) 31 11 = I0 31 11 from f31 11 (by decide)]
      refine gW_c (fun j => (u_ne (by omega)).trans (hk 32 j (by omega))) (fun j hj => ?_)
      unfold hr1
      by_cases e : j = sg
      · subst e
        rw [u_eq, if_pos rfl]
      · rw [u_ne (fun _ => e), if_neg e, hk 37 j (by omega)]
    rw [eW] at k1
    have g16 : I1 31 16 = nI (sg + 1) := (k2 31 16 (fun _ => by omega)).trans h16
    have fr : ∀ a j, (a = 31 → (j < 17 ∨ 31 < j) ∧ j ≠ 16) → px_u I1 37 sg (I 37 sg) a j = I0 a j := fun a j q => by
      by_cases e : a = 37 ∧ j = sg
      · obtain ⟨rfl, rfl⟩ := e
        rw [u_eq, hk 37 j (by omega)]
      · rw [u_ne (fun e1 e2 => e ⟨e1, e2⟩), k2 a j (fun e1 => (q e1).1), u_ne (fun e1 e2 => e ⟨e1, e2⟩), hk a j q]
    have head : ∀ r, px_ev (D + 84) 214 89 [some (.ref 31), some (.int is), some (.int (-1)), some (.int (nI g)), some (.int (I 37 sg)), some (.int (bstW (gW I0 tz kd nb (I0 31 7) (I0 31 8) (I0 31 9) (I0 31 10) (I0 31 11) rl (sg + 1) (hr1 (I0 37) sg g)) cc))] [] (px_u I1 37 sg (I 37 sg)) J1 (dR so dr) (dS L ds) n q r → px_ev (D + 84) 214 35 [some (.ref 31), some (.int is), some (.int (-1)), some (.int (nI g)), x4, x5] [] I J (dR so dr) (dS L ds) n q r := by
      intro r kk
      repeat refine e_s rfl ?_
      refine e_bf (nI_ge (b := 4) (by omega) (by decide)) ?_
      repeat refine e_s rfl ?_
      rw [h16, nI_pred]
      refine e_ia rfl rfl rfl h5 (by decide) ?_
      repeat refine e_s rfl ?_
      rw [h16, nI_pred]
      refine e_is rfl rfl rfl h5 (by decide) ?_
      repeat refine e_s rfl ?_
      refine e_c rfl k1 (by omega) ?_
      repeat refine e_s rfl ?_
      rw [g16, nI_pred]
      refine e_is rfl rfl rfl h5 (by decide) ?_
      exact kk
    by_cases hB : bstW (gW I0 tz kd nb (I0 31 7) (I0 31 8) (I0 31 9) (I0 31 10) (I0 31 11) rl (sg + 1) (hr1 (I0 37) sg g)) cc = -1 ∨ bstW (gW I0 tz kd nb (I0 31 7) (I0 31 8) (I0 31 9) (I0 31 10) (I0 31 11) rl (sg + 1) (hr1 (I0 37) sg g)) cc = is
    · obtain ⟨I', J', r1, r2⟩ := w_tlM h h5 is k (g + 1) (px_u I1 37 sg (I 37 sg)) J1 (some (.int (I 37 sg))) (some (.int (bstW (gW I0 tz kd nb (I0 31 7) (I0 31 8) (I0 31 9) (I0 31 10) (I0 31 11) rl (sg + 1) (hr1 (I0 37) sg g)) cc))) (by omega) fr ((u_ne (by omega)).trans g16)
      refine ⟨I', J', ?_, r2⟩
      unfold tlS
      rw [if_pos hB]
      refine head _ ?_
      refine e_s rfl ?_
      refine e_s rfl ?_
      refine e_s rfl ?_
      by_cases hB1 : bstW (gW I0 tz kd nb (I0 31 7) (I0 31 8) (I0 31 9) (I0 31 10) (I0 31 11) rl (sg + 1) (hr1 (I0 37) sg g)) cc = -1
      · refine e_bt hB1 ?_
        refine e_s rfl ?_
        refine e_s rfl ?_
        rw [nI_1]
        exact r1
      · refine e_bf hB1 ?_
        refine e_s rfl ?_
        refine e_s rfl ?_
        refine e_s rfl ?_
        refine e_bt (hB.resolve_left hB1) ?_
        refine e_s rfl ?_
        refine e_s rfl ?_
        rw [nI_1]
        exact r1
    · refine ⟨px_u (px_u I1 37 sg (I 37 sg)) 31 16 (nI sg), J1, ?_, fun a j q => ?_⟩
      · unfold tlS
        rw [if_neg hB]
        refine head _ ?_
        refine e_s rfl ?_
        refine e_s rfl ?_
        refine e_s rfl ?_
        refine e_bf (fun e => hB (Or.inl e)) ?_
        refine e_s rfl ?_
        refine e_s rfl ?_
        refine e_s rfl ?_
        refine e_bf (fun e => hB (Or.inr e)) ?_
        refine e_s rfl ?_
        refine e_s rfl ?_
        refine e_s rfl ?_
        refine e_s rfl ?_
        refine e_s rfl ?_
        refine e_s rfl ?_
        refine e_s rfl ?_
        have fin : px_ev (D + 84) 214 109 [some (.ref 31), some (.int is), some (.int (nI g)), some (.int (nI g + 1)), some (.int (I 37 sg)), some (.int (bstW (gW I0 tz kd nb (I0 31 7) (I0 31 8) (I0 31 9) (I0 31 10) (I0 31 11) rl (sg + 1) (hr1 (I0 37) sg g)) cc))] [] (px_u I1 37 sg (I 37 sg)) J1 (dR so dr) (dS L ds) n q (some (.int (nI g)), px_u (px_u I1 37 sg (I 37 sg)) 31 16 (nI sg), J1, dR so dr, dS L ds, n, q) := by
          repeat refine e_s rfl ?_
          rw [u_ne (by omega), g16, nI_pred]
          exact e_r rfl
        refine e_b (fun _ => fin) (fun _ => ?_)
        refine e_s rfl ?_
        refine e_s rfl ?_
        refine e_s rfl ?_
        refine e_bt (fun e => ?_) fin
        have := nI_pos (n := g) (by omega)
        rw [e] at this
        exact this (by decide)
      · by_cases e : a = 31 ∧ j = 16
        · obtain ⟨rfl, rfl⟩ := e
          rw [u_eq]
          exact h.2.1.2.2.2.2.2.2.2.2.1.symm
        · rw [u_ne (fun e1 e2 => e ⟨e1, e2⟩), fr a j (fun e1 => ⟨q e1, fun e2 => e ⟨e1, e2⟩⟩)]
theorem o_tells (h : Inv xs L so dr ds I n cc tc rl sg tp ca kd nb ta ua wa tz) : ∃ I1 J1 I2 J2 v, px_mt (D + 84) 106 [.ref 0] I J (dR so dr) (dS L ds) n q (some (.int v), I1, J1, dR so dr, dS L ds, n, q) ∧ px_mt (D + 84) 214 [.ref 31] I1 J1 (dR so dr) (dS L ds) n q (some (.int v), I2, J2, dR so dr, dS L ds, n, q) ∧ Inv xs L so dr ds I2 n cc tc rl sg tp ca kd nb ta ua wa tz := by
  obtain ⟨I1, J1, k1, k2, k3, k4, k5, k6⟩ := q_now (d := 0) (q := q) (J := J) h
  have h' := h.keep k2
  by_cases hn : bstW (mW I tz kd nb rl sg) cc = -1 ∨ sg = 6
  · obtain ⟨I2, J2, m1, m2⟩ := m_who (D := D) (n := n) (q := q) (J := J1) h'.2.2.2.1 h'.2.2.1 h'.2.1.2.2.2.2.2.2.1 h'.1 h'.2.1.2.2.2.2.2.2.2.2.1 h'.2.1.2.2.2.2.2.2.2.2.2.1
    have ew := (mW_k h k2).1
    unfold mW at ew
    rw [ew] at m1
    refine ⟨I1, J1, I2, J2, -1, ?_, ?_, h'.keep (mF3_k m2)⟩
    · unfold px_mt
      repeat refine e_s rfl ?_
      refine e_c rfl k1 (by omega) ?_
      repeat refine e_s rfl ?_
      refine e_c rfl (r_heaviest (d := 0) h'.2.2.1.2.1 h'.2.2.1.1 k3) (by omega) ?_
      refine e_s rfl ?_
      refine e_s rfl ?_
      refine e_s rfl ?_
      refine e_s rfl ?_
      by_cases hB : bstW (mW I tz kd nb rl sg) cc = -1
      · refine e_bt hB ?_
        repeat refine e_s rfl ?_
        exact e_r rfl
      · refine e_bf hB ?_
        repeat refine e_s rfl ?_
        rw [h'.2.1.2.2.2.2.2.2.2.1, hn.resolve_left hB]
        repeat refine e_s rfl ?_
        exact e_r rfl
    · unfold px_mt
      refine e_s rfl ?_
      refine e_c rfl m1 (by omega) ?_
      refine e_s rfl ?_
      refine e_s rfl ?_
      refine e_s rfl ?_
      refine e_s rfl ?_
      by_cases hB : bstW (mW I tz kd nb rl sg) cc = -1
      · refine e_bt hB ?_
        repeat refine e_s rfl ?_
        exact e_r rfl
      · refine e_bf hB ?_
        repeat refine e_s rfl ?_
        rw [m2 31 16 (fun _ => by omega), h'.2.1.2.2.2.2.2.2.2.2.1, hn.resolve_left hB]
        repeat refine e_s rfl ?_
        exact e_r rfl
  · have s6 : sg < 6 := by
      have := h.2.1.2.2.2.2.2.2.2.2.2.1
      omega
    obtain ⟨I2, J2, c1, c2⟩ := w_tlC (d := D + 76) (q := q) h s6 (bstW (mW I tz kd nb rl sg) cc) 4 0 I1 J1 none (by omega) k2
    have h2' := h.keep c2
    obtain ⟨I3, J3, m1, m2⟩ := m_who (D := D) (n := n) (q := q) (J := J2) h2'.2.2.2.1 h2'.2.2.1 h2'.2.1.2.2.2.2.2.2.1 h2'.1 h2'.2.1.2.2.2.2.2.2.2.2.1 h2'.2.1.2.2.2.2.2.2.2.2.2.1
    have ew := (mW_k h c2).1
    unfold mW at ew
    rw [ew] at m1
    have h3' := h2'.keep (mF3_k m2)
    have f3 : kpF wa tc I I3 := c2.trans (mF3_k m2)
    have e16 : I3 31 16 = nI sg := h3'.2.1.2.2.2.2.2.2.2.2.1
    obtain ⟨I4, J4, p1, p2⟩ := w_tlM (D := D) (q := q) h3' s6 (bstW (mW I tz kd nb rl sg) cc) 4 0 (px_u I3 31 16 (nI (sg + 1))) J3 none none (by omega) (fun a j q => u_ne (fun e => (q e).2)) u_eq
    have eW : ∀ g, gW I3 tz kd nb (I3 31 7) (I3 31 8) (I3 31 9) (I3 31 10) (I3 31 11) rl (sg + 1) (hr1 (I3 37) sg g) = gW I tz kd nb (I 31 7) (I 31 8) (I 31 9) (I 31 10) (I 31 11) rl (sg + 1) (hr1 (I 37) sg g) := fun g => by
      have e : ∀ j, j < 12 → I3 31 j = I 31 j := fun j hj => f3.lo h (by omega) (by omega) (by omega) (by omega) (by omega) (by omega) (by omega)
      rw [e 7 (by omega), e 8 (by omega), e 9 (by omega), e 10 (by omega), e 11 (by omega)]
      refine gW_c (fun j => f3.lo h (by omega) (by omega) (by omega) (by omega) (by omega) (by omega) (by omega)) (fun j hj => ?_)
      unfold hr1
      rw [f3.lo h (a := 37) (by omega) (by omega) (by omega) (by omega) (by omega) (by omega) (by omega)]
    simp only [eW] at p1
    refine ⟨I2, J2, I4, J4, tlS (fun g => bstW (gW I tz kd nb (I 31 7) (I 31 8) (I 31 9) (I 31 10) (I 31 11) rl (sg + 1) (hr1 (I 37) sg g)) cc) (bstW (mW I tz kd nb rl sg) cc) 4 0, ?_, ?_, h3'.keep (mF3_k p2)⟩
    rotate_left
    · unfold px_mt
      refine e_s rfl ?_
      refine e_c rfl m1 (by omega) ?_
      refine e_s rfl ?_
      refine e_s rfl ?_
      refine e_s rfl ?_
      refine e_s rfl ?_
      refine e_bf (fun e => hn (Or.inl e)) ?_
      repeat refine e_s rfl ?_
      rw [e16]
      refine e_bt (fun e => hn (Or.inr ((nI_eq (b := 6) (by omega) (by decide)).mp e))) ?_
      refine e_s rfl ?_
      refine e_s rfl ?_
      refine e_s rfl ?_
      refine e_s rfl ?_
      refine e_s rfl ?_
      rw [e16]
      refine e_s rfl ?_
      refine e_s rfl ?_
      rw [nI_1]
      refine e_s rfl ?_
      refine e_s rfl ?_
      refine e_s rfl ?_
      exact p1
    · unfold px_mt
      repeat refine e_s rfl ?_
      refine e_c rfl k1 (by omega) ?_
      repeat refine e_s rfl ?_
      refine e_c rfl (r_heaviest (d := 0) h'.2.2.1.2.1 h'.2.2.1.1 k3) (by omega) ?_
      refine e_s rfl ?_
      refine e_s rfl ?_
      refine e_s rfl ?_
      refine e_s rfl ?_
      refine e_bf (fun e => hn (Or.inl e)) ?_
      repeat refine e_s rfl ?_
      rw [h'.2.1.2.2.2.2.2.2.2.1]
      refine e_bt (nI_lt (b := 6) s6 (by decide)) ?_
      refine e_s rfl ?_
      refine e_s rfl ?_
      exact c1
end PXTL
