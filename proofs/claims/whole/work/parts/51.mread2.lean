/-! THE MODEL: read() -/
def mFr2 (I I' : px_HI) (J J' : px_HJ) : Prop := (∀ a j, (a = 31 → j < 23 ∨ 31 < j) → I' a j = I a j) ∧ ∀ a j, (a = 31 → j ≠ 28) → J' a j = J a j
theorem mFr.two {I I' : px_HI} {J J' : px_HJ} (h : mFr I I' J J') : mFr2 I I' J J' := ⟨fun a j g => h.1 a j (fun e => by have := g e; omega), h.2⟩
theorem mFr2.trans {I I' I2 : px_HI} {J J' J2 : px_HJ} (h : mFr2 I I' J J') (g : mFr2 I' I2 J' J2) : mFr2 I I2 J J2 := ⟨fun a j e => (g.1 a j e).trans (h.1 a j e), fun a j e => (g.2 a j e).trans (h.2 a j e)⟩
theorem mFr2.u {I I' : px_HI} {J J' : px_HJ} {k : Nat} {x : Int32} (h : mFr2 I I' J J') (hk : 23 ≤ k) (hk2 : k ≤ 31) : mFr2 I (px_u I' 31 k x) J J' := ⟨fun a j e => by rw [u_ne (fun g => by have := e g; omega)]; exact h.1 a j e, h.2⟩
def mE (I : px_HI) : pE := nmE (I 31 17) (I 31 18) (I 31 19) (I 31 20) (I 31 21) (I 31 22)
def rdV (b : Nat → Int32) (z wh : Nat) (e : pE) : Int32 := if wh = 0 then (rd1 b z).2.2.2 e else if wh = 1 then (rd2 b z).2.2.2 e else (rd3 b z).2.2.2 e
section PXM6
variable {D n q L : Nat} {so : Option Nat} {I : px_HI} {J : px_HJ} {dr : px_HR} {ds : px_HS} {b : Nat → Int32} {z fr p t wh : Nat} {e : pE}
theorem rs_tail {y x1 x2 x3 : Int32} (hw : wh ≤ 2) : px_ev (D + 1) 155 146 [some (.ref 31), some (.int y), some (.int (nI wh)), some (.int x1), some (.int x2), some (.int x3)] [] I J (dR so dr) (dS L ds) n q (some (.int (if wh = 0 then x1 else if wh = 1 then x2 else x3)), I, J, dR so dr, dS L ds, n, q) := by
  repeat refine e_s rfl ?_
  by_cases h0 : wh = 0
  · rw [if_pos h0]
    refine e_bf (fun g => g (by rw [h0]; rfl)) ?_
    repeat refine e_s rfl ?_
    exact e_r rfl
  · rw [if_neg h0]
    refine e_bt (nI_ne0 (by omega) (by omega)) ?_
    repeat refine e_s rfl ?_
    by_cases h1 : wh = 1
    · rw [if_pos h1]
      refine e_bf (fun g => g (by rw [h1]; rfl)) ?_
      repeat refine e_s rfl ?_
      exact e_r rfl
    · rw [if_neg h1]
      refine e_bt (fun g => h1 ((nI_eq (b := 1) (by omega) (by omega)).mp g)) ?_
      repeat refine e_s rfl ?_
      exact e_r rfl
theorem mk_0 {b : Nat → Int32} {z p : Nat} : mkd b z p = 0 ↔ tkc b z p = -22 := by
  rcases tk_cases b z p with ⟨_, h1, h2⟩ | ⟨hp, h1, _, h2⟩ | ⟨hp, h1, V, hV, h2⟩ | ⟨hp, h1, h2, h3⟩ | ⟨hp, h1, h2⟩
  · rw [h1, h2]; decide
  · rw [h1]
    refine ⟨fun g => absurd g (by decide), fun g => ?_⟩
    rcases wc_cases b p (tke b z p) with ⟨j, hj1, hj2, _, hw⟩ | ⟨_, hw⟩
    · rw [h2, hw] at g
      exact absurd g (wcd_23 j (by omega) hj1).2.1
    · rw [h2, hw] at g
      exact absurd g (by decide)
  · rw [h1]
    refine ⟨fun g => absurd g (by decide), fun g => ?_⟩
    rw [h2] at g
    have := nI_pos (n := V) (by omega)
    rw [g] at this
    exact absurd (by decide) this
  · rw [h1]
    refine ⟨fun g => absurd g (by decide), fun g => ?_⟩
    rw [h2] at g
    exact absurd g (mci_m h3).2.2
  · rw [h1, h2]; decide
theorem r_readM (hD : 70 ≤ D) (ht : t < 6) (hw : wh ≤ 2) (hz : I 33 t = nI z) (h160 : z ≤ 160) (hb : ∀ j, j < z → 0 ≤ I 32 (160 * t + j)) : ∃ I' J' x, px_mt D 155 [.ref 31, .int (nI t), .int (nI wh)] I J (dR so dr) (dS L ds) n q (some (.int x), I', J', dR so dr, dS L ds, n, q) ∧ mFr2 I I' J J' ∧ (rdOK (fun j => I 32 (160 * t + j)) z = true → I' 31 30 = 0 ∧ x = rdV (fun j => I 32 (160 * t + j)) z wh (mE I)) ∧ (rdOK (fun j => I 32 (160 * t + j)) z = false → I' 31 30 = 1 ∧ I' 31 31 = nI (rd3 (fun j => I 32 (160 * t + j)) z).2.1) := by
  obtain ⟨D, rfl⟩ : ∃ x, D = x + 5 := ⟨D - 5, by omega⟩
  have hB0 : mB (px_u (px_u (px_u (px_u (px_u I 31 23 (nI (160 * t))) 31 24 (nI z)) 31 25 0) 31 29 0) 31 30 0) (fun j => I 32 (160 * t + j)) z (160 * t) := ⟨rfl, rfl, h160, by omega, fun j _ => rfl, hb⟩
  have hF0 : mFr2 I (px_u (px_u (px_u (px_u (px_u I 31 23 (nI (160 * t))) 31 24 (nI z)) 31 25 0) 31 29 0) 31 30 0) J J := ((((((mFr.refl I J).two.u (by decide) (by decide)).u (by decide) (by decide)).u (by decide) (by decide)).u (by decide) (by decide)).u (by decide) (by decide))
  obtain ⟨I1, J1, hr1, hf1, hk1, hs1⟩ := r_next (D := D) (J := J) (n := n) (q := q) (so := so) (dr := dr) (L := L) (ds := ds) hB0 (h := 0) rfl (Nat.zero_le _)
  have hi1 : mI I1 J1 (fun j => I 32 (160 * t + j)) z (160 * t) 0 (pos (fun j => I 32 (160 * t + j)) z 0) (mE I) := by
    refine ⟨hB0.fr hf1, hs1, hk1 30 (by decide), hk1 29 (by decide), ?_⟩
    rw [hf1.1 31 17 (fun _ => by omega), hf1.1 31 18 (fun _ => by omega), hf1.1 31 19 (fun _ => by omega), hf1.1 31 20 (fun _ => by omega), hf1.1 31 21 (fun _ => by omega), hf1.1 31 22 (fun _ => by omega)]
    rfl
  have hF1 := hF0.trans hf1.two
  generalize hbb : (fun j => I 32 (160 * t + j)) = b at *
  have hgo : ∀ r, px_ev (D + 5) 155 38 [some (.ref 31), some (.int (nI t)), some (.int (nI wh)), none, none, none] [] I1 J1 (dR so dr) (dS L ds) n q r → px_mt (D + 5) 155 [.ref 31, .int (nI t), .int (nI wh)] I J (dR so dr) (dS L ds) n q r := by
    intro r k
    unfold px_mt
    refine e_s rfl ?_
    refine e_s rfl ?_
    refine e_s rfl ?_
    refine e_s rfl ?_
    rw [show (160 : Int32) * nI t = nI (160 * t) from pk_mul 160 t]
    repeat refine e_s rfl ?_
    refine e_ia rfl rfl rfl ht (by decide) ?_
    rw [show px_u I 31 23 (nI (160 * t)) 33 t = nI z from hz]
    repeat refine e_s rfl ?_
    refine e_c rfl hr1 (by omega) ?_
    exact k
  obtain ⟨I2, J2, x1, hr2, hf2, hs2⟩ := r_partM (D := D + 4) (n := n) (q := q) (so := so) (dr := dr) (L := L) (ds := ds) (W := -16) (acc := []) (by omega) hi1 (by decide) (by decide)
  rw [show pPart b z (-16) (pos b z 0) [] = rd1 b z from rfl] at hs2
  have e2 : rd2 b z = pTh (rd1 b z) (fun p a _ => pPart b z (-17) p a) := rfl
  have e3 : rd3 b z = pTh (rd2 b z) (fun p a _ => pPart b z (-18) p a) := rfl
  have hgo2 : ∀ r, px_ev (D + 5) 155 60 [some (.ref 31), some (.int (nI t)), some (.int (nI wh)), some (.int x1), none, none] [] I2 J2 (dR so dr) (dS L ds) n q r → px_mt (D + 5) 155 [.ref 31, .int (nI t), .int (nI wh)] I J (dR so dr) (dS L ds) n q r := by
    intro r k
    refine hgo r ?_
    repeat refine e_s rfl ?_
    refine e_c rfl (r_word (D := D) (k := 10) (m := 2) (by decide) (by decide) (by decide) hi1.1 hi1.2.1 hi1.2.2.1) (by omega) ?_
    refine e_c rfl hr2 (by omega) ?_
    refine e_s rfl ?_
    exact k
  unfold rdOK rdV
  have hF2 := hF1.trans hf2.two
  rcases h1 : rd1 b z with ⟨o1, p1, a1, v1⟩
  rw [h1] at hs2 e2
  cases o1
  · obtain ⟨g1, g2⟩ := hs2
    have e2' : rd2 b z = (false, p1, a1, v1) := e2
    rw [e2'] at e3
    have e3' : rd3 b z = (false, p1, a1, v1) := e3
    rw [e3']
    refine ⟨I2, J2, if wh = 0 then x1 else if wh = 1 then 0 else 0, hgo2 _ ?_, hF2, (fun h => by cases h), fun _ => ⟨g1, g2⟩⟩
    repeat refine e_s rfl ?_
    rw [g1]
    repeat refine e_s rfl ?_
    rw [g1]
    repeat refine e_s rfl ?_
    rw [g1]
    exact rs_tail hw
  obtain ⟨hi2, hx1⟩ := hs2
  obtain ⟨I3, J3, x2, hr3, hf3, hs3⟩ := r_partM (D := D + 4) (n := n) (q := q) (so := so) (dr := dr) (L := L) (ds := ds) (W := -17) (acc := a1) (by omega) hi2 (by decide) (by decide)
  have e2' : rd2 b z = pPart b z (-17) p1 a1 := e2
  rw [← e2'] at hs3
  have hF3 := hF2.trans hf3.two
  have hgo3 : ∀ r, px_ev (D + 5) 155 94 [some (.ref 31), some (.int (nI t)), some (.int (nI wh)), some (.int x1), some (.int x2), none] [] I3 J3 (dR so dr) (dS L ds) n q r → px_mt (D + 5) 155 [.ref 31, .int (nI t), .int (nI wh)] I J (dR so dr) (dS L ds) n q r := by
    intro r k
    refine hgo2 r ?_
    repeat refine e_s rfl ?_
    rw [hi2.2.2.1]
    repeat refine e_s rfl ?_
    refine e_c rfl (r_word (D := D) (k := 11) (m := 2) (by decide) (by decide) (by decide) hi2.1 hi2.2.1 hi2.2.2.1) (by omega) ?_
    refine e_c rfl hr3 (by omega) ?_
    refine e_s rfl ?_
    exact k
  rcases h2 : rd2 b z with ⟨o2, p2, a2, v2⟩
  rw [h2] at hs3 e3
  cases o2
  · obtain ⟨g1, g2⟩ := hs3
    have e3' : rd3 b z = (false, p2, a2, v2) := e3
    rw [e3']
    refine ⟨I3, J3, if wh = 0 then x1 else if wh = 1 then x2 else 0, hgo3 _ ?_, hF3, (fun h => by cases h), fun _ => ⟨g1, g2⟩⟩
    repeat refine e_s rfl ?_
    rw [g1]
    repeat refine e_s rfl ?_
    rw [g1]
    exact rs_tail hw
  obtain ⟨hi3, hx2⟩ := hs3
  obtain ⟨I4, J4, x3, hr4, hf4, hs4⟩ := r_partM (D := D + 4) (n := n) (q := q) (so := so) (dr := dr) (L := L) (ds := ds) (W := -18) (acc := a2) (by omega) hi3 (by decide) (by decide)
  have e3' : rd3 b z = pPart b z (-18) p2 a2 := e3
  rw [← e3'] at hs4
  have hF4 := hF3.trans hf4.two
  have hgo4 : ∀ r, px_ev (D + 5) 155 128 [some (.ref 31), some (.int (nI t)), some (.int (nI wh)), some (.int x1), some (.int x2), some (.int x3)] [] I4 J4 (dR so dr) (dS L ds) n q r → px_mt (D + 5) 155 [.ref 31, .int (nI t), .int (nI wh)] I J (dR so dr) (dS L ds) n q r := by
    intro r k
    refine hgo3 r ?_
    repeat refine e_s rfl ?_
    rw [hi3.2.2.1]
    repeat refine e_s rfl ?_
    refine e_c rfl (r_word (D := D) (k := 12) (m := 2) (by decide) (by decide) (by decide) hi3.1 hi3.2.1 hi3.2.2.1) (by omega) ?_
    refine e_c rfl hr4 (by omega) ?_
    refine e_s rfl ?_
    exact k
  rcases h3 : rd3 b z with ⟨o3, p3, a3, v3⟩
  rw [h3] at hs4
  cases o3
  · obtain ⟨g1, g2⟩ := hs4
    refine ⟨I4, J4, if wh = 0 then x1 else if wh = 1 then x2 else x3, hgo4 _ ?_, hF4, (fun h => by cases h), fun _ => ⟨g1, g2⟩⟩
    refine e_s rfl ?_
    refine e_s rfl ?_
    refine e_s rfl ?_
    rw [g1]
    exact rs_tail hw
  obtain ⟨hi4, hx3⟩ := hs4
  by_cases hE : tkc b z p3 = -22
  · refine ⟨I4, J4, if wh = 0 then x1 else if wh = 1 then x2 else x3, hgo4 _ ?_, hF4, fun _ => ⟨hi4.2.2.1, by rw [hx1, hx2, hx3]⟩, fun h => ?_⟩
    · refine e_s rfl ?_
      refine e_s rfl ?_
      refine e_s rfl ?_
      rw [hi4.2.2.1]
      refine e_s rfl ?_
      refine e_s rfl ?_
      refine e_s rfl ?_
      rw [hi4.2.1.2.1, mk_0.mpr hE]
      exact rs_tail hw
    · simp only [Bool.true_and] at h
      exact absurd hE (of_decide_eq_false h)
  · refine ⟨px_u (px_u I4 31 30 1) 31 31 (nI p3), J4, if wh = 0 then x1 else if wh = 1 then x2 else x3, hgo4 _ ?_, hF4.trans fl_fr.two, fun h => ?_, fun _ => ⟨rfl, rfl⟩⟩
    · refine e_s rfl ?_
      refine e_s rfl ?_
      refine e_s rfl ?_
      rw [hi4.2.2.1]
      refine e_s rfl ?_
      refine e_s rfl ?_
      refine e_s rfl ?_
      rw [hi4.2.1.2.1]
      refine e_bf (fun g => hE (mk_0.mp g)) ?_
      refine e_s rfl ?_
      refine e_c rfl (r_failM (D := D) hi4.2.2.1 hi4.2.1.2.2.1) (by omega) ?_
      exact rs_tail hw
    · simp only [Bool.true_and] at h
      exact absurd (of_decide_eq_true h) hE
end PXM6
