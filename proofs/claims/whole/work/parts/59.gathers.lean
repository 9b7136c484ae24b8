/-! reckon() of the class as a call; gathers() of the model -/
section PXK3
variable {d n q L sc hs sg rl tc cc : Nat} {so : Option Nat} {dr : px_HR} {ds : px_HS} {ta ua wa tz ca kd nb : Nat → Nat} {I0 : px_HI} {J0 : px_HJ}
theorem r_reckon (hT : tIv I0 (dR so dr) (dS L ds) tc ta ua wa tz) (hC : cIv I0 (dR so dr) (dS L ds) cc ca kd nb) (hS : dS L ds sc = (17, 8)) (hR : dR so dr sc 7 = some hs) (hH : dS L ds hs = (100, 6)) (hsc : 0 < sc) (hsc2 : sc < 10) (hhs : 0 < hs) (hhs2 : hs < 10) (hr : I0 sc 5 = nI rl) (hrl : rl < tc) (hg : I0 sc 6 = nI sg) (h6 : sg ≤ 6) : ∃ I' J', px_mt (d + 7) 83 [.ref 0, .ref sc] I0 J0 (dR so dr) (dS L ds) n q (none, I', J', dR so dr, dS L ds, n, q) ∧ rkF (wa rl) I0 I' ∧ rkJ J0 J' ∧ (∀ t, t < cc → J' 17 t = gW I0 tz kd nb (I0 sc 0) (I0 sc 1) (I0 sc 2) (I0 sc 3) (I0 sc 4) rl sg (I0 hs) t) ∧ (∀ t, t < cc → I' 18 t = gX I0 tz kd (I0 sc 0) (I0 sc 1) (I0 sc 2) rl sg t) ∧ J' 0 13 = gA (gW I0 tz kd nb (I0 sc 0) (I0 sc 1) (I0 sc 2) (I0 sc 3) (I0 sc 4) rl sg (I0 hs)) cc ∧ I' 0 14 = clp 0 99 (tV I0 tz rl 2 (nmE (I0 sc 0) (I0 sc 1) 0 (I0 sc 2) (nI sg) 0)) := by
  obtain ⟨I', J', h1, h2, h3, rest⟩ := w_rk (d := d) (n := n) (q := q) (J0 := px_u J0 0 13 0) hT hC hS hR hH hsc hsc2 hhs hhs2 hr hrl hg h6 cc 0 I0 (px_u J0 0 13 0) none (by omega) (fun _ _ _ _ _ => rfl) (fun _ _ _ _ => rfl) (fun t ht => absurd ht (by omega)) (fun t ht => absurd ht (by omega)) u_eq
  refine ⟨I', J', ?_, h2, fun a j g1 g2 => by rw [h3 a j g1 g2, u_ne g2], rest⟩
  unfold px_mt
  refine e_s rfl ?_
  refine e_s rfl ?_
  refine e_s rfl ?_
  refine e_s rfl ?_
  refine e_s rfl ?_
  exact h1
end PXK3
theorem tIv.fr3 {I I' : px_HI} {J J' : px_HJ} {so : Option Nat} {dr : px_HR} {L : Nat} {ds : px_HS} {tc : Nat} {ta ua wa tz : Nat → Nat} (h : tIv I (dR so dr) (dS L ds) tc ta ua wa tz) (f : mFr3 I I' J J') : tIv I' (dR so dr) (dS L ds) tc ta ua wa tz := by
  obtain ⟨h1, h2, h3, h4, h5⟩ := h
  have e32 : ∀ j, I' 32 j = I 32 j := fun j => f.1 32 j (fun e => absurd e (by decide))
  refine ⟨h1, h2, (f.1 0 9 (fun e => absurd e (by decide))).trans h3, (f.1 31 3 (fun _ => by omega)).trans h4, fun t ht => ?_⟩
  obtain ⟨g1, g2, g3, g4, g5, g6, g7, g8⟩ := h5 t ht
  have eb : (fun j => I' 32 (160 * t + j)) = fun j => I 32 (160 * t + j) := funext (fun j => e32 _)
  refine ⟨g1, ?_, (f.1 33 t (fun e => absurd e (by decide))).trans g3, g4, fun j hj => by rw [e32]; exact g5 j hj, g6, g7, g8⟩
  rw [eb]
  obtain ⟨k1, k2, k3, k4, k5, k6, k7, k8, k9, k10, k11⟩ := g2
  have ne3 : ¬ ta t = 31 := fun e => by
    rw [e] at k1
    have := (Prod.mk.inj (show SH 31 = (20, 4) from k1)).1
    revert this
    decide
  exact ⟨k1, k2, k3, k4, k5, k6, k7, (f.1 (ta t) 1 (fun e => absurd e ne3)).trans k8, (f.1 (ta t) 2 (fun e => absurd e ne3)).trans k9, fun j hj => (f.1 (ua t) j (fun e => by omega)).trans (k10 j hj), k11⟩
theorem cIv.fr3 {I I' : px_HI} {J J' : px_HJ} {so : Option Nat} {dr : px_HR} {L : Nat} {ds : px_HS} {cc : Nat} {ca kd nb : Nat → Nat} (h : cIv I (dR so dr) (dS L ds) cc ca kd nb) (f : mFr3 I I' J J') : cIv I' (dR so dr) (dS L ds) cc ca kd nb := by
  obtain ⟨h1, h2, h3, h4⟩ := h
  refine ⟨h1, (f.1 0 1 (fun e => absurd e (by decide))).trans h2, (f.1 31 14 (fun _ => by omega)).trans h3, fun i hi => ?_⟩
  obtain ⟨g1, g2, g3, g4, g5, g6, g7, g8⟩ := h4 i hi
  have hcl : 10 ≤ cls (kd i) ∧ cls (kd i) ≤ 15 := by unfold cls; split <;> decide
  have ne3 : ¬ ca i = 31 := fun e => by
    rw [e] at g2
    have := (Prod.mk.inj (show SH 31 = (cls (kd i), 2) from g2)).1
    omega
  exact ⟨g1, g2, g3, g4, (f.1 _ 0 (fun e => absurd e ne3)).trans g5, (f.1 _ 1 (fun e => absurd e ne3)).trans g6, (f.1 35 i (fun e => absurd e (by decide))).trans g7, (f.1 36 i (fun e => absurd e (by decide))).trans g8⟩
def gaJ (J J' : px_HJ) : Prop := ∀ a j, (a = 31 → j ≠ 28 ∧ j ≠ 34) → a ≠ 38 → a ≠ 39 → J' a j = J a j
def mF3 (I I' : px_HI) : Prop := ∀ a j, (a = 31 → j < 17 ∨ 31 < j) → I' a j = I a j
section PXG1
variable {D n q L sg rl tc cc : Nat} {so : Option Nat} {dr : px_HR} {ds : px_HS} {ta ua wa tz ca kd nb : Nat → Nat} {I0 : px_HI} {J0 : px_HJ} {r : Option Value × px_G}
theorem w_gin {I : px_HI} {J : px_HJ} {i : Nat} {k0 n0 : Nat} (hk : k0 ≤ 5) (hi : i < 7) (hK : I 35 i = nI k0) (hN : I 36 i = nI n0) (hg : I 31 16 = nI sg) (h6 : sg ≤ 6) : ∀ k t (w : Int64), t + k = sg → px_ev (D + 2) 203 70 [some (.ref 31), some (.int (nI i)), some (.long (wFd k0 (nI n0) (I 37) k t w)), none, some (.int (nI sg))] [] I J (dR so dr) (dS L ds) n q r → px_ev (D + 2) 203 37 [some (.ref 31), some (.int (nI i)), some (.long w), none, some (.int (nI t))] [] I J (dR so dr) (dS L ds) n q r
  | 0, t, w, ht, kk => by
    have e : t = sg := by omega
    subst e
    repeat refine e_s rfl ?_
    rw [hg]
    refine e_bt (nI_le (Nat.le_refl _) (by omega)) ?_
    exact kk
  | k + 1, t, w, ht, kk => by
    repeat refine e_s rfl ?_
    rw [hg]
    refine e_bf (nI_ge (by omega) (by omega)) ?_
    repeat refine e_s rfl ?_
    refine e_ia rfl rfl rfl (show t < 6 by omega) (by decide) ?_
    refine e_s rfl ?_
    have hs := r_sndM (D := D) (n := n) (q := q) (so := so) (dr := dr) (L := L) (ds := ds) (I := I) (J := J) (g := I 37 t) (i := nI t) hk hi hK
    rw [hN] at hs
    refine e_c rfl hs (by omega) ?_
    refine e_s rfl ?_
    refine e_s rfl ?_
    refine e_s rfl ?_
    refine e_s rfl ?_
    refine e_s rfl ?_
    rw [nI_1]
    exact w_gin hk hi hK hN hg h6 k (t + 1) _ (by omega) kk
theorem w_ga (hT : tIv I0 (dR so dr) (dS L ds) tc ta ua wa tz) (hC : cIv I0 (dR so dr) (dS L ds) cc ca kd nb) (hr : I0 31 4 = nI rl) (hrl : rl < tc) (hg : I0 31 16 = nI sg) (h6 : sg ≤ 6) : ∀ k i (I : px_HI) (J : px_HJ) (x2 x4 : Option Value), i + k = cc → mF3 I0 I → gaJ J0 J → (∀ t, t < i → J 38 t = gW I0 tz kd nb (I0 31 7) (I0 31 8) (I0 31 9) (I0 31 10) (I0 31 11) rl sg (I0 37) t) → (∀ t, t < i → J 39 t = (gX I0 tz kd (I0 31 7) (I0 31 8) (I0 31 9) rl sg t).toInt64) → J 31 34 = gA (gW I0 tz kd nb (I0 31 7) (I0 31 8) (I0 31 9) (I0 31 10) (I0 31 11) rl sg (I0 37)) i → ∃ I' J', px_ev (D + 82) 203 7 [some (.ref 31), some (.int (nI i)), x2, none, x4] [] I J (dR so dr) (dS L ds) n q (none, I', J', dR so dr, dS L ds, n, q) ∧ mF3 I0 I' ∧ gaJ J0 J' ∧ (∀ t, t < cc → J' 38 t = gW I0 tz kd nb (I0 31 7) (I0 31 8) (I0 31 9) (I0 31 10) (I0 31 11) rl sg (I0 37) t) ∧ (∀ t, t < cc → J' 39 t = (gX I0 tz kd (I0 31 7) (I0 31 8) (I0 31 9) rl sg t).toInt64) ∧ J' 31 34 = gA (gW I0 tz kd nb (I0 31 7) (I0 31 8) (I0 31 9) (I0 31 10) (I0 31 11) rl sg (I0 37)) cc := by
  intro k
  induction k with
  | zero =>
    intro i I J x2 x4 hi hf hj hW hX hA
    have hic : i = cc := by omega
    subst hic
    refine ⟨I, J, ?_, hf, hj, hW, hX, hA⟩
    repeat refine e_s rfl ?_
    rw [show I 31 14 = nI i from (hf 31 14 (fun _ => by omega)).trans hC.2.2.1]
    refine e_bt (nI_le (Nat.le_refl _) (by have := hC.1; omega)) ?_
    exact e_r rfl
  | succ k ih =>
    intro i I J x2 x4 hi hf hj hW hX hA
    have hic : i < cc := by omega
    have hi7 : i < 7 := by have := hC.1; omega
    have F1 : mFr3 I0 I J J := ⟨hf, fun _ _ _ => rfl⟩
    have hT1 := hT.fr3 F1
    have hC1 := hC.fr3 F1
    obtain ⟨_, _, c3, c4, _, _, c7, c8⟩ := hC1.2.2.2 i hic
    have hE : ∀ j, j < 17 → I 31 j = I0 31 j := fun j hj => hf 31 j (fun _ => Or.inl hj)
    have e32 : ∀ j, I 32 j = I0 32 j := fun j => hf 32 j (fun e => absurd e (by decide))
    obtain ⟨I1, J1, hr1, hf1⟩ := r_says0 (D := D + 81) (n := n) (q := q) (J := J) (x := I 31 7) (by omega) hT1 (by rw [hE 4 (by decide)]; exact hr) hrl hi7
    rw [hE 7 (by decide), hE 8 (by decide), hE 9 (by decide), hE 16 (by decide), hg, c7, tV_fr e32] at hr1
    have hfI1 : mF3 I0 I1 := fun a j g => (hf1.1 a j g).trans (hf a j g)
    have F2 : mFr3 I0 I1 J J := ⟨hfI1, fun _ _ _ => rfl⟩
    have hT2 := hT.fr3 F2
    have hC2 := hC.fr3 F2
    obtain ⟨_, _, _, _, _, _, d7, d8⟩ := hC2.2.2.2 i hic
    have hE1 : ∀ j, j < 17 → I1 31 j = I0 31 j := fun j hj => hfI1 31 j (fun _ => Or.inl hj)
    have e321 : ∀ j, I1 32 j = I0 32 j := fun j => hfI1 32 j (fun e => absurd e (by decide))
    have e37 : I1 37 = I0 37 := funext (fun j => hfI1 37 j (fun e => absurd e (by decide)))
    obtain ⟨I2, J2, hr2, hf2⟩ := r_says1 (D := D + 81) (n := n) (q := q) (J := px_u J1 38 i (gW I0 tz kd nb (I0 31 7) (I0 31 8) (I0 31 9) (I0 31 10) (I0 31 11) rl sg (I0 37) i)) (x := I1 31 7) (by omega) hT2 (by rw [hE1 4 (by decide)]; exact hr) hrl hi7
    rw [hE1 7 (by decide), hE1 8 (by decide), hE1 9 (by decide), hE1 16 (by decide), hg, d7, tV_fr e321] at hr2
    obtain ⟨I', J', hr3, rest⟩ := ih (i + 1) I2 (px_u (px_u J2 39 i (gX I0 tz kd (I0 31 7) (I0 31 8) (I0 31 9) rl sg i).toInt64) 31 34 (gA (gW I0 tz kd nb (I0 31 7) (I0 31 8) (I0 31 9) (I0 31 10) (I0 31 11) rl sg (I0 37)) (i + 1))) (some (.long (gW I0 tz kd nb (I0 31 7) (I0 31 8) (I0 31 9) (I0 31 10) (I0 31 11) rl sg (I0 37) i))) (some (.int (nI sg))) (by omega)
      (fun a j g => (hf2.1 a j g).trans (hfI1 a j g))
      (fun a j g1 g2 g3 => by rw [u_ne (fun e => (g1 e).2), u_ne (fun e => absurd e g3), hf2.2 a j (fun e => (g1 e).1), u_ne (fun e => absurd e g2), hf1.2 a j (fun e => (g1 e).1)]; exact hj a j g1 g2 g3)
      (fun t ht => by
        rw [u_ne (fun e => absurd e (by decide)), u_ne (fun e => absurd e (by decide)), hf2.2 38 t (fun e => absurd e (by decide))]
        by_cases e : t = i
        · subst e; exact u_eq
        · rw [u_ne (fun _ => e), hf1.2 38 t (fun e => absurd e (by decide))]; exact hW t (by omega))
      (fun t ht => by
        rw [u_ne (fun e => absurd e (by decide))]
        by_cases e : t = i
        · subst e; exact u_eq
        · rw [u_ne (fun _ => e), hf2.2 39 t (fun e => absurd e (by decide)), u_ne (fun e => absurd e (by decide)), hf1.2 39 t (fun e => absurd e (by decide))]; exact hX t (by omega))
      u_eq
    refine ⟨I', J', ?_, rest⟩
    repeat refine e_s rfl ?_
    rw [hC1.2.2.1]
    refine e_bf (nI_ge hic (by have := hC.1; omega)) ?_
    repeat refine e_s rfl ?_
    refine e_c rfl (r_styM (D := D) c3 hi7 c7) (by omega) ?_
    rw [hE 10 (by decide), hE 11 (by decide)]
    repeat refine e_s rfl ?_
    rw [hE 7 (by decide)]
    refine e_c rfl hr1 (by omega) ?_
    refine e_s rfl ?_
    refine e_s rfl ?_
    refine e_s rfl ?_
    refine e_s rfl ?_
    refine e_s rfl ?_
    refine w_gin (D := D + 80) (n0 := nb i) c3 hi7 d7 d8 (by rw [hE1 16 (by decide)]; exact hg) h6 sg 0 _ (by omega) ?_
    rw [e37]
    repeat refine e_s rfl ?_
    refine e_ls rfl rfl rfl hi7 (by decide) ?_
    repeat refine e_s rfl ?_
    rw [hE1 7 (by decide)]
    refine e_c rfl hr2 (by omega) ?_
    refine e_s rfl ?_
    refine e_ls rfl rfl rfl hi7 (by decide) ?_
    refine e_s rfl ?_
    refine e_s rfl ?_
    refine e_s rfl ?_
    refine e_s rfl ?_
    refine e_s rfl ?_
    refine e_s rfl ?_
    refine e_s rfl ?_
    refine e_s rfl ?_
    have eA : px_u J2 39 i (gX I0 tz kd (I0 31 7) (I0 31 8) (I0 31 9) rl sg i).toInt64 31 34 = gA (gW I0 tz kd nb (I0 31 7) (I0 31 8) (I0 31 9) (I0 31 10) (I0 31 11) rl sg (I0 37)) i := by
      rw [u_ne (fun e => absurd e (by decide)), hf2.2 31 34 (fun _ => by decide), u_ne (fun e => absurd e (by decide)), hf1.2 31 34 (fun _ => by decide)]
      exact hA
    rw [nI_1]
    show px_ev _ _ _ _ _ _ (px_u (px_u J2 39 i (gX I0 tz kd (I0 31 7) (I0 31 8) (I0 31 9) rl sg i).toInt64) 31 34 (px_u J2 39 i (gX I0 tz kd (I0 31 7) (I0 31 8) (I0 31 9) rl sg i).toInt64 31 34 + gW I0 tz kd nb (I0 31 7) (I0 31 8) (I0 31 9) (I0 31 10) (I0 31 11) rl sg (I0 37) i)) _ _ _ _ _
    rw [eA]
    exact hr3
end PXG1
