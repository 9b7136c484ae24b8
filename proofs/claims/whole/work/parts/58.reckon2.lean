/-! reckon() of the class: the loop -/
theorem tV_fr {I I' : px_HI} {tz : Nat → Nat} {rl wh : Nat} {e : pE} (h : ∀ j, I' 32 j = I 32 j) : tV I' tz rl wh e = tV I tz rl wh e := by
  unfold tV
  rw [show (fun j => I' 32 (160 * rl + j)) = fun j => I 32 (160 * rl + j) from funext (fun j => h _)]
def rkJ (J J' : px_HJ) : Prop := ∀ a j, a ≠ 17 → (a = 0 → j ≠ 13) → J' a j = J a j
section PXK2
variable {d n q L sc hs sg rl tc cc : Nat} {so : Option Nat} {dr : px_HR} {ds : px_HS} {ta ua wa tz ca kd nb : Nat → Nat} {I0 : px_HI} {J0 : px_HJ}
theorem w_rk (hT : tIv I0 (dR so dr) (dS L ds) tc ta ua wa tz) (hC : cIv I0 (dR so dr) (dS L ds) cc ca kd nb) (hS : dS L ds sc = (17, 8)) (hR : dR so dr sc 7 = some hs) (hH : dS L ds hs = (100, 6)) (hsc : 0 < sc) (hsc2 : sc < 10) (hhs : 0 < hs) (hhs2 : hs < 10) (hr : I0 sc 5 = nI rl) (hrl : rl < tc) (hg : I0 sc 6 = nI sg) (h6 : sg ≤ 6) : ∀ k i (I : px_HI) (J : px_HJ) (x3 : Option Value), i + k = cc → rkF (wa rl) I0 I → rkJ J0 J → (∀ t, t < i → J 17 t = gW I0 tz kd nb (I0 sc 0) (I0 sc 1) (I0 sc 2) (I0 sc 3) (I0 sc 4) rl sg (I0 hs) t) → (∀ t, t < i → I 18 t = gX I0 tz kd (I0 sc 0) (I0 sc 1) (I0 sc 2) rl sg t) → J 0 13 = gA (gW I0 tz kd nb (I0 sc 0) (I0 sc 1) (I0 sc 2) (I0 sc 3) (I0 sc 4) rl sg (I0 hs)) i → ∃ I' J', px_ev (d + 7) 83 7 [some (.ref 0), some (.ref sc), some (.int (nI i)), x3] [] I J (dR so dr) (dS L ds) n q (none, I', J', dR so dr, dS L ds, n, q) ∧ rkF (wa rl) I0 I' ∧ rkJ J0 J' ∧ (∀ t, t < cc → J' 17 t = gW I0 tz kd nb (I0 sc 0) (I0 sc 1) (I0 sc 2) (I0 sc 3) (I0 sc 4) rl sg (I0 hs) t) ∧ (∀ t, t < cc → I' 18 t = gX I0 tz kd (I0 sc 0) (I0 sc 1) (I0 sc 2) rl sg t) ∧ J' 0 13 = gA (gW I0 tz kd nb (I0 sc 0) (I0 sc 1) (I0 sc 2) (I0 sc 3) (I0 sc 4) rl sg (I0 hs)) cc ∧ I' 0 14 = clp 0 99 (tV I0 tz rl 2 (nmE (I0 sc 0) (I0 sc 1) 0 (I0 sc 2) (nI sg) 0)) := by
  intro k
  have hw := (hT.2.2.2.2 rl hrl).2.2.2.2.2.1
  have hwS := (hT.2.2.2.2 rl hrl).2.1.2.2.2.2.1
  induction k with
  | zero =>
    intro i I J x3 hi hf hj hW hX hA
    have hT1 := hT.fr hrl hf
    have hE : ∀ j, I sc j = I0 sc j := fun j => hf sc j (by omega) (by omega) (fun e => by omega)
    have e32 : ∀ j, I 32 j = I0 32 j := fun j => hf 32 j (by omega) (by decide) (fun e => absurd e (by decide))
    obtain ⟨I1, hr1, hf1⟩ := r_costs (d := d) (n := n) (q := q) (J := J) hT1 hS (by rw [hE]; exact hr) hrl hsc2
    rw [hE, hE, hE, hE, hg, tV_fr e32] at hr1
    have hic : i = cc := by omega
    subst hic
    refine ⟨px_u I1 0 14 (clp 0 99 (tV I0 tz rl 2 (nmE (I0 sc 0) (I0 sc 1) 0 (I0 sc 2) (nI sg) 0))), J, ?_, fun a j g1 g2 g3 => ?_, hj, hW, fun t ht => ?_, hA, u_eq⟩
    · repeat refine e_s rfl ?_
      rw [show I 0 1 = nI i from (hf 0 1 (by omega) (by decide) (fun _ => by decide)).trans hC.2.1]
      refine e_bt (nI_le (Nat.le_refl _) (by have := hC.1; omega)) ?_
      repeat refine e_s rfl ?_
      refine e_c rfl hr1 (by omega) ?_
      refine e_c rfl (r_within (d := d) (by decide)) (by omega) ?_
      repeat refine e_s rfl ?_
      exact e_r rfl
    · rw [u_ne g3, hf1 a j g1]
      exact hf a j g1 g2 g3
    · rw [u_ne (fun e => absurd e (by decide)), hf1 18 t (by omega)]
      exact hX t ht
  | succ k ih =>
    intro i I J x3 hi hf hj hW hX hA
    have hic : i < cc := by omega
    have hT1 := hT.fr hrl hf
    have hC1 := hC.fr hw hwS hf
    obtain ⟨c1, c2, c3, c4, c5, c6, _, _⟩ := hC1.2.2.2 i hic
    have hE : ∀ j, I sc j = I0 sc j := fun j => hf sc j (by omega) (by omega) (fun e => by omega)
    have hEh : I hs = I0 hs := funext (fun j => hf hs j (by omega) (by omega) (fun e => by omega))
    have e32 : ∀ j, I 32 j = I0 32 j := fun j => hf 32 j (by omega) (by decide) (fun e => absurd e (by decide))
    obtain ⟨I1, hr1, hf1⟩ := r_weight (d := d) (n := n) (q := q) (J := J) (who := nI i) hT1 hS (by rw [hE]; exact hr) hrl hsc2 (by rw [hE]; exact hg) hR hH hhs2 h6 c3 c2 c5 c6 c4
    rw [hE, hE, hE, hE, hE, hEh, tV_fr e32] at hr1
    have hfI1 : rkF (wa rl) I0 I1 := fun a j g1 g2 g3 => (hf1 a j g1).trans (hf a j g1 g2 g3)
    have hT2 := hT.fr hrl hfI1
    have hC2 := hC.fr hw hwS hfI1
    obtain ⟨b1, b2, b3, b4, b5, b6, _, _⟩ := hC2.2.2.2 i hic
    have hE1 : ∀ j, I1 sc j = I0 sc j := fun j => hfI1 sc j (by omega) (by omega) (fun e => by omega)
    have e321 : ∀ j, I1 32 j = I0 32 j := fun j => hfI1 32 j (by omega) (by decide) (fun e => absurd e (by decide))
    obtain ⟨I2, hr2, hf2⟩ := r_worth (d := d + 1) (n := n) (q := q) (J := px_u J 17 i (gW I0 tz kd nb (I0 sc 0) (I0 sc 1) (I0 sc 2) (I0 sc 3) (I0 sc 4) rl sg (I0 hs) i)) (who := nI i) hT2 hS (by rw [hE1]; exact hr) hrl hsc2 b3 b2
    rw [hE1, hE1, hE1, hE1, hg, b5, tV_fr e321] at hr2
    obtain ⟨I', J', hr3, rest⟩ := ih (i + 1) (px_u I2 18 i (gX I0 tz kd (I0 sc 0) (I0 sc 1) (I0 sc 2) rl sg i)) (px_u (px_u J 17 i (gW I0 tz kd nb (I0 sc 0) (I0 sc 1) (I0 sc 2) (I0 sc 3) (I0 sc 4) rl sg (I0 hs) i)) 0 13 (gA (gW I0 tz kd nb (I0 sc 0) (I0 sc 1) (I0 sc 2) (I0 sc 3) (I0 sc 4) rl sg (I0 hs)) (i + 1))) (some (.ref (ca i))) (by omega)
      (fun a j g1 g2 g3 => by rw [u_ne (fun e => absurd e g2), hf2 a j g1]; exact hfI1 a j g1 g2 g3)
      (fun a j g1 g2 => by rw [u_ne g2, u_ne (fun e => absurd e g1)]; exact hj a j g1 g2)
      (fun t ht => by
        rw [u_ne (fun e => absurd e (by decide))]
        by_cases e : t = i
        · subst e; exact u_eq
        · rw [u_ne (fun _ => e)]; exact hW t (by omega))
      (fun t ht => by
        by_cases e : t = i
        · subst e; exact u_eq
        · rw [u_ne (fun _ => e), hf2 18 t (by omega), hf1 18 t (by omega)]; exact hX t (by omega))
      u_eq
    refine ⟨I', J', ?_, rest⟩
    repeat refine e_s rfl ?_
    rw [hC1.2.1]
    refine e_bf (nI_ge hic (by have := hC.1; omega)) ?_
    repeat refine e_s rfl ?_
    refine e_c rfl (r_callerAt (d := d) hC1 hic) (by omega) ?_
    repeat refine e_s rfl ?_
    refine e_c rfl hr1 (by omega) ?_
    refine e_ls rfl rfl rfl (show i < 7 by have := hC.1; omega) (by decide) ?_
    repeat refine e_s rfl ?_
    refine e_c rfl hr2 (by omega) ?_
    refine e_is rfl rfl rfl (show i < 7 by have := hC.1; omega) (by decide) ?_
    repeat refine e_s rfl ?_
    refine e_la rfl rfl rfl (show i < 7 by have := hC.1; omega) (by decide) ?_
    refine e_s rfl ?_
    refine e_s rfl ?_
    refine e_s rfl ?_
    refine e_s rfl ?_
    rw [nI_1, u_eq, show px_u J 17 i (gW I0 tz kd nb (I0 sc 0) (I0 sc 1) (I0 sc 2) (I0 sc 3) (I0 sc 4) rl sg (I0 hs) i) 0 13 = J 0 13 from rfl, hA]
    exact hr3
end PXK2
