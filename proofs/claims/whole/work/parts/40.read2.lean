/-! THE READER of the class: read() -/
def rd1 (b : Nat → Int32) (z : Nat) : pRes := pPart b z (-16) (pos b z 0) []
def rd2 (b : Nat → Int32) (z : Nat) : pRes := pTh (rd1 b z) (fun p a _ => pPart b z (-17) p a)
def rd3 (b : Nat → Int32) (z : Nat) : pRes := pTh (rd2 b z) (fun p a _ => pPart b z (-18) p a)
def rdOK (b : Nat → Int32) (z : Nat) : Bool := (rd3 b z).1 && decide (tkc b z (rd3 b z).2.1 = -22)
def rFr (I I' : px_HI) : Prop := ∀ a j, a ≠ 12 → a ≠ 13 → a ≠ 14 → (a = 9 → j ≠ 1 ∧ j ≠ 2 ∧ j ≠ 4) → (a = 10 → j ≠ 1 ∧ j ≠ 4) → I' a j = I a j
theorem pTh_t {r : pRes} {k : Nat → List Int32 → (pE → Int32) → pRes} (h : (pTh r k).1 = true) : r.1 = true := by
  obtain ⟨o, p, a, v⟩ := r
  cases o
  · exact h
  · rfl
section PXT8
variable {n q L z c k e D : Nat} {so : Option Nat} {I : px_HI} {J : px_HJ} {r0 : px_HR} {s0 : px_HS} {b : Nat → Int32} {acc : List Int32} {xs : Nat → Int32}
theorem x_E {p s d : Nat} (h : cOK I b z c) (hf : I 9 1 = nI p) (hp : p ≤ z) (hs : cSt I z k s) : ∃ I', px_mt (d + 3) 28 [.ref 9, .int (-22)] I J (tR so r0) (tS L s0) n q (none, I', J, tR so r0, tS L s0, n, q) ∧ cFr I I' ∧ I' 9 1 = nI p := by
  obtain ⟨h1, h2, h3, h4⟩ := hs
  have hz := h.2.2.2.2.2
  by_cases ht : tkc b z (pos b z k) = -22
  · exact ⟨_, x_ok h h1 (by omega) ht, fr_9 (Or.inr (Or.inl rfl)), hf⟩
  · refine ⟨I, ?_, cFr.refl I, hf⟩
    unfold px_mt
    refine e_s rfl ?_
    refine e_c rfl (r_token (d := d) h h1 (by omega)) (by omega) ?_
    repeat refine e_s rfl ?_
    refine e_bt ht ?_
    refine e_s rfl ?_
    refine e_c rfl (r_fail2 (d := d) hf (by omega)) (by omega) ?_
    exact e_r rfl
theorem r_part2 {w : Int32} {r : pRes} (hD : 140 ≤ D) (hc : cOK I b z c) (hr : cRs I b z e r) (hw : ¬ w = -22) : ∃ I', px_mt D 27 [.ref 9, .int w] I J (tR so r0) (tS L s0) n q (none, I', J, tR so r0, tS L s0, n, q) ∧ cFr I I' ∧ cRs I' b z (e + 2) (pTh r (fun p a _ => pPart b z w p a)) := by
  obtain ⟨o, p, a, v⟩ := r
  cases o
  · obtain ⟨g1, g2, k, s, g3⟩ := hr
    obtain ⟨I', h1, h2, h3, h4⟩ := part_F (J := J) (so := so) (r0 := r0) (L := L) (s0 := s0) (n := n) (q := q) hD hc g1 g2 g3 hw
    exact ⟨I', h1, h2, h3, g2, h4⟩
  · obtain ⟨k, rfl, g2⟩ := hr
    exact r_part hD hc g2 hw
theorem cRs_len {r : pRes} (h : cRs I b z e r) (hr : r.1 = true) : I 9 4 = nI r.2.2.1.length := by
  obtain ⟨o, p, a, v⟩ := r
  cases o
  · cases hr
  · obtain ⟨k, _, g⟩ := h
    exact g.2.1.2.2.1
theorem r_readA (hD : 150 ≤ D) (h160 : z ≤ 160) (hz : I 10 1 = nI z) (hro : ∀ a j, 1000002 < a → I a j = px_I0 xs a j) : ∃ I' w1 w2, (∀ r, px_ev D 14 63 [some (.ref 9), some (.int w1), some (.int w2)] [] (px_u I' 10 1 0) J (tR so r0) (tS L s0) n q r → px_mt D 14 [.ref 9] I J (tR so r0) (tS L s0) n q r) ∧ rFr I I' ∧ (rdOK (I 11) z = true → I' 9 1 = -1 ∧ w1 = nI (rd1 (I 11) z).2.2.1.length ∧ w2 = nI (rd2 (I 11) z).2.2.1.length ∧ I' 9 4 = nI (rd3 (I 11) z).2.2.1.length ∧ (rd3 (I 11) z).2.2.1.length < 160 ∧ cAc I' (rd3 (I 11) z).2.2.1) ∧ (rdOK (I 11) z = false → I' 9 1 = nI (rd3 (I 11) z).2.1 ∧ (rd3 (I 11) z).2.1 ≤ z) := by
  obtain ⟨D, rfl⟩ : ∃ x, D = x + 10 := ⟨D - 10, by omega⟩
  obtain ⟨I1, c, hr1, hf1, hc1, hc2, hc3, hc4⟩ := r_cut (d := D) (J := J) (so := so) (r0 := r0) (L := L) (s0 := s0) (n := n) (q := q) h160 hz hro
  have hb : I1 11 = I 11 := funext (fun j => hf1 11 j (by decide) (by decide) (fun e => absurd e (by decide)))
  have hok1 : cOK I1 (I 11) z c := ⟨(hf1 10 1 (by decide) (by decide) (fun _ => by decide)).trans hz, hc1, hc2, hc3, hc4, h160⟩
  have hfA : cFr I1 (px_u (px_u (px_u I1 9 2 0) 9 4 0) 9 1 (-1)) := ((fr_9 (Or.inr (Or.inl rfl))).trans (fr_9 (Or.inr (Or.inr rfl)))).trans (fr_9 (Or.inl rfl))
  have hi0 : cIk (px_u (px_u (px_u I1 9 2 0) 9 4 0) 9 1 (-1)) z 0 0 [] := ⟨rfl, ⟨rfl, Nat.zero_le _, rfl, Nat.zero_le _⟩, Nat.le_refl _, fun j hj => absurd hj (Nat.not_lt_zero j)⟩
  obtain ⟨I2, hr2, hf2, hs2⟩ := r_part (J := J) (so := so) (r0 := r0) (L := L) (s0 := s0) (n := n) (q := q) (w := -16) (D := D + 9) (by omega) (hok1.fr hfA) hi0 (by decide)
  have hok2 := (hok1.fr hfA).fr hf2
  obtain ⟨I3, hr3, hf3, hs3⟩ := r_part2 (J := J) (so := so) (r0 := r0) (L := L) (s0 := s0) (n := n) (q := q) (w := -17) (D := D + 9) (by omega) hok2 hs2 (by decide)
  have hok3 := hok2.fr hf3
  obtain ⟨I4, hr4, hf4, hs4⟩ := r_part2 (J := J) (so := so) (r0 := r0) (L := L) (s0 := s0) (n := n) (q := q) (w := -18) (D := D + 9) (by omega) hok3 hs3 (by decide)
  have hok4 := hok3.fr hf4
  have e1 : pPart (I 11) z (-16) (pos (I 11) z 0) [] = rd1 (I 11) z := rfl
  rw [e1] at hs2 hs3 hs4
  have e2 : pTh (rd1 (I 11) z) (fun p a _ => pPart (I 11) z (-17) p a) = rd2 (I 11) z := rfl
  rw [e2] at hs3 hs4
  have e3 : pTh (rd2 (I 11) z) (fun p a _ => pPart (I 11) z (-18) p a) = rd3 (I 11) z := rfl
  rw [e3] at hs4
  have hl2 : (rd3 (I 11) z).1 = true → I2 9 4 = nI (rd1 (I 11) z).2.2.1.length := fun h => cRs_len hs2 (pTh_t (pTh_t h))
  have hl3 : (rd3 (I 11) z).1 = true → I3 9 4 = nI (rd2 (I 11) z).2.2.1.length := fun h => cRs_len hs3 (pTh_t h)
  have hfr : cFr I1 I4 := ((hfA.trans hf2).trans hf3).trans hf4
  obtain ⟨I5, hr5, hf5, hA, hB⟩ : ∃ I5, px_mt (D + 3) 28 [.ref 9, .int (-22)] I4 J (tR so r0) (tS L s0) n q (none, I5, J, tR so r0, tS L s0, n, q) ∧ cFr I4 I5 ∧ (rdOK (I 11) z = true → I5 9 1 = -1 ∧ I5 9 4 = nI (rd3 (I 11) z).2.2.1.length ∧ (rd3 (I 11) z).2.2.1.length < 160 ∧ cAc I5 (rd3 (I 11) z).2.2.1) ∧ (rdOK (I 11) z = false → I5 9 1 = nI (rd3 (I 11) z).2.1 ∧ (rd3 (I 11) z).2.1 ≤ z) := by
    unfold rdOK
    revert hs4
    generalize rd3 (I 11) z = r
    intro hs4
    obtain ⟨o, p, a, v⟩ := r
    cases o
    · obtain ⟨g1, g2, k, s, g3⟩ := hs4
      obtain ⟨I5, h1, h2, h3⟩ := x_E (J := J) (so := so) (r0 := r0) (L := L) (s0 := s0) (n := n) (q := q) (d := D) hok4 g1 g2 g3
      exact ⟨I5, h1, h2, fun h => (by cases h), fun _ => ⟨h3, g2⟩⟩
    · obtain ⟨k, rfl, g2⟩ := hs4
      have hkz := g2.2.1.2.1
      by_cases ht : tkc (I 11) z (pos (I 11) z k) = -22
      · refine ⟨_, x_ok hok4 g2.2.1.1 (by omega) ht, fr_9 (Or.inr (Or.inl rfl)), fun _ => ⟨g2.1, g2.2.1.2.2.1, by have := g2.2.2.1; simp only; omega, g2.2.2.2⟩, fun h => ?_⟩
        simp only [Bool.true_and] at h
        exact absurd ht (of_decide_eq_false h)
      · refine ⟨_, x_bad hok4 g2.1 g2.2.1.1 (by omega) ht, fr_9 (Or.inl rfl), fun h => ?_, fun _ => ⟨u_eq, pos_le _ _ _⟩⟩
        simp only [Bool.true_and] at h
        exact absurd (of_decide_eq_true h) ht
  refine ⟨I5, I2 9 4, I3 9 4, fun r hk => ?_, fun a j h1 h2 h3 h4 h5 => by rw [hf5 a j h3 h4, hfr a j h3 h4, hf1 a j h1 h2 (fun e => (h5 e).2)], fun h => ?_, hB⟩
  rotate_left
  · have h1 : (rd3 (I 11) z).1 = true := by
      unfold rdOK at h
      cases hh : (rd3 (I 11) z).1
      · rw [hh] at h; cases h
      · rfl
    have h2 := hA h
    exact ⟨h2.1, hl2 h1, hl3 h1, h2.2.1, h2.2.2.1, h2.2.2.2⟩
  unfold px_mt
  repeat refine e_s rfl ?_
  refine e_c rfl hr1 (by omega) ?_
  repeat refine e_s rfl ?_
  refine e_c rfl hr2 (by omega) ?_
  repeat refine e_s rfl ?_
  refine e_c rfl hr3 (by omega) ?_
  repeat refine e_s rfl ?_
  refine e_c rfl hr4 (by omega) ?_
  repeat refine e_s rfl ?_
  refine e_c rfl hr5 (by omega) ?_
  repeat refine e_s rfl ?_
  refine e_c rfl (r_clear (d := D)) (by omega) ?_
  exact hk
theorem r_readF (hD : 150 ≤ D) (h160 : z ≤ 160) (hz : I 10 1 = nI z) (hro : ∀ a j, 1000002 < a → I a j = px_I0 xs a j) (h : rdOK (I 11) z = false) : ∃ I', px_mt D 14 [.ref 9] I J (tR so r0) (tS L s0) n q (some .null, I', J, tR so r0, tS L s0, n, q) ∧ rFr I I' ∧ I' 9 1 = nI (rd3 (I 11) z).2.1 ∧ (rd3 (I 11) z).2.1 ≤ z ∧ I' 10 1 = 0 := by
  obtain ⟨I', w1, w2, hk, hf, _, hB⟩ := r_readA (J := J) (so := so) (r0 := r0) (L := L) (s0 := s0) (n := n) (q := q) hD h160 hz hro
  obtain ⟨D, rfl⟩ : ∃ x, D = x + 1 := ⟨D - 1, by omega⟩
  obtain ⟨h1, h2⟩ := hB h
  refine ⟨px_u I' 10 1 0, hk _ ?_, fun a j g1 g2 g3 g4 g5 => by rw [u_ne (fun e => (g5 e).1)]; exact hf a j g1 g2 g3 g4 g5, h1, h2, u_eq⟩
  repeat refine e_s rfl ?_
  rw [show px_u I' 10 1 0 9 1 = nI (rd3 (I 11) z).2.1 from h1]
  refine e_bt (nI_m1 (by omega)) ?_
  refine e_s rfl ?_
  exact e_r rfl
theorem r_copyOf {s d : Nat} (hn : 14 < n) (hn2 : n < 1000000) (hs : s < 160) : px_mt (d + 1) 41 [.ref 14, .int (nI s)] I J (tR so r0) (tS L s0) n q (some (.ref n), px_row (px_z I n 0) n (va_cpy (px_z I n 0 14) (px_z I n 0 n) 0 0 s), px_z J n 0, tR so (px_z r0 n none), tS L (px_us s0 n (100, s)), n + 1, q + s) := by
  unfold px_mt
  repeat refine e_s rfl ?_
  refine e_bt (fun g => by have := (nI_eq (b := 160) (by omega) (by omega)).mp g; omega) ?_
  refine e_s rfl ?_
  refine e_na rfl (by omega) hn2 ?_
  rw [tR_z hn hn2, tS_us hn hn2]
  repeat refine e_s rfl ?_
  rw [if_pos (show nI s < Int32.ofNat (tS L (px_us s0 n (100, s)) 14).snd from (nI_lt hs (by decide) : nI s < nI 160))]
  have e := e_ac (d := d) (m := 41) (pc := 28) (pl := [some (.ref 14), some (.int (nI s)), some (.ref n)]) (st := []) (I := px_z I n 0) (J := px_z J n 0) (R := tR so (px_z r0 n none)) (S := tS L (px_us s0 n (100, s))) (n := n + 1) (q := q + s) (o := 14) (dd := n) (sp := 0) (dp := 0) (kk := s) (lo := 160) (ld := s) (r := (some (.ref n), px_row (px_z I n 0) n (va_cpy (px_z I n 0 14) (px_z I n 0 n) 0 0 s), px_z J n 0, tR so (px_z r0 n none), tS L (px_us s0 n (100, s)), n + 1, q + s)) rfl rfl (by rw [tS_o hn hn2, us_eq]) (by omega) (by omega) (by decide) (by omega) rfl
  refine e ?_
  repeat refine e_s rfl ?_
  exact e_r rfl
theorem r_textInit {t u s d : Nat} {wa ca : Int32} (ht : 14 < t) (ht2 : t < 1000000) (hn : 14 < n) (hn2 : n < 1000000) (htn : t ≠ n) (hS : s0 t = (20, 4)) (hu : tS L s0 u = (100, s)) (hs : s < 10000) : px_mt (d + 1) 42 [.ref t, .ref u, .int wa, .int ca] I J (tR so r0) (tS L s0) n q (none, px_z (px_u (px_u I t 1 wa) t 2 ca) n 0, px_z J n 0, tR so (px_u (px_z (px_u r0 t 0 (some u)) n none) t 3 (some n)), tS L (px_us s0 n (100, s)), n + 1, q + s) := by
  have hS' : tS L s0 t = (20, 4) := by rw [tS_o ht ht2]; exact hS
  unfold px_mt
  repeat refine e_s rfl ?_
  refine e_pr rfl hS' rfl ?_
  rw [tR_u ht ht2]
  repeat refine e_s rfl ?_
  refine e_pi rfl hS' rfl rfl ?_
  repeat refine e_s rfl ?_
  refine e_pi rfl hS' rfl rfl ?_
  repeat refine e_s rfl ?_
  refine e_al rfl hu rfl ?_
  refine e_na rfl hs hn2 ?_
  rw [tR_z hn hn2, tS_us hn hn2]
  refine e_pr rfl (show tS L (px_us s0 n (100, s)) t = (20, 4) by rw [tS_o ht ht2, us_ne htn]; exact hS) rfl ?_
  rw [tR_u ht ht2]
  exact e_r rfl
/-- what a text leaves: three new cells, all else but the reader's as it was -/
theorem r_readT (hD : 150 ≤ D) (h160 : z ≤ 160) (hz : I 10 1 = nI z) (hro : ∀ a j, 1000002 < a → I a j = px_I0 xs a j) (hn : 14 < n) (hn2 : n + 2 < 1000000) (h : rdOK (I 11) z = true) : ∃ I' r1 s1, px_mt D 14 [.ref 9] I J (tR so r0) (tS L s0) n q (some (.ref n), I', px_z (px_z (px_z J n 0) (n + 1) 0) (n + 2) 0, tR so r1, tS L s1, n + 3, q + 4 + (rd3 (I 11) z).2.2.1.length + (rd3 (I 11) z).2.2.1.length) ∧ (∀ a j, a ≠ n → a ≠ n + 1 → a ≠ n + 2 → a ≠ 12 → a ≠ 13 → a ≠ 14 → (a = 9 → j ≠ 1 ∧ j ≠ 2 ∧ j ≠ 4) → (a = 10 → j ≠ 1 ∧ j ≠ 4) → I' a j = I a j) ∧ (∀ a j, a ≠ n → a ≠ n + 1 → a ≠ n + 2 → r1 a j = r0 a j) ∧ (∀ a, a ≠ n → a ≠ n + 1 → a ≠ n + 2 → s1 a = s0 a) ∧ I' 10 1 = 0 ∧ s1 n = (20, 4) ∧ s1 (n + 1) = (100, (rd3 (I 11) z).2.2.1.length) ∧ s1 (n + 2) = (100, (rd3 (I 11) z).2.2.1.length) ∧ r1 n 0 = some (n + 1) ∧ r1 n 3 = some (n + 2) ∧ I' n 1 = nI (rd1 (I 11) z).2.2.1.length ∧ I' n 2 = nI (rd2 (I 11) z).2.2.1.length ∧ (rd3 (I 11) z).2.2.1.length < 160 ∧ ∀ j, j < (rd3 (I 11) z).2.2.1.length → I' (n + 1) j = (rd3 (I 11) z).2.2.1.getD j 0 := by
  obtain ⟨I', w1, w2, hk, hf, hA, _⟩ := r_readA (J := J) (so := so) (r0 := r0) (L := L) (s0 := s0) (n := n) (q := q) hD h160 hz hro
  obtain ⟨D, rfl⟩ : ∃ x, D = x + 2 := ⟨D - 2, by omega⟩
  obtain ⟨h1, h2, h3, h4, h5, h6⟩ := hA h
  revert h4 h5 h6
  generalize (rd3 (I 11) z).2.2.1 = acc
  intro h4 h5 h6
  refine ⟨px_z (px_u (px_u (px_row (px_z (px_z (px_u I' 10 1 0) n 0) (n + 1) 0) (n + 1) (va_cpy (px_z (px_z (px_u I' 10 1 0) n 0) (n + 1) 0 14) (px_z (px_z (px_u I' 10 1 0) n 0) (n + 1) 0 (n + 1)) 0 0 acc.length)) n 1 w1) n 2 w2) (n + 1 + 1) 0, px_u (px_z (px_u (px_z (px_z r0 n none) (n + 1) none) n 0 (some (n + 1))) (n + 1 + 1) none) n 3 (some (n + 1 + 1)), px_us (px_us (px_us s0 n (20, 4)) (n + 1) (100, acc.length)) (n + 1 + 1) (100, acc.length), hk _ ?_, ?_⟩
  · repeat refine e_s rfl ?_
    rw [show px_u I' 10 1 0 9 1 = -1 from h1]
    refine e_pc (p2 := 71) (by decide) ?_
    refine e_nw rfl (by omega) ?_
    rw [tR_z hn (by omega), tS_us hn (by omega)]
    repeat refine e_s rfl ?_
    rw [z_ne (show 9 ≠ n by omega), show px_u I' 10 1 0 9 4 = nI acc.length from h4]
    refine e_c rfl (r_copyOf (d := D) (by omega) (by omega) h5) (by omega) ?_
    repeat refine e_s rfl ?_
    refine e_cv rfl rfl rfl (show tS L (px_us (px_us s0 n (20, 4)) (n + 1) (100, acc.length)) n = (20, 4) by rw [tS_o hn (by omega), us_ne (by omega), us_eq]) rfl rfl (r_textInit (d := D) (s := acc.length) hn (by omega) (by omega) (by omega) (by omega) (by rw [us_ne (by omega), us_eq]) (by rw [tS_o (by omega) (by omega), us_eq]) (by omega)) (by omega) ?_
    refine e_s rfl ?_
    exact e_r rfl
  · have ne1 : n + 1 ≠ n := by omega
    have ne2 : n + 2 ≠ n := by omega
    have ne3 : n + 2 ≠ n + 1 := by omega
    refine ⟨fun a j g1 g2 g3 g4 g5 g6 g7 g8 => ?_, fun a j g1 g2 g3 => ?_, fun a g1 g2 g3 => ?_, ?_, ?_, ?_, ?_, ?_, ?_, ?_, ?_, h5, fun j hj => ?_⟩
    · rw [z_ne (show a ≠ n + 1 + 1 from g3), u_ne (fun e => absurd e g1), u_ne (fun e => absurd e g1), row_ne g2, z_ne g2, z_ne g1, u_ne (fun e => (g8 e).1)]
      exact hf a j g4 g5 g6 g7 g8
    · rw [u_ne (fun e => absurd e g1), z_ne (show a ≠ n + 1 + 1 from g3), u_ne (fun e => absurd e g1), z_ne g2, z_ne g1]
    · rw [us_ne (show a ≠ n + 1 + 1 from g3), us_ne g2, us_ne g1]
    · rw [z_ne (by omega), u_ne (fun e => by omega), u_ne (fun e => by omega), row_ne (by omega), z_ne (by omega), z_ne (by omega), u_eq]
    · rw [us_ne (by omega), us_ne (by omega), us_eq]
    · rw [us_ne (by omega), us_eq]
    · exact us_eq
    · rw [u_ne (fun _ => by decide), z_ne (by omega), u_eq]
    · exact u_eq
    · rw [z_ne (by omega), u_ne (fun _ => by decide), u_eq]
      exact h2
    · rw [z_ne (by omega), u_eq]
      exact h3
    · rw [z_ne (by omega), u_ne (fun e => by omega), u_ne (fun e => by omega), row_eq, pk_cpy_in (Nat.zero_le _) (by omega), z_ne (by omega), z_ne (by omega), u_ne (fun e => absurd e (by decide))]
      rw [show 0 + (j - 0) = j by omega]
      exact h6 j hj
end PXT8
