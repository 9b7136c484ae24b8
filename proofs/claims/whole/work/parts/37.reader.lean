/-! THE READER of the class reads as PP says -/
def cIk (I : px_HI) (z e k : Nat) (acc : List Int32) : Prop := I 9 1 = -1 ∧ cSt I z k acc.length ∧ acc.length + e ≤ k ∧ cAc I acc
def cRs (I : px_HI) (b : Nat → Int32) (z e : Nat) (r : pRes) : Prop := match r with
  | (false, p, _) => I 9 1 = nI p ∧ p ≤ z ∧ ∃ k s, cSt I z k s
  | (true, p, acc, _) => ∃ k, pos b z k = p ∧ cIk I z e k acc
theorem cIk.adv {I : px_HI} {b : Nat → Int32} {z e k : Nat} {acc : List Int32} (h : cIk I z e k acc) (hp : pos b z k < z) : cIk (px_u I 9 2 (nI (k + 1))) z (e + 1) (k + 1) acc := by
  have hk := pos_k b z k hp
  obtain ⟨h1, ⟨h2, h3, h4, h5⟩, h6, h7⟩ := h
  exact ⟨h1, ⟨u_eq, by omega, h4, h5⟩, by omega, h7⟩
theorem cIk.emit {I : px_HI} {z e k : Nat} {acc : List Int32} {x : Int32} (h : cIk I z (e + 1) k acc) (hz : z ≤ 160) : cIk (px_u (px_u I 14 acc.length x) 9 4 (nI (acc.length + 1))) z e k (acc ++ [x]) := by
  obtain ⟨h1, ⟨h2, h3, h4, h5⟩, h6, h7⟩ := h
  have hl : (acc ++ [x]).length = acc.length + 1 := by simp
  refine ⟨h1, ⟨h2, h3, by rw [hl]; exact u_eq, by omega⟩, by omega, fun j hj => ?_⟩
  rw [u_ne (fun e => absurd e (by decide))]
  by_cases e : j = acc.length
  · subst e
    rw [u_eq]
    simp
  · rw [u_ne (fun _ => e), h7 j (by omega)]
    simp [List.getD_eq_getElem?_getD, List.getElem?_append_left (show j < acc.length by omega)]
theorem cIk.one {I : px_HI} {b : Nat → Int32} {z e k : Nat} {acc : List Int32} {x : Int32} (h : cIk I z e k acc) (hp : pos b z k < z) (hz : z ≤ 160) : cIk (px_u (px_u (px_u I 14 acc.length x) 9 4 (nI (acc.length + 1))) 9 2 (nI (k + 1))) z e (k + 1) (acc ++ [x]) := by
  have h2 := (h.adv hp).emit (x := x) hz
  obtain ⟨g1, ⟨g2, g3, g4, g5⟩, g6, g7⟩ := h2
  exact ⟨g1, ⟨u_eq, g3, g4, g5⟩, g6, g7⟩
theorem PP_5 (b : Nat → Int32) (z f dep p : Nat) (acc : List Int32) (v : pE → Int32) : PP b z (f + 1) 5 dep p acc v = if 0 ≤ tkc b z p ∨ (tkc b z p ≤ -1 ∧ -6 ≤ tkc b z p) then (true, nxt b z p, acc ++ [tkc b z p], fun e => if 0 ≤ tkc b z p then tkc b z p else e (tkc b z p))
      else if tkc b z p = -13 then
        if 5 ≤ dep then (false, p, acc, v)
        else pTh (PP b z f 5 (dep + 1) (nxt b z p) acc v) (fun p' acc' v' => (true, p', acc' ++ [-15], fun e => - (v' e)))
      else if tkc b z p = -19 ∧ dep < 5 then
        pTh (PP b z f 0 (dep + 1) (nxt b z p) acc v) (fun p' acc' v' => if tkc b z p' = -20 then (true, nxt b z p', acc', v') else (false, p', acc', v'))
      else (false, p, acc, v) := rfl
theorem PP_n (b : Nat → Int32) (z f dep p : Nat) (acc : List Int32) (v : pE → Int32) (h : tkc b z p = -9) : PP b z (f + 1) 2 dep p acc v = if 5 ≤ dep then (false, p, acc, v)
        else pTh (PP b z f 2 (dep + 1) (nxt b z p) acc v) (fun p' acc' v' => (true, p', acc' ++ [-9], fun e => bI (decide (v' e = 0)))) := by
  show (if 2 = 2 ∧ tkc b z p = -9 then _ else _) = _
  rw [if_pos ⟨rfl, h⟩]
theorem PP_l (b : Nat → Int32) (z f m dep p : Nat) (acc : List Int32) (v : pE → Int32) (hm : m < 5) (h : ¬ (m = 2 ∧ tkc b z p = -9)) : PP b z (f + 1) m dep p acc v = pTh (PP b z f (m + 1) dep p acc v) (fun p' acc' v' => PP b z f (m + 10) dep p' acc' v') := by
  conv => lhs; unfold PP
  rw [if_pos hm, if_neg h]
theorem PP_c (b : Nat → Int32) (z f l dep p : Nat) (acc : List Int32) (v : pE → Int32) : PP b z (f + 1) (l + 10) dep p acc v = if lvI (tkc b z p) = nI l then
      pTh (PP b z f (l + 1) dep (nxt b z p) acc v) (fun p' acc' w => if l = 2 then (true, p', acc' ++ [tkc b z p], fun e => jn (tkc b z p) (v e) (w e)) else PP b z f (l + 10) dep p' (acc' ++ [tkc b z p]) (fun e => jn (tkc b z p) (v e) (w e)))
    else (true, p, acc, v) := by
  have h1 : l + 10 - 10 = l := by omega
  have h2 : l + 10 - 9 = l + 1 := by omega
  have h3 : (l + 10 = 12) = (l = 2) := by apply propext; omega
  conv => lhs; unfold PP
  rw [if_neg (by omega), if_neg (by omega), h1, h2]
  simp only [h3]
section PXT5
variable {n q L z c k s e p : Nat} {so : Option Nat} {I : px_HI} {J : px_HJ} {r0 : px_HR} {s0 : px_HS} {b : Nat → Int32} {acc : List Int32}
theorem r_emitF {x : Int32} {d : Nat} (h : cSt I z k s) : ∃ I', px_mt (d + 1) 36 [.ref 9, .int x] I J (tR so r0) (tS L s0) n q (none, I', J, tR so r0, tS L s0, n, q) ∧ cFr I I' ∧ I' 9 1 = I 9 1 ∧ ∃ k s, cSt I' z k s := by
  obtain ⟨h1, h2, h3, h4⟩ := h
  by_cases hs : s < 160
  · exact ⟨_, r_emit (d := d) h3 hs, fr_14.trans (fr_9 (Or.inr (Or.inr rfl))), rfl, k, s + 1, h1, h2, u_eq, hs⟩
  · have e : s = 160 := by omega
    subst e
    exact ⟨I, r_emit2 h3, cFr.refl I, rfl, k, 160, h1, h2, h3, h4⟩
theorem x_ok {w : Int32} {d : Nat} (h : cOK I b z c) (hk : I 9 2 = nI k) (hk2 : k ≤ 160) (ht : tkc b z (pos b z k) = w) : px_mt (d + 3) 28 [.ref 9, .int w] I J (tR so r0) (tS L s0) n q (none, px_u I 9 2 (nI (k + 1)), J, tR so r0, tS L s0, n, q) := by
  unfold px_mt
  refine e_s rfl ?_
  refine e_c rfl (r_token (d := d) h hk hk2) (by omega) ?_
  repeat refine e_s rfl ?_
  refine e_bf (fun g => g ht) ?_
  repeat refine e_s rfl ?_
  rw [hk, nI_1]
  exact e_r rfl
theorem x_bad {w : Int32} {d : Nat} (h : cOK I b z c) (hf : I 9 1 = -1) (hk : I 9 2 = nI k) (hk2 : k ≤ 160) (ht : ¬ tkc b z (pos b z k) = w) : px_mt (d + 3) 28 [.ref 9, .int w] I J (tR so r0) (tS L s0) n q (none, px_u I 9 1 (nI (pos b z k)), J, tR so r0, tS L s0, n, q) := by
  unfold px_mt
  refine e_s rfl ?_
  refine e_c rfl (r_token (d := d) h hk hk2) (by omega) ?_
  repeat refine e_s rfl ?_
  refine e_bt ht ?_
  refine e_s rfl ?_
  refine e_c rfl (r_fail (d := d) h hf hk hk2) (by omega) ?_
  exact e_r rfl
theorem x_F {w : Int32} {d : Nat} (h : cOK I b z c) (hf : I 9 1 = nI p) (hp : p ≤ z) (hs : cSt I z k s) (hw : ¬ w = -22) : ∃ I', px_mt (d + 3) 28 [.ref 9, .int w] I J (tR so r0) (tS L s0) n q (none, I', J, tR so r0, tS L s0, n, q) ∧ cFr I I' ∧ I' 9 1 = nI p ∧ ∃ k s, cSt I' z k s := by
  obtain ⟨h1, h2, h3, h4⟩ := hs
  have hz := h.2.2.2.2.2
  by_cases ht : tkc b z (pos b z k) = w
  · have hpk := tkc_lt (b := b) (z := z) (p := pos b z k) (by rw [ht]; exact hw)
    have := pos_k b z k hpk
    exact ⟨_, x_ok h h1 (by omega) ht, fr_9 (Or.inr (Or.inl rfl)), hf, k + 1, s, u_eq, by omega, h3, h4⟩
  · refine ⟨I, ?_, cFr.refl I, hf, k, s, h1, h2, h3, h4⟩
    unfold px_mt
    refine e_s rfl ?_
    refine e_c rfl (r_token (d := d) h h1 (by omega)) (by omega) ?_
    repeat refine e_s rfl ?_
    refine e_bt ht ?_
    refine e_s rfl ?_
    refine e_c rfl (r_fail2 (d := d) hf (by omega)) (by omega) ?_
    exact e_r rfl
/-- a level is read as PP says, for that fuel -/
def cLv (b : Nat → Int32) (z L : Nat) (so : Option Nat) (r0 : px_HR) (s0 : px_HS) (f : Nat) : Prop := ∀ (m dep k : Nat) (acc : List Int32) (v : pE → Int32) (e : Nat) (I : px_HI) (J : px_HJ) (c n q D : Nat), m ≤ 5 → dep ≤ 5 → 20 * (z - pos b z k) + 12 - m ≤ f → 20 * (6 - dep) + 2 * (6 - m) ≤ D → cOK I b z c → cIk I z e k acc → ∃ I', px_mt D 33 [.ref 9, .int (nI m), .int (nI dep)] I J (tR so r0) (tS L s0) n q (none, I', J, tR so r0, tS L s0, n, q) ∧ cFr I I' ∧ cRs I' b z e (PP b z f m dep (pos b z k) acc v)
def cCh (b : Nat → Int32) (z L : Nat) (so : Option Nat) (r0 : px_HR) (s0 : px_HS) (f : Nat) : Prop := ∀ (l dep k : Nat) (acc : List Int32) (v : pE → Int32) (e cnt mo : Nat) (x5 : Option Value) (I : px_HI) (J : px_HJ) (c n q D : Nat), l ≤ 4 → dep ≤ 5 → 20 * (z - pos b z k) + 1 ≤ f → 20 * (6 - dep) + 2 * (6 - l) ≤ D + 1 → cOK I b z c → cIk I z e k acc → (l = 2 ∧ mo = 1 ∧ cnt = 0 ∨ ¬ l = 2 ∧ mo = 160 ∧ cnt ≤ pos b z k) → ∃ I', px_ev D 38 24 [some (.ref 9), some (.int (nI l)), some (.int (nI dep)), some (.int (nI mo)), some (.int (nI cnt)), x5] [] I J (tR so r0) (tS L s0) n q (none, I', J, tR so r0, tS L s0, n, q) ∧ cFr I I' ∧ cRs I' b z e (PP b z f (l + 10) dep (pos b z k) acc v)
theorem r_pre {f m dep D : Nat} {st : Int32} {v : pE → Int32} {g : (pE → Int32) → (pE → Int32)} (ih : cLv b z L so r0 s0 f) (hm : m ≤ 5) (hdep : dep ≤ 5) (hf : 20 * (z - pos b z k) + 12 - m ≤ f + 1) (hD : 20 * (6 - dep) ≤ D) (hc : cOK I b z c) (hi : cIk I z e k acc) (hp : pos b z k < z) : ∃ I', px_mt D 37 [.ref 9, .int (nI m), .int (nI dep), .int st] I J (tR so r0) (tS L s0) n q (none, I', J, tR so r0, tS L s0, n, q) ∧ cFr I I' ∧ cRs I' b z e (if 5 ≤ dep then (false, pos b z k, acc, v) else pTh (PP b z f m (dep + 1) (nxt b z (pos b z k)) acc v) (fun p' a' v' => (true, p', a' ++ [st], g v'))) := by
  have hz := hc.2.2.2.2.2
  have hkz := hi.2.1.2.1
  obtain ⟨D, rfl⟩ : ∃ x, D = x + 3 := ⟨D - 3, by omega⟩
  by_cases h5 : 5 ≤ dep
  · rw [if_pos h5]
    refine ⟨_, ?_, fr_9 (Or.inl rfl), u_eq, by omega, k, acc.length, hi.2.1⟩
    unfold px_mt
    repeat refine e_s rfl ?_
    refine e_bf (nI_nlt (b := 5) h5 (by omega)) ?_
    refine e_s rfl ?_
    refine e_c rfl (r_fail (d := D) hc hi.1 hi.2.1.1 (by omega)) (by omega) ?_
    exact e_r rfl
  · rw [if_neg h5]
    have hi2 := hi.adv hp
    have hc2 := hc.fr (fr_9 (k := 2) (x := nI (k + 1)) (Or.inr (Or.inl rfl)))
    have hpos : pos b z (k + 1) = nxt b z (pos b z k) := rfl
    have hlt := (nxt_le (b := b) (Nat.le_of_lt hp)).2 hp
    obtain ⟨I2, hr2, hf2, hs2⟩ := ih m (dep + 1) (k + 1) acc v (e + 1) _ J c n q (D + 2) hm (by omega) (by rw [hpos]; omega) (by omega) hc2 hi2
    rw [hpos] at hs2
    revert hs2
    generalize PP b z f m (dep + 1) (nxt b z (pos b z k)) acc v = r
    intro hs2
    obtain ⟨o, p', a', v'⟩ := r
    cases o
    · obtain ⟨g1, g2, k2, s2, g3⟩ := hs2
      obtain ⟨I3, hr3, hf3, hs3, hk3⟩ := r_emitF (J := J) (so := so) (r0 := r0) (L := L) (s0 := s0) (n := n) (q := q) (x := st) (d := D) g3
      refine ⟨I3, ?_, ((fr_9 (Or.inr (Or.inl rfl))).trans hf2).trans hf3, by rw [hs3]; exact g1, g2, hk3⟩
      unfold px_mt
      repeat refine e_s rfl ?_
      refine e_bt (nI_lt (b := 5) (by omega) (by decide)) ?_
      repeat refine e_s rfl ?_
      rw [hi.2.1.1, nI_1, nI_1]
      refine e_c rfl hr2 (by omega) ?_
      repeat refine e_s rfl ?_
      refine e_c rfl hr3 (by omega) ?_
      exact e_r rfl
    · obtain ⟨k2, g1, g2⟩ := hs2
      have g3 := g2.emit (x := st) hz
      have g4 := g2.2.1.2.2.1
      have g5 : a'.length < 160 := by have h1 := g2.2.2.1; have h2 := g2.2.1.2.1; omega
      refine ⟨_, ?_, ((fr_9 (Or.inr (Or.inl rfl))).trans hf2).trans (fr_14.trans (fr_9 (Or.inr (Or.inr rfl)))), k2, g1, g3⟩
      unfold px_mt
      repeat refine e_s rfl ?_
      refine e_bt (nI_lt (b := 5) (by omega) (by decide)) ?_
      repeat refine e_s rfl ?_
      rw [hi.2.1.1, nI_1, nI_1]
      refine e_c rfl hr2 (by omega) ?_
      repeat refine e_s rfl ?_
      refine e_c rfl (r_emit (d := D) g4 g5) (by omega) ?_
      exact e_r rfl
theorem r_one {f dep D : Nat} {v : pE → Int32} (ih : cLv b z L so r0 s0 f) (hdep : dep ≤ 5) (hf : 20 * (z - pos b z k) + 7 ≤ f + 1) (hD : 20 * (6 - dep) + 1 ≤ D) (hc : cOK I b z c) (hi : cIk I z e k acc) : ∃ I', px_mt D 34 [.ref 9, .int (nI dep)] I J (tR so r0) (tS L s0) n q (none, I', J, tR so r0, tS L s0, n, q) ∧ cFr I I' ∧ cRs I' b z e (PP b z (f + 1) 5 dep (pos b z k) acc v) := by
  have hz := hc.2.2.2.2.2
  have hkz := hi.2.1.2.1
  obtain ⟨D, rfl⟩ : ∃ x, D = x + 4 := ⟨D - 4, by omega⟩
  rw [PP_5]
  by_cases h1 : 0 ≤ tkc b z (pos b z k) ∨ (tkc b z (pos b z k) ≤ -1 ∧ -6 ≤ tkc b z (pos b z k))
  · rw [if_pos h1]
    have hp := tkc_lt (b := b) (z := z) (p := pos b z k) (fun e => by rw [e] at h1; revert h1; decide)
    have hpk := pos_k b z k hp
    have g5 : acc.length < 160 := by have := hi.2.2.1; omega
    refine ⟨_, ?_, (fr_14.trans (fr_9 (Or.inr (Or.inr rfl)))).trans (fr_9 (Or.inr (Or.inl rfl))), k + 1, rfl, hi.one (x := tkc b z (pos b z k)) hp hz⟩
    unfold px_mt
    refine e_s rfl ?_
    refine e_c rfl (r_token (d := D) hc hi.2.1.1 (by omega)) (by omega) ?_
    repeat refine e_s rfl ?_
    refine e_b (fun h => ?_) (fun h => ?_)
    · repeat refine e_s rfl ?_
      refine e_c rfl (r_emit (d := D) hi.2.1.2.2.1 g5) (by omega) ?_
      repeat refine e_s rfl ?_
      rw [show px_u (px_u I 14 acc.length (tkc b z (pos b z k))) 9 4 (nI (acc.length + 1)) 9 2 = nI k from hi.2.1.1, nI_1]
      exact e_r rfl
    · repeat refine e_s rfl ?_
      refine e_c rfl (r_name (d := D) _) (by omega) ?_
      refine e_s rfl ?_
      refine e_z (fun h3 => ?_) (fun h3 => ?_)
      · repeat refine e_s rfl ?_
        refine e_c rfl (r_emit (d := D) hi.2.1.2.2.1 g5) (by omega) ?_
        repeat refine e_s rfl ?_
        rw [show px_u (px_u I 14 acc.length (tkc b z (pos b z k))) 9 4 (nI (acc.length + 1)) 9 2 = nI k from hi.2.1.1, nI_1]
        exact e_r rfl
      · exact absurd h1 (fun h1 => h1.elim h (fun h4 => by rw [decide_eq_true h4] at h3; cases h3))
  · rw [if_neg h1]
    have h1a : ¬ 0 ≤ tkc b z (pos b z k) := fun h => h1 (Or.inl h)
    have h1b := decide_eq_false (fun h => h1 (Or.inr h) : ¬ (tkc b z (pos b z k) ≤ -1 ∧ -6 ≤ tkc b z (pos b z k)))
    by_cases h2 : tkc b z (pos b z k) = -13
    · rw [if_pos h2]
      have hp := tkc_lt (b := b) (z := z) (p := pos b z k) (by rw [h2]; decide)
      obtain ⟨I', hr, hfr, hs⟩ := r_pre (m := 5) (dep := dep) (D := D + 3) (st := -15) (v := v) (g := fun v' e => - (v' e)) (J := J) (n := n) (q := q) ih (by decide) hdep (by omega) (by omega) hc hi hp
      refine ⟨I', ?_, hfr, hs⟩
      unfold px_mt
      refine e_s rfl ?_
      refine e_c rfl (r_token (d := D) hc hi.2.1.1 (by omega)) (by omega) ?_
      repeat refine e_s rfl ?_
      refine e_bf h1a ?_
      repeat refine e_s rfl ?_
      refine e_c rfl (r_name (d := D) _) (by omega) ?_
      rw [h1b]
      refine e_s rfl ?_
      refine e_pc (p2 := 34) (by decide) ?_
      repeat refine e_s rfl ?_
      refine e_bf (fun g => g h2) ?_
      repeat refine e_s rfl ?_
      refine e_c rfl hr (by omega) ?_
      refine e_s rfl ?_
      exact e_r rfl
    · rw [if_neg h2]
      by_cases h3 : tkc b z (pos b z k) = -19 ∧ dep < 5
      · rw [if_pos h3]
        have hp := tkc_lt (b := b) (z := z) (p := pos b z k) (by rw [h3.1]; decide)
        have hi2 := hi.adv hp
        have hc2 := hc.fr (fr_9 (k := 2) (x := nI (k + 1)) (Or.inr (Or.inl rfl)))
        have hpos : pos b z (k + 1) = nxt b z (pos b z k) := rfl
        have hlt := (nxt_le (b := b) (Nat.le_of_lt hp)).2 hp
        obtain ⟨I2, hr2, hf2, hs2⟩ := ih 0 (dep + 1) (k + 1) acc v (e + 1) _ J c n q (D + 3) (by decide) (by omega) (by rw [hpos]; omega) (by omega) hc2 hi2
        rw [hpos] at hs2
        have hc3 := hc2.fr hf2
        revert hs2
        generalize PP b z f 0 (dep + 1) (nxt b z (pos b z k)) acc v = r
        intro hs2
        obtain ⟨o, p', a', v'⟩ := r
        cases o
        · obtain ⟨g1, g2, k2, s2, g3⟩ := hs2
          obtain ⟨I3, hr3, hf3, hs3⟩ := x_F (w := -20) (J := J) (so := so) (r0 := r0) (L := L) (s0 := s0) (n := n) (q := q) (d := D) hc3 g1 g2 g3 (by decide)
          refine ⟨I3, ?_, ((fr_9 (Or.inr (Or.inl rfl))).trans hf2).trans hf3, hs3.1, g2, hs3.2⟩
          unfold px_mt
          refine e_s rfl ?_
          refine e_c rfl (r_token (d := D) hc hi.2.1.1 (by omega)) (by omega) ?_
          repeat refine e_s rfl ?_
          refine e_bf h1a ?_
          repeat refine e_s rfl ?_
          refine e_c rfl (r_name (d := D) _) (by omega) ?_
          rw [h1b]
          refine e_s rfl ?_
          refine e_pc (p2 := 34) (by decide) ?_
          repeat refine e_s rfl ?_
          refine e_bt h2 ?_
          repeat refine e_s rfl ?_
          refine e_bf (fun g => g h3.1) ?_
          repeat refine e_s rfl ?_
          refine e_bf (nI_ge (b := 5) h3.2 (by decide)) ?_
          repeat refine e_s rfl ?_
          rw [hi.2.1.1, nI_1, nI_1]
          refine e_c rfl hr2 (by omega) ?_
          repeat refine e_s rfl ?_
          refine e_c rfl hr3 (by omega) ?_
          refine e_s rfl ?_
          exact e_r rfl
        · obtain ⟨k2, g1, g2⟩ := hs2
          subst g1
          have hk2z := g2.2.1.2.1
          by_cases h4 : tkc b z (pos b z k2) = -20
          · have hp2 := tkc_lt (b := b) (z := z) (p := pos b z k2) (by rw [h4]; decide)
            have g3 := g2.adv hp2
            have g4 : cIk (px_u I2 9 2 (nI (k2 + 1))) z e (k2 + 1) a' := ⟨g3.1, g3.2.1, by have := g3.2.2.1; omega, g3.2.2.2⟩
            refine ⟨px_u I2 9 2 (nI (k2 + 1)), ?_, ((fr_9 (Or.inr (Or.inl rfl))).trans hf2).trans (fr_9 (Or.inr (Or.inl rfl))), ?_⟩
            rotate_left
            · show cRs _ b z e (if tkc b z (pos b z k2) = -20 then (true, nxt b z (pos b z k2), a', v') else (false, pos b z k2, a', v'))
              rw [if_pos h4]
              exact ⟨k2 + 1, rfl, g4⟩
            unfold px_mt
            refine e_s rfl ?_
            refine e_c rfl (r_token (d := D) hc hi.2.1.1 (by omega)) (by omega) ?_
            repeat refine e_s rfl ?_
            refine e_bf h1a ?_
            repeat refine e_s rfl ?_
            refine e_c rfl (r_name (d := D) _) (by omega) ?_
            rw [h1b]
            refine e_s rfl ?_
            refine e_pc (p2 := 34) (by decide) ?_
            repeat refine e_s rfl ?_
            refine e_bt h2 ?_
            repeat refine e_s rfl ?_
            refine e_bf (fun g => g h3.1) ?_
            repeat refine e_s rfl ?_
            refine e_bf (nI_ge (b := 5) h3.2 (by decide)) ?_
            repeat refine e_s rfl ?_
            rw [hi.2.1.1, nI_1, nI_1]
            refine e_c rfl hr2 (by omega) ?_
            repeat refine e_s rfl ?_
            refine e_c rfl (x_ok (d := D) hc3 g2.2.1.1 (by omega) h4) (by omega) ?_
            refine e_s rfl ?_
            exact e_r rfl
          · refine ⟨px_u I2 9 1 (nI (pos b z k2)), ?_, ((fr_9 (Or.inr (Or.inl rfl))).trans hf2).trans (fr_9 (Or.inl rfl)), ?_⟩
            rotate_left
            · show cRs _ b z e (if tkc b z (pos b z k2) = -20 then (true, nxt b z (pos b z k2), a', v') else (false, pos b z k2, a', v'))
              rw [if_neg h4]
              exact ⟨u_eq, pos_le b z k2, k2, a'.length, g2.2.1⟩
            unfold px_mt
            refine e_s rfl ?_
            refine e_c rfl (r_token (d := D) hc hi.2.1.1 (by omega)) (by omega) ?_
            repeat refine e_s rfl ?_
            refine e_bf h1a ?_
            repeat refine e_s rfl ?_
            refine e_c rfl (r_name (d := D) _) (by omega) ?_
            rw [h1b]
            refine e_s rfl ?_
            refine e_pc (p2 := 34) (by decide) ?_
            repeat refine e_s rfl ?_
            refine e_bt h2 ?_
            repeat refine e_s rfl ?_
            refine e_bf (fun g => g h3.1) ?_
            repeat refine e_s rfl ?_
            refine e_bf (nI_ge (b := 5) h3.2 (by decide)) ?_
            repeat refine e_s rfl ?_
            rw [hi.2.1.1, nI_1, nI_1]
            refine e_c rfl hr2 (by omega) ?_
            repeat refine e_s rfl ?_
            refine e_c rfl (x_bad (d := D) hc3 g2.1 g2.2.1.1 (by omega) h4) (by omega) ?_
            refine e_s rfl ?_
            exact e_r rfl
      · rw [if_neg h3]
        refine ⟨_, ?_, fr_9 (Or.inl rfl), u_eq, pos_le b z k, k, acc.length, hi.2.1⟩
        unfold px_mt
        refine e_s rfl ?_
        refine e_c rfl (r_token (d := D) hc hi.2.1.1 (by omega)) (by omega) ?_
        repeat refine e_s rfl ?_
        refine e_bf h1a ?_
        repeat refine e_s rfl ?_
        refine e_c rfl (r_name (d := D) _) (by omega) ?_
        rw [h1b]
        refine e_s rfl ?_
        refine e_pc (p2 := 34) (by decide) ?_
        repeat refine e_s rfl ?_
        refine e_bt h2 ?_
        repeat refine e_s rfl ?_
        by_cases h4 : tkc b z (pos b z k) = -19
        · refine e_bf (fun g => g h4) ?_
          repeat refine e_s rfl ?_
          refine e_bt (nI_le (a := 5) (by have : ¬ dep < 5 := fun g => h3 ⟨h4, g⟩; omega) (by omega)) ?_
          refine e_s rfl ?_
          refine e_c rfl (r_fail (d := D) hc hi.1 hi.2.1.1 (by omega)) (by omega) ?_
          exact e_r rfl
        · refine e_bt h4 ?_
          refine e_s rfl ?_
          refine e_c rfl (r_fail (d := D) hc hi.1 hi.2.1.1 (by omega)) (by omega) ?_
          exact e_r rfl
end PXT5
