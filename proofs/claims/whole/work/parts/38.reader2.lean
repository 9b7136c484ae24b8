/-! THE READER of the class: levels and chains -/
section PXT6
variable {n q L z c k e : Nat} {so : Option Nat} {I : px_HI} {J : px_HJ} {r0 : px_HR} {s0 : px_HS} {b : Nat → Int32} {acc : List Int32}
theorem ch_end {D p cnt mo l dep : Nat} {x5 : Option Value} (hf : I 9 1 = nI p) (hp : p ≤ 160) : px_ev (D + 1) 38 24 [some (.ref 9), some (.int (nI l)), some (.int (nI dep)), some (.int (nI mo)), some (.int (nI cnt)), x5] [] I J (tR so r0) (tS L s0) n q (none, I, J, tR so r0, tS L s0, n, q) := by
  repeat refine e_s rfl ?_
  refine e_b (fun h => ?_) (fun h => ?_)
  · exact e_r rfl
  · repeat refine e_s rfl ?_
    rw [hf]
    refine e_bt (nI_m1 (by omega)) ?_
    exact e_r rfl
theorem w_chn {f : Nat} (ihL : cLv b z L so r0 s0 f) (ihC : cCh b z L so r0 s0 f) : cCh b z L so r0 s0 (f + 1) := by
  intro l dep k acc v e cnt mo x5 I J c n q D hl hdep hf hD hc hi hmo
  have hz := hc.2.2.2.2.2
  have hkz := hi.2.1.2.1
  obtain ⟨D, rfl⟩ : ∃ x, D = x + 3 := ⟨D - 3, by omega⟩
  rw [PP_c]
  by_cases ht : lvI (tkc b z (pos b z k)) = nI l
  · rw [if_pos ht]
    have hp := tkc_lt (b := b) (z := z) (p := pos b z k) (fun g => by rw [g, lvI_22] at ht; exact nI_m1 (by omega) ht.symm)
    have hcm : cnt < mo := by rcases hmo with h | h <;> omega
    have hi2 := hi.adv hp
    have hc2 := hc.fr (fr_9 (k := 2) (x := nI (k + 1)) (Or.inr (Or.inl rfl)))
    have hpos : pos b z (k + 1) = nxt b z (pos b z k) := rfl
    have hlt := (nxt_le (b := b) (Nat.le_of_lt hp)).2 hp
    obtain ⟨I2, hr2, hf2, hs2⟩ := ihL (l + 1) dep (k + 1) acc v (e + 1) _ J c n q (D + 2) (by omega) hdep (by rw [hpos]; omega) (by omega) hc2 hi2
    have hc3 := hc2.fr hf2
    have hle := PP_le b z f (l + 1) dep (pos b z (k + 1)) acc v (pos_le b z _)
    rw [hpos] at hs2 hle
    revert hs2 hle
    generalize PP b z f (l + 1) dep (nxt b z (pos b z k)) acc v = r
    intro hs2 hle
    obtain ⟨o, p', a', w⟩ := r
    cases o
    · obtain ⟨g1, g2, k2, s2, g3⟩ := hs2
      obtain ⟨I3, hr3, hf3, hs3, hk3⟩ := r_emitF (J := J) (so := so) (r0 := r0) (L := L) (s0 := s0) (n := n) (q := q) (x := tkc b z (pos b z k)) (d := D) g3
      refine ⟨I3, ?_, ((fr_9 (Or.inr (Or.inl rfl))).trans hf2).trans hf3, by rw [hs3]; exact g1, g2, hk3⟩
      repeat refine e_s rfl ?_
      refine e_bf (nI_ge hcm (by rcases hmo with h | h <;> omega)) ?_
      repeat refine e_s rfl ?_
      rw [hi.1]
      refine e_pc (p2 := 38) (by decide) ?_
      refine e_s rfl ?_
      refine e_c rfl (r_token (d := D) hc hi.2.1.1 (by omega)) (by omega) ?_
      refine e_c rfl (r_lvl (d := D) _) (by omega) ?_
      repeat refine e_s rfl ?_
      refine e_bf (fun g => g ht) ?_
      refine e_s rfl ?_
      refine e_c rfl (r_token (d := D) hc hi.2.1.1 (by omega)) (by omega) ?_
      repeat refine e_s rfl ?_
      rw [hi.2.1.1, nI_1, nI_1]
      refine e_c rfl hr2 (by omega) ?_
      repeat refine e_s rfl ?_
      refine e_c rfl hr3 (by omega) ?_
      refine e_s rfl ?_
      refine e_s rfl ?_
      rw [nI_1]
      exact ch_end (p := p') (by rw [hs3]; exact g1) (by omega)
    · obtain ⟨k2, g1, g2⟩ := hs2
      subst g1
      have hle1 := hle.2.1
      simp only at hle1
      have g3 := g2.emit (x := tkc b z (pos b z k)) hz
      have g4 := g2.2.1.2.2.1
      have g5 : a'.length < 160 := by have h1 := g2.2.2.1; have h2 := g2.2.1.2.1; omega
      have hfr := ((fr_9 (I := I) (k := 2) (x := nI (k + 1)) (Or.inr (Or.inl rfl))).trans hf2).trans ((fr_14 (k := a'.length) (x := tkc b z (pos b z k))).trans (fr_9 (k := 4) (x := nI (a'.length + 1)) (Or.inr (Or.inr rfl))))
      by_cases h2 : l = 2
      · subst h2
        refine ⟨_, ?_, hfr, k2, rfl, g3⟩
        repeat refine e_s rfl ?_
        refine e_bf (nI_ge hcm (by rcases hmo with h | h <;> omega)) ?_
        repeat refine e_s rfl ?_
        rw [hi.1]
        refine e_pc (p2 := 38) (by decide) ?_
        refine e_s rfl ?_
        refine e_c rfl (r_token (d := D) hc hi.2.1.1 (by omega)) (by omega) ?_
        refine e_c rfl (r_lvl (d := D) _) (by omega) ?_
        repeat refine e_s rfl ?_
        refine e_bf (fun g => g ht) ?_
        refine e_s rfl ?_
        refine e_c rfl (r_token (d := D) hc hi.2.1.1 (by omega)) (by omega) ?_
        repeat refine e_s rfl ?_
        rw [hi.2.1.1, nI_1, nI_1]
        refine e_c rfl hr2 (by omega) ?_
        repeat refine e_s rfl ?_
        refine e_c rfl (r_emit (d := D) g4 g5) (by omega) ?_
        refine e_s rfl ?_
        refine e_s rfl ?_
        rw [nI_1]
        repeat refine e_s rfl ?_
        refine e_bt (nI_le (by rcases hmo with h | h <;> omega) (by rcases hmo with h | h <;> omega)) ?_
        exact e_r rfl
      · have hmo2 : mo = 160 ∧ cnt ≤ pos b z k := by rcases hmo with h | h <;> omega
        obtain ⟨I4, hr4, hf4, hs4⟩ := ihC l dep k2 (a' ++ [tkc b z (pos b z k)]) (fun e => jn (tkc b z (pos b z k)) (v e) (w e)) e (cnt + 1) mo (some (.int (tkc b z (pos b z k)))) _ J c n q (D + 3) hl hdep (by omega) (by omega) (hc.fr hfr) g3 (Or.inr ⟨h2, hmo2.1, by omega⟩)
        refine ⟨I4, ?_, hfr.trans hf4, ?_⟩
        rotate_left
        · show cRs I4 b z e (if l = 2 then _ else _)
          rw [if_neg h2]
          exact hs4
        repeat refine e_s rfl ?_
        refine e_bf (nI_ge hcm (by rcases hmo with h | h <;> omega)) ?_
        repeat refine e_s rfl ?_
        rw [hi.1]
        refine e_pc (p2 := 38) (by decide) ?_
        refine e_s rfl ?_
        refine e_c rfl (r_token (d := D) hc hi.2.1.1 (by omega)) (by omega) ?_
        refine e_c rfl (r_lvl (d := D) _) (by omega) ?_
        repeat refine e_s rfl ?_
        refine e_bf (fun g => g ht) ?_
        refine e_s rfl ?_
        refine e_c rfl (r_token (d := D) hc hi.2.1.1 (by omega)) (by omega) ?_
        repeat refine e_s rfl ?_
        rw [hi.2.1.1, nI_1, nI_1]
        refine e_c rfl hr2 (by omega) ?_
        repeat refine e_s rfl ?_
        refine e_c rfl (r_emit (d := D) g4 g5) (by omega) ?_
        refine e_s rfl ?_
        refine e_s rfl ?_
        rw [nI_1]
        exact hr4
  · rw [if_neg ht]
    refine ⟨I, ?_, cFr.refl I, k, rfl, hi⟩
    repeat refine e_s rfl ?_
    refine e_b (fun h => ?_) (fun h => ?_)
    · exact e_r rfl
    · repeat refine e_s rfl ?_
      rw [hi.1]
      refine e_pc (p2 := 38) (by decide) ?_
      refine e_s rfl ?_
      refine e_c rfl (r_token (d := D) hc hi.2.1.1 (by omega)) (by omega) ?_
      refine e_c rfl (r_lvl (d := D) _) (by omega) ?_
      repeat refine e_s rfl ?_
      refine e_bt ht ?_
      exact e_r rfl
theorem r_chn {f m dep D : Nat} {v : pE → Int32} (ihL : cLv b z L so r0 s0 f) (ihC : cCh b z L so r0 s0 f) (hm : m < 5) (hdep : dep ≤ 5) (hf : 20 * (z - pos b z k) + 12 - m ≤ f + 1) (hD : 20 * (6 - dep) + 2 * (6 - m) ≤ D + 1) (hc : cOK I b z c) (hi : cIk I z e k acc) (hn : ¬ (m = 2 ∧ tkc b z (pos b z k) = -9)) : ∃ I', px_mt D 38 [.ref 9, .int (nI m), .int (nI dep)] I J (tR so r0) (tS L s0) n q (none, I', J, tR so r0, tS L s0, n, q) ∧ cFr I I' ∧ cRs I' b z e (PP b z (f + 1) m dep (pos b z k) acc v) := by
  have hz := hc.2.2.2.2.2
  obtain ⟨D, rfl⟩ : ∃ x, D = x + 1 := ⟨D - 1, by omega⟩
  rw [PP_l b z f m dep _ acc v hm hn]
  obtain ⟨I2, hr2, hf2, hs2⟩ := ihL (m + 1) dep k acc v e I J c n q D (by omega) hdep (by omega) (by omega) hc hi
  have hc3 := hc.fr hf2
  have hle := PP_le b z f (m + 1) dep (pos b z k) acc v (pos_le b z _)
  revert hs2 hle
  generalize PP b z f (m + 1) dep (pos b z k) acc v = r
  intro hs2 hle
  obtain ⟨o, p', a', w⟩ := r
  cases o
  · obtain ⟨g1, g2, g3⟩ := hs2
    refine ⟨I2, ?_, hf2, g1, g2, g3⟩
    unfold px_mt
    repeat refine e_s rfl ?_
    rw [nI_1]
    refine e_c rfl hr2 (by omega) ?_
    repeat refine e_s rfl ?_
    refine e_b (fun h => ?_) (fun h => ?_)
    · refine e_s rfl ?_
      refine e_s rfl ?_
      refine e_s rfl ?_
      refine e_s rfl ?_
      exact ch_end (p := p') (mo := 160) (cnt := 0) g1 (by omega)
    · refine e_s rfl ?_
      refine e_s rfl ?_
      refine e_s rfl ?_
      refine e_s rfl ?_
      refine e_s rfl ?_
      exact ch_end (p := p') (mo := 1) (cnt := 0) g1 (by omega)
  · obtain ⟨k2, g1, g2⟩ := hs2
    subst g1
    have hle1 := hle.2.2 rfl (by omega)
    have hle2 := hle.1
    simp only at hle1 hle2
    by_cases h2 : m = 2
    · obtain ⟨I4, hr4, hf4, hs4⟩ := ihC m dep k2 a' w e 0 1 none I2 J c n q (D + 1) (by omega) hdep (by omega) (by omega) hc3 g2 (Or.inl ⟨h2, rfl, rfl⟩)
      refine ⟨I4, ?_, hf2.trans hf4, hs4⟩
      unfold px_mt
      repeat refine e_s rfl ?_
      rw [nI_1]
      refine e_c rfl hr2 (by omega) ?_
      repeat refine e_s rfl ?_
      refine e_bf (fun g => g (by rw [h2]; rfl)) ?_
      refine e_s rfl ?_
      refine e_s rfl ?_
      refine e_s rfl ?_
      refine e_s rfl ?_
      refine e_s rfl ?_
      exact hr4
    · obtain ⟨I4, hr4, hf4, hs4⟩ := ihC m dep k2 a' w e 0 160 none I2 J c n q (D + 1) (by omega) hdep (by omega) (by omega) hc3 g2 (Or.inr ⟨h2, rfl, by omega⟩)
      refine ⟨I4, ?_, hf2.trans hf4, hs4⟩
      unfold px_mt
      repeat refine e_s rfl ?_
      rw [nI_1]
      refine e_c rfl hr2 (by omega) ?_
      repeat refine e_s rfl ?_
      refine e_bt (fun g => h2 ((nI_eq (b := 2) (by omega) (by omega)).mp g)) ?_
      refine e_s rfl ?_
      refine e_s rfl ?_
      refine e_s rfl ?_
      refine e_s rfl ?_
      exact hr4
theorem w_lev {f : Nat} (ihL : cLv b z L so r0 s0 f) (ihC : cCh b z L so r0 s0 f) : cLv b z L so r0 s0 (f + 1) := by
  intro m dep k acc v e I J c n q D hm hdep hf hD hc hi
  have hz := hc.2.2.2.2.2
  have hkz := hi.2.1.2.1
  obtain ⟨D, rfl⟩ : ∃ x, D = x + 4 := ⟨D - 4, by omega⟩
  by_cases h5 : m = 5
  · subst h5
    obtain ⟨I', hr, hfr, hs⟩ := r_one (J := J) (n := n) (q := q) (D := D + 3) (v := v) ihL hdep (by omega) (by omega) hc hi
    refine ⟨I', ?_, hfr, hs⟩
    unfold px_mt
    repeat refine e_s rfl ?_
    rw [hi.1]
    refine e_pc (p2 := 9) (by decide) ?_
    repeat refine e_s rfl ?_
    refine e_c rfl hr (by omega) ?_
    refine e_s rfl ?_
    exact e_r rfl
  · by_cases hn : m = 2 ∧ tkc b z (pos b z k) = -9
    · obtain ⟨rfl, hn⟩ := hn
      have hp := tkc_lt (b := b) (z := z) (p := pos b z k) (by rw [hn]; decide)
      obtain ⟨I', hr, hfr, hs⟩ := r_pre (m := 2) (dep := dep) (D := D + 3) (st := -9) (v := v) (g := fun v' e => bI (decide (v' e = 0))) (J := J) (n := n) (q := q) ihL (by decide) hdep (by omega) (by omega) hc hi hp
      rw [PP_n b z f dep _ acc v hn]
      refine ⟨I', ?_, hfr, hs⟩
      unfold px_mt
      repeat refine e_s rfl ?_
      rw [hi.1]
      refine e_pc (p2 := 9) (by decide) ?_
      repeat refine e_s rfl ?_
      refine e_c rfl (r_token (d := D) hc hi.2.1.1 (by omega)) (by omega) ?_
      repeat refine e_s rfl ?_
      refine e_bf (fun g => g hn) ?_
      repeat refine e_s rfl ?_
      refine e_c rfl hr (by omega) ?_
      refine e_s rfl ?_
      exact e_r rfl
    · obtain ⟨I', hr, hfr, hs⟩ := r_chn (J := J) (n := n) (q := q) (D := D + 3) (v := v) ihL ihC (by omega) hdep hf (by omega) hc hi hn
      refine ⟨I', ?_, hfr, hs⟩
      unfold px_mt
      repeat refine e_s rfl ?_
      rw [hi.1]
      refine e_pc (p2 := 9) (by decide) ?_
      repeat refine e_s rfl ?_
      refine e_bt (nI_lt (b := 5) (by omega) (by decide)) ?_
      repeat refine e_s rfl ?_
      by_cases h2 : m = 2
      · refine e_bf (fun g => g (by rw [h2]; rfl)) ?_
        refine e_s rfl ?_
        refine e_c rfl (r_token (d := D) hc hi.2.1.1 (by omega)) (by omega) ?_
        repeat refine e_s rfl ?_
        refine e_bt (fun g => hn ⟨h2, g⟩) ?_
        repeat refine e_s rfl ?_
        refine e_c rfl hr (by omega) ?_
        exact e_r rfl
      · refine e_bt (fun g => h2 ((nI_eq (b := 2) (by omega) (by omega)).mp g)) ?_
        repeat refine e_s rfl ?_
        refine e_c rfl hr (by omega) ?_
        exact e_r rfl
theorem w_all (b : Nat → Int32) (z L : Nat) (so : Option Nat) (r0 : px_HR) (s0 : px_HS) : ∀ f, cLv b z L so r0 s0 f ∧ cCh b z L so r0 s0 f
  | 0 => ⟨fun m dep k acc v e I J c n q D hm hdep hf => absurd hf (by omega), fun l dep k acc v e cnt mo x5 I J c n q D hl hdep hf => absurd hf (by omega)⟩
  | f + 1 => ⟨w_lev (w_all b z L so r0 s0 f).1 (w_all b z L so r0 s0 f).2, w_chn (w_all b z L so r0 s0 f).1 (w_all b z L so r0 s0 f).2⟩
end PXT6
