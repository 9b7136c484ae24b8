/-! THE MODEL: signs and words, by the codes of the class -/
def wcd (j : Nat) : Int32 := [0, -1, -2, -3, -4, -5, -6, -7, -8, -9, -16, -17, -18].getD j 0
theorem wc_cases (b : Nat → Int32) (i e : Nat) : (∃ j, 1 ≤ j ∧ j ≤ 12 ∧ isw (px_by.getD j []) b i e = true ∧ wcode b i e = wcd j) ∨ (∀ j, 1 ≤ j → j ≤ 12 → isw (px_by.getD j []) b i e = false) ∧ wcode b i e = -23 := by
  unfold wcode
  by_cases h1 : isw (px_by.getD 1 []) b i e = true
  · rw [h1]
    exact Or.inl ⟨1, by decide, by decide, h1, rfl⟩
  replace h1 := Bool.eq_false_iff.mpr h1
  by_cases h2 : isw (px_by.getD 2 []) b i e = true
  · rw [h1, h2]
    exact Or.inl ⟨2, by decide, by decide, h2, rfl⟩
  replace h2 := Bool.eq_false_iff.mpr h2
  by_cases h3 : isw (px_by.getD 3 []) b i e = true
  · rw [h1, h2, h3]
    exact Or.inl ⟨3, by decide, by decide, h3, rfl⟩
  replace h3 := Bool.eq_false_iff.mpr h3
  by_cases h4 : isw (px_by.getD 4 []) b i e = true
  · rw [h1, h2, h3, h4]
    exact Or.inl ⟨4, by decide, by decide, h4, rfl⟩
  replace h4 := Bool.eq_false_iff.mpr h4
  by_cases h5 : isw (px_by.getD 5 []) b i e = true
  · rw [h1, h2, h3, h4, h5]
    exact Or.inl ⟨5, by decide, by decide, h5, rfl⟩
  replace h5 := Bool.eq_false_iff.mpr h5
  by_cases h6 : isw (px_by.getD 6 []) b i e = true
  · rw [h1, h2, h3, h4, h5, h6]
    exact Or.inl ⟨6, by decide, by decide, h6, rfl⟩
  replace h6 := Bool.eq_false_iff.mpr h6
  by_cases h7 : isw (px_by.getD 7 []) b i e = true
  · rw [h1, h2, h3, h4, h5, h6, h7]
    exact Or.inl ⟨7, by decide, by decide, h7, rfl⟩
  replace h7 := Bool.eq_false_iff.mpr h7
  by_cases h8 : isw (px_by.getD 8 []) b i e = true
  · rw [h1, h2, h3, h4, h5, h6, h7, h8]
    exact Or.inl ⟨8, by decide, by decide, h8, rfl⟩
  replace h8 := Bool.eq_false_iff.mpr h8
  by_cases h9 : isw (px_by.getD 9 []) b i e = true
  · rw [h1, h2, h3, h4, h5, h6, h7, h8, h9]
    exact Or.inl ⟨9, by decide, by decide, h9, rfl⟩
  replace h9 := Bool.eq_false_iff.mpr h9
  by_cases h10 : isw (px_by.getD 10 []) b i e = true
  · rw [h1, h2, h3, h4, h5, h6, h7, h8, h9, h10]
    exact Or.inl ⟨10, by decide, by decide, h10, rfl⟩
  replace h10 := Bool.eq_false_iff.mpr h10
  by_cases h11 : isw (px_by.getD 11 []) b i e = true
  · rw [h1, h2, h3, h4, h5, h6, h7, h8, h9, h10, h11]
    exact Or.inl ⟨11, by decide, by decide, h11, rfl⟩
  replace h11 := Bool.eq_false_iff.mpr h11
  by_cases h12 : isw (px_by.getD 12 []) b i e = true
  · rw [h1, h2, h3, h4, h5, h6, h7, h8, h9, h10, h11, h12]
    exact Or.inl ⟨12, by decide, by decide, h12, rfl⟩
  replace h12 := Bool.eq_false_iff.mpr h12
  rw [h1, h2, h3, h4, h5, h6, h7, h8, h9, h10, h11, h12]
  refine Or.inr ⟨fun j hj1 hj2 => ?_, rfl⟩
  have : j = 1 ∨ j = 2 ∨ j = 3 ∨ j = 4 ∨ j = 5 ∨ j = 6 ∨ j = 7 ∨ j = 8 ∨ j = 9 ∨ j = 10 ∨ j = 11 ∨ j = 12 := by omega
  rcases this with rfl | rfl | rfl | rfl | rfl | rfl | rfl | rfl | rfl | rfl | rfl | rfl <;> assumption
theorem isl_inj {b : Nat → Int32} : ∀ {W W' : List Int32} {p : Nat}, isl b W p = true → isl b W' p = true → W.length = W'.length → W = W'
  | [], [], _, _, _, _ => rfl
  | [], y :: W', _, _, _, h => by cases h
  | x :: W, [], _, _, _, h => by cases h
  | x :: W, y :: W', p, h1, h2, h => by
    unfold isl at h1 h2
    have a1 := Bool.and_eq_true_iff.mp h1
    have a2 := Bool.and_eq_true_iff.mp h2
    have e1 := of_decide_eq_true a1.1
    have e2 := of_decide_eq_true a2.1
    rw [← e1, ← e2, isl_inj a1.2 a2.2 (Nat.succ.inj h)]
theorem isw_inj {b : Nat → Int32} {W W' : List Int32} {p e : Nat} (h1 : isw W b p e = true) (h2 : isw W' b p e = true) : W = W' := by
  have a1 := Bool.and_eq_true_iff.mp h1
  have a2 := Bool.and_eq_true_iff.mp h2
  exact isl_inj a1.2 a2.2 ((Nat.beq_eq.mp a1.1).symm.trans (Nat.beq_eq.mp a2.1))
theorem by_ne : ∀ j, j < 13 → ∀ k, k < 13 → px_by.getD j [] = px_by.getD k [] → j = k := by decide +kernel
theorem wcd_ne : ∀ j, j < 13 → 1 ≤ j → ∀ k, k < 13 → 1 ≤ k → wcd j = wcd k → j = k := by decide +kernel
theorem wcd_23 : ∀ j, j < 13 → 1 ≤ j → ¬ wcd j = -23 ∧ ¬ wcd j = -22 ∧ wcd j < 0 ∧ (∀ m, m < 62 → ¬ wcd j = mcode (nI m) ∨ mcode (nI m) = -23) := by decide +kernel
theorem wc_k {b : Nat → Int32} {p e k : Nat} (hk1 : 1 ≤ k) (hk : k ≤ 12) : isw (px_by.getD k []) b p e = decide (wcode b p e = wcd k) := by
  rcases wc_cases b p e with ⟨j, hj1, hj2, hj, hw⟩ | ⟨hall, hw⟩
  · cases h : isw (px_by.getD k []) b p e with
    | true =>
      have := by_ne j (by omega) k (by omega) (isw_inj hj h)
      subst this
      exact (decide_eq_true hw).symm
    | false =>
      refine (decide_eq_false ?_).symm
      intro g
      rw [hw] at g
      have := wcd_ne j (by omega) hj1 k (by omega) hk1 g
      subst this
      rw [hj] at h
      cases h
  · rw [hall k hk1 hk]
    refine (decide_eq_false ?_).symm
    rw [hw]
    exact fun g => (wcd_23 k (by omega) hk1).1 g.symm
theorem skp_all {P : Int32 → Bool} {b : Nat → Int32} : ∀ f i j, i ≤ j → j < skp P b f i → P (b j) = true
  | 0, i, j, h1, h2 => by unfold skp at h2; omega
  | f + 1, i, j, h1, h2 => by
    cases h : P (b i) with
    | false => rw [skp_f h] at h2; omega
    | true =>
      rw [skp_t h] at h2
      by_cases e : i = j
      · rw [← e]; exact h
      · exact skp_all f (i + 1) j (by omega) h2
/-- what a token is, by kind -/
theorem tk_cases (b : Nat → Int32) (z p : Nat) : (z ≤ p ∧ mkd b z p = 0 ∧ tkc b z p = -22) ∨ (p < z ∧ mkd b z p = 1 ∧ isLt (b p) = true ∧ tkc b z p = wcode b p (tke b z p)) ∨ (p < z ∧ mkd b z p = 2 ∧ ∃ V, V < 10000 ∧ tkc b z p = nI V) ∨ (p < z ∧ mkd b z p = 3 ∧ tkc b z p = mcode (b p) ∧ ¬ mcode (b p) = -23) ∨ (p < z ∧ mkd b z p = 4 ∧ tkc b z p = -23) := by
  by_cases hz : z ≤ p
  · exact Or.inl ⟨hz, if_pos hz, if_pos hz⟩
  · have hlt : p < z := by omega
    unfold mkd tkc
    rw [if_neg hz, if_neg hz]
    cases hl : isLt (b p) with
    | true => exact Or.inr (Or.inl ⟨hlt, rfl, rfl, rfl⟩)
    | false =>
      cases hd : isDg (b p) with
      | true =>
        have he : skp isDg b (z - p) p = tke b z p := by unfold tke; rw [hl, hd]; rfl
        have ht := tke_le (b := b) hlt
        by_cases h4 : 4 < tke b z p - p
        · refine Or.inr (Or.inr (Or.inr (Or.inr ⟨hlt, by rw [if_pos h4]; rfl, ?_⟩)))
          show ncode b p (tke b z p) = -23
          unfold ncode
          rw [if_pos h4]
        · refine Or.inr (Or.inr (Or.inl ⟨hlt, by rw [if_neg h4]; rfl, nvM b (z - p) p 0 0, nvM_lt b (z - p) p 0 0 (by decide) (by decide), ?_⟩))
          show ncode b p (tke b z p) = _
          unfold ncode
          rw [if_neg h4]
          exact nval_M b (z - p) p 0 0 (tke b z p - p) (by rw [he]; omega) (by omega)
      | false =>
        by_cases hm : mcode (b p) = -23
        · exact Or.inr (Or.inr (Or.inr (Or.inr ⟨hlt, by rw [if_pos hm]; rfl, hm⟩)))
        · exact Or.inr (Or.inr (Or.inr (Or.inl ⟨hlt, by rw [if_neg hm]; rfl, rfl, hm⟩)))
def mci (t : Int32) : Int32 := if t = -19 then 40 else if t = -20 then 41 else if t = -21 then 59 else if t = -12 then 43 else if t = -13 then 45 else if t = -14 then 42 else if t = -10 then 60 else if t = -11 then 61 else 0
theorem mci_m {x : Int32} (h : ¬ mcode x = -23) : mci (mcode x) = x ∧ mcode x < 0 ∧ ¬ mcode x = -22 := by
  unfold mcode at h ⊢
  by_cases h1 : x = 40
  · subst h1; decide
  by_cases h2 : x = 41
  · subst h2; decide
  by_cases h3 : x = 59
  · subst h3; decide
  by_cases h4 : x = 43
  · subst h4; decide
  by_cases h5 : x = 45
  · subst h5; decide
  by_cases h6 : x = 42
  · subst h6; decide
  by_cases h7 : x = 60
  · subst h7; decide
  by_cases h8 : x = 61
  · subst h8; decide
  rw [if_neg h1, if_neg h2, if_neg h3, if_neg h4, if_neg h5, if_neg h6, if_neg h7, if_neg h8] at h
  exact absurd rfl h
theorem wc_mk {b : Nat → Int32} {p e m : Nat} (hm : m < 62) (h : ¬ mcode (nI m) = -23) : ¬ wcode b p e = mcode (nI m) := by
  rcases wc_cases b p e with ⟨j, hj1, hj2, _, hw⟩ | ⟨_, hw⟩
  · rw [hw]
    rcases (wcd_23 j (by omega) hj1).2.2.2 m hm with g | g
    · exact g
    · exact absurd g h
  · rw [hw]
    exact fun g => h g.symm
/-- a sign is at hand: kind and byte -/
theorem tk_mark {b : Nat → Int32} {z p m : Nat} (hm : m < 62) (h : ¬ mcode (nI m) = -23) : decide (tkc b z p = mcode (nI m)) = (decide (mkd b z p = 3) && decide (b p = nI m)) := by
  have g := mci_m h
  rcases tk_cases b z p with ⟨_, h1, h2⟩ | ⟨_, h1, _, h2⟩ | ⟨_, h1, V, hV, h2⟩ | ⟨_, h1, h2, h3⟩ | ⟨_, h1, h2⟩
  · rw [h1, h2, decide_eq_false (fun e => g.2.2 e.symm)]; rfl
  · rw [h1, h2, decide_eq_false (wc_mk hm h)]; rfl
  · rw [h1, h2, decide_eq_false (fun e => by rw [← e] at g; exact nI_pos (by omega) g.2.1)]; rfl
  · rw [h1, h2]
    by_cases e : b p = nI m
    · rw [e, decide_eq_true rfl, decide_eq_true rfl, decide_eq_true rfl]; rfl
    · rw [decide_eq_false e, decide_eq_false, Bool.and_false]
      intro e2
      refine e ?_
      rw [← (mci_m h3).1, e2, g.1]
  · rw [h1, h2, decide_eq_false (fun e => h e.symm)]; rfl
theorem tk_word {b : Nat → Int32} {z p k : Nat} (hk1 : 1 ≤ k) (hk : k ≤ 12) : decide (tkc b z p = wcd k) = (decide (mkd b z p = 1) && isw (px_by.getD k []) b p (tke b z p)) := by
  have g := wcd_23 k (by omega) hk1
  rcases tk_cases b z p with ⟨_, h1, h2⟩ | ⟨_, h1, _, h2⟩ | ⟨_, h1, V, hV, h2⟩ | ⟨hz, h1, h2, h3⟩ | ⟨_, h1, h2⟩
  · rw [h1, h2, decide_eq_false (fun e => g.2.1 e.symm)]; rfl
  · rw [h1, h2, wc_k hk1 hk]; rfl
  · rw [h1, h2, decide_eq_false (fun e => by have := g.2.2.1; rw [← e] at this; exact nI_pos (by omega) this)]; rfl
  · rw [h1, h2, decide_eq_false]
    · rfl
    · intro e
      have g2 := mci_m h3
      have hx : b p = mci (wcd k) := by rw [← e]; exact g2.1.symm
      have : mci (wcd k) = 0 := by
        have : ∀ k, k < 13 → 1 ≤ k → mci (wcd k) = 0 := by decide +kernel
        exact this k (by omega) hk1
      rw [this] at hx
      rw [hx] at h3
      exact h3 (by decide)
  · rw [h1, h2, decide_eq_false (fun e => g.1 e.symm)]; rfl
def ql (b : Nat → Int32) (p e i : Nat) (l : Int32) : Bool := if p + i < e then decide (b (p + i) = l) else decide (l = 0)
def qs (b : Nat → Int32) (p e : Nat) : List Int32 → Nat → Bool
  | [], _ => true
  | l :: ls, i => ql b p e i l && qs b p e ls (i + 1)
theorem qs_0 {b : Nat → Int32} {p e : Nat} (hb : ∀ j, p ≤ j → j < e → ¬ b j = 0) : ∀ n i, qs b p e (List.replicate (n + 1) 0) i = decide (e ≤ p + i)
  | 0, i => by
    show (ql b p e i 0 && true) = _
    unfold ql
    by_cases h : p + i < e
    · rw [if_pos h, decide_eq_false (hb _ (by omega) h), decide_eq_false (by omega)]; rfl
    · rw [if_neg h, decide_eq_true rfl, decide_eq_true (by omega)]; rfl
  | n + 1, i => by
    show (ql b p e i 0 && qs b p e (List.replicate (n + 1) 0) (i + 1)) = _
    rw [qs_0 hb n (i + 1)]
    unfold ql
    by_cases h : p + i < e
    · rw [if_pos h, decide_eq_false (hb _ (by omega) h), decide_eq_false (show ¬ e ≤ p + i by omega)]; rfl
    · rw [if_neg h, decide_eq_true rfl, decide_eq_true (show e ≤ p + (i + 1) by omega), decide_eq_true (show e ≤ p + i by omega)]; rfl
theorem qs_w {b : Nat → Int32} {p e : Nat} (hb : ∀ j, p ≤ j → j < e → ¬ b j = 0) (n : Nat) : ∀ (W : List Int32) i, (∀ x, x ∈ W → ¬ x = 0) → qs b p e (W ++ List.replicate (n + 1) 0) i = (decide (e = p + i + W.length) && isl b W (p + i)) ∨ e < p + i ∧ W = []
  | [], i, hW => by
    by_cases h : e < p + i
    · exact Or.inr ⟨h, rfl⟩
    · refine Or.inl ?_
      show qs b p e (List.replicate (n + 1) 0) i = (decide (e = p + i + 0) && true)
      rw [qs_0 hb, Bool.and_true]
      exact decide_eq_decide.mpr ⟨fun g => by omega, fun g => by omega⟩
  | x :: W, i, hW => by
    refine Or.inl ?_
    have hx := hW x (List.mem_cons_self ..)
    show (ql b p e i x && qs b p e (W ++ List.replicate (n + 1) 0) (i + 1)) = (decide (e = p + i + (W.length + 1)) && (decide (b (p + i) = x) && isl b W (p + i + 1)))
    unfold ql
    by_cases h : p + i < e
    · rw [if_pos h]
      rcases qs_w hb n W (i + 1) (fun y hy => hW y (List.mem_cons_of_mem _ hy)) with g | g
      · rw [g, show p + (i + 1) = p + i + 1 by omega, show p + i + (W.length + 1) = p + i + 1 + W.length by omega]
        cases decide (b (p + i) = x) <;> cases decide (e = p + i + 1 + W.length) <;> rfl
      · omega
    · rw [if_neg h, decide_eq_false hx, decide_eq_false (show ¬ e = p + i + (W.length + 1) by omega)]
      rfl
theorem qw_isw {b : Nat → Int32} {p e : Nat} {W ls : List Int32} (n : Nat) (hls : ls = W ++ List.replicate (n + 1) 0) (hW : ∀ x, x ∈ W → ¬ x = 0) (hl : W.length ≤ 8) (hpe : p < e) (hb : ∀ j, p ≤ j → j < e → ¬ b j = 0) : (decide (e ≤ p + 8) && qs b p e ls 0) = isw W b p e := by
  rw [hls]
  rcases qs_w hb n W 0 hW with g | g
  · have g2 : qs b p e (W ++ List.replicate (n + 1) 0) 0 = (decide (e = p + W.length) && isl b W p) := g
    rw [g2]
    unfold isw
    by_cases h : e = p + W.length
    · rw [decide_eq_true h, decide_eq_true (by omega), show Nat.beq (e - p) W.length = true from Nat.beq_eq.mpr (by omega)]; rfl
    · rw [decide_eq_false h, show Nat.beq (e - p) W.length = false from Bool.eq_false_iff.mpr (fun z => h (by have := Nat.beq_eq.mp z; omega)), Bool.false_and, Bool.and_false]
  · omega
