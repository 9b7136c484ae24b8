/-! THE READER: what it reads, as a function; and the class's small methods -/
abbrev pE : Type := Int32 → Int32
abbrev pRes : Type := Bool × Nat × List Int32 × (pE → Int32)
def lvI (t : Int32) : Int32 := if t = -7 then 0 else if t = -8 then 1 else if t = -10 then 2 else if t = -11 then 2 else if t = -12 then 3 else if t = -13 then 3 else if t = -14 then 4 else -1
def jn (t a b : Int32) : Int32 := if t = -7 then bI (decide (¬ a = 0 ∨ ¬ b = 0)) else if t = -8 then bI (decide (¬ a = 0 ∧ ¬ b = 0)) else if t = -10 then bI (decide (a < b)) else if t = -11 then bI (decide (a = b)) else if t = -12 then a + b else if t = -13 then a - b else if t = -14 then a * b else 0
def pTh (r : pRes) (k : Nat → List Int32 → (pE → Int32) → pRes) : pRes := match r with
  | (false, x) => (false, x)
  | (true, p, a, v) => k p a v
/-- modes 0 to 5: a level at p; 10 to 14: what may follow at p behind one of that level -/
def PP (b : Nat → Int32) (z : Nat) : Nat → Nat → Nat → Nat → List Int32 → (pE → Int32) → pRes
  | 0, _, _, p, acc, v => (false, p, acc, v)
  | f + 1, m, dep, p, acc, v =>
    if m < 5 then
      if m = 2 ∧ tkc b z p = -9 then
        if 5 ≤ dep then (false, p, acc, v)
        else pTh (PP b z f 2 (dep + 1) (nxt b z p) acc v) (fun p' acc' v' => (true, p', acc' ++ [-9], fun e => bI (decide (v' e = 0))))
      else pTh (PP b z f (m + 1) dep p acc v) (fun p' acc' v' => PP b z f (m + 10) dep p' acc' v')
    else if m = 5 then
      if 0 ≤ tkc b z p ∨ (tkc b z p ≤ -1 ∧ -6 ≤ tkc b z p) then (true, nxt b z p, acc ++ [tkc b z p], fun e => if 0 ≤ tkc b z p then tkc b z p else e (tkc b z p))
      else if tkc b z p = -13 then
        if 5 ≤ dep then (false, p, acc, v)
        else pTh (PP b z f 5 (dep + 1) (nxt b z p) acc v) (fun p' acc' v' => (true, p', acc' ++ [-15], fun e => - (v' e)))
      else if tkc b z p = -19 ∧ dep < 5 then
        pTh (PP b z f 0 (dep + 1) (nxt b z p) acc v) (fun p' acc' v' => if tkc b z p' = -20 then (true, nxt b z p', acc', v') else (false, p', acc', v'))
      else (false, p, acc, v)
    else if lvI (tkc b z p) = nI (m - 10) then
      pTh (PP b z f (m - 9) dep (nxt b z p) acc v) (fun p' acc' w => if m = 12 then (true, p', acc' ++ [tkc b z p], fun e => jn (tkc b z p) (v e) (w e)) else PP b z f m dep p' (acc' ++ [tkc b z p]) (fun e => jn (tkc b z p) (v e) (w e)))
    else (true, p, acc, v)
theorem tkc_lt {b : Nat → Int32} {z p : Nat} (h : ¬ tkc b z p = -22) : p < z := by
  by_cases hz : z ≤ p
  · exact absurd (if_pos hz) h
  · omega
theorem lvI_22 : lvI (-22) = -1 := by decide
def PPok (z m p : Nat) (r : pRes) : Prop := r.2.1 ≤ z ∧ p ≤ r.2.1 ∧ (r.1 = true → m ≤ 5 → p < r.2.1)
theorem pTh_ok {z m p p1 : Nat} {r : pRes} {k : Nat → List Int32 → (pE → Int32) → pRes} (h : PPok z 9 p1 r) (hp : p ≤ p1) (hk : ∀ p' a v, r = (true, p', a, v) → PPok z m p (k p' a v)) : PPok z m p (pTh r k) := by
  obtain ⟨o, p', a, v⟩ := r
  cases o
  · exact ⟨h.1, Nat.le_trans hp h.2.1, fun e => by cases e⟩
  · exact hk p' a v rfl
theorem PPok.w {z m p : Nat} {r : pRes} (h : PPok z m p r) : PPok z 9 p r := ⟨h.1, h.2.1, fun _ h => absurd h (by decide)⟩
theorem PP_le (b : Nat → Int32) (z : Nat) : ∀ f m dep p acc v, p ≤ z → PPok z m p (PP b z f m dep p acc v)
  | 0, m, dep, p, acc, v, hp => ⟨hp, Nat.le_refl _, fun h => by cases h⟩
  | f + 1, m, dep, p, acc, v, hp => by
    have ih := PP_le b z f
    have hn := nxt_le (b := b) hp
    unfold PP
    split
    · rename_i hm
      split
      · rename_i h2
        split
        · exact ⟨hp, Nat.le_refl _, fun h => by cases h⟩
        · have hz := hn.2 (tkc_lt (by rw [h2.2]; decide))
          have h3 := ih 2 (dep + 1) (nxt b z p) acc v hn.1
          exact pTh_ok h3.w (by omega) (fun p' a w e => by rw [e] at h3; exact ⟨h3.1, by have := h3.2.1; simp only at this ⊢; omega, fun _ _ => by have := h3.2.1; simp only at this ⊢; omega⟩)
      · have h3 := ih (m + 1) dep p acc v hp
        refine pTh_ok h3.w (Nat.le_refl _) (fun p' a w e => ?_)
        rw [e] at h3
        have h4 := ih (m + 10) dep p' a w h3.1
        have h5 := h3.2.2 rfl (by omega)
        have h6 := h4.2.1
        simp only at h5
        exact ⟨h4.1, by omega, fun _ _ => by omega⟩
    · split
      · split
        · rename_i h2
          have hz := hn.2 (tkc_lt (b := b) (z := z) (p := p) (fun e => by rw [e] at h2; revert h2; decide))
          exact ⟨hn.1, by show p ≤ nxt b z p; omega, fun _ _ => hz⟩
        · split
          · rename_i h2
            split
            · exact ⟨hp, Nat.le_refl _, fun h => by cases h⟩
            · have hz := hn.2 (tkc_lt (by rw [h2]; decide))
              have h3 := ih 5 (dep + 1) (nxt b z p) acc v hn.1
              exact pTh_ok h3.w (by omega) (fun p' a w e => by rw [e] at h3; exact ⟨h3.1, by have := h3.2.1; simp only at this ⊢; omega, fun _ _ => by have := h3.2.1; simp only at this ⊢; omega⟩)
          · split
            · rename_i h2
              have hz := hn.2 (tkc_lt (by rw [h2.1]; decide))
              have h3 := ih 0 (dep + 1) (nxt b z p) acc v hn.1
              refine pTh_ok h3.w (by omega) (fun p' a w e => ?_)
              rw [e] at h3
              have h4 := h3.1
              have h5 := h3.2.1
              simp only at h4 h5
              have h6 := nxt_le (b := b) h4
              have h7 := h6.2
              split
              · rename_i hr
                have := h7 (tkc_lt (by rw [hr]; decide))
                exact ⟨h6.1, by show p ≤ nxt b z p'; omega, fun _ _ => by show p < nxt b z p'; omega⟩
              · exact ⟨h4, by show p ≤ p'; omega, fun h => by cases h⟩
            · exact ⟨hp, Nat.le_refl _, fun h => by cases h⟩
      · split
        · rename_i hm hm5 hl
          have hz : p < nxt b z p ∨ ¬ p < z := by
            by_cases h : p < z
            · exact Or.inl (hn.2 h)
            · exact Or.inr h
          have hpn : p ≤ nxt b z p := by
            rcases hz with h | h
            · omega
            · unfold nxt; rw [if_pos (by omega)]; exact hp
          have h3 := ih (m - 9) dep (nxt b z p) acc v hn.1
          refine pTh_ok h3.w hpn (fun p' a w e => ?_)
          rw [e] at h3
          have h4 := h3.1
          have h5 := h3.2.1
          simp only at h4 h5
          split
          · exact ⟨h4, by show p ≤ p'; omega, fun _ h => absurd h (by omega)⟩
          · have h6 := ih m dep p' (a ++ [tkc b z p]) (fun e => jn (tkc b z p) (v e) (w e)) h4
            exact ⟨h6.1, by have := h6.2.1; omega, fun _ h => absurd h (by omega)⟩
        · exact ⟨hp, Nat.le_refl _, fun _ h => absurd h (by omega)⟩
theorem i32_8 {t : Int32} (h1 : -14 ≤ t.toInt) (h2 : t.toInt ≤ -7) : t = -14 ∨ t = -13 ∨ t = -12 ∨ t = -11 ∨ t = -10 ∨ t = -9 ∨ t = -8 ∨ t = -7 := by
  have g : ∀ y : Int32, t.toInt = y.toInt → t = y := fun y h => Int32.toInt_inj.mp h
  have : t.toInt = -14 ∨ t.toInt = -13 ∨ t.toInt = -12 ∨ t.toInt = -11 ∨ t.toInt = -10 ∨ t.toInt = -9 ∨ t.toInt = -8 ∨ t.toInt = -7 := by omega
  rcases this with h | h | h | h | h | h | h | h
  · exact Or.inl (g _ h)
  · exact Or.inr (Or.inl (g _ h))
  · exact Or.inr (Or.inr (Or.inl (g _ h)))
  · exact Or.inr (Or.inr (Or.inr (Or.inl (g _ h))))
  · exact Or.inr (Or.inr (Or.inr (Or.inr (Or.inl (g _ h)))))
  · exact Or.inr (Or.inr (Or.inr (Or.inr (Or.inr (Or.inl (g _ h))))))
  · exact Or.inr (Or.inr (Or.inr (Or.inr (Or.inr (Or.inr (Or.inl (g _ h)))))))
  · exact Or.inr (Or.inr (Or.inr (Or.inr (Or.inr (Or.inr (Or.inr (g _ h)))))))
def lvT : List (Nat × Nat) := [(0, 56), (0, 54), (0, 54), (0, 52), (0, 52), (0, 58), (0, 50), (0, 48)]
theorem lv_out {t : Int32} (h : t.toInt < -14 ∨ -7 < t.toInt) : px_sw lvT (-14) t 58 = 58 ∧ lvI t = -1 := by
  have ne : ∀ y : Int32, -14 ≤ y.toInt → y.toInt ≤ -7 → ¬ t = y := fun y h1 h2 e => by rw [e] at h; omega
  have e14 : (-14 : Int32).toInt = -14 := by decide
  constructor
  · rcases h with h | h
    · exact sw_lo (Int32.lt_iff_toInt_lt.mpr (by rw [e14]; exact h))
    · refine sw_hi ?_
      rw [e14]
      show 8 ≤ _
      omega
  · unfold lvI
    rw [if_neg (ne (-7) (by decide) (by decide)), if_neg (ne (-8) (by decide) (by decide)), if_neg (ne (-10) (by decide) (by decide)), if_neg (ne (-11) (by decide) (by decide)), if_neg (ne (-12) (by decide) (by decide)), if_neg (ne (-13) (by decide) (by decide)), if_neg (ne (-14) (by decide) (by decide))]
def cOK (I : px_HI) (b : Nat → Int32) (z c : Nat) : Prop := I 10 1 = nI z ∧ I 10 4 = nI c ∧ c ≤ z ∧ pos b z c = z ∧ tkOK I b z c ∧ z ≤ 160
def cFr (I I' : px_HI) : Prop := ∀ a j, a ≠ 14 → (a = 9 → j ≠ 1 ∧ j ≠ 2 ∧ j ≠ 4) → I' a j = I a j
def cSt (I : px_HI) (z k s : Nat) : Prop := I 9 2 = nI k ∧ k ≤ z ∧ I 9 4 = nI s ∧ s ≤ 160
def cAc (I : px_HI) (acc : List Int32) : Prop := ∀ j, j < acc.length → I 14 j = acc.getD j 0
theorem cFr.refl (I : px_HI) : cFr I I := fun _ _ _ _ => rfl
theorem cFr.trans {I1 I2 I3 : px_HI} (h : cFr I1 I2) (g : cFr I2 I3) : cFr I1 I3 := fun a j h1 h2 => (g a j h1 h2).trans (h a j h1 h2)
theorem cOK.fr {I I' : px_HI} {b : Nat → Int32} {z c : Nat} (h : cOK I b z c) (f : cFr I I') : cOK I' b z c := by
  obtain ⟨h1, h2, h3, h4, h5, h6⟩ := h
  refine ⟨(f 10 1 (by decide) (fun e => absurd e (by decide))).trans h1, (f 10 4 (by decide) (fun e => absurd e (by decide))).trans h2, h3, h4, fun j hj => ?_, h6⟩
  rw [f 12 j (by decide) (fun e => absurd e (by decide)), f 13 j (by decide) (fun e => absurd e (by decide))]
  exact h5 j hj
theorem fr_9 {I : px_HI} {k : Nat} {x : Int32} (h : k = 1 ∨ k = 2 ∨ k = 4) : cFr I (px_u I 9 k x) := fun a j h1 h2 => u_ne (fun e => by have := h2 e; omega)
theorem fr_14 {I : px_HI} {k : Nat} {x : Int32} : cFr I (px_u I 14 k x) := fun a j h1 h2 => u_ne (fun e => absurd e h1)
section PXT4
variable {d n q L z c k s : Nat} {so : Option Nat} {I : px_HI} {J : px_HJ} {R r0 : px_HR} {S s0 : px_HS} {b : Nat → Int32}
theorem r_lvl (t : Int32) : px_mt (d + 1) 39 [.int t] I J R S n q (some (.int (lvI t)), I, J, R, S, n, q) := by
  unfold px_mt
  refine e_s rfl ?_
  refine e_s rfl ?_
  by_cases h : t.toInt < -14 ∨ -7 < t.toInt
  · obtain ⟨h1, h2⟩ := lv_out h
    refine e_pc h1 ?_
    rw [h2]
    refine e_s rfl ?_
    exact e_r rfl
  · rcases i32_8 (t := t) (by omega) (by omega) with e | e | e | e | e | e | e | e <;> subst e
    · refine e_pc (p2 := 56) (by decide) ?_
      refine e_s rfl ?_
      exact e_r rfl
    · refine e_pc (p2 := 54) (by decide) ?_
      refine e_s rfl ?_
      exact e_r rfl
    · refine e_pc (p2 := 54) (by decide) ?_
      refine e_s rfl ?_
      exact e_r rfl
    · refine e_pc (p2 := 52) (by decide) ?_
      refine e_s rfl ?_
      exact e_r rfl
    · refine e_pc (p2 := 52) (by decide) ?_
      refine e_s rfl ?_
      exact e_r rfl
    · refine e_pc (p2 := 58) (by decide) ?_
      refine e_s rfl ?_
      exact e_r rfl
    · refine e_pc (p2 := 50) (by decide) ?_
      refine e_s rfl ?_
      exact e_r rfl
    · refine e_pc (p2 := 48) (by decide) ?_
      refine e_s rfl ?_
      exact e_r rfl
theorem r_name (t : Int32) : px_mt (d + 1) 35 [.int t] I J R S n q (some (.int (bI (decide (t ≤ -1 ∧ -6 ≤ t)))), I, J, R, S, n, q) := by
  unfold px_mt
  repeat refine e_s rfl ?_
  refine e_b (fun h => ?_) (fun h => ?_)
  · repeat refine e_s rfl ?_
    rw [bI_f (fun z => absurd h (Int32.not_lt.mpr z.1))]
    exact e_r rfl
  · repeat refine e_s rfl ?_
    refine e_b (fun h2 => ?_) (fun h2 => ?_)
    · repeat refine e_s rfl ?_
      rw [bI_f (fun z => absurd h2 (Int32.not_lt.mpr z.2))]
      exact e_r rfl
    · repeat refine e_s rfl ?_
      rw [bI_t ⟨Int32.not_lt.mp h, Int32.not_lt.mp h2⟩]
      exact e_r rfl
theorem r_token (h : cOK I b z c) (hk : I 9 2 = nI k) (hk2 : k ≤ 160) : px_mt (d + 2) 29 [.ref 9] I J (tR so r0) (tS L s0) n q (some (.int (tkc b z (pos b z k))), I, J, tR so r0, tS L s0, n, q) := by
  obtain ⟨h1, h2, h3, h4, h5, h6⟩ := h
  unfold px_mt
  repeat refine e_s rfl ?_
  rw [hk]
  refine e_c rfl (r_tok (d := d) h6 h2 h3 h4 h5 hk2) (by omega) ?_
  exact e_r rfl
theorem r_fail (h : cOK I b z c) (hf : I 9 1 = -1) (hk : I 9 2 = nI k) (hk2 : k ≤ 160) : px_mt (d + 2) 31 [.ref 9] I J (tR so r0) (tS L s0) n q (none, px_u I 9 1 (nI (pos b z k)), J, tR so r0, tS L s0, n, q) := by
  obtain ⟨h1, h2, h3, h4, h5, h6⟩ := h
  unfold px_mt
  repeat refine e_s rfl ?_
  rw [hf]
  refine e_pc (p2 := 8) (by decide) ?_
  repeat refine e_s rfl ?_
  rw [hk]
  refine e_c rfl (r_place (d := d) h6 h1 h2 h3 h4 h5 hk2) (by omega) ?_
  repeat refine e_s rfl ?_
  exact e_r rfl
theorem nI_m1 {p : Nat} (h : p < 2 ^ 31) : ¬ nI p = -1 := fun e => by
  have := nI_toInt h
  rw [e] at this
  have e1 : (-1 : Int32).toInt = -1 := by decide
  omega
theorem r_fail2 {p : Nat} (hf : I 9 1 = nI p) (hp : p ≤ 160) : px_mt (d + 2) 31 [.ref 9] I J (tR so r0) (tS L s0) n q (none, I, J, tR so r0, tS L s0, n, q) := by
  unfold px_mt
  repeat refine e_s rfl ?_
  rw [hf]
  refine e_bt (nI_m1 (by omega)) ?_
  exact e_r rfl
theorem r_emit {x : Int32} (hs : I 9 4 = nI s) (h : s < 160) : px_mt (d + 1) 36 [.ref 9, .int x] I J (tR so r0) (tS L s0) n q (none, px_u (px_u I 14 s x) 9 4 (nI (s + 1)), J, tR so r0, tS L s0, n, q) := by
  unfold px_mt
  repeat refine e_s rfl ?_
  rw [hs]
  refine e_bf (nI_ge (b := 160) h (by decide)) ?_
  repeat refine e_s rfl ?_
  rw [hs]
  refine e_is rfl rfl rfl h (by decide) ?_
  repeat refine e_s rfl ?_
  rw [show px_u I 14 s x 9 4 = nI s from hs, nI_1]
  exact e_r rfl
theorem r_emit2 {x : Int32} (hs : I 9 4 = nI 160) : px_mt (d + 1) 36 [.ref 9, .int x] I J (tR so r0) (tS L s0) n q (none, I, J, tR so r0, tS L s0, n, q) := by
  unfold px_mt
  repeat refine e_s rfl ?_
  rw [hs]
  refine e_bt (nI_le (b := 160) (Nat.le_refl _) (by decide)) ?_
  exact e_r rfl
end PXT4
