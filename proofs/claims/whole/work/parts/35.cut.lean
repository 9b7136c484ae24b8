/-! THE TAPE of the class: tokens, places, the cut -/
def sk (b : Nat → Int32) (z i : Nat) : Nat := skp isBl b (z - i) i
def tke (b : Nat → Int32) (z p : Nat) : Nat := cond (isLt (b p)) (skp isLt b (z - p) p) (cond (isDg (b p)) (skp isDg b (z - p) p) (p + 1))
def tkc (b : Nat → Int32) (z p : Nat) : Int32 := if z ≤ p then -22 else cond (isLt (b p)) (wcode b p (tke b z p)) (cond (isDg (b p)) (ncode b p (tke b z p)) (mcode (b p)))
def nxt (b : Nat → Int32) (z p : Nat) : Nat := if z ≤ p then z else sk b z (tke b z p)
/-- where token k stands; behind the last one: at the size -/
def pos (b : Nat → Int32) (z : Nat) : Nat → Nat
  | 0 => sk b z 0
  | k + 1 => nxt b z (pos b z k)
theorem skp_t {p : Int32 → Bool} {b : Nat → Int32} {f i : Nat} (h : p (b i) = true) : skp p b (f + 1) i = skp p b f (i + 1) := by
  show cond (p (b i)) _ _ = _
  rw [h]
  rfl
theorem skp_f {p : Int32 → Bool} {b : Nat → Int32} {f i : Nat} (h : p (b i) = false) : skp p b (f + 1) i = i := by
  show cond (p (b i)) _ _ = _
  rw [h]
  rfl
theorem sk_z (b : Nat → Int32) (z : Nat) : sk b z z = z := by unfold sk; rw [Nat.sub_self]; rfl
theorem sk_b {b : Nat → Int32} {z i : Nat} (h : i < z) (hb : isBl (b i) = true) : sk b z i = sk b z (i + 1) := by
  unfold sk
  rw [show z - i = (z - (i + 1)) + 1 by omega]
  exact skp_t hb
theorem sk_n {b : Nat → Int32} {z i : Nat} (h : i < z) (hb : isBl (b i) = false) : sk b z i = i := by
  unfold sk
  rw [show z - i = (z - (i + 1)) + 1 by omega]
  exact skp_f hb
theorem sk_le {b : Nat → Int32} {z i : Nat} (h : i ≤ z) : i ≤ sk b z i ∧ sk b z i ≤ z := by
  have := skp_le isBl b (z - i) i
  unfold sk
  omega
theorem tke_le {b : Nat → Int32} {z p : Nat} (h : p < z) : p < tke b z p ∧ tke b z p ≤ z := by
  unfold tke
  rw [show z - p = (z - (p + 1)) + 1 by omega]
  have h1 := skp_le isLt b (z - (p + 1)) (p + 1)
  have h2 := skp_le isDg b (z - (p + 1)) (p + 1)
  cases hl : isLt (b p)
  · cases hd : isDg (b p)
    · exact ⟨Nat.lt_succ_self _, h⟩
    · unfold skp
      rw [hd]
      show p < skp isDg b (z - (p + 1)) (p + 1) ∧ skp isDg b (z - (p + 1)) (p + 1) ≤ z
      omega
  · unfold skp
    rw [hl]
    show p < skp isLt b (z - (p + 1)) (p + 1) ∧ skp isLt b (z - (p + 1)) (p + 1) ≤ z
    omega
theorem nxt_le {b : Nat → Int32} {z p : Nat} (h : p ≤ z) : nxt b z p ≤ z ∧ (p < z → p < nxt b z p) := by
  unfold nxt
  split
  · exact ⟨Nat.le_refl _, fun h => by omega⟩
  · rename_i hz
    have h1 := tke_le (b := b) (Nat.lt_of_not_le hz)
    have h2 := sk_le (b := b) h1.2
    exact ⟨h2.2, fun _ => by omega⟩
theorem pos_le (b : Nat → Int32) (z : Nat) : ∀ k, pos b z k ≤ z
  | 0 => (sk_le (Nat.zero_le z)).2
  | k + 1 => (nxt_le (pos_le b z k)).1
theorem pos_k (b : Nat → Int32) (z : Nat) : ∀ k, pos b z k < z → k ≤ pos b z k
  | 0, _ => Nat.zero_le _
  | k + 1, h => by
    by_cases hk : pos b z k < z
    · have h1 := pos_k b z k hk
      have h2 := (nxt_le (b := b) (pos_le b z k)).2 hk
      show k + 1 ≤ nxt b z (pos b z k)
      omega
    · have h2 : pos b z (k + 1) = z := by
        show nxt b z (pos b z k) = z
        unfold nxt
        rw [if_pos (by omega)]
      omega
theorem pos_z {b : Nat → Int32} {z c : Nat} (h : pos b z c = z) : ∀ k, c ≤ k → pos b z k = z
  | 0, hk => by rw [← h]; congr 1; omega
  | k + 1, hk => by
    by_cases e : c = k + 1
    · rw [← e]; exact h
    · have := pos_z h k (by omega)
      show nxt b z (pos b z k) = z
      unfold nxt
      rw [this, if_pos (Nat.le_refl _)]
theorem tkc_z (b : Nat → Int32) (z : Nat) : tkc b z z = -22 := if_pos (Nat.le_refl _)
def tkOK (I : px_HI) (b : Nat → Int32) (z c : Nat) : Prop := ∀ j, j < c → I 12 j = tkc b z (pos b z j) ∧ I 13 j = nI (pos b z j)
def fcut (I I' : px_HI) : Prop := ∀ a j, a ≠ 12 → a ≠ 13 → (a = 10 → j ≠ 4) → I' a j = I a j
theorem u_eq {α : Type} {f : Nat → Nat → α} {a k : Nat} {v : α} : px_u f a k v a k = v := by simp [px_u]
theorem u_ne {α : Type} {f : Nat → Nat → α} {a k b j : Nat} {v : α} (h : b = a → j ≠ k) : px_u f a k v b j = f b j := by
  unfold px_u
  by_cases e : b = a
  · rw [show Nat.beq j k = false from Bool.eq_false_iff.mpr (fun z => h e (Nat.beq_eq.mp z)), Bool.and_false]; rfl
  · rw [show Nat.beq b a = false from Bool.eq_false_iff.mpr (fun z => e (Nat.beq_eq.mp z)), Bool.false_and]; rfl
section PXT3
variable {d n q L : Nat} {so : Option Nat} {I : px_HI} {J : px_HJ} {R r0 : px_HR} {S s0 : px_HS} {xs : Nat → Int32}
theorem r_add {c : Nat} {x y : Int32} (hc : I 10 4 = nI c) (hc2 : c < 161) : px_mt (d + 1) 22 [.ref 10, .int x, .int y] I J (tR so r0) (tS L s0) n q (none, px_u (px_u (px_u I 12 c x) 13 c y) 10 4 (nI (c + 1)), J, tR so r0, tS L s0, n, q) := by
  unfold px_mt
  repeat refine e_s rfl ?_
  rw [hc]
  refine e_bf (nI_ge (b := 161) hc2 (by decide)) ?_
  repeat refine e_s rfl ?_
  rw [hc]
  refine e_is rfl rfl rfl hc2 (by decide) ?_
  repeat refine e_s rfl ?_
  rw [show px_u I 12 c x 10 4 = nI c from hc]
  refine e_is rfl rfl rfl hc2 (by decide) ?_
  repeat refine e_s rfl ?_
  rw [show px_u (px_u I 12 c x) 13 c y 10 4 = nI c from hc, nI_1]
  exact e_r rfl
theorem r_cut1 {c p z : Nat} (hz : I 10 1 = nI z) (h160 : z ≤ 160) (hc : I 10 4 = nI c) (hc2 : c < 161) (hro : ∀ a j, 1000002 < a → I a j = px_I0 xs a j) (hp : p < z) : px_mt (d + 8) 17 [.ref 10, .int (I 11 p), .int (nI p)] I J (tR so r0) (tS L s0) n q (some (.int (nI (tke (I 11) z p))), px_u (px_u (px_u I 12 c (tkc (I 11) z p)) 13 c (nI p)) 10 4 (nI (c + 1)), J, tR so r0, tS L s0, n, q) := by
  have hk := tke_le (b := I 11) hp
  unfold px_mt
  unfold tkc
  rw [if_neg (by omega)]
  repeat refine e_s rfl ?_
  refine e_c rfl (r_letter (d := d) _) (by omega) ?_
  refine e_s rfl ?_
  refine e_z (fun h => ?_) (fun h => ?_)
  · have e1 : skp isLt (I 11) (z - p) p = tke (I 11) z p := by unfold tke; rw [h]; rfl
    repeat refine e_s rfl ?_
    refine e_c rfl (show px_mt (d + 2) 19 [.ref 10, .int (nI p)] I J (tR so r0) (tS L s0) n q (some (.int (nI (tke (I 11) z p))), I, J, tR so r0, tS L s0, n, q) from ?_) (by omega) ?_
    · unfold px_mt
      refine e_s rfl ?_
      refine e_s rfl ?_
      rw [← e1]
      exact w_word hz h160 (z - p) p (by omega)
    repeat refine e_s rfl ?_
    refine e_c rfl (r_wtok (d := d) hro (Nat.le_of_lt hk.1) (by omega)) (by omega) ?_
    refine e_s rfl ?_
    refine e_c rfl (r_add (d := d) hc hc2) (by omega) ?_
    refine e_s rfl ?_
    rw [h, cond_true]
    exact e_r rfl
  · repeat refine e_s rfl ?_
    refine e_c rfl (r_digit (d := d) _) (by omega) ?_
    refine e_s rfl ?_
    rw [h, cond_false]
    refine e_z (fun h2 => ?_) (fun h2 => ?_)
    · have e1 : skp isDg (I 11) (z - p) p = tke (I 11) z p := by unfold tke; rw [h, h2]; rfl
      repeat refine e_s rfl ?_
      refine e_c rfl (show px_mt (d + 2) 24 [.ref 10, .int (nI p)] I J (tR so r0) (tS L s0) n q (some (.int (nI (tke (I 11) z p))), I, J, tR so r0, tS L s0, n, q) from ?_) (by omega) ?_
      · unfold px_mt
        refine e_s rfl ?_
        refine e_s rfl ?_
        rw [← e1]
        exact w_numb hz h160 (z - p) p (by omega)
      repeat refine e_s rfl ?_
      refine e_c rfl (r_ntok (d := d) (Nat.le_of_lt hk.1) (by omega)) (by omega) ?_
      refine e_s rfl ?_
      refine e_c rfl (r_add (d := d) hc hc2) (by omega) ?_
      refine e_s rfl ?_
      rw [h2, cond_true]
      exact e_r rfl
    · have e1 : p + 1 = tke (I 11) z p := by unfold tke; rw [h, h2]; rfl
      repeat refine e_s rfl ?_
      refine e_c rfl (r_mark (d := d) _) (by omega) ?_
      refine e_s rfl ?_
      refine e_c rfl (r_add (d := d) hc hc2) (by omega) ?_
      repeat refine e_s rfl ?_
      rw [h2, cond_false, ← e1, nI_1]
      exact e_r rfl
theorem w_cut {z : Nat} (h160 : z ≤ 160) (b : Nat → Int32) : ∀ f p k c (I : px_HI) (x3 : Option Value), z - p ≤ f → p ≤ z → k ≤ p → c ≤ p → I 10 1 = nI z → I 11 = b → I 10 4 = nI c → (∀ a j, 1000002 < a → I a j = px_I0 xs a j) → pos b z c = sk b z p → tkOK I b z c → ∃ I' c', px_ev (d + 9) 15 9 [some (.ref 10), some (.int (nI p)), some (.int (nI k)), x3] [] I J (tR so r0) (tS L s0) n q (none, I', J, tR so r0, tS L s0, n, q) ∧ fcut I I' ∧ I' 10 4 = nI c' ∧ c' ≤ z ∧ pos b z c' = z ∧ tkOK I' b z c' := by
  intro f
  induction f with
  | zero =>
    intro p k c I x3 hf hp hk hc hz hb hc4 hro hpos ht
    have e : p = z := by omega
    subst e
    refine ⟨I, c, ?_, fun _ _ _ _ _ => rfl, hc4, hc, by rw [hpos, sk_z], ht⟩
    repeat refine e_s rfl ?_
    refine e_b (fun h => ?_) (fun h => ?_)
    · exact e_r rfl
    · repeat refine e_s rfl ?_
      rw [hz]
      refine e_bt (nI_le (Nat.le_refl _) (by omega)) ?_
      exact e_r rfl
  | succ f ih =>
    intro p k c I x3 hf hp hk hc hz hb hc4 hro hpos ht
    by_cases e : p = z
    · subst e
      refine ⟨I, c, ?_, fun _ _ _ _ _ => rfl, hc4, hc, by rw [hpos, sk_z], ht⟩
      repeat refine e_s rfl ?_
      refine e_b (fun h => ?_) (fun h => ?_)
      · exact e_r rfl
      · repeat refine e_s rfl ?_
        rw [hz]
        refine e_bt (nI_le (Nat.le_refl _) (by omega)) ?_
        exact e_r rfl
    · have hpz : p < z := by omega
      cases hbl : isBl (b p) with
      | true =>
        obtain ⟨I', c', hr, rest⟩ := ih (p + 1) (k + 1) c I (some (.int (I 11 p))) (by omega) (by omega) (by omega) (by omega) hz hb hc4 hro (by rw [hpos, sk_b hpz hbl]) ht
        refine ⟨I', c', ?_, rest⟩
        repeat refine e_s rfl ?_
        refine e_bf (nI_ge (b := 160) (by omega) (by decide)) ?_
        repeat refine e_s rfl ?_
        rw [hz]
        refine e_bf (nI_ge hpz (by omega)) ?_
        repeat refine e_s rfl ?_
        refine e_ia rfl rfl rfl (show p < 160 by omega) (by decide) ?_
        repeat refine e_s rfl ?_
        refine e_c rfl (r_blank (d := d) _) (by omega) ?_
        refine e_s rfl ?_
        refine e_z (fun h => ?_) (fun h => ?_)
        · refine e_s rfl ?_
          refine e_s rfl ?_
          refine e_s rfl ?_
          refine e_s rfl ?_
          rw [nI_1, nI_1]
          exact hr
        · rw [hb, hbl] at h; cases h
      | false =>
        have hk2 := tke_le (b := b) hpz
        have hpc : pos b z c = p := by rw [hpos, sk_n hpz hbl]
        have hpc1 : pos b z (c + 1) = sk b z (tke b z p) := by
          show nxt b z (pos b z c) = _
          rw [hpc]
          unfold nxt
          rw [if_neg (by omega)]
        have ht2 : tkOK (px_u (px_u (px_u I 12 c (tkc b z p)) 13 c (nI p)) 10 4 (nI (c + 1))) b z (c + 1) := by
          intro j hj
          by_cases ej : j = c
          · subst ej
            rw [hpc]
            exact ⟨by rw [u_ne (fun e => absurd e (by decide)), u_ne (fun e => absurd e (by decide)), u_eq], by rw [u_ne (fun e => absurd e (by decide)), u_eq]⟩
          · have := ht j (by omega)
            exact ⟨by rw [u_ne (fun e => absurd e (by decide)), u_ne (fun e => absurd e (by decide)), u_ne (fun _ => ej)]; exact this.1, by rw [u_ne (fun e => absurd e (by decide)), u_ne (fun _ => ej), u_ne (fun e => absurd e (by decide))]; exact this.2⟩
        obtain ⟨I', c', hr, hfr, rest⟩ := ih (tke b z p) (k + 1) (c + 1) (px_u (px_u (px_u I 12 c (tkc b z p)) 13 c (nI p)) 10 4 (nI (c + 1))) (some (.int (I 11 p))) (by omega) (by omega) (by omega) (by omega) hz hb rfl (fun a j h => by rw [u_ne (fun e => by omega), u_ne (fun e => by omega), u_ne (fun e => by omega)]; exact hro a j h) hpc1 ht2
        refine ⟨I', c', ?_, fun a j h1 h2 h3 => by rw [hfr a j h1 h2 h3, u_ne h3, u_ne (fun e => absurd e h2), u_ne (fun e => absurd e h1)], rest⟩
        repeat refine e_s rfl ?_
        refine e_bf (nI_ge (b := 160) (by omega) (by decide)) ?_
        repeat refine e_s rfl ?_
        rw [hz]
        refine e_bf (nI_ge hpz (by omega)) ?_
        repeat refine e_s rfl ?_
        refine e_ia rfl rfl rfl (show p < 160 by omega) (by decide) ?_
        repeat refine e_s rfl ?_
        refine e_c rfl (r_blank (d := d) _) (by omega) ?_
        refine e_s rfl ?_
        refine e_z (fun h => ?_) (fun h => ?_)
        · rw [hb, hbl] at h; cases h
        · repeat refine e_s rfl ?_
          refine e_c rfl (r_cut1 (d := d) hz h160 hc4 (by omega) hro hpz) (by omega) ?_
          refine e_s rfl ?_
          refine e_s rfl ?_
          refine e_s rfl ?_
          rw [nI_1, hb]
          rw [hb] at hr
          exact hr
theorem r_cut {z : Nat} (h160 : z ≤ 160) (hz : I 10 1 = nI z) (hro : ∀ a j, 1000002 < a → I a j = px_I0 xs a j) : ∃ I' c', px_mt (d + 9) 15 [.ref 10] I J (tR so r0) (tS L s0) n q (none, I', J, tR so r0, tS L s0, n, q) ∧ fcut I I' ∧ I' 10 4 = nI c' ∧ c' ≤ z ∧ pos (I 11) z c' = z ∧ tkOK I' (I 11) z c' := by
  obtain ⟨I', c', hr, hfr, rest⟩ := w_cut (d := d) (J := J) (so := so) (r0 := r0) (L := L) (s0 := s0) (n := n) (q := q) (xs := xs) h160 (I 11) z 0 0 0 (px_u I 10 4 0) none (by omega) (by omega) (by omega) (by omega) hz rfl rfl (fun a j h => by rw [u_ne (fun e => by omega)]; exact hro a j h) rfl (fun j hj => absurd hj (by omega))
  refine ⟨I', c', ?_, fun a j h1 h2 h3 => by rw [hfr a j h1 h2 h3, u_ne h3], rest⟩
  unfold px_mt
  refine e_s rfl ?_
  refine e_s rfl ?_
  refine e_s rfl ?_
  refine e_s rfl ?_
  refine e_s rfl ?_
  refine e_s rfl ?_
  refine e_s rfl ?_
  exact hr
theorem r_tok {b : Nat → Int32} {z c k : Nat} (h160 : z ≤ 160) (hc : I 10 4 = nI c) (hcz : c ≤ z) (hpz : pos b z c = z) (ht : tkOK I b z c) (hk : k ≤ 160) : px_mt (d + 1) 30 [.ref 10, .int (nI k)] I J (tR so r0) (tS L s0) n q (some (.int (tkc b z (pos b z k))), I, J, tR so r0, tS L s0, n, q) := by
  unfold px_mt
  repeat refine e_s rfl ?_
  refine e_bf (nI_pos (by omega)) ?_
  repeat refine e_s rfl ?_
  rw [hc]
  by_cases h : k < c
  · refine e_bf (nI_ge h (by omega)) ?_
    repeat refine e_s rfl ?_
    refine e_ia rfl rfl rfl (show k < 161 by omega) (by decide) ?_
    rw [(ht k h).1]
    refine e_s rfl ?_
    exact e_r rfl
  · refine e_bt (nI_le (by omega) (by omega)) ?_
    rw [pos_z hpz k (by omega), tkc_z]
    refine e_s rfl ?_
    exact e_r rfl
theorem r_place {b : Nat → Int32} {z c k : Nat} (h160 : z ≤ 160) (hz : I 10 1 = nI z) (hc : I 10 4 = nI c) (hcz : c ≤ z) (hpz : pos b z c = z) (ht : tkOK I b z c) (hk : k ≤ 160) : px_mt (d + 1) 32 [.ref 10, .int (nI k)] I J (tR so r0) (tS L s0) n q (some (.int (nI (pos b z k))), I, J, tR so r0, tS L s0, n, q) := by
  unfold px_mt
  repeat refine e_s rfl ?_
  refine e_bf (nI_pos (by omega)) ?_
  repeat refine e_s rfl ?_
  rw [hc]
  by_cases h : k < c
  · refine e_bf (nI_ge h (by omega)) ?_
    repeat refine e_s rfl ?_
    refine e_ia rfl rfl rfl (show k < 161 by omega) (by decide) ?_
    rw [(ht k h).2]
    refine e_s rfl ?_
    exact e_r rfl
  · refine e_bt (nI_le (by omega) (by omega)) ?_
    rw [pos_z hpz k (by omega)]
    repeat refine e_s rfl ?_
    rw [hz]
    exact e_r rfl
theorem r_put {z : Nat} {x : Int32} (h160 : z < 160) (hz : I 10 1 = nI z) : px_mt (d + 1) 13 [.ref 10, .int x] I J (tR so r0) (tS L s0) n q (none, px_u (px_u I 11 z x) 10 1 (nI (z + 1)), J, tR so r0, tS L s0, n, q) := by
  unfold px_mt
  repeat refine e_s rfl ?_
  rw [hz]
  refine e_bf (nI_ge (b := 160) h160 (by decide)) ?_
  repeat refine e_s rfl ?_
  rw [hz]
  refine e_is rfl rfl rfl h160 (by decide) ?_
  repeat refine e_s rfl ?_
  rw [show px_u I 11 z x 10 1 = nI z from hz, nI_1]
  exact e_r rfl
theorem r_clear : px_mt (d + 1) 40 [.ref 10] I J (tR so r0) (tS L s0) n q (none, px_u I 10 1 0, J, tR so r0, tS L s0, n, q) := by
  unfold px_mt
  repeat refine e_s rfl ?_
  exact e_r rfl
end PXT3
