/-! THE MODEL: letters and tokens -/
def inI (a b x : Int32) : Bool := decide (a ≤ x ∧ x ≤ b)
def bAt (b : Nat → Int32) (z i : Nat) : Int32 := if i < z then b i else -1
def mB (I : px_HI) (b : Nat → Int32) (z fr : Nat) : Prop := I 31 23 = nI fr ∧ I 31 24 = nI z ∧ z ≤ 160 ∧ fr + z ≤ 960 ∧ (∀ j, j < z → I 32 (fr + j) = b j) ∧ ∀ j, j < z → 0 ≤ b j
def mFr (I I' : px_HI) (J J' : px_HJ) : Prop := (∀ a j, (a = 31 → j < 25 ∨ 31 < j) → I' a j = I a j) ∧ ∀ a j, (a = 31 → j ≠ 28) → J' a j = J a j
theorem mFr.refl (I : px_HI) (J : px_HJ) : mFr I I J J := ⟨fun _ _ _ => rfl, fun _ _ _ => rfl⟩
theorem mFr.trans {I I' I2 : px_HI} {J J' J2 : px_HJ} (h : mFr I I' J J') (g : mFr I' I2 J' J2) : mFr I I2 J J2 := ⟨fun a j e => (g.1 a j e).trans (h.1 a j e), fun a j e => (g.2 a j e).trans (h.2 a j e)⟩
theorem mFr.u {I I' : px_HI} {J J' : px_HJ} {k : Nat} {x : Int32} (h : mFr I I' J J') (hk : 25 ≤ k) (hk2 : k ≤ 31) : mFr I (px_u I' 31 k x) J J' := ⟨fun a j e => by rw [u_ne (fun g => by have := e g; omega)]; exact h.1 a j e, h.2⟩
theorem mFr.uJ {I I' : px_HI} {J J' : px_HJ} {x : Int64} (h : mFr I I' J J') : mFr I I' J (px_u J' 31 28 x) := ⟨h.1, fun a j e => by rw [u_ne e]; exact h.2 a j e⟩
theorem mB.fr {I I' : px_HI} {J J' : px_HJ} {b : Nat → Int32} {z fr : Nat} (h : mB I b z fr) (f : mFr I I' J J') : mB I' b z fr := by
  obtain ⟨h1, h2, h3, h4, h5, h6⟩ := h
  exact ⟨(f.1 31 23 (fun _ => by omega)).trans h1, (f.1 31 24 (fun _ => by omega)).trans h2, h3, h4, fun j hj => (f.1 32 _ (fun e => absurd e (by decide))).trans (h5 j hj), h6⟩
theorem mB.u {I : px_HI} {b : Nat → Int32} {z fr k : Nat} {x : Int32} (h : mB I b z fr) (hk : 25 ≤ k) (hk2 : k ≤ 31) : mB (px_u I 31 k x) b z fr := h.fr (J := fun _ _ => 0) (J' := fun _ _ => 0) ((mFr.refl I _).u hk hk2)
theorem u_u {α : Type} {f : Nat → Nat → α} {a k : Nat} {x y : α} : px_u (px_u f a k x) a k y = px_u f a k y := by
  funext c j
  by_cases e : c = a ∧ j = k
  · obtain ⟨rfl, rfl⟩ := e
    rw [u_eq, u_eq]
  · rw [u_ne (fun g h => e ⟨g, h⟩), u_ne (fun g h => e ⟨g, h⟩), u_ne (fun g h => e ⟨g, h⟩)]
theorem u_self {α : Type} {f : Nat → Nat → α} {a k : Nat} {x : α} (h : f a k = x) : px_u f a k x = f := by
  funext c j
  by_cases e : c = a ∧ j = k
  · obtain ⟨rfl, rfl⟩ := e
    rw [u_eq, h]
  · rw [u_ne (fun g h => e ⟨g, h⟩)]
def dgv (b : Nat → Int32) (i : Nat) : Nat := (b i).toNatClampNeg - 48
def nvM (b : Nat → Int32) : Nat → Nat → Nat → Nat → Nat
  | 0, _, _, V => V
  | f + 1, h, c, V => cond (isDg (b h)) (nvM b f (h + 1) (c + 1) (if c < 4 then 10 * V + dgv b h else V)) V
theorem dg_of {x : Int32} (h : isDg x = true) : ∃ g, g ≤ 9 ∧ x = nI (48 + g) ∧ x.toNatClampNeg - 48 = g := by
  have h := of_decide_eq_true h
  have h0 : ¬ x < 0 := Int32.not_lt.mpr (Int32.le_trans (show (0 : Int32) ≤ 48 by decide) h.1)
  obtain ⟨j, hj, rfl⟩ := nI_of2 (M := 57) (n := 57) (by decide) h0 h.2
  have h1 : 48 ≤ j := (nI_leI (a := 48) (by decide) (by omega)).mp h.1
  exact ⟨j - 48, by omega, by rw [show 48 + (j - 48) = j by omega], by rw [nI_clamp (by omega)]⟩
theorem nval_M (b : Nat → Int32) : ∀ f h c V k, skp isDg b f h = h + k → c + k ≤ 4 → nval b k h (nI V) = nI (nvM b f h c V)
  | 0, h, c, V, k, hs, hk => by
    have : k = 0 := by unfold skp at hs; omega
    subst this
    rfl
  | f + 1, h, c, V, k, hs, hk => by
    cases hd : isDg (b h) with
    | false =>
      rw [skp_f hd] at hs
      have : k = 0 := by omega
      subst this
      show nI V = nI (cond (isDg (b h)) _ V)
      rw [hd]
      rfl
    | true =>
      rw [skp_t hd] at hs
      have hle := (skp_le isDg b f (h + 1)).1
      obtain ⟨k, rfl⟩ : ∃ x, k = x + 1 := ⟨k - 1, by omega⟩
      obtain ⟨g, hg, hx, hy⟩ := dg_of hd
      show nval b k (h + 1) (nI V * 10 + (b h - 48)) = nI (cond (isDg (b h)) (nvM b f (h + 1) (c + 1) (if c < 4 then 10 * V + dgv b h else V)) V)
      rw [hd, cond_true, if_pos (show c < 4 by omega), ← nval_M b f (h + 1) (c + 1) (10 * V + dgv b h) k (by omega) (by omega)]
      congr 1
      unfold dgv
      rw [hy, hx]
      rw [show nI V * 10 = nI (V * 10) from pk_mul V 10, show nI (48 + g) - 48 = nI (48 + g - 48) from pk_sub (b := 48) (by omega), nI_add]
      congr 1
      omega
theorem nvM_lt (b : Nat → Int32) : ∀ f h c V, c ≤ 4 → V < 10 ^ c → nvM b f h c V < 10000
  | 0, h, c, V, hc, hV => by
    have : 10 ^ c ≤ 10 ^ 4 := Nat.pow_le_pow_right (by decide) hc
    show V < 10000
    omega
  | f + 1, h, c, V, hc, hV => by
    have h4 : 10 ^ c ≤ 10 ^ 4 := Nat.pow_le_pow_right (by decide) hc
    show cond (isDg (b h)) (nvM b f (h + 1) (c + 1) (if c < 4 then 10 * V + dgv b h else V)) V < 10000
    cases hd : isDg (b h) with
    | false => show V < 10000; omega
    | true =>
      obtain ⟨g, hg, hx, hy⟩ := dg_of hd
      rw [cond_true]
      by_cases h1 : c < 4
      · rw [if_pos h1]
        refine nvM_lt b f (h + 1) (c + 1) _ (by omega) ?_
        have : dgv b h = g := hy
        rw [this, Nat.pow_succ]
        omega
      · rw [if_neg h1]
        exact nvM_lt2 b f (h + 1) (c + 1) V (by omega) (by omega)
where
  nvM_lt2 (b : Nat → Int32) : ∀ f h c V, 4 ≤ c → V < 10000 → nvM b f h c V < 10000
    | 0, h, c, V, hc, hV => hV
    | f + 1, h, c, V, hc, hV => by
      show cond (isDg (b h)) (nvM b f (h + 1) (c + 1) (if c < 4 then 10 * V + dgv b h else V)) V < 10000
      cases isDg (b h) with
      | false => exact hV
      | true =>
        rw [cond_true, if_neg (by omega)]
        exact nvM_lt2 b f (h + 1) (c + 1) V (by omega) hV
section PXM1
variable {D n q L : Nat} {so : Option Nat} {I : px_HI} {J : px_HJ} {R dr : px_HR} {S ds : px_HS} {b : Nat → Int32} {z fr : Nat} {r : Option Value × px_G}
theorem r_in {x lo hi : Int64} : px_mt (D + 1) 144 [.long x, .long lo, .long hi] I J R S n q (some (.int (bI (decide (lo ≤ x ∧ x ≤ hi)))), I, J, R, S, n, q) := by
  unfold px_mt
  repeat refine e_s rfl ?_
  refine e_b (fun h => ?_) (fun h => ?_)
  · repeat refine e_s rfl ?_
    rw [bI_f (fun z => lg_le_not_lt z.1 ((lg_cmp_lt _ _).mp h))]
    exact e_r rfl
  · repeat refine e_s rfl ?_
    refine e_b (fun h2 => ?_) (fun h2 => ?_)
    · repeat refine e_s rfl ?_
      rw [bI_f (fun z => lg_le_not_lt z.2 ((lg_cmp_gt _ _).mp h2))]
      exact e_r rfl
    · repeat refine e_s rfl ?_
      rw [bI_t ⟨(lg_cmp_ge _ _).mp (Int32.not_lt.mp h), (lg_cmp_le _ _).mp (Int32.not_lt.mp h2)⟩]
      exact e_r rfl
theorem le_64 {a x : Int32} : a.toInt64 ≤ x.toInt64 ↔ a ≤ x := by rw [Int64.le_iff_toInt_le, Int32.le_iff_toInt_le, Int32.toInt_toInt64, Int32.toInt_toInt64]
theorem r_inI {x a c : Int32} {lo hi : Int64} (ha : a.toInt64 = lo) (hc : c.toInt64 = hi) : px_mt (D + 1) 144 [.long x.toInt64, .long lo, .long hi] I J R S n q (some (.int (bI (inI a c x))), I, J, R, S, n, q) := by
  have e : inI a c x = decide (lo ≤ x.toInt64 ∧ x.toInt64 ≤ hi) := by
    unfold inI
    rw [← ha, ← hc]
    exact decide_eq_decide.mpr (and_congr le_64.symm le_64.symm)
  rw [e]
  exact r_in
theorem r_byte {i : Nat} (h : mB I b z fr) (hi : i ≤ 1000) : px_mt (D + 1) 157 [.ref 31, .int (nI i)] I J (dR so dr) (dS L ds) n q (some (.int (bAt b z i)), I, J, dR so dr, dS L ds, n, q) := by
  obtain ⟨h1, h2, h3, h4, h5, h6⟩ := h
  unfold px_mt bAt
  repeat refine e_s rfl ?_
  rw [h2]
  by_cases hz : i < z
  · rw [if_pos hz]
    refine e_bf (nI_ge hz (by omega)) ?_
    repeat refine e_s rfl ?_
    rw [h1, nI_add]
    refine e_ia rfl rfl rfl (show fr + i < 960 by omega) (by decide) ?_
    rw [h5 i hz]
    refine e_s rfl ?_
    exact e_r rfl
  · rw [if_neg hz]
    refine e_bt (nI_le (by omega) (by omega)) ?_
    refine e_s rfl ?_
    exact e_r rfl
theorem w_skip : ∀ f (I : px_HI) h, mB I b z fr → I 31 25 = nI h → h + f = z → px_ev (D + 3) 156 39 [some (.ref 31), none, none] [] (px_u I 31 25 (nI (skp isBl b f h))) J (dR so dr) (dS L ds) n q r → px_ev (D + 3) 156 0 [some (.ref 31), none, none] [] I J (dR so dr) (dS L ds) n q r
  | 0, I, h, hB, hI, hz, k => by
    have h160 := hB.2.2.1
    have e : bAt b z h = -1 := if_neg (by omega)
    rw [show px_u I 31 25 (nI (skp isBl b 0 h)) = I from u_self hI] at k
    repeat refine e_s rfl ?_
    rw [hI]
    refine e_c rfl (r_byte (D := D) hB (by omega)) (by omega) ?_
    rw [e]
    repeat refine e_s rfl ?_
    rw [hI]
    refine e_c rfl (r_byte (D := D) hB (by omega)) (by omega) ?_
    rw [e]
    refine e_s rfl ?_
    refine e_s rfl ?_
    exact k
  | f + 1, I, h, hB, hI, hz, k => by
    have h160 := hB.2.2.1
    have e : bAt b z h = b h := if_pos (by omega)
    repeat refine e_s rfl ?_
    rw [hI]
    refine e_c rfl (r_byte (D := D) hB (by omega)) (by omega) ?_
    rw [e]
    repeat refine e_s rfl ?_
    refine e_b (fun h1 => ?_) (fun h1 => ?_)
    · have hb : isBl (b h) = true := decide_eq_true (Or.inl h1)
      rw [skp_t hb] at k
      refine e_s rfl ?_
      refine e_s rfl ?_
      refine e_s rfl ?_
      refine e_s rfl ?_
      refine e_s rfl ?_
      refine e_s rfl ?_
      refine e_s rfl ?_
      rw [hI, nI_1]
      exact w_skip f _ (h + 1) (hB.u (by decide) (by decide)) u_eq (by omega) (by rw [u_u]; exact k)
    · repeat refine e_s rfl ?_
      rw [hI]
      refine e_c rfl (r_byte (D := D) hB (by omega)) (by omega) ?_
      rw [e]
      repeat refine e_s rfl ?_
      refine e_b (fun h2 => ?_) (fun h2 => ?_)
      · have hb : isBl (b h) = false := decide_eq_false (fun g => g.elim h1 h2)
        rw [skp_f hb, u_self hI] at k
        exact k
      · have hb : isBl (b h) = true := decide_eq_true (Or.inr (Classical.not_not.mp h2))
        rw [skp_t hb] at k
        refine e_s rfl ?_
        refine e_s rfl ?_
        refine e_s rfl ?_
        refine e_s rfl ?_
        refine e_s rfl ?_
        refine e_s rfl ?_
        refine e_s rfl ?_
        rw [hI, nI_1]
        exact w_skip f _ (h + 1) (hB.u (by decide) (by decide)) u_eq (by omega) (by rw [u_u]; exact k)
theorem lt_m1 : isLt (-1) = false := by decide
theorem dg_m1 : isDg (-1) = false := by decide
theorem w_wd {y : Int32} : ∀ f (I : px_HI) h, mB I b z fr → I 31 25 = nI h → h + f = z → px_ev (D + 3) 156 321 [some (.ref 31), some (.int y), none] [] (px_u I 31 25 (nI (skp isLt b f h))) J (dR so dr) (dS L ds) n q r → px_ev (D + 3) 156 100 [some (.ref 31), some (.int y), none] [] I J (dR so dr) (dS L ds) n q r
  | 0, I, h, hB, hI, hz, k => by
    have h160 := hB.2.2.1
    have e : bAt b z h = -1 := if_neg (by omega)
    rw [show px_u I 31 25 (nI (skp isLt b 0 h)) = I from u_self hI] at k
    repeat refine e_s rfl ?_
    rw [hI]
    refine e_c rfl (r_byte (D := D) hB (by omega)) (by omega) ?_
    rw [e]
    repeat refine e_s rfl ?_
    refine e_c rfl (r_inI (D := D) (a := 97) (c := 122) (by decide) (by decide)) (by omega) ?_
    rw [show inI 97 122 (-1) = false by decide]
    refine e_s rfl ?_
    exact k
  | f + 1, I, h, hB, hI, hz, k => by
    have h160 := hB.2.2.1
    have e : bAt b z h = b h := if_pos (by omega)
    repeat refine e_s rfl ?_
    rw [hI]
    refine e_c rfl (r_byte (D := D) hB (by omega)) (by omega) ?_
    rw [e]
    repeat refine e_s rfl ?_
    refine e_c rfl (r_inI (D := D) (a := 97) (c := 122) (by decide) (by decide)) (by omega) ?_
    refine e_s rfl ?_
    refine e_z (fun h1 => ?_) (fun h1 => ?_)
    · rw [skp_t (show isLt (b h) = true from h1)] at k
      refine e_s rfl ?_
      refine e_s rfl ?_
      refine e_s rfl ?_
      refine e_s rfl ?_
      refine e_s rfl ?_
      refine e_s rfl ?_
      refine e_s rfl ?_
      rw [hI, nI_1]
      exact w_wd f _ (h + 1) (hB.u (by decide) (by decide)) u_eq (by omega) (by rw [u_u]; exact k)
    · rw [skp_f (show isLt (b h) = false from h1), u_self hI] at k
      exact k
theorem w_nb {y : Int32} : ∀ f (I : px_HI) (J : px_HJ) h c V, mB I b z fr → I 31 25 = nI h → J 31 28 = lN V → h + f = z → c ≤ h → px_ev (D + 3) 156 235 [some (.ref 31), some (.int y), some (.int (nI (c + (skp isDg b f h - h))))] [] (px_u I 31 25 (nI (skp isDg b f h))) (px_u J 31 28 (lN (nvM b f h c V))) (dR so dr) (dS L ds) n q r → px_ev (D + 3) 156 160 [some (.ref 31), some (.int y), some (.int (nI c))] [] I J (dR so dr) (dS L ds) n q r
  | 0, I, J, h, c, V, hB, hI, hJ, hz, hc, k => by
    have h160 := hB.2.2.1
    have e : bAt b z h = -1 := if_neg (by omega)
    rw [show px_u I 31 25 (nI (skp isDg b 0 h)) = I from u_self hI, show px_u J 31 28 (lN (nvM b 0 h c V)) = J from u_self hJ, show c + (skp isDg b 0 h - h) = c by unfold skp; omega] at k
    repeat refine e_s rfl ?_
    rw [hI]
    refine e_c rfl (r_byte (D := D) hB (by omega)) (by omega) ?_
    rw [e]
    repeat refine e_s rfl ?_
    refine e_c rfl (r_inI (D := D) (a := 48) (c := 57) (by decide) (by decide)) (by omega) ?_
    rw [show inI 48 57 (-1) = false by decide]
    refine e_s rfl ?_
    exact k
  | f + 1, I, J, h, c, V, hB, hI, hJ, hz, hc, k => by
    have h160 := hB.2.2.1
    have e : bAt b z h = b h := if_pos (by omega)
    repeat refine e_s rfl ?_
    rw [hI]
    refine e_c rfl (r_byte (D := D) hB (by omega)) (by omega) ?_
    rw [e]
    repeat refine e_s rfl ?_
    refine e_c rfl (r_inI (D := D) (a := 48) (c := 57) (by decide) (by decide)) (by omega) ?_
    refine e_s rfl ?_
    refine e_z (fun h1 => ?_) (fun h1 => ?_)
    · have h1' : isDg (b h) = true := h1
      have hle := (skp_le isDg b f (h + 1)).1
      obtain ⟨g, hg, hx, hy⟩ := dg_of h1'
      rw [skp_t h1', show nvM b (f + 1) h c V = nvM b f (h + 1) (c + 1) (if c < 4 then 10 * V + dgv b h else V) by show cond (isDg (b h)) _ _ = _; rw [h1']; rfl, show c + (skp isDg b f (h + 1) - h) = c + 1 + (skp isDg b f (h + 1) - (h + 1)) by omega] at k
      repeat refine e_s rfl ?_
      by_cases h4 : c < 4
      · rw [if_pos h4] at k
        refine e_bf (nI_ge (b := 4) h4 (by decide)) ?_
        repeat refine e_s rfl ?_
        rw [hI]
        refine e_c rfl (r_byte (D := D) hB (by omega)) (by omega) ?_
        rw [e]
        refine e_s rfl ?_
        refine e_s rfl ?_
        refine e_s rfl ?_
        refine e_s rfl ?_
        refine e_s rfl ?_
        refine e_s rfl ?_
        refine e_s rfl ?_
        refine e_s rfl ?_
        refine e_s rfl ?_
        refine e_s rfl ?_
        refine e_s rfl ?_
        refine e_s rfl ?_
        refine e_s rfl ?_
        refine e_s rfl ?_
        rw [hI, nI_1, nI_1, hJ, hx, nI_l (by omega), show (10 : Int64) * lN V = lN (10 * V) from lN_mul 10 V, lN_add, show lN (10 * V + (48 + g)) - 48 = lN (10 * V + (48 + g) - 48) from lN_sub (b := 48) (by omega), show 10 * V + (48 + g) - 48 = 10 * V + dgv b h by unfold dgv; omega]
        exact w_nb f _ _ (h + 1) (c + 1) _ (hB.u (by decide) (by decide)) u_eq u_eq (by omega) (by omega) (by rw [u_u, u_u]; exact k)
      · rw [if_neg h4] at k
        refine e_bt (nI_le (a := 4) (by omega) (by omega)) ?_
        refine e_s rfl ?_
        refine e_s rfl ?_
        refine e_s rfl ?_
        refine e_s rfl ?_
        refine e_s rfl ?_
        refine e_s rfl ?_
        refine e_s rfl ?_
        refine e_s rfl ?_
        refine e_s rfl ?_
        refine e_s rfl ?_
        refine e_s rfl ?_
        rw [hI, nI_1, nI_1, u_self rfl]
        exact w_nb f _ _ (h + 1) (c + 1) _ (hB.u (by decide) (by decide)) u_eq hJ (by omega) (by omega) (by rw [u_u]; exact k)
    · have h1' : isDg (b h) = false := h1
      rw [skp_f h1', u_self hI, show nvM b (f + 1) h c V = V by show cond (isDg (b h)) _ _ = _; rw [h1']; rfl, u_self hJ, show c + (h - h) = c by omega] at k
      exact k
end PXM1
