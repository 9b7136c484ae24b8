/-! gainAt() on both sides -/
def gSm (W X : Nat → Int64) (wt : Nat → Int32) (mn : Int32) : Nat → Nat → Int64 → Int64
  | 0, _, s => s
  | k + 1, i, s => gSm W X wt mn k (i + 1) (if wt i < mn then s else s + W i * X i)
section PXB2
variable {d D n q L cc sg rl tc : Nat} {so : Option Nat} {dr : px_HR} {ds : px_HS} {I : px_HI} {J : px_HJ} {W X : Nat → Int64} {mn x : Int32} {ta ua wa tz ca kd nb : Nat → Nat} {r : Option Value × px_G}
theorem e_wt {m pc c nx o k1 : Nat} {pl : px_L} {st : List Value} {v : Value} {R : px_HR} {S : px_HS} {h : Int32} (hT : px_T m pc = some (47, 1, 1, c, nx, [(10, 66), (11, 61), (12, 62), (13, 63), (14, 64), (15, 65)], v)) (hk : k1 ≤ 5) (hS : S o = (cls k1, 2)) (hlo : px_lo st = true) (k : px_ev (d + 4) m nx pl (.int (wts k1 (I o 1) h) :: st) I J R S n q r) : px_ev (d + 4) m pc pl (.int h :: .ref o :: st) I J R S n q r := by
  have hw := r_wts (d := d) (n := n) (q := q) (I := I) (J := J) (R := R) (h := h) hk hS
  rcases (show k1 = 0 ∨ k1 = 1 ∨ k1 = 2 ∨ k1 = 3 ∨ k1 = 4 ∨ k1 = 5 by omega) with rfl | rfl | rfl | rfl | rfl | rfl <;> exact e_cv hT rfl rfl hS rfl (by rw [hlo]; rfl) hw (by omega) k
theorem w_gn (hC : cIv I (dR so dr) (dS L ds) cc ca kd nb) (hW : ∀ t, t < cc → J 17 t = W t) (hX : ∀ t, t < cc → (I 18 t).toInt64 = X t) : ∀ k i (s : Int64) (x5 : Option Value), i + k = cc → px_ev (d + 5) 101 5 [some (.ref 0), some (.int mn), some (.long s), none, some (.int (nI i)), x5] [] I J (dR so dr) (dS L ds) n q (some (.long (gSm W X (fun t => wts (kd t) (nI (nb t)) (I 2 0)) mn k i s - J 0 13 * (I 0 14).toInt64 * mn.toInt64)), I, J, dR so dr, dS L ds, n, q)
  | 0, i, s, x5, hi => by
    have h7 := hC.1
    repeat refine e_s rfl ?_
    rw [hC.2.1]
    refine e_bt (nI_le (by omega) (by omega)) ?_
    repeat refine e_s rfl ?_
    exact e_r rfl
  | k + 1, i, s, x5, hi => by
    have h7 := hC.1
    obtain ⟨_, c2, c3, c4, c5, c6, _, _⟩ := hC.2.2.2 i (by omega)
    repeat refine e_s rfl ?_
    rw [hC.2.1]
    refine e_bf (nI_ge (by omega) (by omega)) ?_
    repeat refine e_s rfl ?_
    refine e_c rfl (r_callerAt (d := d) hC (show i < cc by omega)) (by omega) ?_
    repeat refine e_s rfl ?_
    refine e_wt (d := d + 1) rfl c3 c2 rfl ?_
    rw [c6]
    repeat refine e_s rfl ?_
    unfold gSm
    refine e_b (fun h => ?_) (fun h => ?_)
    · rw [if_pos h]
      refine e_s rfl ?_
      refine e_s rfl ?_
      rw [nI_1]
      exact w_gn hC hW hX k (i + 1) s _ (by omega)
    · rw [if_neg h]
      repeat refine e_s rfl ?_
      refine e_la rfl rfl rfl (show i < 7 by omega) (by decide) ?_
      rw [hW i (by omega)]
      repeat refine e_s rfl ?_
      refine e_ia rfl rfl rfl (show i < 7 by omega) (by decide) ?_
      refine e_s rfl ?_
      rw [hX i (by omega)]
      refine e_s rfl ?_
      refine e_s rfl ?_
      refine e_s rfl ?_
      refine e_s rfl ?_
      refine e_s rfl ?_
      rw [nI_1]
      exact w_gn hC hW hX k (i + 1) _ _ (by omega)
theorem r_gain (hC : cIv I (dR so dr) (dS L ds) cc ca kd nb) (hW : ∀ t, t < cc → J 17 t = W t) (hX : ∀ t, t < cc → (I 18 t).toInt64 = X t) : px_mt (d + 5) 101 [.ref 0, .int mn] I J (dR so dr) (dS L ds) n q (some (.long (gSm W X (fun t => wts (kd t) (nI (nb t)) (I 2 0)) mn cc 0 0 - J 0 13 * (I 0 14).toInt64 * mn.toInt64)), I, J, dR so dr, dS L ds, n, q) := by
  unfold px_mt
  refine e_s rfl ?_
  refine e_s rfl ?_
  refine e_s rfl ?_
  refine e_s rfl ?_
  exact w_gn hC hW hX cc 0 0 none (by omega)
theorem w_gnM (hC : cIv I (dR so dr) (dS L ds) cc ca kd nb) (hW : ∀ t, t < cc → J 38 t = W t) (hX : ∀ t, t < cc → J 39 t = X t) : ∀ k i (s : Int64), i + k = cc → px_ev (D + 3) 211 52 [some (.ref 31), some (.int mn), some (.long (gSm W X (fun t => wts (kd t) (nI (nb t)) (I 31 7)) mn k i s)), none, some (.int (nI cc))] [] I J (dR so dr) (dS L ds) n q r → px_ev (D + 3) 211 5 [some (.ref 31), some (.int mn), some (.long s), none, some (.int (nI i))] [] I J (dR so dr) (dS L ds) n q r
  | 0, i, s, hi, kk => by
    have h7 := hC.1
    have e : i = cc := by omega
    subst e
    repeat refine e_s rfl ?_
    rw [hC.2.2.1]
    refine e_bt (nI_le (by omega) (by omega)) ?_
    exact kk
  | k + 1, i, s, hi, kk => by
    have h7 := hC.1
    obtain ⟨_, _, c3, c4, _, _, c7, c8⟩ := hC.2.2.2 i (by omega)
    repeat refine e_s rfl ?_
    rw [hC.2.2.1]
    refine e_bf (nI_ge (by omega) (by omega)) ?_
    repeat refine e_s rfl ?_
    have hw := r_wtsM (D := D) (n := n) (q := q) (so := so) (dr := dr) (L := L) (ds := ds) (J := J) c3 (show i < 7 by omega) c7
    rw [c8] at hw
    refine e_c rfl hw (by omega) ?_
    repeat refine e_s rfl ?_
    unfold gSm at kk
    refine e_b (fun h => ?_) (fun h => ?_)
    · rw [if_pos h] at kk
      refine e_s rfl ?_
      refine e_s rfl ?_
      rw [Int64.add_zero]
      refine e_s rfl ?_
      refine e_s rfl ?_
      refine e_s rfl ?_
      rw [nI_1]
      exact w_gnM hC hW hX k (i + 1) s (by omega) kk
    · rw [if_neg h] at kk
      repeat refine e_s rfl ?_
      refine e_la rfl rfl rfl (show i < 7 by omega) (by decide) ?_
      rw [hW i (by omega)]
      repeat refine e_s rfl ?_
      refine e_la rfl rfl rfl (show i < 7 by omega) (by decide) ?_
      rw [hX i (by omega)]
      refine e_s rfl ?_
      refine e_s rfl ?_
      refine e_s rfl ?_
      refine e_s rfl ?_
      refine e_s rfl ?_
      refine e_s rfl ?_
      rw [nI_1]
      exact w_gnM hC hW hX k (i + 1) _ (by omega) kk
theorem r_gainM (hT : tIv I (dR so dr) (dS L ds) tc ta ua wa tz) (hC : cIv I (dR so dr) (dS L ds) cc ca kd nb) (hr : I 31 4 = nI rl) (hrl : rl < tc) (hg : I 31 16 = nI sg) (hW : ∀ t, t < cc → J 38 t = W t) (hX : ∀ t, t < cc → J 39 t = X t) : ∃ I' J', px_mt (D + 82) 211 [.ref 31, .int mn] I J (dR so dr) (dS L ds) n q (some (.long (gSm W X (fun t => wts (kd t) (nI (nb t)) (I 31 7)) mn cc 0 0 - J 31 34 * (clp 0 99 (tV I tz rl 2 (nmE (I 31 7) (I 31 8) 0 (I 31 9) (nI sg) 0))).toInt64 * mn.toInt64)), I', J', dR so dr, dS L ds, n, q) ∧ mFr3 I I' J J' := by
  obtain ⟨I1, J1, hr1, hf1⟩ := r_says2 (D := D + 81) (n := n) (q := q) (J := J) (x := I 31 7) (c := 0) (by omega) hT hr hrl (by decide)
  rw [hg] at hr1
  refine ⟨I1, J1, ?_, hf1⟩
  unfold px_mt
  refine e_s rfl ?_
  refine e_s rfl ?_
  refine e_s rfl ?_
  refine e_s rfl ?_
  refine w_gnM (D := D + 79) hC hW hX cc 0 0 (by omega) ?_
  repeat refine e_s rfl ?_
  refine e_c rfl hr1 (by omega) ?_
  repeat refine e_s rfl ?_
  exact e_r rfl
end PXB2
