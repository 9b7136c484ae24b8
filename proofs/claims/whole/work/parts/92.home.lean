/-! home, on both sides -/
def sm (W : Nat → Int64) : Nat → Nat → Int64 → Int64
  | 0, _, a => a
  | k + 1, i, a => sm W k (i + 1) (a + W i)
theorem sm_c {V W : Nat → Int64} : ∀ k i a, (∀ j, j < i + k → V j = W j) → sm V k i a = sm W k i a
  | 0, _, _, _ => rfl
  | k + 1, i, a, h => by
    unfold sm
    rw [h i (by omega)]
    exact sm_c k (i + 1) _ (fun j hj => h j (by omega))
def worS (I : px_HI) (tz kd : Nat → Nat) (rl sg c h : Nat) : Int32 := clp (-99) 99 (tV I tz rl 1 (nmE (nI h) (I 31 8) (nI (kd c)) (I 31 9) (nI sg) (nI c)))
def hTm (I : px_HI) (tz kd : Nat → Nat) (rl sg h c : Nat) : Int64 := (bI (sty (kd c) (I 31 10) (I 31 11))).toInt64 * (comS I tz kd rl sg c h).toInt64 * (worS I tz kd rl sg c h).toInt64
def hWo (I : px_HI) (tz kd : Nat → Nat) (rl sg cc h : Nat) : Int64 := sm (hTm I tz kd rl sg h) cc 0 0
theorem hTm_f {I : px_HI} {tz kd : Nat → Nat} {rl sg h c : Nat} {a : Int64} (hs : sty (kd c) (I 31 10) (I 31 11) = false) : a + hTm I tz kd rl sg h c = a := by
  unfold hTm
  rw [hs, show (bI false).toInt64 = 0 by decide, Int64.zero_mul, Int64.zero_mul, Int64.add_zero]
theorem hTm_t {I : px_HI} {tz kd : Nat → Nat} {rl sg h c : Nat} (hs : sty (kd c) (I 31 10) (I 31 11) = true) : hTm I tz kd rl sg h c = (comS I tz kd rl sg c h).toInt64 * (worS I tz kd rl sg c h).toInt64 := by
  unfold hTm
  rw [hs, show (bI true).toInt64 = 1 by decide, Int64.one_mul]
section PXHO
variable {d D n q L cc tc rl sg tp c k s m : Nat} {so : Option Nat} {dr R : px_HR} {ds S : px_HS} {I I0 : px_HI} {J : px_HJ} {xs : Nat → Int32} {ca kd nb ta ua wa tz : Nat → Nat} {x y z v w : Int32} {W : Nat → Int64}
theorem w_fhI (h : Inv xs L so dr ds I0 n cc tc rl sg tp ca kd nb ta ua wa tz) {t : Nat} (ht : t < 24) : ∀ k i (a : Int64) (I : px_HI) (J : px_HJ) (x3 : Option Value), i + k = cc → kpF wa tc I0 I → I 4 0 = nI t → (∀ j, 1 ≤ j → j < 7 → I 4 j = I0 2 j) → J 19 t = a → ∃ I' J' x3', J' 19 t = sm (hTm I0 tz kd rl sg t) k i a ∧ (∀ j, j ≠ t → J' 19 j = J 19 j) ∧ kpF wa tc I0 I' ∧ (∀ j, 1 ≤ j → j < 7 → I' 4 j = I0 2 j) ∧ ∀ r, px_ev (d + 6) 110 106 [some (.ref 0), some (.int (nI t)), some (.int (nI cc)), x3'] [] I' J' (dR so dr) (dS L ds) n q r → px_ev (d + 6) 110 39 [some (.ref 0), some (.int (nI t)), some (.int (nI i)), x3] [] I J (dR so dr) (dS L ds) n q r
  | 0, i, a, I, J, x3, hi, hk, e0, e4, ea => by
    have c7 := h.2.2.1.1
    have e01 := (h.keep hk).2.2.1.2.1
    have e : i = cc := by omega
    subst e
    refine ⟨I, J, x3, ea, fun _ _ => rfl, hk, e4, fun r kk => ?_⟩
    refine e_s rfl ?_
    refine e_s rfl ?_
    refine e_s rfl ?_
    rw [e01]
    refine e_s rfl ?_
    refine e_bt (nI_le (by omega) (by omega)) ?_
    exact kk
  | k + 1, i, a, I, J, x3, hi, hk, e0, e4, ea => by
    have c7 := h.2.2.1.1
    have hI := h.keep hk
    have e01 := hI.2.2.1.2.1
    obtain ⟨a1, a2, a3, a4, a5, a6, a7, a8, a9, a10, a11⟩ := h.2.1
    obtain ⟨g1, g2, g3, g4, g5, g6, g7, g8⟩ := hI.2.2.1.2.2.2 i (by omega)
    have wst := h.wst h.1
    cases hs : sty (kd i) (I0 31 10) (I0 31 11) with
    | false =>
      obtain ⟨I', J', x3', r1, r2, r3, r4, r5⟩ := w_fhI h ht k (i + 1) a I J (some (.ref (ca i))) (by omega) hk e0 e4 ea
      refine ⟨I', J', x3', ?_, r2, r3, r4, fun r kk => ?_⟩
      · rw [r1]
        show _ = sm _ k (i + 1) (a + hTm I0 tz kd rl sg t i)
        rw [hTm_f hs]
      · refine e_s rfl ?_
        refine e_s rfl ?_
        refine e_s rfl ?_
        rw [e01]
        refine e_s rfl ?_
        refine e_bf (nI_ge (by omega) (by omega)) ?_
        repeat refine e_s rfl ?_
        refine e_c rfl (r_callerAt (d := d) hI.2.2.1 (show i < cc by omega)) (by omega) ?_
        repeat refine e_s rfl ?_
        refine e_c rfl (r_sty (d := d) (sc := 4) g3 g2 rfl) (by omega) ?_
        rw [e4 3 (by decide) (by decide), e4 4 (by decide) (by decide), a4, a5, hs]
        refine e_s rfl ?_
        refine e_s rfl ?_
        refine e_s rfl ?_
        rw [nI_1]
        exact r5 r kk
    | true =>
      obtain ⟨I1, k1, k2⟩ := r_comes (d := d) (n := n) (q := q) (J := J) (sc := 4) (c := ca i) (who := nI i) hI.2.2.2.1 rfl ((e4 5 (by decide) (by decide)).trans a6) h.1 (by decide) g3 g2
      have hk1 : kpF wa tc I I1 := fun a j g => k2 a j (fun e => g (Or.inr (Or.inr (Or.inr (Or.inr (Or.inl ⟨rl, h.1, e⟩))))))
      have hI1 := hI.keep hk1
      have e41 : ∀ j, I1 4 j = I 4 j := fun j => k2 4 j (by omega)
      obtain ⟨g1', g2', g3', g4', g5', g6', g7', g8'⟩ := hI1.2.2.1.2.2.2 i (by omega)
      obtain ⟨I2, l1, l2⟩ := r_worth (d := d) (n := n) (q := q) (J := J) (sc := 4) (c := ca i) (who := nI i) hI1.2.2.2.1 rfl ((e41 5).trans ((e4 5 (by decide) (by decide)).trans a6)) h.1 (by decide) g3' g2'
      have hk2 : kpF wa tc I1 I2 := fun a j g => l2 a j (fun e => g (Or.inr (Or.inr (Or.inr (Or.inr (Or.inl ⟨rl, h.1, e⟩))))))
      obtain ⟨_, _, _, _, e32⟩ := mW_k h hk
      obtain ⟨_, _, _, _, e32'⟩ := mW_k h (hk.trans hk1)
      rw [e0, e4 1 (by decide) (by decide), e4 2 (by decide) (by decide), e4 6 (by decide) (by decide), a2, a3, a8, g5, tV_fr e32] at k1
      rw [e41, e41, e41, e41, e0, e4 1 (by decide) (by decide), e4 2 (by decide) (by decide), e4 6 (by decide) (by decide), a2, a3, a8, g5', tV_fr e32'] at l1
      have e42 : ∀ j, I2 4 j = I 4 j := fun j => (l2 4 j (by omega)).trans (e41 j)
      obtain ⟨I', J', x3', r1, r2, r3, r4, r5⟩ := w_fhI h ht k (i + 1) (a + hTm I0 tz kd rl sg t i) I2 (px_u J 19 t (a + hTm I0 tz kd rl sg t i)) (some (.ref (ca i))) (by omega) ((hk.trans hk1).trans hk2) ((e42 0).trans e0) (fun j hj hj2 => (e42 j).trans (e4 j hj hj2)) u_eq
      refine ⟨I', J', x3', r1, fun j hj => (r2 j hj).trans (u_ne (fun _ => hj)), r3, r4, fun r kk => ?_⟩
      refine e_s rfl ?_
      refine e_s rfl ?_
      refine e_s rfl ?_
      rw [e01]
      refine e_s rfl ?_
      refine e_bf (nI_ge (by omega) (by omega)) ?_
      repeat refine e_s rfl ?_
      refine e_c rfl (r_callerAt (d := d) hI.2.2.1 (show i < cc by omega)) (by omega) ?_
      repeat refine e_s rfl ?_
      refine e_c rfl (r_sty (d := d) (sc := 4) g3 g2 rfl) (by omega) ?_
      rw [e4 3 (by decide) (by decide), e4 4 (by decide) (by decide), a4, a5, hs]
      repeat refine e_s rfl ?_
      refine e_la rfl rfl rfl ht (by decide) ?_
      rw [ea]
      repeat refine e_s rfl ?_
      refine e_c rfl k1 (by omega) ?_
      repeat refine e_s rfl ?_
      refine e_c rfl l1 (by omega) ?_
      refine e_s rfl ?_
      refine e_s rfl ?_
      refine e_s rfl ?_
      rw [show (clp 0 999 (tV I0 tz rl 0 (nmE (nI t) (I0 31 8) (nI (kd i)) (I0 31 9) (nI sg) (nI i)))).toInt64 * (clp (-99) 99 (tV I0 tz rl 1 (nmE (nI t) (I0 31 8) (nI (kd i)) (I0 31 9) (nI sg) (nI i)))).toInt64 = hTm I0 tz kd rl sg t i from (hTm_t hs).symm]
      refine e_ls rfl rfl rfl ht (by decide) ?_
      refine e_s rfl ?_
      refine e_s rfl ?_
      rw [nI_1]
      exact r5 r kk
theorem w_fh (h : Inv xs L so dr ds I0 n cc tc rl sg tp ca kd nb ta ua wa tz) : ∀ k t (I : px_HI) (J : px_HJ) (x2 x3 : Option Value), t + k = 24 → kpF wa tc I0 I → (∀ j, 1 ≤ j → j < 7 → I 4 j = I0 2 j) → (∀ j, j < t → J 19 j = hWo I0 tz kd rl sg cc j) → ∃ I' J', px_ev (d + 6) 110 13 [some (.ref 0), some (.int (nI t)), x2, x3] [] I J (dR so dr) (dS L ds) n q (none, I', J', dR so dr, dS L ds, n, q) ∧ kpF wa tc I0 I' ∧ ∀ j, j < 24 → J' 19 j = hWo I0 tz kd rl sg cc j
  | 0, t, I, J, x2, x3, ht, hk, e4, ej => by
    have e : t = 24 := by omega
    subst e
    refine ⟨I, J, ?_, hk, ej⟩
    repeat refine e_s rfl ?_
    exact e_r rfl
  | k + 1, t, I, J, x2, x3, ht, hk, e4, ej => by
    have fb : kpF wa tc I (px_u I 4 0 (nI t)) := fun a j q => u_ne (fun e => absurd (Or.inl e) q)
    obtain ⟨I1, J1, x3', r1, r2, r3, r4, r5⟩ := w_fhI (d := d) (q := q) h (show t < 24 by omega) cc 0 0 (px_u I 4 0 (nI t)) (px_u J 19 t 0) x3 (by omega) (hk.trans fb) u_eq (fun j hj hj2 => (u_ne (fun _ => by omega)).trans (e4 j hj hj2)) u_eq
    obtain ⟨I', J', p1, p2, p3⟩ := w_fh h k (t + 1) I1 J1 (some (.int (nI cc))) x3' (by omega) r3 r4 (fun j hj => by
      by_cases e : j = t
      · subst e
        exact r1
      · rw [r2 j e, u_ne (fun _ => e)]
        exact ej j (by omega))
    refine ⟨I', J', ?_, p2, p3⟩
    repeat refine e_s rfl ?_
    refine e_bf (nI_ge (b := 24) (by omega) (by decide)) ?_
    repeat refine e_s rfl ?_
    refine e_ls rfl rfl rfl (show t < 24 by omega) (by decide) ?_
    refine e_s rfl ?_
    refine e_s rfl ?_
    refine r5 _ ?_
    refine e_s rfl ?_
    refine e_s rfl ?_
    rw [nI_1]
    exact p1
theorem w_hf (hW : ∀ j, j < 24 → J 19 j = W j) {f N : Nat} (hf : f + N ≤ 24) : ∀ k i (a : Int64), i + k = f + N → px_ev (d + 1) 111 5 [some (.ref 0), some (.int (nI f)), some (.int (nI N)), some (.long a), none, some (.int (nI i))] [] I J (dR so dr) (dS L ds) n q (some (.long (sm W k i a)), I, J, dR so dr, dS L ds, n, q)
  | 0, i, a, hi => by
    repeat refine e_s rfl ?_
    rw [nI_add]
    refine e_bt (nI_le (by omega) (by omega)) ?_
    repeat refine e_s rfl ?_
    exact e_r rfl
  | k + 1, i, a, hi => by
    repeat refine e_s rfl ?_
    rw [nI_add]
    refine e_bf (nI_ge (by omega) (by omega)) ?_
    repeat refine e_s rfl ?_
    refine e_bf (nI_ge (b := 24) (by omega) (by decide)) ?_
    repeat refine e_s rfl ?_
    refine e_la rfl rfl rfl (show i < 24 by omega) (by decide) ?_
    rw [hW i (by omega)]
    refine e_s rfl ?_
    refine e_s rfl ?_
    refine e_s rfl ?_
    refine e_s rfl ?_
    rw [nI_1]
    exact w_hf hW hf k (i + 1) _ (by omega)
theorem r_hf (hW : ∀ j, j < 24 → J 19 j = W j) {f N : Nat} (hf : f + N ≤ 24) : px_mt (d + 1) 111 [.ref 0, .int (nI f), .int (nI N)] I J (dR so dr) (dS L ds) n q (some (.long (sm W N f 0)), I, J, dR so dr, dS L ds, n, q) := by
  unfold px_mt
  refine e_s rfl ?_
  refine e_s rfl ?_
  refine e_s rfl ?_
  refine e_s rfl ?_
  exact w_hf hW hf N f 0 (by omega)
/-- which of the two is asked for -/
def hmA (wt : Int32) (p : Int32 × Int64) : Int64 := if wt = 0 then p.1.toInt64 else p.2
theorem w_hm (hW : ∀ j, j < 24 → J 19 j = W j) {N : Nat} (h1 : 1 ≤ N) (h24 : N ≤ 24) : ∀ k t (b : Int32) (a : Int64) (x7 : Option Value), t + k = 25 - N → px_ev (d + 2) 109 41 [some (.ref 0), some (.int (nI N)), some (.int w), some (.int b), some (.long a), none, some (.int (nI t)), x7, none] [] I J (dR so dr) (dS L ds) n q (some (.long (hmA w (opn (fun t => sm W N t 0) k t b a))), I, J, dR so dr, dS L ds, n, q)
  | 0, t, b, a, x7, ht => by
    repeat refine e_s rfl ?_
    rw [show (24 : Int32) - nI N = nI (24 - N) from pk_sub (a := 24) h24]
    refine e_bt (nI_lt (by omega) (by omega)) ?_
    repeat refine e_s rfl ?_
    unfold opn hmA
    by_cases e : w = 0
    · refine e_bf (fun g => g e) ?_
      rw [if_pos e]
      repeat refine e_s rfl ?_
      exact e_r rfl
    · refine e_bt e ?_
      rw [if_neg e]
      repeat refine e_s rfl ?_
      exact e_r rfl
  | k + 1, t, b, a, x7, ht => by
    repeat refine e_s rfl ?_
    rw [show (24 : Int32) - nI N = nI (24 - N) from pk_sub (a := 24) h24]
    refine e_bf (nI_nlt (by omega) (by omega)) ?_
    repeat refine e_s rfl ?_
    refine e_c rfl (r_hf (d := d) hW (show t + N ≤ 24 by omega)) (by omega) ?_
    refine e_s rfl ?_
    refine e_s rfl ?_
    refine e_s rfl ?_
    refine e_s rfl ?_
    refine e_s rfl ?_
    unfold opn
    refine e_b (fun h => ?_) (fun h => ?_)
    · rw [if_neg (lg_le_not_lt ((lg_cmp_le _ _).mp h))]
      refine e_s rfl ?_
      refine e_s rfl ?_
      rw [nI_1]
      exact w_hm hW h1 h24 k (t + 1) b a _ (by omega)
    · rw [if_pos ((lg_cmp_gt _ _).mp (Int32.not_le.mp h))]
      refine e_s rfl ?_
      refine e_s rfl ?_
      refine e_s rfl ?_
      refine e_s rfl ?_
      refine e_s rfl ?_
      refine e_s rfl ?_
      rw [nI_1]
      exact w_hm hW h1 h24 k (t + 1) _ _ _ (by omega)
end PXHO
