/-! cards, on both sides -/
def oneS (f : Nat → Int32) (cc : Nat) : Nat → Nat → Bool
  | 0, _ => true
  | k + 1, i => cond (decide (0 ≤ f i ∧ f i < nI cc)) (oneS f cc k (i + 1)) false
def hbN (P : Nat → Bool) : Nat → Nat → Option Nat
  | 0, _ => none
  | k + 1, h => cond (P h) (some h) (hbN P k (h + 1))
def cdS (Q : Nat → Nat → Bool) : Nat → Nat → Nat → Int32 → Int32
  | 0, _, _, v => v
  | k + 1, i, H, _ => match hbN (Q i) (24 - H) H with
    | none => -1
    | some h => cdS Q k (i + 1) (h + 1) (nI h)
def comS (I : px_HI) (tz kd : Nat → Nat) (rl sg c h : Nat) : Int32 := clp 0 999 (tV I tz rl 0 (nmE (nI h) (I 31 8) (nI (kd c)) (I 31 9) (nI sg) (nI c)))
theorem hbN_lt {P : Nat → Bool} : ∀ k h h', hbN P k h = some h' → h' < h + k
  | 0, _, _, e => by cases e
  | k + 1, h, h', e => by
    unfold hbN at e
    cases hp : P h with
    | true =>
      rw [hp] at e
      have : h = h' := Option.some.inj e
      omega
    | false =>
      rw [hp] at e
      have := hbN_lt k (h + 1) h' e
      omega
theorem oneS_c {f g : Nat → Int32} {cc : Nat} : ∀ k i, (∀ j, j < i + k → f j = g j) → oneS f cc k i = oneS g cc k i
  | 0, _, _ => rfl
  | k + 1, i, h => by
    unfold oneS
    rw [h i (by omega), oneS_c k (i + 1) (fun j hj => h j (by omega))]
theorem oneS_t {f : Nat → Int32} {cc : Nat} (h7 : cc ≤ 7) : ∀ k i, oneS f cc k i = true → ∀ j, i ≤ j → j < i + k → f j = nI (f j).toNatClampNeg ∧ (f j).toNatClampNeg < cc
  | 0, _, _ => fun j h1 h2 => by omega
  | k + 1, i, h => fun j h1 h2 => by
    unfold oneS at h
    cases hd : decide (0 ≤ f i ∧ f i < nI cc) with
    | false =>
      rw [hd] at h
      cases h
    | true =>
      rw [hd] at h
      by_cases e : j = i
      · subst e
        have hv := of_decide_eq_true hd
        rcases pk_ix (f j) (n := cc) (by omega) with g | g | ⟨t, ht, e⟩
        · exact absurd hv.1 (Int32.not_le.mpr g)
        · exact absurd hv.2 (Int32.not_lt.mpr g)
        · rw [e, nI_clamp (by omega)]
          exact ⟨rfl, ht⟩
      · exact oneS_t h7 k (i + 1) h j (by omega) (by omega)
theorem cdS_c {P Q : Nat → Nat → Bool} : ∀ k i H v, (∀ t, t < i + k → P t = Q t) → cdS P k i H v = cdS Q k i H v
  | 0, _, _, _, _ => rfl
  | k + 1, i, H, v, h => by
    unfold cdS
    rw [h i (by omega)]
    cases hbN (Q i) (24 - H) H with
    | none => rfl
    | some t => exact cdS_c k (i + 1) (t + 1) (nI t) (fun t ht => h t (by omega))
theorem clp_nn {v : Int32} : 0 ≤ clp 0 999 v := by
  unfold clp
  by_cases h : v < 0
  · rw [if_pos h]
    decide
  · rw [if_neg h]
    by_cases h2 : 999 < v
    · rw [if_pos h2]
      decide
    · rw [if_neg h2]
      exact Int32.not_lt.mp h
theorem pos_ne {v : Int32} (h : 0 ≤ v) : (0 < v) ↔ ¬ v = 0 := by
  rw [Int32.le_iff_toInt_le] at h
  rw [Int32.lt_iff_toInt_lt, ← Int32.toInt_inj]
  rw [show (0 : Int32).toInt = 0 by decide] at h ⊢
  omega
section PXCD
variable {d D n q L cc tc rl sg tp c k s m : Nat} {so : Option Nat} {dr R : px_HR} {ds S : px_HS} {I I0 : px_HI} {J : px_HJ} {xs : Nat → Int32} {ca kd nb ta ua wa tz : Nat → Nat} {x y z v w : Int32}
theorem w_tcC (h : Inv xs L so dr ds I n cc tc rl sg tp ca kd nb ta ua wa tz) (hs : s < 4) (hm : m ≤ 40) (e2 : I (20 + 2 * s) 2 = nI m) : ∀ k i, i + k = m → px_ev (d + 3) 115 2 [some (.ref 0), some (.ref (20 + 2 * s)), some (.int (nI i))] [] I J (dR so dr) (dS L ds) n q (some (.int (bI (oneS (I (21 + 2 * s)) cc k i && decide (0 < m)))), I, J, dR so dr, dS L ds, n, q)
  | 0, i, hi => by
    obtain ⟨s1, s2, s3, s4⟩ := sh_S (ds := ds) (L := L) (so := so) (dr := dr) hs
    repeat refine e_s rfl ?_
    refine e_gi rfl s1 rfl ?_
    rw [e2]
    refine e_s rfl ?_
    refine e_bt (nI_le (by omega) (by omega)) ?_
    repeat refine e_s rfl ?_
    refine e_gi rfl s1 rfl ?_
    rw [e2]
    refine e_s rfl ?_
    by_cases h0 : 0 < m
    · refine e_bf (nI_nle h0 (by omega)) ?_
      rw [decide_eq_true h0]
      repeat refine e_s rfl ?_
      exact e_r rfl
    · have e : m = 0 := by omega
      refine e_bt (by rw [e]; decide) ?_
      rw [decide_eq_false h0]
      repeat refine e_s rfl ?_
      exact e_r rfl
  | k + 1, i, hi => by
    obtain ⟨s1, s2, s3, s4⟩ := sh_S (ds := ds) (L := L) (so := so) (dr := dr) hs
    have c7 := h.2.2.1.1
    repeat refine e_s rfl ?_
    refine e_gi rfl s1 rfl ?_
    rw [e2]
    refine e_s rfl ?_
    refine e_bf (nI_ge (by omega) (by omega)) ?_
    repeat refine e_s rfl ?_
    refine e_cv rfl rfl rfl s1 rfl rfl (r_shAt (d := d) (i := i) hs e2 (by omega) (by omega)) (by omega) ?_
    unfold oneS
    rcases ix_or (x := I (21 + 2 * s) i) (k := cc) (by omega) with g | ⟨t, ht, e⟩
    · refine e_c rfl (r_callerNo (d := d) h.2.2.1 g) (by omega) ?_
      rw [out_k g]
      repeat refine e_s rfl ?_
      exact e_r rfl
    · rw [e]
      refine e_c rfl (r_callerAt (d := d) h.2.2.1 ht) (by omega) ?_
      rw [in_k ht (by omega)]
      refine e_s rfl ?_
      refine e_s rfl ?_
      refine e_s rfl ?_
      rw [nI_1]
      exact w_tcC h hs hm e2 k (i + 1) (by omega)
theorem w_tcM (h : I 31 14 = nI cc) (h7 : cc ≤ 7) (hs : s < 4) (hm : m ≤ 40) (e2 : I 47 s = nI m) {r : Option Value × px_G} : ∀ k i, i + k = m → (oneS (fun j => I 48 (40 * s + j)) cc k i = true → px_ev (d + 3) 218 73 [some (.ref 31), some (.int (nI s)), some (.int (nI m)), none] [] I J (dR so dr) (dS L ds) n q r) → (oneS (fun j => I 48 (40 * s + j)) cc k i = false → r = (some (.int (-2)), I, J, dR so dr, dS L ds, n, q)) → px_ev (d + 3) 218 36 [some (.ref 31), some (.int (nI s)), some (.int (nI i)), none] [] I J (dR so dr) (dS L ds) n q r
  | 0, i, hi, kt, kf => by
    have e : i = m := by omega
    subst e
    repeat refine e_s rfl ?_
    refine e_ia rfl rfl rfl hs (by decide) ?_
    rw [e2]
    refine e_s rfl ?_
    refine e_bt (nI_le (by omega) (by omega)) ?_
    exact kt rfl
  | k + 1, i, hi, kt, kf => by
    repeat refine e_s rfl ?_
    refine e_ia rfl rfl rfl hs (by decide) ?_
    rw [e2]
    refine e_s rfl ?_
    refine e_bf (nI_ge (by omega) (by omega)) ?_
    repeat refine e_s rfl ?_
    rw [show (40 : Int32) * nI s = nI (40 * s) from pk_mul 40 s, nI_add]
    refine e_ia rfl rfl rfl (show 40 * s + i < 160 by omega) (by decide) ?_
    refine e_c rfl (r_isOne (d := d) h h7) (by omega) ?_
    unfold oneS at kt kf
    cases hd : decide (0 ≤ I 48 (40 * s + i) ∧ I 48 (40 * s + i) < nI cc) with
    | false =>
      have hd' : decide (0 ≤ (fun j => I 48 (40 * s + j)) i ∧ (fun j => I 48 (40 * s + j)) i < nI cc) = false := hd
      rw [hd'] at kf
      rw [kf rfl]
      repeat refine e_s rfl ?_
      exact e_r rfl
    | true =>
      have hd' : decide (0 ≤ (fun j => I 48 (40 * s + j)) i ∧ (fun j => I 48 (40 * s + j)) i < nI cc) = true := hd
      rw [hd'] at kt kf
      refine e_s rfl ?_
      refine e_s rfl ?_
      refine e_s rfl ?_
      rw [nI_1]
      exact w_tcM h h7 hs hm e2 k (i + 1) (by omega) kt kf
theorem w_hb (h : Inv xs L so dr ds I0 n cc tc rl sg tp ca kd nb ta ua wa tz) (hc : c < cc) : ∀ k t (I : px_HI), t + k = 24 → kpF wa tc I0 I → (∀ j, 1 ≤ j → j < 7 → I 4 j = I0 2 j) → ∃ I', px_ev (d + 5) 117 28 [some (.ref 0), some (.int v), some (.int (nI c)), some (.ref (ca c)), some (.int (nI t))] [] I J (dR so dr) (dS L ds) n q (some (.int (match hbN (fun h => decide (0 < comS I0 tz kd rl sg c h)) k t with
      | none => -1
      | some h => nI h)), I', J, dR so dr, dS L ds, n, q) ∧ kpF wa tc I0 I'
  | 0, t, I, ht, hk, g4 => by
    refine ⟨I, ?_, hk⟩
    have e : t = 24 := by omega
    subst e
    repeat refine e_s rfl ?_
    exact e_r rfl
  | k + 1, t, I, ht, hk, g4 => by
    obtain ⟨a1, a2, a3, a4, a5, a6, a7, a8, a9, a10, a11⟩ := h.2.1
    have fb : kpF wa tc I (px_u I 4 0 (nI t)) := fun a j q => u_ne (fun e => absurd (Or.inl e) q)
    have hb := (h.keep hk).keep fb
    obtain ⟨q1, q2, q3, q4, q5, q6, q7, q8⟩ := hb.2.2.1.2.2.2 c hc
    have c4 : ∀ j, 1 ≤ j → j < 7 → px_u I 4 0 (nI t) 4 j = I0 2 j := fun j hj hj2 => by
      rw [u_ne (fun _ => by omega), g4 j hj hj2]
    obtain ⟨I1, k1, k2⟩ := r_comes (d := d) (n := n) (q := q) (J := J) (sc := 4) (c := ca c) (who := nI c) hb.2.2.2.1 rfl ((c4 5 (by decide) (by decide)).trans a6) h.1 (by decide) q3 q2
    obtain ⟨_, _, _, _, e32⟩ := mW_k h (hk.trans fb)
    rw [u_eq, c4 1 (by decide) (by decide), c4 2 (by decide) (by decide), c4 6 (by decide) (by decide), a2, a3, a8, q5, tV_fr e32] at k1
    have wst := h.wst h.1
    have hk1 : kpF wa tc I0 I1 := (hk.trans fb).trans (fun a j g => k2 a j (fun e => g (Or.inr (Or.inr (Or.inr (Or.inr (Or.inl ⟨rl, h.1, e⟩)))))))
    have n4 : ∀ j, 1 ≤ j → j < 7 → I1 4 j = I0 2 j := fun j hj hj2 => (k2 4 j (by omega)).trans (c4 j hj hj2)
    have head : ∀ r, px_ev (d + 5) 117 54 [some (.ref 0), some (.int v), some (.int (nI c)), some (.ref (ca c)), some (.int (nI t))] [.int (comS I0 tz kd rl sg c t)] I1 J (dR so dr) (dS L ds) n q r → px_ev (d + 5) 117 28 [some (.ref 0), some (.int v), some (.int (nI c)), some (.ref (ca c)), some (.int (nI t))] [] I J (dR so dr) (dS L ds) n q r := by
      intro r kk
      repeat refine e_s rfl ?_
      refine e_bf (nI_ge (b := 24) (by omega) (by decide)) ?_
      repeat refine e_s rfl ?_
      refine e_c rfl k1 (by omega) ?_
      exact kk
    unfold hbN
    by_cases hp : 0 < comS I0 tz kd rl sg c t
    · rw [decide_eq_true hp]
      refine ⟨I1, head _ ?_, hk1⟩
      refine e_s rfl ?_
      refine e_bf (Int32.not_le.mpr hp) ?_
      repeat refine e_s rfl ?_
      exact e_r rfl
    · rw [decide_eq_false hp]
      obtain ⟨I', r1, r2⟩ := w_hb h hc k (t + 1) I1 (by omega) hk1 n4
      refine ⟨I', head _ ?_, r2⟩
      refine e_s rfl ?_
      refine e_bt (Int32.not_lt.mp hp) ?_
      refine e_s rfl ?_
      refine e_s rfl ?_
      rw [nI_1]
      exact r1
theorem w_cdC (h : Inv xs L so dr ds I0 n cc tc rl sg tp ca kd nb ta ua wa tz) (hs : s < 4) (hm : m ≤ 40) (e2 : I0 (20 + 2 * s) 2 = nI m) (hf : ∀ j, j < m → I0 (21 + 2 * s) j = nI (I0 (21 + 2 * s) j).toNatClampNeg ∧ (I0 (21 + 2 * s) j).toNatClampNeg < cc) : ∀ k i H (v : Int32) (I : px_HI), i + k = m → kpF wa tc I0 I → v + 1 = nI H → H ≤ 24 → ∃ I', px_ev (d + 6) 112 39 [some (.ref 0), some (.int (nI s)), some (.ref (20 + 2 * s)), some (.int v), some (.int (nI i))] [] I J (dR so dr) (dS L ds) n q (some (.int (cdS (fun i h => decide (0 < comS I0 tz kd rl sg (I0 (21 + 2 * s) i).toNatClampNeg h)) k i H v)), I', J, dR so dr, dS L ds, n, q) ∧ kpF wa tc I0 I'
  | 0, i, H, v, I, hi, hk, hv, hH => by
    obtain ⟨s1, s2, s3, s4⟩ := sh_S (ds := ds) (L := L) (so := so) (dr := dr) hs
    have e2' : I (20 + 2 * s) 2 = nI m := (hk.lo h (by omega) (by omega) (by omega) (by omega) (by omega) (by omega) (by omega)).trans e2
    refine ⟨I, ?_, hk⟩
    repeat refine e_s rfl ?_
    refine e_gi rfl s1 rfl ?_
    rw [e2']
    refine e_s rfl ?_
    refine e_bt (nI_le (by omega) (by omega)) ?_
    repeat refine e_s rfl ?_
    exact e_r rfl
  | k + 1, i, H, v, I, hi, hk, hv, hH => by
    obtain ⟨s1, s2, s3, s4⟩ := sh_S (ds := ds) (L := L) (so := so) (dr := dr) hs
    have e2' : I (20 + 2 * s) 2 = nI m := (hk.lo h (by omega) (by omega) (by omega) (by omega) (by omega) (by omega) (by omega)).trans e2
    have e21 : I (21 + 2 * s) i = nI (I0 (21 + 2 * s) i).toNatClampNeg := (hk.lo h (by omega) (by omega) (by omega) (by omega) (by omega) (by omega) (by omega)).trans (hf i (by omega)).1
    have hc := (hf i (by omega)).2
    have hI := h.keep hk
    obtain ⟨Ia, b1, b2, b3, b4⟩ := r_bec_4_2 (d := 0) (n := n) (q := q) (L := L) (so := so) (dr := dr) (ds := ds) (I := I) (J := J)
    have fb : kpF wa tc I Ia := fun a j g => b4 a j (fun e => g (Or.inl e)) (fun e => g (Or.inr (Or.inl e)))
    obtain ⟨Ib, c1, c2⟩ := w_hb (d := 0) (q := q) (J := J) (v := v) h hc (24 - H) H Ia (by omega) (hk.trans fb) (fun j hj hj2 => (b2 j hj2).trans (hk.lo h (by omega) (by omega) (by omega) (by omega) (by omega) (by omega) (by omega)))
    have head : ∀ r, px_ev (d + 6) 112 59 [some (.ref 0), some (.int (nI s)), some (.ref (20 + 2 * s)), some (.int v), some (.int (nI i))] [.int (match hbN (fun h => decide (0 < comS I0 tz kd rl sg (I0 (21 + 2 * s) i).toNatClampNeg h)) (24 - H) H with
      | none => -1
      | some h => nI h)] Ib J (dR so dr) (dS L ds) n q r → px_ev (d + 6) 112 39 [some (.ref 0), some (.int (nI s)), some (.ref (20 + 2 * s)), some (.int v), some (.int (nI i))] [] I J (dR so dr) (dS L ds) n q r := by
      intro r kk
      repeat refine e_s rfl ?_
      refine e_gi rfl s1 rfl ?_
      rw [e2']
      refine e_s rfl ?_
      refine e_bf (nI_ge (by omega) (by omega)) ?_
      repeat refine e_s rfl ?_
      refine e_cv rfl rfl rfl s1 rfl rfl (r_shAt (d := 0) (i := i) hs e2' (by omega) (by omega)) (by omega) ?_
      rw [e21]
      refine e_c rfl (k := 117) (d' := 5) (v := some (.int (match hbN (fun h => decide (0 < comS I0 tz kd rl sg (I0 (21 + 2 * s) i).toNatClampNeg h)) (24 - H) H with
      | none => -1
      | some h => nI h))) (I1 := Ib) (J1 := J) (R1 := dR so dr) (S1 := dS L ds) (n1 := n) (q1 := q) ?_ (by omega) kk
      unfold px_mt
      repeat refine e_s rfl ?_
      refine e_c rfl (r_callerAt (d := 0) hI.2.2.1 hc) (by omega) ?_
      repeat refine e_s rfl ?_
      refine e_c rfl b1 (by omega) ?_
      refine e_s rfl ?_
      refine e_s rfl ?_
      refine e_s rfl ?_
      rw [hv]
      refine e_s rfl ?_
      exact c1
    unfold cdS
    show ∃ I', px_ev _ _ _ _ _ _ _ _ _ _ _ (some (Value.int (match hbN (fun h => decide (0 < comS I0 tz kd rl sg (I0 (21 + 2 * s) i).toNatClampNeg h)) (24 - H) H with
      | none => -1
      | some t => cdS (fun i h => decide (0 < comS I0 tz kd rl sg (I0 (21 + 2 * s) i).toNatClampNeg h)) k (i + 1) (t + 1) (nI t))), I', _, _, _, _, _) ∧ _
    cases hb : hbN (fun h => decide (0 < comS I0 tz kd rl sg (I0 (21 + 2 * s) i).toNatClampNeg h)) (24 - H) H with
    | none =>
      rw [hb] at head
      refine ⟨Ib, head _ ?_, c2⟩
      repeat refine e_s rfl ?_
      exact e_r rfl
    | some t =>
      rw [hb] at head
      have hlt := hbN_lt _ _ _ hb
      obtain ⟨I', r1, r2⟩ := w_cdC h hs hm e2 hf k (i + 1) (t + 1) (nI t) Ib (by omega) c2 (nI_1 t) (by omega)
      refine ⟨I', head _ ?_, r2⟩
      refine e_s rfl ?_
      refine e_s rfl ?_
      refine e_s rfl ?_
      refine e_s rfl ?_
      refine e_bt (fun e => ?_) ?_
      · have := nI_pos (n := t) (by omega)
        have e' : nI t = -1 := e
        rw [e'] at this
        exact this (by decide)
      refine e_s rfl ?_
      refine e_s rfl ?_
      rw [nI_1]
      exact r1
theorem w_hbM (h : Inv xs L so dr ds I0 n cc tc rl sg tp ca kd nb ta ua wa tz) (hs : s < 4) (hc : c < cc) {i : Nat} (hi : i < 40) (ei : I0 48 (40 * s + i) = nI c) : ∀ k t (I : px_HI) (J : px_HJ), t + k = 24 → kpF wa tc I0 I → ∃ I' J', kpF wa tc I0 I' ∧ ∀ r, px_ev (D + 81) 218 122 [some (.ref 31), some (.int (nI s)), some (.int (nI ((hbN (fun h => decide (0 < comS I0 tz kd rl sg c h)) k t).getD 24))), some (.int (nI i))] [] I' J' (dR so dr) (dS L ds) n q r → px_ev (D + 81) 218 90 [some (.ref 31), some (.int (nI s)), some (.int (nI t)), some (.int (nI i))] [] I J (dR so dr) (dS L ds) n q r
  | 0, t, I, J, ht, hk => by
    refine ⟨I, J, hk, fun r kk => ?_⟩
    have e : t = 24 := by omega
    subst e
    refine e_s rfl ?_
    refine e_s rfl ?_
    refine e_s rfl ?_
    exact kk
  | k + 1, t, I, J, ht, hk => by
    have hI := h.keep hk
    obtain ⟨a1, a2, a3, a4, a5, a6, a7, a8, a9, a10, a11⟩ := hI.2.1
    have c7 := h.2.2.1.1
    obtain ⟨I1, J1, k1, k2⟩ := r_says0 (D := D + 80) (n := n) (q := q) (J := J) (x := nI t) (c := c) (by omega) hI.2.2.2.1 a7 h.1 (by omega)
    obtain ⟨_, _, _, _, e32⟩ := mW_k h hk
    have e31 : ∀ j, j < 12 → I 31 j = I0 31 j := fun j hj => hk.lo h (by omega) (by omega) (by omega) (by omega) (by omega) (by omega) (by omega)
    rw [e31 8 (by decide), e31 9 (by decide), a9, (hI.2.2.1.2.2.2 c hc).2.2.2.2.2.2.1, tV_fr e32] at k1
    have ei' : I 48 (40 * s + i) = nI c := (hk.lo h (by omega) (by omega) (by omega) (by omega) (by omega) (by omega) (by omega)).trans ei
    have hk1 := hk.trans (mFr3_k k2)
    have head : ∀ r, px_ev (D + 81) 218 113 [some (.ref 31), some (.int (nI s)), some (.int (nI t)), some (.int (nI i))] [.int (comS I0 tz kd rl sg c t)] I1 J1 (dR so dr) (dS L ds) n q r → px_ev (D + 81) 218 90 [some (.ref 31), some (.int (nI s)), some (.int (nI t)), some (.int (nI i))] [] I J (dR so dr) (dS L ds) n q r := by
      intro r kk
      repeat refine e_s rfl ?_
      refine e_bf (nI_ge (b := 24) (by omega) (by decide)) ?_
      repeat refine e_s rfl ?_
      rw [show (40 : Int32) * nI s = nI (40 * s) from pk_mul 40 s, nI_add]
      refine e_ia rfl rfl rfl (show 40 * s + i < 160 by omega) (by decide) ?_
      rw [ei']
      repeat refine e_s rfl ?_
      refine e_c rfl k1 (by omega) ?_
      exact kk
    have nn : 0 ≤ comS I0 tz kd rl sg c t := clp_nn
    unfold hbN
    by_cases hp : 0 < comS I0 tz kd rl sg c t
    · rw [decide_eq_true hp]
      refine ⟨I1, J1, hk1, fun r kk => head _ ?_⟩
      refine e_s rfl ?_
      refine e_bt ((pos_ne nn).mp hp) ?_
      exact kk
    · rw [decide_eq_false hp]
      obtain ⟨I', J', r1, r2⟩ := w_hbM h hs hc hi ei k (t + 1) I1 J1 (by omega) hk1
      refine ⟨I', J', r1, fun r kk => head _ ?_⟩
      refine e_s rfl ?_
      refine e_bf (fun g => hp ((pos_ne nn).mpr g)) ?_
      refine e_s rfl ?_
      refine e_s rfl ?_
      rw [nI_1]
      exact r2 r kk
theorem w_cdM (h : Inv xs L so dr ds I0 n cc tc rl sg tp ca kd nb ta ua wa tz) (hs : s < 4) (hm : m ≤ 40) (e2 : I0 47 s = nI m) (f : Nat → Nat) (hf : ∀ j, j < m → I0 48 (40 * s + j) = nI (f j) ∧ f j < cc) : ∀ k i H (v : Int32) (I : px_HI) (J : px_HJ), i + k = m → kpF wa tc I0 I → v + 1 = nI H → H ≤ 24 → ∃ I' J', px_ev (D + 81) 218 77 [some (.ref 31), some (.int (nI s)), some (.int v), some (.int (nI i))] [] I J (dR so dr) (dS L ds) n q (some (.int (cdS (fun i h => decide (0 < comS I0 tz kd rl sg (f i) h)) k i H v)), I', J', dR so dr, dS L ds, n, q) ∧ kpF wa tc I0 I'
  | 0, i, H, v, I, J, hi, hk, hv, hH => by
    have e2' : I 47 s = nI m := (hk.lo h (by omega) (by omega) (by omega) (by omega) (by omega) (by omega) (by omega)).trans e2
    refine ⟨I, J, ?_, hk⟩
    repeat refine e_s rfl ?_
    refine e_ia rfl rfl rfl hs (by decide) ?_
    rw [e2']
    refine e_s rfl ?_
    refine e_bt (nI_le (by omega) (by omega)) ?_
    repeat refine e_s rfl ?_
    exact e_r rfl
  | k + 1, i, H, v, I, J, hi, hk, hv, hH => by
    have e2' : I 47 s = nI m := (hk.lo h (by omega) (by omega) (by omega) (by omega) (by omega) (by omega) (by omega)).trans e2
    obtain ⟨Ib, Jb, c1, c2⟩ := w_hbM (D := D) (q := q) h hs (hf i (by omega)).2 (show i < 40 by omega) (hf i (by omega)).1 (24 - H) H I J (by omega) hk
    have head : ∀ r, px_ev (D + 81) 218 122 [some (.ref 31), some (.int (nI s)), some (.int (nI ((hbN (fun h => decide (0 < comS I0 tz kd rl sg (f i) h)) (24 - H) H).getD 24))), some (.int (nI i))] [] Ib Jb (dR so dr) (dS L ds) n q r → px_ev (D + 81) 218 77 [some (.ref 31), some (.int (nI s)), some (.int v), some (.int (nI i))] [] I J (dR so dr) (dS L ds) n q r := by
      intro r kk
      repeat refine e_s rfl ?_
      refine e_ia rfl rfl rfl hs (by decide) ?_
      rw [e2']
      refine e_s rfl ?_
      refine e_bf (nI_ge (by omega) (by omega)) ?_
      refine e_s rfl ?_
      rw [hv]
      exact c2 r kk
    unfold cdS
    show ∃ I' J', px_ev _ _ _ _ _ _ _ _ _ _ _ (some (Value.int (match hbN (fun h => decide (0 < comS I0 tz kd rl sg (f i) h)) (24 - H) H with
      | none => -1
      | some t => cdS (fun i h => decide (0 < comS I0 tz kd rl sg (f i) h)) k (i + 1) (t + 1) (nI t))), I', J', _, _, _, _) ∧ _
    cases hb : hbN (fun h => decide (0 < comS I0 tz kd rl sg (f i) h)) (24 - H) H with
    | none =>
      rw [hb] at head
      refine ⟨Ib, Jb, head _ ?_, c1⟩
      repeat refine e_s rfl ?_
      exact e_r rfl
    | some t =>
      rw [hb] at head
      have hlt := hbN_lt _ _ _ hb
      obtain ⟨I', J', r1, r2⟩ := w_cdM h hs hm e2 f hf k (i + 1) (t + 1) (nI t) Ib Jb (by omega) c1 (nI_1 t) (by omega)
      refine ⟨I', J', head _ ?_, r2⟩
      refine e_s rfl ?_
      refine e_s rfl ?_
      refine e_s rfl ?_
      refine e_bt (nI_lt (a := t) (b := 24) (by omega) (by decide)) ?_
      refine e_s rfl ?_
      refine e_s rfl ?_
      rw [nI_1]
      exact r1
theorem o_cards (h : Inv xs L so dr ds I n cc tc rl sg tp ca kd nb ta ua wa tz) : ∃ I1 J1 I2 J2 v, px_mt (D + 81) 112 [.ref 0, .int x] I J (dR so dr) (dS L ds) n q (some (.int v), I1, J1, dR so dr, dS L ds, n, q) ∧ px_mt (D + 81) 218 [.ref 31, .int x] I1 J1 (dR so dr) (dS L ds) n q (some (.int v), I2, J2, dR so dr, dS L ds, n, q) ∧ Inv xs L so dr ds I2 n cc tc rl sg tp ca kd nb ta ua wa tz := by
  have c7 := h.2.2.1.1
  rcases ix_or (x := x) (k := 4) (by decide) with g | ⟨s, hs, rfl⟩
  · refine ⟨I, J, I, J, -2, ?_, ?_, h⟩
    · unfold px_mt
      repeat refine e_s rfl ?_
      refine e_c rfl (r_sheetNo (d := 0) g) (by omega) ?_
      repeat refine e_s rfl ?_
      exact e_r rfl
    · unfold px_mt
      repeat refine e_s rfl ?_
      refine e_c rfl (r_isSheet (d := 0)) (by omega) ?_
      rw [out_k g]
      repeat refine e_s rfl ?_
      exact e_r rfl
  obtain ⟨s1, s2, s3, s4⟩ := sh_S (ds := ds) (L := L) (so := so) (dr := dr) hs
  rcases h.2.2.2.2.2.2.1 s hs with ⟨q1, q2, q3⟩ | ⟨u, m, q1, q2, q3, q4, q5, q6, q7, q8⟩
  · refine ⟨I, J, I, J, -11, ?_, ?_, h⟩
    · unfold px_mt
      repeat refine e_s rfl ?_
      refine e_c rfl (r_sheetAt (d := 0) hs) (by omega) ?_
      repeat refine e_s rfl ?_
      refine e_cv rfl rfl rfl s1 rfl rfl (r_miss (d := 0) hs) (by omega) ?_
      rw [decide_eq_true q2]
      repeat refine e_s rfl ?_
      exact e_r rfl
    · unfold px_mt
      repeat refine e_s rfl ?_
      refine e_c rfl (r_isSheet (d := 0)) (by omega) ?_
      rw [in_k hs (by decide)]
      repeat refine e_s rfl ?_
      refine e_za rfl rfl rfl hs (by decide) ?_
      rw [q1]
      repeat refine e_s rfl ?_
      exact e_r rfl
  have hne : ¬ I (20 + 2 * s) 1 = -1 := by
    rw [q4]
    match u, q1 with
    | 0, _ => decide
    | 1, _ => decide
    | 2, _ => decide
  have eone : oneS (fun j => I 48 (40 * s + j)) cc m 0 = oneS (I (21 + 2 * s)) cc m 0 := oneS_c m 0 (fun j hj => (q8 j (by omega)).symm)
  have headC : ∀ r, px_ev (D + 81) 112 28 [some (.ref 0), some (.int (nI s)), some (.ref (20 + 2 * s)), none, none] [.int (bI (oneS (I (21 + 2 * s)) cc m 0 && decide (0 < m)))] I J (dR so dr) (dS L ds) n q r → px_mt (D + 81) 112 [.ref 0, .int (nI s)] I J (dR so dr) (dS L ds) n q r := by
    intro r kk
    unfold px_mt
    repeat refine e_s rfl ?_
    refine e_c rfl (r_sheetAt (d := 0) hs) (by omega) ?_
    repeat refine e_s rfl ?_
    refine e_cv rfl rfl rfl s1 rfl rfl (r_miss (d := 0) hs) (by omega) ?_
    rw [decide_eq_false hne]
    repeat refine e_s rfl ?_
    refine e_c rfl (k := 115) (d' := 3) (v := some (.int (bI (oneS (I (21 + 2 * s)) cc m 0 && decide (0 < m))))) (I1 := I) (J1 := J) (R1 := dR so dr) (S1 := dS L ds) (n1 := n) (q1 := q) ?_ (by omega) kk
    unfold px_mt
    refine e_s rfl ?_
    refine e_s rfl ?_
    exact w_tcC h hs q2 q6 m 0 (by omega)
  have headM : ∀ I1 J1 r, I1 45 s = 1 → I1 47 s = nI m → (m = 0 → r = (some (.int (-2)), I1, J1, dR so dr, dS L ds, n, q)) → (¬ m = 0 → px_ev (D + 81) 218 36 [some (.ref 31), some (.int (nI s)), some (.int (nI 0)), none] [] I1 J1 (dR so dr) (dS L ds) n q r) → px_mt (D + 81) 218 [.ref 31, .int (nI s)] I1 J1 (dR so dr) (dS L ds) n q r := by
    intro I1 J1 r e45 e47 k0 k1
    unfold px_mt
    repeat refine e_s rfl ?_
    refine e_c rfl (r_isSheet (d := 0)) (by omega) ?_
    rw [in_k hs (by decide)]
    repeat refine e_s rfl ?_
    refine e_za rfl rfl rfl hs (by decide) ?_
    rw [e45]
    repeat refine e_s rfl ?_
    refine e_ia rfl rfl rfl hs (by decide) ?_
    rw [e47]
    by_cases m0 : m = 0
    · rw [k0 m0, m0]
      repeat refine e_s rfl ?_
      exact e_r rfl
    · refine e_s rfl ?_
      refine e_bt (nI_ne0 (by omega) (by omega)) ?_
      refine e_s rfl ?_
      refine e_s rfl ?_
      exact k1 m0
  by_cases hok : oneS (I (21 + 2 * s)) cc m 0 = true ∧ 0 < m
  · obtain ⟨ho, h0⟩ := hok
    have hf := oneS_t c7 m 0 ho
    obtain ⟨I1, c1, c2⟩ := w_cdC (d := D + 75) (q := q) (J := J) h hs q2 q6 (fun j hj => hf j (by omega) (by omega)) m 0 0 (-1) I (by omega) kpF.refl rfl (by omega)
    have h' := h.keep c2
    have lo : ∀ a j, 30 < a → a < 49 → a ≠ 31 → a ≠ 41 → I1 a j = I a j := fun a j g1 g2 g3 g4 => c2.lo h (by omega) (by omega) (by omega) (by omega) (by omega) (by omega) (by omega)
    have e31 : ∀ j, j < 12 → I1 31 j = I 31 j := fun j hj => c2.lo h (by omega) (by omega) (by omega) (by omega) (by omega) (by omega) (by omega)
    have e47 := (lo 47 s (by omega) (by omega) (by omega) (by omega)).trans q7
    have e45 := (lo 45 s (by omega) (by omega) (by omega) (by omega)).trans q3
    obtain ⟨I2, J2, m1, m2⟩ := w_cdM (D := D) (q := q) h' hs q2 e47 (fun j => (I (21 + 2 * s) j).toNatClampNeg) (fun j hj => ⟨by rw [lo 48 _ (by omega) (by omega) (by omega) (by omega), ← q8 j hj]; exact (hf j (by omega) (by omega)).1, (hf j (by omega) (by omega)).2⟩) m 0 0 (-1) I1 J (by omega) kpF.refl rfl (by omega)
    have ec : ∀ c t, comS I1 tz kd rl sg c t = comS I tz kd rl sg c t := fun c t => by
      unfold comS
      rw [e31 8 (by decide), e31 9 (by decide), tV_fr (fun j => lo 32 j (by omega) (by omega) (by omega) (by omega))]
    simp only [ec] at m1
    refine ⟨I1, J, I2, J2, cdS (fun i h => decide (0 < comS I tz kd rl sg (I (21 + 2 * s) i).toNatClampNeg h)) m 0 0 (-1), headC _ ?_, headM I1 J _ e45 e47 (fun e => by omega) (fun _ => ?_), h'.keep m2⟩
    · rw [ho, decide_eq_true h0]
      refine e_s rfl ?_
      refine e_s rfl ?_
      refine e_s rfl ?_
      refine e_s rfl ?_
      refine e_s rfl ?_
      exact c1
    · refine w_tcM (d := D + 78) (h'.2.2.1.2.2.1) c7 hs q2 e47 m 0 (by omega) (fun _ => ?_) (fun e => ?_)
      · refine e_s rfl ?_
        refine e_s rfl ?_
        refine e_s rfl ?_
        refine e_s rfl ?_
        exact m1
      · rw [show (fun j => I1 48 (40 * s + j)) = fun j => I 48 (40 * s + j) from funext (fun j => lo 48 _ (by omega) (by omega) (by omega) (by omega)), eone, ho] at e
        cases e
  · have hb : (oneS (I (21 + 2 * s)) cc m 0 && decide (0 < m)) = false := by
      cases ho : oneS (I (21 + 2 * s)) cc m 0 with
      | false => rfl
      | true =>
        rw [decide_eq_false (fun g => hok ⟨ho, g⟩)]
        rfl
    refine ⟨I, J, I, J, -2, headC _ ?_, headM I J _ q3 q7 (fun _ => rfl) (fun m0 => ?_), h⟩
    · rw [hb]
      repeat refine e_s rfl ?_
      exact e_r rfl
    · refine w_tcM (d := D + 78) (h.2.2.1.2.2.1) c7 hs q2 q7 m 0 (by omega) (fun e => ?_) (fun _ => rfl)
      rw [eone] at e
      exact absurd ⟨e, by omega⟩ hok
end PXCD
