/-! peep by one sign more: on both sides -/
section PXLI
variable {d D n q L cc tc rl sg tp c k s m : Nat} {so : Option Nat} {dr R : px_HR} {ds S : px_HS} {I I' I0 : px_HI} {J : px_HJ} {xs : Nat → Int32} {ca kd nb ta ua wa tz : Nat → Nat} {x y z v w one : Int32} {W : Nat → Int64} {N : Nat → Nat} {X : Nat → Int32} {r : Option Value × px_G} {sn : Nat → Nat → Nat}
def sgS (N : Nat → Nat) (X : Nat → Int32) (sn : Nat → Nat → Nat) (cc g : Nat) : Int := szS (fun t => (N t * sn g t : Nat) * (X t).toInt) cc 0 0
def bgS (N : Nat → Nat) (sn : Nat → Nat → Nat) (cc g : Nat) : Nat := smN (fun t => N t * sn g t) cc 0
theorem w_lsI (hC : cIv I (dR so dr) (dS L ds) cc ca kd nb) (h6 : I 2 6 = nI sg) (hs6 : sg ≤ 6) (hW : ∀ t, t < cc → J 17 t = lN (N t)) (hX : ∀ t, t < cc → I 18 t = X t) {g : Nat} (hsn : ∀ t, t < cc → snd (kd t) (nI (nb t)) (nI g) (nI sg) = nI (sn g t) ∧ sn g t ≤ 15) {G A : Int64} : ∀ k i (a : Int) (b : Nat) (x12 x13 : Option Value), i + k = cc → (∀ x12 x13, px_ev (d + 5) 105 103 [some (.ref 0), some (.int y), some (.long G), none, some (.long A), none, some (.long (lN (b + smN (fun t => N t * sn g t) k i))), none, some (.int (nI g)), some (.long (lz (szS (fun t => (N t * sn g t : Nat) * (X t).toInt) k i a))), none, some (.int (nI cc)), x12, x13, none] [] I J (dR so dr) (dS L ds) n q r) → px_ev (d + 5) 105 23 [some (.ref 0), some (.int y), some (.long G), none, some (.long A), none, some (.long (lN b)), none, some (.int (nI g)), some (.long (lz a)), none, some (.int (nI i)), x12, x13, none] [] I J (dR so dr) (dS L ds) n q r
  | 0, i, a, b, x12, x13, hi, kk => by
    have h7 := hC.1
    have e : i = cc := by omega
    subst e
    refine e_s rfl ?_
    refine e_s rfl ?_
    refine e_s rfl ?_
    rw [hC.2.1]
    refine e_s rfl ?_
    refine e_bt (nI_le (by omega) (by omega)) ?_
    exact kk x12 x13
  | k + 1, i, a, b, x12, x13, hi, kk => by
    have h7 := hC.1
    obtain ⟨g1, g2, g3, g4, g5, g6, g7, g8⟩ := hC.2.2.2 i (by omega)
    obtain ⟨hn1, hn2⟩ := hsn i (by omega)
    have hnn := snd_nn (kd := kd i) (nb := nb i) (i := sg) (g := nI g) g4 hs6
    rw [← g6] at hnn hn1
    refine e_s rfl ?_
    refine e_s rfl ?_
    refine e_s rfl ?_
    rw [hC.2.1]
    refine e_s rfl ?_
    refine e_bf (nI_ge (by omega) (by omega)) ?_
    repeat refine e_s rfl ?_
    refine e_c rfl (r_callerAt (d := d) hC (show i < cc by omega)) (by omega) ?_
    repeat refine e_s rfl ?_
    refine e_la rfl rfl rfl (show i < 7 by omega) (by decide) ?_
    rw [hW i (by omega)]
    repeat refine e_s rfl ?_
    rw [h6]
    refine e_c rfl (r_snd (d := d) g3 g2 hnn) (by omega) ?_
    rw [hn1]
    refine e_s rfl ?_
    refine e_s rfl ?_
    rw [nI_l (show sn g i < 2 ^ 31 by omega), lN_mul]
    repeat refine e_s rfl ?_
    refine e_ia rfl rfl rfl (show i < 7 by omega) (by decide) ?_
    rw [hX i (by omega)]
    refine e_s rfl ?_
    refine e_s rfl ?_
    rw [lz_X, show lN (N i * sn g i) * lz (X i).toInt = lz ((N i * sn g i : Nat) * (X i).toInt) from by rw [lz_N, lz_mul]]
    refine e_s rfl ?_
    rw [lz_add]
    refine e_s rfl ?_
    refine e_s rfl ?_
    refine e_s rfl ?_
    refine e_s rfl ?_
    rw [lN_add]
    refine e_s rfl ?_
    refine e_s rfl ?_
    refine e_s rfl ?_
    rw [nI_1]
    refine w_lsI hC h6 hs6 hW hX hsn k (i + 1) _ _ _ _ (by omega) (fun x12 x13 => ?_)
    rw [show b + N i * sn g i + smN (fun t => N t * sn g t) k (i + 1) = b + smN (fun t => N t * sn g t) (k + 1) i from Nat.add_assoc _ _ _]
    exact kk x12 x13
theorem sgS_b (h7 : cc ≤ 7) (hB : ∀ t, t < cc → N t ≤ 11379234375) (hZ : ∀ t, t < cc → -99 ≤ (X t).toInt ∧ (X t).toInt ≤ 99) {g : Nat} (hsn : ∀ t, t < cc → sn g t ≤ 15) : -118287141328125 ≤ sgS N X sn cc g ∧ sgS N X sn cc g ≤ 118287141328125 := by
  have h := szS_b (f := fun t => (N t * sn g t : Nat) * (X t).toInt) (B := 16898163046875) (by omega) cc 0 0 (fun t ht => by
    have h1 : N t * sn g t ≤ 170688515625 := by
      have := Nat.mul_le_mul (hB t (by omega)) (hsn t (by omega))
      omega
    have := mul_b h1 (hZ t (by omega)).1 (hZ t (by omega)).2
    show -16898163046875 ≤ ((N t * sn g t : Nat) : Int) * (X t).toInt ∧ ((N t * sn g t : Nat) : Int) * (X t).toInt ≤ 16898163046875
    omega)
  have h2 : (cc : Int) * 16898163046875 ≤ 7 * 16898163046875 := by omega
  unfold sgS
  omega
theorem w_lsO (hC : cIv I (dR so dr) (dS L ds) cc ca kd nb) (h6 : I 2 6 = nI sg) (hs6 : sg ≤ 6) (hW : ∀ t, t < cc → J 17 t = lN (N t)) (hX : ∀ t, t < cc → I 18 t = X t) (hB : ∀ t, t < cc → N t ≤ 11379234375) (hZ : ∀ t, t < cc → -99 ≤ (X t).toInt ∧ (X t).toInt ≤ 99) (hsn : ∀ g, g < 4 → ∀ t, t < cc → snd (kd t) (nI (nb t)) (nI g) (nI sg) = nI (sn g t) ∧ sn g t ≤ 15) : ∀ k g (G A : Int) (b : Nat) (x9 x11 x12 x13 : Option Value), g + k = 4 → (∀ x9 x11 x12 x13, px_ev (d + 5) 105 125 [some (.ref 0), some (.int y), some (.long (lz (szS (fun g => mx0 (sgS N X sn cc g)) k g G))), none, some (.long (lz (szS (sgS N X sn cc) k g A))), none, some (.long (lN (b + smN (bgS N sn cc) k g))), none, some (.int (nI 4)), x9, none, x11, x12, x13, none] [] I J (dR so dr) (dS L ds) n q r) → px_ev (d + 5) 105 11 [some (.ref 0), some (.int y), some (.long (lz G)), none, some (.long (lz A)), none, some (.long (lN b)), none, some (.int (nI g)), x9, none, x11, x12, x13, none] [] I J (dR so dr) (dS L ds) n q r
  | 0, g, G, A, b, x9, x11, x12, x13, hg, kk => by
    have e : g = 4 := by omega
    subst e
    refine e_s rfl ?_
    refine e_s rfl ?_
    refine e_s rfl ?_
    exact kk x9 x11 x12 x13
  | k + 1, g, G, A, b, x9, x11, x12, x13, hg, kk => by
    have hsb := sgS_b hC.1 hB hZ (fun t ht => (hsn g (by omega) t ht).2)
    refine e_s rfl ?_
    refine e_s rfl ?_
    refine e_s rfl ?_
    refine e_bf (nI_ge (b := 4) (by omega) (by decide)) ?_
    refine e_s rfl ?_
    refine e_s rfl ?_
    refine e_s rfl ?_
    refine e_s rfl ?_
    refine w_lsI (d := d) hC h6 hs6 hW hX (hsn g (by omega)) cc 0 0 b x12 x13 (by omega) (fun x12 x13 => ?_)
    refine e_s rfl ?_
    refine e_s rfl ?_
    refine e_s rfl ?_
    refine e_s rfl ?_
    rw [show (if lz (szS (fun t => (N t * sn g t : Nat) * (X t).toInt) cc 0 0) < 0 then (0 : Int64) else lz (szS (fun t => (N t * sn g t : Nat) * (X t).toInt) cc 0 0)) = lz (mx0 (sgS N X sn cc g)) from lz_mx (a := sgS N X sn cc g) (by omega) (by omega)]
    refine e_s rfl ?_
    rw [lz_add]
    refine e_s rfl ?_
    refine e_s rfl ?_
    refine e_s rfl ?_
    refine e_s rfl ?_
    rw [lz_add]
    refine e_s rfl ?_
    refine e_s rfl ?_
    refine e_s rfl ?_
    rw [nI_1]
    refine w_lsO hC h6 hs6 hW hX hB hZ hsn k (g + 1) _ _ _ _ _ _ _ (by omega) (fun x9 x11 x12 x13 => ?_)
    rw [show b + smN (fun t => N t * sn g t) cc 0 + smN (bgS N sn cc) k (g + 1) = b + smN (bgS N sn cc) (k + 1) g from Nat.add_assoc _ _ _]
    exact kk x9 x11 x12 x13
theorem w_psI (hC : cIv I (dR so dr) (dS L ds) cc ca kd nb) (h6 : I 31 16 = nI sg) (hW : ∀ t, t < cc → J 38 t = lN (N t)) (hX : ∀ t, t < cc → J 39 t = (X t).toInt64) {g : Nat} (hsn : ∀ t, t < cc → snd (kd t) (nI (nb t)) (nI g) (nI sg) = nI (sn g t) ∧ sn g t ≤ 15) {G A : Int64} : ∀ k i (a : Int) (b : Nat) (x13 : Option Value), i + k = cc → (∀ x13, px_ev (d + 2) 213 174 [some (.ref 31), some (.int 1), some (.int y), some (.long G), none, some (.long A), none, some (.long (lN (b + smN (fun t => N t * sn g t) k i))), none, some (.int (nI g)), some (.long (lz (szS (fun t => (N t * sn g t : Nat) * (X t).toInt) k i a))), none, some (.int (nI cc)), x13, none] [] I J (dR so dr) (dS L ds) n q r) → px_ev (d + 2) 213 73 [some (.ref 31), some (.int 1), some (.int y), some (.long G), none, some (.long A), none, some (.long (lN b)), none, some (.int (nI g)), some (.long (lz a)), none, some (.int (nI i)), x13, none] [] I J (dR so dr) (dS L ds) n q r
  | 0, i, a, b, x13, hi, kk => by
    have h7 := hC.1
    have e : i = cc := by omega
    subst e
    refine e_s rfl ?_
    refine e_s rfl ?_
    refine e_s rfl ?_
    rw [hC.2.2.1]
    refine e_s rfl ?_
    refine e_bt (nI_le (by omega) (by omega)) ?_
    exact kk x13
  | k + 1, i, a, b, x13, hi, kk => by
    have h7 := hC.1
    obtain ⟨g1, g2, g3, g4, g5, g6, g7, g8⟩ := hC.2.2.2 i (by omega)
    obtain ⟨hn1, hn2⟩ := hsn i (by omega)
    have hw := r_sndM (D := d) (n := n) (q := q) (so := so) (dr := dr) (L := L) (ds := ds) (J := J) (g := nI g) (i := nI sg) g3 (show i < 7 by omega) g7
    rw [g8, hn1] at hw
    refine e_s rfl ?_
    refine e_s rfl ?_
    refine e_s rfl ?_
    rw [hC.2.2.1]
    refine e_s rfl ?_
    refine e_bf (nI_ge (by omega) (by omega)) ?_
    repeat refine e_s rfl ?_
    refine e_la rfl rfl rfl (show i < 7 by omega) (by decide) ?_
    rw [hW i (by omega)]
    repeat refine e_s rfl ?_
    rw [h6]
    refine e_c rfl hw (by omega) ?_
    refine e_s rfl ?_
    refine e_s rfl ?_
    rw [nI_l (show sn g i < 2 ^ 31 by omega), lN_mul]
    refine e_s rfl ?_
    refine e_s rfl ?_
    refine e_s rfl ?_
    refine e_s rfl ?_
    rw [lN_add]
    repeat refine e_s rfl ?_
    refine e_la rfl rfl rfl (show i < 7 by omega) (by decide) ?_
    rw [hX i (by omega)]
    refine e_s rfl ?_
    rw [lz_X, show lN (N i * sn g i) * lz (X i).toInt = lz ((N i * sn g i : Nat) * (X i).toInt) from by rw [lz_N, lz_mul]]
    refine e_s rfl ?_
    rw [lz_add]
    refine e_s rfl ?_
    refine e_s rfl ?_
    refine e_s rfl ?_
    refine e_s rfl ?_
    refine e_s rfl ?_
    refine e_s rfl ?_
    rw [Int64.add_zero]
    refine e_s rfl ?_
    refine e_s rfl ?_
    refine e_s rfl ?_
    rw [nI_1]
    refine w_psI hC h6 hW hX hsn k (i + 1) _ _ _ (by omega) (fun x13 => ?_)
    rw [show b + N i * sn g i + smN (fun t => N t * sn g t) k (i + 1) = b + smN (fun t => N t * sn g t) (k + 1) i from Nat.add_assoc _ _ _]
    exact kk x13
theorem w_psO (hC : cIv I (dR so dr) (dS L ds) cc ca kd nb) (h6 : I 31 16 = nI sg) (hW : ∀ t, t < cc → J 38 t = lN (N t)) (hX : ∀ t, t < cc → J 39 t = (X t).toInt64) (hB : ∀ t, t < cc → N t ≤ 11379234375) (hZ : ∀ t, t < cc → -99 ≤ (X t).toInt ∧ (X t).toInt ≤ 99) (hsn : ∀ g, g < 4 → ∀ t, t < cc → snd (kd t) (nI (nb t)) (nI g) (nI sg) = nI (sn g t) ∧ sn g t ≤ 15) : ∀ k g (G A : Int) (b : Nat) (x10 x12 x13 : Option Value), g + k = 4 → (∀ x10 x12 x13, px_ev (d + 2) 213 208 [some (.ref 31), some (.int 1), some (.int y), some (.long (lz (szS (fun g => mx0 (sgS N X sn cc g)) k g G))), none, some (.long (lz (szS (sgS N X sn cc) k g A))), none, some (.long (lN (b + smN (bgS N sn cc) k g))), none, some (.int (nI 4)), x10, none, x12, x13, none] [] I J (dR so dr) (dS L ds) n q r) → px_ev (d + 2) 213 53 [some (.ref 31), some (.int 1), some (.int y), some (.long (lz G)), none, some (.long (lz A)), none, some (.long (lN b)), none, some (.int (nI g)), x10, none, x12, x13, none] [] I J (dR so dr) (dS L ds) n q r
  | 0, g, G, A, b, x10, x12, x13, hg, kk => by
    have e : g = 4 := by omega
    subst e
    refine e_s rfl ?_
    refine e_s rfl ?_
    refine e_s rfl ?_
    refine e_s rfl ?_
    refine e_s rfl ?_
    exact kk x10 x12 x13
  | k + 1, g, G, A, b, x10, x12, x13, hg, kk => by
    have hsb := sgS_b hC.1 hB hZ (fun t ht => (hsn g (by omega) t ht).2)
    refine e_s rfl ?_
    refine e_s rfl ?_
    refine e_s rfl ?_
    refine e_s rfl ?_
    refine e_s rfl ?_
    refine e_bf (nI_ge (b := 4) (by omega) (by decide)) ?_
    refine e_s rfl ?_
    refine e_s rfl ?_
    refine e_s rfl ?_
    refine e_s rfl ?_
    refine w_psI (d := d) hC h6 hW hX (hsn g (by omega)) cc 0 0 b x13 (by omega) (fun x13 => ?_)
    refine e_s rfl ?_
    refine e_s rfl ?_
    refine e_s rfl ?_
    rw [lz_add]
    refine e_s rfl ?_
    refine e_s rfl ?_
    refine e_s rfl ?_
    refine e_s rfl ?_
    refine e_s rfl ?_
    refine e_s rfl ?_
    refine e_s rfl ?_
    refine e_s rfl ?_
    refine e_s rfl ?_
    have hlt : (lz 0 < lz (sgS N X sn cc g)) ↔ 0 < sgS N X sn cc g := lz_lt (by omega) (by omega) (by omega) (by omega)
    have fin : ∀ x10 x12 x13, px_ev (d + 2) 213 53 [some (.ref 31), some (.int 1), some (.int y), some (.long (lz (G + mx0 (sgS N X sn cc g)))), none, some (.long (lz (A + sgS N X sn cc g))), none, some (.long (lN (b + smN (fun t => N t * sn g t) cc 0))), none, some (.int (nI (g + 1))), x10, none, x12, x13, none] [] I J (dR so dr) (dS L ds) n q r := fun x10 x12 x13 => by
      refine w_psO hC h6 hW hX hB hZ hsn k (g + 1) _ _ _ _ _ _ (by omega) (fun x10 x12 x13 => ?_)
      rw [show b + smN (fun t => N t * sn g t) cc 0 + smN (bgS N sn cc) k (g + 1) = b + smN (bgS N sn cc) (k + 1) g from Nat.add_assoc _ _ _]
      exact kk x10 x12 x13
    by_cases hp : 0 < sgS N X sn cc g
    · have em : mx0 (sgS N X sn cc g) = sgS N X sn cc g := by
        unfold mx0
        rw [if_neg (by omega)]
      rw [em] at fin
      refine e_bf (fun g => lg_le_not_lt ((lg_cmp_le _ _).mp g) (hlt.mpr hp)) ?_
      refine e_s rfl ?_
      refine e_s rfl ?_
      refine e_s rfl ?_
      rw [lz_add]
      refine e_s rfl ?_
      refine e_s rfl ?_
      refine e_s rfl ?_
      rw [nI_1]
      exact fin _ _ _
    · have em : mx0 (sgS N X sn cc g) = 0 := by
        unfold mx0
        by_cases g' : sgS N X sn cc g < 0
        · rw [if_pos g']
        · rw [if_neg g']
          omega
      rw [em, Int.add_zero] at fin
      refine e_bt ((lg_cmp_le _ _).mpr (Int64.not_lt.mp (fun g => hp (hlt.mp g)))) ?_
      refine e_s rfl ?_
      refine e_s rfl ?_
      rw [Int64.add_zero]
      refine e_s rfl ?_
      refine e_s rfl ?_
      refine e_s rfl ?_
      rw [nI_1]
      exact fin _ _ _
end PXLI
