/-! drawn and often, on both sides -/
def w0S (I : px_HI) (tz kd nb : Nat → Nat) (rl : Nat) : Nat → Int64 := gW I tz kd nb (I 31 7) (I 31 8) (I 31 9) (I 31 10) (I 31 11) rl 0 (I 37)
def x0S (I : px_HI) (tz kd : Nat → Nat) (rl : Nat) : Nat → Int32 := gX I tz kd (I 31 7) (I 31 8) (I 31 9) rl 0
def n0S (I : px_HI) (tz kd nb : Nat → Nat) (rl t : Nat) : Nat := (w0S I tz kd nb rl t).toInt.toNat
section PXDN
variable {d D n q L cc tc rl sg tp c k s m : Nat} {so : Option Nat} {dr R : px_HR} {ds S : px_HS} {I I' I0 : px_HI} {J : px_HJ} {xs : Nat → Int32} {ca kd nb ta ua wa tz : Nat → Nat} {x y z v w one : Int32} {W : Nat → Int64} {N : Nat → Nat} {X : Nat → Int32}
theorem n0_ok (h : Inv xs L so dr ds I n cc tc rl sg tp ca kd nb ta ua wa tz) {t : Nat} (ht : t < cc) : w0S I tz kd nb rl t = lN (n0S I tz kd nb rl t) ∧ n0S I tz kd nb rl t ≤ 11379234375 := by
  obtain ⟨u, hu, e⟩ := gW_n (I := I) (tz := tz) (kd := kd) (nb := nb) (h := I 31 7) (d := I 31 8) (hm := I 31 9) (dg := I 31 10) (nt := I 31 11) (rl := rl) (sg := 0) (i := t) (f := I 37) (h.2.2.1.2.2.2 t ht).2.2.2.1 (by omega)
  have e1 : w0S I tz kd nb rl t = lN u := e
  unfold n0S
  rw [e1, lN_t (by omega), Int.toNat_natCast]
  exact ⟨rfl, hu⟩
theorem n0_k (h : Inv xs L so dr ds I n cc tc rl sg tp ca kd nb ta ua wa tz) (f : kpF wa tc I I') : n0S I' tz kd nb rl = n0S I tz kd nb rl ∧ x0S I' tz kd rl = x0S I tz kd rl := by
  have e : ∀ j, j < 12 → I' 31 j = I 31 j := fun j hj => f.lo h (by omega) (by omega) (by omega) (by omega) (by omega) (by omega) (by omega)
  have e32 : ∀ j, I' 32 j = I 32 j := fun j => f.lo h (by omega) (by omega) (by omega) (by omega) (by omega) (by omega) (by omega)
  have ew : w0S I' tz kd nb rl = w0S I tz kd nb rl := by
    unfold w0S
    rw [e 7 (by omega), e 8 (by omega), e 9 (by omega), e 10 (by omega), e 11 (by omega)]
    exact gW_c e32 (fun j hj => by omega)
  constructor
  · funext t
    unfold n0S
    rw [ew]
  · unfold x0S
    rw [e 7 (by omega), e 8 (by omega), e 9 (by omega)]
    exact gX_c e32
theorem w_dm (h7 : cc ≤ 7) (hW : ∀ t, t < cc → J 38 t = lN (N t)) (hB : ∀ t, t < cc → N t ≤ 11379234375) {m M i0 : Nat} (hm : m < 2 ^ 24) : ∀ k i a, i + k = cc → a ≤ m → m < a + smN N k i → ∃ c l', c < cc ∧ dwF N k i a m = some c ∧ ∀ r, px_ev (d + 1) 227 111 [some (.ref 31), some (.int x), some (.int (nI M)), some (.int one), some (.int y), some (.int z), some (.int (nI i0)), some (.long l'), none, some (.int (nI c))] [] I J (dR so dr) (dS L ds) n q r → px_ev (d + 1) 227 80 [some (.ref 31), some (.int x), some (.int (nI M)), some (.int one), some (.int y), some (.int z), some (.int (nI i0)), some (.long (lN (m - a))), none, some (.int (nI i))] [] I J (dR so dr) (dS L ds) n q r
  | 0, i, a, hi, ha, hl => absurd hl (by show ¬ m < a + 0; omega)
  | k + 1, i, a, hi, ha, hl => by
    have hN := hB i (by omega)
    have hl' : m < a + (N i + smN N k (i + 1)) := hl
    by_cases h : m < a + N i
    · refine ⟨i, lN (m - a), by omega, if_pos h, fun r kk => ?_⟩
      repeat refine e_s rfl ?_
      refine e_la rfl rfl rfl (show i < 7 by omega) (by decide) ?_
      rw [hW i (by omega)]
      refine e_s rfl ?_
      refine e_s rfl ?_
      refine e_bt ((lg_cmp_lt _ _).mpr ((pk_lLT (by omega) (by omega)).mpr (by omega))) ?_
      exact kk
    · obtain ⟨c, l', h1, h2, h3⟩ := w_dm h7 hW hB hm k (i + 1) (a + N i) (by omega) (by omega) (by omega)
      refine ⟨c, l', h1, (if_neg h).trans h2, fun r kk => ?_⟩
      repeat refine e_s rfl ?_
      refine e_la rfl rfl rfl (show i < 7 by omega) (by decide) ?_
      rw [hW i (by omega)]
      refine e_s rfl ?_
      refine e_s rfl ?_
      refine e_bf (fun g => ?_) ?_
      · have := (pk_lLT (by omega) (by omega)).mp ((lg_cmp_lt _ _).mp g)
        omega
      repeat refine e_s rfl ?_
      refine e_la rfl rfl rfl (show i < 7 by omega) (by decide) ?_
      rw [hW i (by omega)]
      refine e_s rfl ?_
      rw [lN_sub (by omega), show m - a - N i = m - (a + N i) by omega]
      refine e_s rfl ?_
      refine e_s rfl ?_
      refine e_s rfl ?_
      rw [nI_1]
      exact h3 r kk
theorem w_drM (h7 : cc ≤ 7) (hB : ∀ t, t < cc → N t ≤ 11379234375) {M : Nat} (hM : M ≤ 30) : ∀ k i (z : Int32) (a : Int64) t (I : px_HI) (J : px_HJ) (x7 x8 x9 : Option Value), i + k = M → t ≤ i → (∀ t, t < cc → J 38 t = lN (N t)) → (∀ t, t < cc → J 39 t = (X t).toInt64) → J 31 34 = lN (smN N cc 0) → J 31 38 = a → I 31 39 = nI t → ∃ I' J', px_ev (d + 1) 227 37 [some (.ref 31), some (.int x), some (.int (nI M)), some (.int one), some (.int y), some (.int z), some (.int (nI i)), x7, x8, x9] [] I J (dR so dr) (dS L ds) n q (none, I', J', dR so dr, dS L ds, n, q) ∧ J' 31 38 = drS (pkD N cc) (fun t => (X t).toInt64) k z a ∧ I' 31 39 = nI (ofS (pkD N cc) one k z t) ∧ ∀ a j, ¬ (a = 31 ∧ j = 39) → I' a j = I a j
  | 0, i, z, a, t, I, J, x7, x8, x9, hi, hti, hW, hX, hA, ea, et => by
    refine ⟨I, J, ?_, ea, et, fun _ _ _ => rfl⟩
    repeat refine e_s rfl ?_
    refine e_bt (nI_le (by omega) (by omega)) ?_
    exact e_r rfl
  | k + 1, i, z, a, t, I, J, x7, x8, x9, hi, hti, hW, hX, hA, ea, et => by
    have hA2 : smN N cc 0 < 2 ^ 63 := by
      have h1 := smN_le cc 0 (fun t ht => hB t (by omega))
      have h2 : cc * 11379234375 ≤ 7 * 11379234375 := Nat.mul_le_mul_right _ h7
      omega
    have head : ∀ r, px_ev (d + 1) 227 55 [some (.ref 31), some (.int x), some (.int (nI M)), some (.int one), some (.int y), some (.int (nxD z)), some (.int (nI i)), x7, x8, x9] [] I J (dR so dr) (dS L ds) n q r → px_ev (d + 1) 227 37 [some (.ref 31), some (.int x), some (.int (nI M)), some (.int one), some (.int y), some (.int z), some (.int (nI i)), x7, x8, x9] [] I J (dR so dr) (dS L ds) n q r := by
      intro r kk
      refine e_s rfl ?_
      refine e_s rfl ?_
      refine e_s rfl ?_
      refine e_bf (nI_ge (by omega) (by omega)) ?_
      refine e_s rfl ?_
      refine e_s rfl ?_
      refine e_s rfl ?_
      refine e_s rfl ?_
      refine e_s rfl ?_
      refine e_s rfl ?_
      exact kk
    unfold drS ofS
    by_cases h0 : smN N cc 0 = 0
    · have hp : pkD N cc (nxD z) = none := if_pos h0
      rw [hp]
      obtain ⟨I', J', r1, r2, r3, r4⟩ := w_drM h7 hB hM k (i + 1) (nxD z) a t I J x7 x8 x9 (by omega) (by omega) hW hX hA ea et
      refine ⟨I', J', head _ ?_, r2, r3, r4⟩
      refine e_s rfl ?_
      refine e_s rfl ?_
      rw [hA, h0]
      refine e_s rfl ?_
      refine e_s rfl ?_
      refine e_s rfl ?_
      refine e_s rfl ?_
      refine e_s rfl ?_
      rw [nI_1]
      exact r1
    · obtain ⟨eu, hlt⟩ := ush_n (nxD z)
      have hm : (ush (nxD z)).toNatClampNeg % smN N cc 0 < 2 ^ 24 := Nat.lt_of_le_of_lt (Nat.mod_le _ _) hlt
      obtain ⟨c, l', c1, c2, c3⟩ := w_dm (d := d) (n := n) (q := q) (L := L) (so := so) (dr := dr) (ds := ds) (I := I) (J := J) (x := x) (one := one) (y := y) (z := nxD z) (M := M) (i0 := i) h7 hW hB hm cc 0 0 (by omega) (by omega) (by rw [Nat.zero_add]; exact Nat.mod_lt _ (by omega))
      rw [Nat.sub_zero] at c3
      have hp : pkD N cc (nxD z) = some c := (if_neg h0).trans c2
      rw [hp]
      have hz : (lN 0 : Int64) < lN (smN N cc 0) := (pk_lLT (by omega) hA2).mpr (by omega)
      have mid : ∀ r, px_ev (d + 1) 227 111 [some (.ref 31), some (.int x), some (.int (nI M)), some (.int one), some (.int y), some (.int (nxD z)), some (.int (nI i)), some (.long l'), none, some (.int (nI c))] [] I J (dR so dr) (dS L ds) n q r → px_ev (d + 1) 227 37 [some (.ref 31), some (.int x), some (.int (nI M)), some (.int one), some (.int y), some (.int z), some (.int (nI i)), x7, x8, x9] [] I J (dR so dr) (dS L ds) n q r := by
        intro r kk
        refine head _ ?_
        refine e_s rfl ?_
        refine e_s rfl ?_
        rw [hA]
        refine e_s rfl ?_
        refine e_s rfl ?_
        refine e_s rfl ?_
        refine e_bf (fun g => lg_le_not_lt ((lg_cmp_le _ _).mp g) hz) ?_
        refine e_s rfl ?_
        refine e_s rfl ?_
        refine e_s rfl ?_
        refine e_s rfl ?_
        refine e_s rfl ?_
        refine e_s rfl ?_
        rw [hA]
        rw [show (((nxD z).toUInt32 >>> ((8 : Int32).toUInt32 &&& Int32.toUInt32 31)).toInt32).toInt64 = lN (ush (nxD z)).toNatClampNeg from (congrArg Int32.toInt64 eu).trans (nI_l (by omega))]
        refine e_lrem rfl (fun g => h0 ((lN_0 hA2).mp g)) ?_
        rw [lN_rem (by omega) hA2 (by omega)]
        refine e_s rfl ?_
        refine e_s rfl ?_
        refine e_s rfl ?_
        exact c3 r kk
      by_cases e1 : nI c = one
      · obtain ⟨I', J', r1, r2, r3, r4⟩ := w_drM h7 hB hM k (i + 1) (nxD z) (a + (X c).toInt64) (t + 1) (px_u I 31 39 (nI (t + 1))) (px_u J 31 38 (a + (X c).toInt64)) (some (.long l')) none (some (.int (nI c))) (by omega) (by omega) (fun t ht => (u_ne (by omega)).trans (hW t ht)) (fun t ht => (u_ne (by omega)).trans (hX t ht)) ((u_ne (by omega)).trans hA) u_eq u_eq
        refine ⟨I', J', mid _ ?_, r2, ?_, fun a j g => (r4 a j g).trans (u_ne (fun e e2 => g ⟨e, e2⟩))⟩
        · refine e_s rfl ?_
          refine e_s rfl ?_
          refine e_s rfl ?_
          rw [ea]
          refine e_s rfl ?_
          refine e_s rfl ?_
          refine e_s rfl ?_
          refine e_la rfl rfl rfl (show c < 7 by omega) (by decide) ?_
          rw [hX c c1]
          refine e_s rfl ?_
          refine e_s rfl ?_
          refine e_s rfl ?_
          refine e_s rfl ?_
          refine e_s rfl ?_
          rw [et]
          refine e_s rfl ?_
          refine e_s rfl ?_
          refine e_s rfl ?_
          refine e_bf (fun g => g e1) ?_
          refine e_s rfl ?_
          refine e_s rfl ?_
          refine e_s rfl ?_
          rw [nI_1]
          refine e_s rfl ?_
          refine e_s rfl ?_
          refine e_s rfl ?_
          rw [nI_1]
          exact r1
        · rw [r3]
          show _ = nI (ofS (pkD N cc) one k (nxD z) (if nI c = one then t + 1 else t))
          rw [if_pos e1]
      · obtain ⟨I', J', r1, r2, r3, r4⟩ := w_drM h7 hB hM k (i + 1) (nxD z) (a + (X c).toInt64) t (px_u I 31 39 (nI t)) (px_u J 31 38 (a + (X c).toInt64)) (some (.long l')) none (some (.int (nI c))) (by omega) (by omega) (fun t ht => (u_ne (by omega)).trans (hW t ht)) (fun t ht => (u_ne (by omega)).trans (hX t ht)) ((u_ne (by omega)).trans hA) u_eq u_eq
        refine ⟨I', J', mid _ ?_, r2, ?_, fun a j g => (r4 a j g).trans (u_ne (fun e e2 => g ⟨e, e2⟩))⟩
        · refine e_s rfl ?_
          refine e_s rfl ?_
          refine e_s rfl ?_
          rw [ea]
          refine e_s rfl ?_
          refine e_s rfl ?_
          refine e_s rfl ?_
          refine e_la rfl rfl rfl (show c < 7 by omega) (by decide) ?_
          rw [hX c c1]
          refine e_s rfl ?_
          refine e_s rfl ?_
          refine e_s rfl ?_
          refine e_s rfl ?_
          refine e_s rfl ?_
          rw [et]
          refine e_s rfl ?_
          refine e_s rfl ?_
          refine e_s rfl ?_
          refine e_bt e1 ?_
          refine e_s rfl ?_
          refine e_s rfl ?_
          rw [Int32.add_zero]
          refine e_s rfl ?_
          refine e_s rfl ?_
          refine e_s rfl ?_
          rw [nI_1]
          exact r1
        · rw [r3]
          show _ = nI (ofS (pkD N cc) one k (nxD z) (if nI c = one then t + 1 else t))
          rw [if_neg e1]
theorem m_draws (h : Inv xs L so dr ds I n cc tc rl sg tp ca kd nb ta ua wa tz) {M : Nat} (hM : M ≤ 30) : ∃ I' J', px_mt (D + 83) 227 [.ref 31, .int x, .int (nI M), .int one] I J (dR so dr) (dS L ds) n q (none, I', J', dR so dr, dS L ds, n, q) ∧ kpF wa tc I I' ∧ J' 31 38 = drS (pkD (n0S I tz kd nb rl) cc) (fun t => (x0S I tz kd rl t).toInt64) M x 0 ∧ I' 31 39 = nI (ofS (pkD (n0S I tz kd nb rl) cc) one M x 0) := by
  have sup : ∀ a j, ¬ sFp a j → px_u I 31 16 0 a j = I a j := fun a j g => by
    unfold sFp at g
    rw [u_ne (fun e => by omega)]
  have hC := sup_c h sup
  have hT := sup_t h sup
  have e16 : I 31 16 = nI sg := h.2.1.2.2.2.2.2.2.2.2.1
  obtain ⟨I1, J1, k1, k2, k3, k4, k5, k6⟩ := r_gathers (D := D) (n := n) (q := q) (J0 := J) (sg := 0) hT hC h.2.1.2.2.2.2.2.2.1 h.1 rfl (by omega)
  have eW : gW (px_u I 31 16 0) tz kd nb (px_u I 31 16 0 31 7) (px_u I 31 16 0 31 8) (px_u I 31 16 0 31 9) (px_u I 31 16 0 31 10) (px_u I 31 16 0 31 11) rl 0 (px_u I 31 16 0 37) = w0S I tz kd nb rl := gW_c (fun j => rfl) (fun j hj => by omega)
  rw [eW] at k4 k6
  have eX : gX (px_u I 31 16 0) tz kd (px_u I 31 16 0 31 7) (px_u I 31 16 0 31 8) (px_u I 31 16 0 31 9) rl 0 = x0S I tz kd rl := gX_c (fun j => rfl)
  rw [eX] at k5
  have eA : J1 31 34 = lN (smN (n0S I tz kd nb rl) cc 0) := k6.trans (gA_sm cc (fun t ht => (n0_ok h ht).1))
  obtain ⟨I', J', r1, r2, r3, r4⟩ := w_drM (d := D + 82) (n := n) (q := q) (L := L) (so := so) (dr := dr) (ds := ds) (x := x) (one := one) (y := nI sg) (N := n0S I tz kd nb rl) (X := x0S I tz kd rl) h.2.2.1.1 (fun t ht => (n0_ok h ht).2) hM M 0 x 0 0 (px_u (px_u I1 31 16 (nI sg)) 31 39 0) (px_u J1 31 38 0) none none none (by omega) (by omega) (fun t ht => (u_ne (by omega)).trans ((k4 t ht).trans (n0_ok h ht).1)) (fun t ht => (u_ne (by omega)).trans (k5 t ht)) ((u_ne (by omega)).trans eA) u_eq u_eq
  refine ⟨I', J', ?_, fun a j g => ?_, r2, r3⟩
  · unfold px_mt
    refine e_s rfl ?_
    refine e_s rfl ?_
    rw [e16]
    refine e_s rfl ?_
    refine e_s rfl ?_
    refine e_s rfl ?_
    refine e_s rfl ?_
    refine e_s rfl ?_
    refine e_c rfl k1 (by omega) ?_
    refine e_s rfl ?_
    refine e_s rfl ?_
    refine e_s rfl ?_
    refine e_s rfl ?_
    refine e_s rfl ?_
    refine e_s rfl ?_
    refine e_s rfl ?_
    refine e_s rfl ?_
    refine e_s rfl ?_
    refine e_s rfl ?_
    refine e_s rfl ?_
    refine e_s rfl ?_
    refine e_s rfl ?_
    exact r1
  · have n39 : ¬ (a = 31 ∧ j = 39) := fun e => g (Or.inr (Or.inr (Or.inr (Or.inr (Or.inr (Or.inl ⟨e.1, Or.inr (Or.inr e.2)⟩))))))
    have ns : a = 31 → j < 17 ∨ 31 < j := fun e => by
      by_cases e3 : j < 17 ∨ 31 < j
      · exact e3
      · exact absurd (Or.inr (Or.inr (Or.inr (Or.inr (Or.inr (Or.inl ⟨e, Or.inl (by omega)⟩)))))) g
    rw [r4 a j n39, u_ne (fun e e2 => n39 ⟨e, e2⟩)]
    by_cases e : a = 31 ∧ j = 16
    · obtain ⟨rfl, rfl⟩ := e
      rw [u_eq, e16]
    · rw [u_ne (fun e1 e2 => e ⟨e1, e2⟩), k2 a j ns, u_ne (fun e1 e2 => e ⟨e1, e2⟩)]
theorem q_unh (h : Inv xs L so dr ds I n cc tc rl sg tp ca kd nb ta ua wa tz) : ∃ Ia I1 J1, px_mt 2 121 [.ref 4, .ref 2] I J (dR so dr) (dS L ds) n q (none, Ia, J, dR so dr, dS L ds, n, q) ∧ px_mt 7 83 [.ref 0, .ref 4] Ia J (dR so dr) (dS L ds) n q (none, I1, J1, dR so dr, dS L ds, n, q) ∧ kpF wa tc I I1 ∧ (∀ t, t < cc → J1 17 t = lN (n0S I tz kd nb rl t)) ∧ (∀ t, t < cc → I1 18 t = x0S I tz kd rl t) ∧ J1 0 13 = lN (smN (n0S I tz kd nb rl) cc 0) := by
  obtain ⟨a1, a2, a3, a4, a5, a6, a7, a8, a9, a10, a11⟩ := h.2.1
  obtain ⟨Ia, b1, b2, b3, b4, b5⟩ := r_unh_4_2 (d := 0) (n := n) (q := q) (L := L) (so := so) (dr := dr) (ds := ds) (I := I) (J := J)
  have fb : kpF wa tc I Ia := fun a j g => b5 a j (fun e => g (Or.inl e)) (fun e => g (Or.inr (Or.inl e)))
  obtain ⟨I1, J1, k1, k2, k3, k4, k5, k6, k7, k8⟩ := q_tho (d := 0) (q := q) (J := J) (rl' := rl) (sg' := 0) (h.keep fb) h.1 ((b2 5 (by decide)).trans a6) b3 (by omega)
  obtain ⟨_, _, _, _, e32⟩ := mW_k h fb
  have eW : gW Ia tz kd nb (Ia 4 0) (Ia 4 1) (Ia 4 2) (Ia 4 3) (Ia 4 4) rl 0 (Ia 5) = w0S I tz kd nb rl := by
    rw [b2 0 (by decide), b2 1 (by decide), b2 2 (by decide), b2 3 (by decide), b2 4 (by decide), a1, a2, a3, a4, a5]
    exact gW_c e32 (fun j hj => by omega)
  have eX : gX Ia tz kd (Ia 4 0) (Ia 4 1) (Ia 4 2) rl 0 = x0S I tz kd rl := by
    rw [b2 0 (by decide), b2 1 (by decide), b2 2 (by decide), a1, a2, a3]
    exact gX_c e32
  rw [eW] at k5 k7
  rw [eX] at k6
  exact ⟨Ia, I1, J1, b1, k1, fb.trans k2, fun t ht => (k5 t ht).trans (n0_ok h ht).1, k6, k7.trans (gA_sm cc (fun t ht => (n0_ok h ht).1))⟩
theorem o_drawn (h : Inv xs L so dr ds I n cc tc rl sg tp ca kd nb ta ua wa tz) : ∃ I1 J1 I2 J2 v, px_mt (D + 84) 124 [.ref 0, .int x, .int y] I J (dR so dr) (dS L ds) n q (some (.long v), I1, J1, dR so dr, dS L ds, n, q) ∧ px_mt (D + 84) 226 [.ref 31, .int x, .int y] I1 J1 (dR so dr) (dS L ds) n q (some (.long v), I2, J2, dR so dr, dS L ds, n, q) ∧ Inv xs L so dr ds I2 n cc tc rl sg tp ca kd nb ta ua wa tz := by
  by_cases hy1 : y < 1
  · have ein : inI 1 30 y = false := decide_eq_false (fun g => absurd g.1 (Int32.not_le.mpr hy1))
    refine ⟨I, J, I, J, NOl, ?_, ?_, h⟩
    · unfold px_mt
      repeat refine e_s rfl ?_
      refine e_bt hy1 ?_
      repeat refine e_s rfl ?_
      exact e_r rfl
    · unfold px_mt
      repeat refine e_s rfl ?_
      refine e_c rfl (r_inI (D := 0) (a := 1) (c := 30) (by decide) (by decide)) (by omega) ?_
      rw [ein]
      repeat refine e_s rfl ?_
      exact e_r rfl
  by_cases hy2 : y ≤ 30
  rotate_left
  · have ein : inI 1 30 y = false := decide_eq_false (fun g => hy2 g.2)
    refine ⟨I, J, I, J, NOl, ?_, ?_, h⟩
    · unfold px_mt
      repeat refine e_s rfl ?_
      refine e_bf hy1 ?_
      repeat refine e_s rfl ?_
      refine e_bf hy2 ?_
      repeat refine e_s rfl ?_
      exact e_r rfl
    · unfold px_mt
      repeat refine e_s rfl ?_
      refine e_c rfl (r_inI (D := 0) (a := 1) (c := 30) (by decide) (by decide)) (by omega) ?_
      rw [ein]
      repeat refine e_s rfl ?_
      exact e_r rfl
  have ein : inI 1 30 y = true := decide_eq_true ⟨Int32.not_lt.mp hy1, hy2⟩
  obtain ⟨M, hM, rfl⟩ : ∃ M, M ≤ 30 ∧ y = nI M := nI_of2 (M := 30) (n := 30) (by decide) (fun g => hy1 (Int32.lt_of_lt_of_le g (by decide))) hy2
  obtain ⟨Ia, I1, J1, b1, k1, k2, k3, k4, k5⟩ := q_unh (q := q) (J := J) h
  have h' := h.keep k2
  obtain ⟨I2, J2, m1, m2, m3, m4⟩ := m_draws (D := D) (q := q) (J := J1) (x := x) (one := -1) h' hM
  rw [(n0_k h k2).1, (n0_k h k2).2] at m3
  refine ⟨I1, J1, I2, J2, drS (pkD (n0S I tz kd nb rl) cc) (fun t => (x0S I tz kd rl t).toInt64) M x 0, ?_, ?_, h'.keep m2⟩
  · unfold px_mt
    repeat refine e_s rfl ?_
    refine e_bf hy1 ?_
    repeat refine e_s rfl ?_
    refine e_bt hy2 ?_
    repeat refine e_s rfl ?_
    refine e_c rfl b1 (by omega) ?_
    repeat refine e_s rfl ?_
    refine e_c rfl k1 (by omega) ?_
    refine e_s rfl ?_
    refine e_s rfl ?_
    refine e_s rfl ?_
    refine e_s rfl ?_
    refine e_s rfl ?_
    refine e_s rfl ?_
    exact w_drC (d := D + 82) h'.2.2.1.2.1 h'.2.2.1.1 k3 k4 (fun t ht => (n0_ok h ht).2) k5 hM M 0 x 0 none (by omega)
  · unfold px_mt
    repeat refine e_s rfl ?_
    refine e_c rfl (r_inI (D := 0) (a := 1) (c := 30) (by decide) (by decide)) (by omega) ?_
    rw [ein]
    repeat refine e_s rfl ?_
    refine e_c rfl m1 (by omega) ?_
    repeat refine e_s rfl ?_
    rw [m3]
    exact e_r rfl
theorem o_often (h : Inv xs L so dr ds I n cc tc rl sg tp ca kd nb ta ua wa tz) : ∃ I1 J1 I2 J2 v, px_mt (D + 84) 127 [.ref 0, .int x, .int y, .int z, .int w] I J (dR so dr) (dS L ds) n q (some (.long v), I1, J1, dR so dr, dS L ds, n, q) ∧ px_mt (D + 84) 228 [.ref 31, .int x, .int y, .int z, .int w] I1 J1 (dR so dr) (dS L ds) n q (some (.long v), I2, J2, dR so dr, dS L ds, n, q) ∧ Inv xs L so dr ds I2 n cc tc rl sg tp ca kd nb ta ua wa tz := by
  have c7 := h.2.2.1.1
  by_cases hy1 : y < 1
  · have ein : inI 1 30 y = false := decide_eq_false (fun g => absurd g.1 (Int32.not_le.mpr hy1))
    refine ⟨I, J, I, J, NOl, ?_, ?_, h⟩
    · unfold px_mt
      repeat refine e_s rfl ?_
      refine e_bt hy1 ?_
      repeat refine e_s rfl ?_
      exact e_r rfl
    · unfold px_mt
      repeat refine e_s rfl ?_
      refine e_c rfl (r_inI (D := 0) (a := 1) (c := 30) (by decide) (by decide)) (by omega) ?_
      rw [ein]
      repeat refine e_s rfl ?_
      exact e_r rfl
  by_cases hy2 : 30 < y
  · have ein : inI 1 30 y = false := decide_eq_false (fun g => absurd g.2 (Int32.not_le.mpr hy2))
    refine ⟨I, J, I, J, NOl, ?_, ?_, h⟩
    · unfold px_mt
      repeat refine e_s rfl ?_
      refine e_bf hy1 ?_
      repeat refine e_s rfl ?_
      refine e_bt hy2 ?_
      repeat refine e_s rfl ?_
      exact e_r rfl
    · unfold px_mt
      repeat refine e_s rfl ?_
      refine e_c rfl (r_inI (D := 0) (a := 1) (c := 30) (by decide) (by decide)) (by omega) ?_
      rw [ein]
      repeat refine e_s rfl ?_
      exact e_r rfl
  have ein : inI 1 30 y = true := decide_eq_true ⟨Int32.not_lt.mp hy1, Int32.not_lt.mp hy2⟩
  rcases ix_or (x := z) (k := cc) (by omega) with g | ⟨o, ho, rfl⟩
  · refine ⟨I, J, I, J, NOl, ?_, ?_, h⟩
    · unfold px_mt
      repeat refine e_s rfl ?_
      refine e_bf hy1 ?_
      repeat refine e_s rfl ?_
      refine e_bf hy2 ?_
      repeat refine e_s rfl ?_
      refine e_c rfl (r_callerNo (d := 0) h.2.2.1 g) (by omega) ?_
      repeat refine e_s rfl ?_
      exact e_r rfl
    · unfold px_mt
      repeat refine e_s rfl ?_
      refine e_c rfl (r_inI (D := 0) (a := 1) (c := 30) (by decide) (by decide)) (by omega) ?_
      rw [ein]
      repeat refine e_s rfl ?_
      refine e_c rfl (r_isOne (d := 0) h.2.2.1.2.2.1 c7) (by omega) ?_
      rw [out_k g]
      repeat refine e_s rfl ?_
      exact e_r rfl
  obtain ⟨M, hM, e⟩ : ∃ M, M ≤ 30 ∧ y = nI M := nI_of2 (M := 30) (n := 30) (by decide) (fun g => hy1 (Int32.lt_of_lt_of_le g (by decide))) (Int32.not_lt.mp hy2)
  have hM1 : ¬ M = 0 := fun g => hy1 (by rw [e, g]; decide)
  subst e
  obtain ⟨Ia, I1, J1, b1, k1, k2, k3, k4, k5⟩ := q_unh (q := q) (J := J) h
  have h' := h.keep k2
  have hle : ofS (pkD (n0S I tz kd nb rl) cc) (nI o) M x 0 ≤ 0 + M := ofS_le M x 0
  have cls : px_mt (D + 84) 127 [.ref 0, .int x, .int (nI M), .int (nI o), .int w] I J (dR so dr) (dS L ds) n q (some (.long (lowS (ofS (pkD (n0S I tz kd nb rl) cc) (nI o) M x 0) M w)), I1, J1, dR so dr, dS L ds, n, q) := by
    unfold px_mt
    repeat refine e_s rfl ?_
    refine e_bf hy1 ?_
    repeat refine e_s rfl ?_
    refine e_bf hy2 ?_
    repeat refine e_s rfl ?_
    refine e_c rfl (r_callerAt (d := 0) h.2.2.1 ho) (by omega) ?_
    repeat refine e_s rfl ?_
    refine e_c rfl b1 (by omega) ?_
    repeat refine e_s rfl ?_
    refine e_c rfl k1 (by omega) ?_
    refine e_s rfl ?_
    refine e_s rfl ?_
    refine e_s rfl ?_
    refine e_s rfl ?_
    refine e_s rfl ?_
    refine e_s rfl ?_
    refine w_ofC (d := D + 82) (o := o) h'.2.2.1.2.1 h'.2.2.1.1 k3 (fun t ht => (n0_ok h ht).2) k5 hM (show o < 7 by omega) M 0 x 0 (by omega) (by omega) (fun z' => ?_)
    repeat refine e_s rfl ?_
    rw [nI_l (show ofS (pkD (n0S I tz kd nb rl) cc) (nI o) M x 0 < 2 ^ 31 by omega), nI_l (show M < 2 ^ 31 by omega)]
    refine e_c rfl (r_low (d := 0) (by omega) (by omega)) (by omega) ?_
    exact e_r rfl
  cases hp : inI 0 1 w with
  | false =>
    rw [lowS_o hp] at cls
    refine ⟨I1, J1, I1, J1, NOl, cls, ?_, h'⟩
    unfold px_mt
    repeat refine e_s rfl ?_
    refine e_c rfl (r_inI (D := 0) (a := 1) (c := 30) (by decide) (by decide)) (by omega) ?_
    rw [ein]
    repeat refine e_s rfl ?_
    refine e_c rfl (r_isOne (d := 0) h'.2.2.1.2.2.1 c7) (by omega) ?_
    rw [in_k ho (by omega)]
    repeat refine e_s rfl ?_
    refine e_c rfl (r_inI (D := 0) (a := 0) (c := 1) (by decide) (by decide)) (by omega) ?_
    rw [hp]
    repeat refine e_s rfl ?_
    exact e_r rfl
  | true =>
    obtain ⟨I2, J2, m1, m2, m3, m4⟩ := m_draws (D := D) (q := q) (J := J1) (x := x) (one := nI o) h' hM
    rw [(n0_k h k2).1] at m4
    refine ⟨I1, J1, I2, J2, _, cls, ?_, h'.keep m2⟩
    unfold px_mt
    repeat refine e_s rfl ?_
    refine e_c rfl (r_inI (D := 0) (a := 1) (c := 30) (by decide) (by decide)) (by omega) ?_
    rw [ein]
    repeat refine e_s rfl ?_
    refine e_c rfl (r_isOne (d := 0) h'.2.2.1.2.2.1 c7) (by omega) ?_
    rw [in_k ho (by omega)]
    repeat refine e_s rfl ?_
    refine e_c rfl (r_inI (D := 0) (a := 0) (c := 1) (by decide) (by decide)) (by omega) ?_
    rw [hp]
    repeat refine e_s rfl ?_
    refine e_c rfl m1 (by omega) ?_
    repeat refine e_s rfl ?_
    rw [m4, nI_l (show ofS (pkD (n0S I tz kd nb rl) cc) (nI o) M x 0 < 2 ^ 31 by omega), nI_l (show M < 2 ^ 31 by omega)]
    refine e_c rfl (r_lowM (d := 0) (by omega) (by omega) hM1 (in01 hp)) (by omega) ?_
    exact e_r rfl
end PXDN
