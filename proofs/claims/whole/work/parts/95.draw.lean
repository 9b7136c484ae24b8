/-! callers that are drawn: what both sides share -/
def ush (z : Int32) : Int32 := (z.toUInt32 >>> ((8 : Int32).toUInt32 &&& Int32.toUInt32 31)).toInt32
def nxD (z : Int32) : Int32 := z * 1103515245 + 12345
theorem ush_n (z : Int32) : ush z = nI (ush z).toNatClampNeg ∧ (ush z).toNatClampNeg < 2 ^ 24 := by
  have h := pk_ushr z 8 8 (by decide)
  have hz : (ush z).toBitVec.toNat < 2 ^ 24 := by
    have h2 : (ush z).toBitVec.toNat = z.toBitVec.toNat / 2 ^ 8 := h
    rw [h2]
    have := z.toBitVec.isLt
    omega
  have e : ush z = nI (ush z).toBitVec.toNat := by
    apply Int32.toBitVec_inj.mp
    apply BitVec.eq_of_toNat_eq
    rw [pk_tn (by omega)]
  generalize hp : (ush z).toBitVec.toNat = p at e hz
  rw [e, nI_clamp (by omega)]
  exact ⟨rfl, hz⟩
def smN (N : Nat → Nat) : Nat → Nat → Nat
  | 0, _ => 0
  | k + 1, i => N i + smN N k (i + 1)
theorem smN_s {N : Nat → Nat} : ∀ k i, smN N (k + 1) i = smN N k i + N (i + k)
  | 0, i => by
    show N i + 0 = 0 + N i
    omega
  | k + 1, i => by
    have h := smN_s k (i + 1) (N := N)
    show N i + smN N (k + 1) (i + 1) = (N i + smN N k (i + 1)) + N (i + (k + 1))
    rw [h, show i + 1 + k = i + (k + 1) by omega]
    omega
theorem gA_sm {W : Nat → Int64} {N : Nat → Nat} : ∀ k, (∀ t, t < k → W t = lN (N t)) → gA W k = lN (smN N k 0)
  | 0, _ => rfl
  | k + 1, h => by
    show gA W k + W k = _
    rw [gA_sm k (fun t ht => h t (by omega)), h k (by omega), lN_add, smN_s, Nat.zero_add]
theorem smN_le {N : Nat → Nat} {B : Nat} : ∀ k i, (∀ t, t < i + k → N t ≤ B) → smN N k i ≤ k * B
  | 0, _, _ => by
    show 0 ≤ _
    omega
  | k + 1, i, h => by
    have := smN_le k (i + 1) (fun t ht => h t (by omega)) (N := N) (B := B)
    have := h i (by omega)
    show N i + smN N k (i + 1) ≤ _
    rw [Nat.succ_mul]
    omega
def dwF (N : Nat → Nat) : Nat → Nat → Nat → Nat → Option Nat
  | 0, _, _, _ => none
  | k + 1, i, a, m => if m < a + N i then some i else dwF N k (i + 1) (a + N i) m
theorem dwF_lt {N : Nat → Nat} : ∀ k i a m c, dwF N k i a m = some c → c < i + k
  | 0, _, _, _, _, e => by cases e
  | k + 1, i, a, m, c, e => by
    unfold dwF at e
    by_cases h : m < a + N i
    · rw [if_pos h] at e
      have := Option.some.inj e
      omega
    · rw [if_neg h] at e
      have := dwF_lt k (i + 1) _ m c e
      omega
def pkD (N : Nat → Nat) (cc : Nat) (z : Int32) : Option Nat := if smN N cc 0 = 0 then none else dwF N cc 0 0 ((ush z).toNatClampNeg % smN N cc 0)
def opI (o : Option Nat) : Int32 := match o with
  | none => -1
  | some c => nI c
def drS (P : Int32 → Option Nat) (X : Nat → Int64) : Nat → Int32 → Int64 → Int64
  | 0, _, s => s
  | k + 1, z, s => drS P X k (nxD z) (match P (nxD z) with
    | none => s
    | some c => s + X c)
def ofS (P : Int32 → Option Nat) (one : Int32) : Nat → Int32 → Nat → Nat
  | 0, _, t => t
  | k + 1, z, t => ofS P one k (nxD z) (match P (nxD z) with
    | none => t
    | some c => if nI c = one then t + 1 else t)
theorem ofS_le {P : Int32 → Option Nat} {one : Int32} : ∀ k z t, ofS P one k z t ≤ t + k
  | 0, _, t => Nat.le_refl _
  | k + 1, z, t => by
    unfold ofS
    have h := ofS_le k (nxD z) (match P (nxD z) with
      | none => t
      | some c => if nI c = one then t + 1 else t) (P := P) (one := one)
    have h2 : (match P (nxD z) with
      | none => t
      | some c => if nI c = one then t + 1 else t) ≤ t + 1 := by
      cases P (nxD z) with
      | none => show t ≤ t + 1; omega
      | some c =>
        show (if nI c = one then t + 1 else t) ≤ t + 1
        by_cases e : nI c = one
        · rw [if_pos e]
          omega
        · rw [if_neg e]
          omega
    omega
section PXDR
variable {d D n q L cc tc rl sg tp c k s m : Nat} {so : Option Nat} {dr R : px_HR} {ds S : px_HS} {I I0 : px_HI} {J : px_HJ} {xs : Nat → Int32} {ca kd nb ta ua wa tz : Nat → Nat} {x y z v w : Int32} {W : Nat → Int64} {N : Nat → Nat} {X : Nat → Int32}
theorem w_dw (hc : I 0 1 = nI cc) (h7 : cc ≤ 7) (hW : ∀ t, t < cc → J 17 t = lN (N t)) (hB : ∀ t, t < cc → N t ≤ 11379234375) {m : Nat} (hm : m < 2 ^ 24) : ∀ k i a, i + k = cc → a ≤ i * 11379234375 → px_ev (d + 1) 126 28 [some (.ref 0), some (.int z), some (.long (lN m)), none, some (.long (lN a)), none, some (.int (nI i))] [] I J (dR so dr) (dS L ds) n q (some (.int (opI (dwF N k i a m))), I, J, dR so dr, dS L ds, n, q)
  | 0, i, a, hi, ha => by
    repeat refine e_s rfl ?_
    rw [hc]
    refine e_bt (nI_le (by omega) (by omega)) ?_
    repeat refine e_s rfl ?_
    exact e_r rfl
  | k + 1, i, a, hi, ha => by
    have hN := hB i (by omega)
    have hb : i * 11379234375 ≤ 7 * 11379234375 := Nat.mul_le_mul_right _ (by omega)
    repeat refine e_s rfl ?_
    rw [hc]
    refine e_bf (nI_ge (by omega) (by omega)) ?_
    repeat refine e_s rfl ?_
    refine e_la rfl rfl rfl (show i < 7 by omega) (by decide) ?_
    rw [hW i (by omega)]
    refine e_s rfl ?_
    rw [lN_add]
    refine e_s rfl ?_
    refine e_s rfl ?_
    refine e_s rfl ?_
    refine e_s rfl ?_
    refine e_s rfl ?_
    unfold dwF
    by_cases h : m < a + N i
    · rw [if_pos h]
      refine e_bf (fun g => ?_) ?_
      · have := (pk_lLE (by omega) (by omega)).mp ((lg_cmp_le _ _).mp g)
        omega
      repeat refine e_s rfl ?_
      exact e_r rfl
    · rw [if_neg h]
      refine e_bt ((lg_cmp_le _ _).mpr ((pk_lLE (by omega) (by omega)).mpr (by omega))) ?_
      refine e_s rfl ?_
      refine e_s rfl ?_
      rw [nI_1]
      exact w_dw hc h7 hW hB hm k (i + 1) (a + N i) (by omega) (by rw [Nat.succ_mul]; omega)
theorem r_dw (hc : I 0 1 = nI cc) (h7 : cc ≤ 7) (hW : ∀ t, t < cc → J 17 t = lN (N t)) (hB : ∀ t, t < cc → N t ≤ 11379234375) (hA : J 0 13 = lN (smN N cc 0)) : px_mt (d + 1) 126 [.ref 0, .int z] I J (dR so dr) (dS L ds) n q (some (.int (opI (pkD N cc z))), I, J, dR so dr, dS L ds, n, q) := by
  have hA2 : smN N cc 0 < 2 ^ 63 := by
    have h1 := smN_le cc 0 (fun t ht => hB t (by omega))
    have h2 : cc * 11379234375 ≤ 7 * 11379234375 := Nat.mul_le_mul_right _ h7
    omega
  unfold px_mt
  refine e_s rfl ?_
  refine e_s rfl ?_
  rw [hA]
  refine e_s rfl ?_
  refine e_s rfl ?_
  refine e_s rfl ?_
  unfold pkD
  by_cases h0 : smN N cc 0 = 0
  · rw [if_pos h0, h0]
    repeat refine e_s rfl ?_
    exact e_r rfl
  · rw [if_neg h0]
    have hp : (lN 0 : Int64) < lN (smN N cc 0) := (pk_lLT (by omega) hA2).mpr (by omega)
    refine e_bt ((lg_cmp_gt _ _).mpr hp) ?_
    refine e_s rfl ?_
    refine e_s rfl ?_
    refine e_s rfl ?_
    refine e_s rfl ?_
    refine e_s rfl ?_
    refine e_s rfl ?_
    rw [hA]
    obtain ⟨e, hlt⟩ := ush_n z
    rw [show ((z.toUInt32 >>> ((8 : Int32).toUInt32 &&& Int32.toUInt32 31)).toInt32).toInt64 = lN (ush z).toNatClampNeg from (congrArg Int32.toInt64 e).trans (nI_l (by omega))]
    refine e_lrem rfl (fun g => h0 ((lN_0 hA2).mp g)) ?_
    rw [lN_rem (by omega) hA2 (by omega)]
    refine e_s rfl ?_
    refine e_s rfl ?_
    refine e_s rfl ?_
    refine e_s rfl ?_
    refine e_s rfl ?_
    have hm : (ush z).toNatClampNeg % smN N cc 0 < 2 ^ 24 := Nat.lt_of_le_of_lt (Nat.mod_le _ _) hlt
    exact w_dw hc h7 hW hB hm cc 0 0 (by omega) (by omega)
theorem r_nd : px_mt (d + 1) 125 [.int z] I J (dR so dr) (dS L ds) n q (some (.int (nxD z)), I, J, dR so dr, dS L ds, n, q) := by
  unfold px_mt
  repeat refine e_s rfl ?_
  exact e_r rfl
theorem w_drC (hc : I 0 1 = nI cc) (h7 : cc ≤ 7) (hW : ∀ t, t < cc → J 17 t = lN (N t)) (hX : ∀ t, t < cc → I 18 t = X t) (hB : ∀ t, t < cc → N t ≤ 11379234375) (hA : J 0 13 = lN (smN N cc 0)) {M : Nat} (hM : M ≤ 30) : ∀ k i (z : Int32) (a : Int64) (x7 : Option Value), i + k = M → px_ev (d + 2) 124 42 [some (.ref 0), some (.int x), some (.int (nI M)), some (.long a), none, some (.int z), some (.int (nI i)), x7] [] I J (dR so dr) (dS L ds) n q (some (.long (drS (pkD N cc) (fun t => (X t).toInt64) k z a)), I, J, dR so dr, dS L ds, n, q)
  | 0, i, z, a, x7, hi => by
    repeat refine e_s rfl ?_
    refine e_bt (nI_le (by omega) (by omega)) ?_
    repeat refine e_s rfl ?_
    exact e_r rfl
  | k + 1, i, z, a, x7, hi => by
    repeat refine e_s rfl ?_
    refine e_bf (nI_ge (by omega) (by omega)) ?_
    repeat refine e_s rfl ?_
    refine e_c rfl (r_nd (d := d)) (by omega) ?_
    repeat refine e_s rfl ?_
    refine e_c rfl (r_dw (d := d) hc h7 hW hB hA) (by omega) ?_
    refine e_s rfl ?_
    refine e_s rfl ?_
    refine e_s rfl ?_
    refine e_s rfl ?_
    unfold drS
    cases hp : pkD N cc (nxD z) with
    | none =>
      refine e_bt (show opI none = -1 from rfl) ?_
      refine e_s rfl ?_
      refine e_s rfl ?_
      rw [nI_1]
      exact w_drC hc h7 hW hX hB hA hM k (i + 1) (nxD z) a _ (by omega)
    | some t =>
      have ht : t < cc := by
        unfold pkD at hp
        by_cases h0 : smN N cc 0 = 0
        · rw [if_pos h0] at hp
          cases hp
        · rw [if_neg h0] at hp
          have := dwF_lt _ _ _ _ _ hp
          omega
      refine e_bf (show ¬ nI t = -1 from nI_nm1 (by omega)) ?_
      refine e_s rfl ?_
      refine e_s rfl ?_
      refine e_s rfl ?_
      refine e_s rfl ?_
      refine e_ia (j := t) rfl rfl rfl (show t < 7 by omega) (by decide) ?_
      rw [hX t ht]
      refine e_s rfl ?_
      refine e_s rfl ?_
      refine e_s rfl ?_
      refine e_s rfl ?_
      refine e_s rfl ?_
      rw [nI_1]
      exact w_drC hc h7 hW hX hB hA hM k (i + 1) (nxD z) _ _ (by omega)
theorem w_ofC (hc : I 0 1 = nI cc) (h7 : cc ≤ 7) (hW : ∀ t, t < cc → J 17 t = lN (N t)) (hB : ∀ t, t < cc → N t ≤ 11379234375) (hA : J 0 13 = lN (smN N cc 0)) {M o : Nat} (hM : M ≤ 30) (ho : o < 7) {r : Option Value × px_G} : ∀ k i (z : Int32) t, i + k = M → t ≤ i → (∀ z', px_ev (d + 2) 127 83 [some (.ref 0), some (.int x), some (.int (nI M)), some (.int (nI o)), some (.int y), some (.int (nI (ofS (pkD N cc) (nI o) k z t))), some (.int z'), some (.int (nI M))] [] I J (dR so dr) (dS L ds) n q r) → px_ev (d + 2) 127 51 [some (.ref 0), some (.int x), some (.int (nI M)), some (.int (nI o)), some (.int y), some (.int (nI t)), some (.int z), some (.int (nI i))] [] I J (dR so dr) (dS L ds) n q r
  | 0, i, z, t, hi, hti, kk => by
    have e : i = M := by omega
    subst e
    refine e_s rfl ?_
    refine e_s rfl ?_
    refine e_s rfl ?_
    refine e_bt (nI_le (by omega) (by omega)) ?_
    exact kk z
  | k + 1, i, z, t, hi, hti, kk => by
    repeat refine e_s rfl ?_
    refine e_bf (nI_ge (by omega) (by omega)) ?_
    repeat refine e_s rfl ?_
    refine e_c rfl (r_nd (d := d)) (by omega) ?_
    repeat refine e_s rfl ?_
    refine e_c rfl (r_dw (d := d) hc h7 hW hB hA) (by omega) ?_
    refine e_s rfl ?_
    refine e_s rfl ?_
    unfold ofS at kk
    cases hp : pkD N cc (nxD z) with
    | none =>
      rw [hp] at kk
      refine e_bt (show ¬ (-1 : Int32) = nI o from fun g => nI_nm1 (t := o) (by omega) g.symm) ?_
      refine e_s rfl ?_
      refine e_s rfl ?_
      rw [nI_1]
      exact w_ofC hc h7 hW hB hA hM ho k (i + 1) (nxD z) t (by omega) (by omega) kk
    | some c =>
      rw [hp] at kk
      by_cases e : nI c = nI o
      · have kk' : ∀ z', px_ev (d + 2) 127 83 [some (.ref 0), some (.int x), some (.int (nI M)), some (.int (nI o)), some (.int y), some (.int (nI (ofS (pkD N cc) (nI o) k (nxD z) (if nI c = nI o then t + 1 else t)))), some (.int z'), some (.int (nI M))] [] I J (dR so dr) (dS L ds) n q r := kk
        rw [if_pos e] at kk'
        refine e_bf (fun g => g e) ?_
        refine e_s rfl ?_
        refine e_s rfl ?_
        refine e_s rfl ?_
        rw [nI_1, nI_1]
        exact w_ofC hc h7 hW hB hA hM ho k (i + 1) (nxD z) (t + 1) (by omega) (by omega) kk'
      · have kk' : ∀ z', px_ev (d + 2) 127 83 [some (.ref 0), some (.int x), some (.int (nI M)), some (.int (nI o)), some (.int y), some (.int (nI (ofS (pkD N cc) (nI o) k (nxD z) (if nI c = nI o then t + 1 else t)))), some (.int z'), some (.int (nI M))] [] I J (dR so dr) (dS L ds) n q r := kk
        rw [if_neg e] at kk'
        refine e_bt e ?_
        refine e_s rfl ?_
        refine e_s rfl ?_
        rw [nI_1]
        exact w_ofC hc h7 hW hB hA hM ho k (i + 1) (nxD z) t (by omega) (by omega) kk'
end PXDR
