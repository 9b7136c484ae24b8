/-! THE TAPE of the class: words, numbers, marks, tokens -/
theorem px_byok : ∀ k, k < 13 → ∀ t, t < 60 → (px_by.getD k []).getD t 0 &&& 255 = (px_by.getD k []).getD t 0 := by decide +kernel
theorem sw_lo {tb : List (Nat × Nat)} {lo x : Int32} {z : Nat} (h : x < lo) : px_sw tb lo x z = z := if_pos h
theorem sw_hi {tb : List (Nat × Nat)} {lo x : Int32} {z : Nat} (h : tb.length ≤ (x.toInt - lo.toInt).toNat) : px_sw tb lo x z = z := by
  unfold px_sw
  split
  · rfl
  · rw [List.getElem?_eq_none h]
def mkT : List (Nat × Nat) := [(0, 104), (0, 107), (0, 119), (0, 113), (0, 128), (0, 116), (0, 128), (0, 128), (0, 128), (0, 128), (0, 128), (0, 128), (0, 128), (0, 128), (0, 128), (0, 128), (0, 128), (0, 128), (0, 128), (0, 110), (0, 122), (0, 125)]
theorem mk_tab : ∀ m, m < 62 → (px_sw mkT 40 (nI m) 128, mcode (nI m)) ∈ [(104, (-19 : Int32)), (107, -20), (110, -21), (113, -12), (116, -13), (119, -14), (122, -10), (125, -11), (128, -23)] := by decide +kernel
theorem mk_out (x : Int32) (h : x < 0 ∨ nI 62 ≤ x) : px_sw mkT 40 x 128 = 128 ∧ mcode x = -23 := by
  have hx : x.toInt < 0 ∨ 62 ≤ x.toInt := h.imp (fun h => by have := Int32.lt_iff_toInt_lt.mp h; simpa using this) (fun h => by have := Int32.le_iff_toInt_le.mp h; rw [nI_toInt (by decide)] at this; simpa using this)
  have ne : ∀ m : Nat, m < 62 → x ≠ nI m := by
    intro m hm e
    rw [e, nI_toInt (by omega)] at hx
    omega
  constructor
  · rcases h with h | h
    · exact sw_lo (Int32.lt_trans h (by decide))
    · refine sw_hi ?_
      have h6 := Int32.le_iff_toInt_le.mp h
      rw [nI_toInt (by decide)] at h6
      have : (40 : Int32).toInt = 40 := by decide
      rw [this]
      show 22 ≤ _
      omega
  · unfold mcode
    rw [if_neg (show ¬ x = 40 from ne 40 (by decide)), if_neg (show ¬ x = 41 from ne 41 (by decide)), if_neg (show ¬ x = 59 from ne 59 (by decide)), if_neg (show ¬ x = 43 from ne 43 (by decide)), if_neg (show ¬ x = 45 from ne 45 (by decide)), if_neg (show ¬ x = 42 from ne 42 (by decide)), if_neg (show ¬ x = 60 from ne 60 (by decide)), if_neg (show ¬ x = 61 from ne 61 (by decide))]
section PXT2
variable {d n q L : Nat} {so : Option Nat} {I : px_HI} {J : px_HJ} {R r0 : px_HR} {S s0 : px_HS} {xs : Nat → Int32}
theorem r_mark (x : Int32) : px_mt (d + 1) 26 [.int x] I J R S n q (some (.int (mcode x)), I, J, R, S, n, q) := by
  unfold px_mt
  refine e_s rfl ?_
  refine e_s rfl ?_
  rcases pk_ix x (n := 62) (by decide) with h | h | ⟨j, hj, rfl⟩
  · obtain ⟨h1, h2⟩ := mk_out x (Or.inl h)
    refine e_pc h1 ?_
    rw [h2]
    refine e_s rfl ?_
    exact e_r rfl
  · obtain ⟨h1, h2⟩ := mk_out x (Or.inr h)
    refine e_pc h1 ?_
    rw [h2]
    refine e_s rfl ?_
    exact e_r rfl
  · have h := mk_tab j hj
    simp only [List.mem_cons, Prod.mk.injEq, List.not_mem_nil, or_false] at h
    rcases h with ⟨h1, h2⟩ | ⟨h1, h2⟩ | ⟨h1, h2⟩ | ⟨h1, h2⟩ | ⟨h1, h2⟩ | ⟨h1, h2⟩ | ⟨h1, h2⟩ | ⟨h1, h2⟩ | ⟨h1, h2⟩ <;> (
      refine e_pc h1 ?_
      rw [h2]
      refine e_s rfl ?_
      exact e_r rfl)
theorem w_numb {z : Nat} {x1 : Int32} (hz : I 10 1 = nI z) (h160 : z ≤ 160) : ∀ f i, i + f = z → px_ev (d + 2) 24 2 [some (.ref 10), some (.int x1), some (.int (nI i))] [] I J (tR so r0) (tS L s0) n q (some (.int (nI (skp isDg (I 11) f i))), I, J, tR so r0, tS L s0, n, q)
  | 0, i, hi => by
    repeat refine e_s rfl ?_
    rw [hz]
    refine e_bt (nI_le (by omega) (by omega)) ?_
    repeat refine e_s rfl ?_
    rw [hz, show z = i by omega]
    exact e_r rfl
  | f + 1, i, hi => by
    repeat refine e_s rfl ?_
    rw [hz]
    refine e_bf (nI_ge (by omega) (by omega)) ?_
    repeat refine e_s rfl ?_
    refine e_ia rfl rfl rfl (show i < 160 by omega) (by decide) ?_
    refine e_c rfl (r_digit (d := d) _) (by omega) ?_
    refine e_s rfl ?_
    unfold skp
    refine e_nz (fun h => ?_) (fun h => ?_)
    · rw [h]
      refine e_s rfl ?_
      refine e_s rfl ?_
      rw [show nI i + 1 = nI (i + 1) from nI_1 i]
      exact w_numb hz h160 f (i + 1) (by omega)
    · rw [h]
      repeat refine e_s rfl ?_
      exact e_r rfl
theorem w_isw {w v z0 len i : Nat} {e : Int32} (hS : tS L s0 w = (150, z0)) (hc : I w 1 = 0) (hR : tR so r0 w 0 = some v) (hV : tS L s0 v = (203, len)) (hl : len ≤ 160) (hie : i + len ≤ 160) : ∀ (W : List Int32) (j : Nat), j + W.length = len → (∀ t, t < W.length → I v (j + t) &&& 255 = W.getD t 0) → px_ev (d + 6) 21 15 [some (.ref 10), some (.ref w), some (.int (nI i)), some (.int e), some (.int (nI j))] [] I J (tR so r0) (tS L s0) n q (some (.int (bI (isl (I 11) W (i + j)))), I, J, tR so r0, tS L s0, n, q)
  | [], j, hj, hw => by
    refine e_s rfl ?_
    refine e_s rfl ?_
    refine e_cv rfl rfl rfl hS rfl rfl (r_len (d := d) hS hc hR hV (by omega)) (by omega) ?_
    refine e_s rfl ?_
    refine e_bt (nI_le (by simp at hj; omega) (by omega)) ?_
    refine e_s rfl ?_
    exact e_r rfl
  | x :: W, j, hj, hw => by
    have hj2 : j + W.length + 1 = len := by rw [← hj]; simp; omega
    refine e_s rfl ?_
    refine e_s rfl ?_
    refine e_cv rfl rfl rfl hS rfl rfl (r_len (d := d) hS hc hR hV (by omega)) (by omega) ?_
    refine e_s rfl ?_
    refine e_bf (nI_ge (by omega) (by omega)) ?_
    refine e_s rfl ?_
    refine e_s rfl ?_
    refine e_s rfl ?_
    refine e_s rfl ?_
    refine e_s rfl ?_
    rw [nI_add]
    refine e_ia rfl rfl rfl (show i + j < 160 by omega) (by decide) ?_
    refine e_s rfl ?_
    refine e_s rfl ?_
    refine e_cv rfl rfl rfl hS rfl rfl (r_char (d := d) hS hc hR hV (show j < len by omega) (by omega)) (by omega) ?_
    have h0 : I v j &&& 255 = x := hw 0 (Nat.succ_pos _)
    rw [h0]
    refine e_s rfl ?_
    unfold isl
    refine e_b (fun h => ?_) (fun h => ?_)
    · rw [decide_eq_true h, Bool.true_and]
      refine e_s rfl ?_
      refine e_s rfl ?_
      rw [show nI j + 1 = nI (j + 1) from nI_1 j]
      exact w_isw hS hc hR hV hl hie W (j + 1) (by omega) (fun t ht => by have := hw (t + 1) (Nat.succ_lt_succ ht); rw [show j + 1 + t = j + (t + 1) by omega]; exact this)
    · rw [decide_eq_false h, Bool.false_and]
      refine e_s rfl ?_
      exact e_r rfl
theorem r_isWord {k w v len i e : Nat} (hS : tS L s0 w = (150, 0)) (hc : I w 1 = 0) (hR : tR so r0 w 0 = some v) (hV : tS L s0 v = (203, len)) (hlen : (px_by.getD k []).length = len) (hl : len ≤ 60) (hW : ∀ t, t < len → I v t &&& 255 = (px_by.getD k []).getD t 0) (hie : i ≤ e) (he : e ≤ 160) : px_mt (d + 6) 21 [.ref 10, .ref w, .int (nI i), .int (nI e)] I J (tR so r0) (tS L s0) n q (some (.int (bI (isw (px_by.getD k []) (I 11) i e))), I, J, tR so r0, tS L s0, n, q) := by
  unfold px_mt isw
  refine e_s rfl ?_
  refine e_cv rfl rfl rfl hS rfl rfl (r_len (d := d) hS hc hR hV (by omega)) (by omega) ?_
  refine e_s rfl ?_
  refine e_s rfl ?_
  refine e_s rfl ?_
  rw [pk_sub hie]
  refine e_s rfl ?_
  refine e_b (fun h => ?_) (fun h => ?_)
  · have h2 := (nI_eq (by omega) (by omega)).mp h
    rw [show Nat.beq (e - i) (px_by.getD k []).length = true from Nat.beq_eq.mpr (by omega), Bool.true_and]
    refine e_s rfl ?_
    refine e_s rfl ?_
    exact w_isw hS hc hR hV (by omega) (by omega) (px_by.getD k []) 0 (by omega) (fun t ht => by rw [Nat.zero_add]; exact hW t (by omega))
  · have h2 : ¬ (e - i = (px_by.getD k []).length) := fun z => h ((nI_eq (by omega) (by omega)).mpr (by omega))
    rw [show Nat.beq (e - i) (px_by.getD k []).length = false from Bool.eq_false_iff.mpr (fun z => h2 (Nat.beq_eq.mp z)), Bool.false_and]
    refine e_s rfl ?_
    exact e_r rfl
theorem r_wtok {i e : Nat} (hro : ∀ a j, 1000002 < a → I a j = px_I0 xs a j) (hie : i ≤ e) (he : e ≤ 160) : px_mt (d + 7) 20 [.ref 10, .int (nI i), .int (nI e)] I J (tR so r0) (tS L s0) n q (some (.int (wcode (I 11) i e)), I, J, tR so r0, tS L s0, n, q) := by
  unfold px_mt wcode
  repeat refine e_s rfl ?_
  refine e_c rfl (r_isWord (d := d) (k := 1) rfl (hro 1000011 1 (by decide)) rfl rfl rfl (by decide) (fun t ht => (congrArg (· &&& 255) (hro 1000041 t (by decide))).trans (px_byok 1 (by decide) t (Nat.lt_trans ht (by decide)))) hie he) (by omega) ?_
  refine e_s rfl ?_
  refine e_z (fun h => ?_) (fun h => ?_)
  · rw [h]
    repeat refine e_s rfl ?_
    exact e_r rfl
  rw [h, cond_false]
  repeat refine e_s rfl ?_
  refine e_c rfl (r_isWord (d := d) (k := 2) rfl (hro 1000012 1 (by decide)) rfl rfl rfl (by decide) (fun t ht => (congrArg (· &&& 255) (hro 1000042 t (by decide))).trans (px_byok 2 (by decide) t (Nat.lt_trans ht (by decide)))) hie he) (by omega) ?_
  refine e_s rfl ?_
  refine e_z (fun h => ?_) (fun h => ?_)
  · rw [h]
    repeat refine e_s rfl ?_
    exact e_r rfl
  rw [h, cond_false]
  repeat refine e_s rfl ?_
  refine e_c rfl (r_isWord (d := d) (k := 3) rfl (hro 1000013 1 (by decide)) rfl rfl rfl (by decide) (fun t ht => (congrArg (· &&& 255) (hro 1000043 t (by decide))).trans (px_byok 3 (by decide) t (Nat.lt_trans ht (by decide)))) hie he) (by omega) ?_
  refine e_s rfl ?_
  refine e_z (fun h => ?_) (fun h => ?_)
  · rw [h]
    repeat refine e_s rfl ?_
    exact e_r rfl
  rw [h, cond_false]
  repeat refine e_s rfl ?_
  refine e_c rfl (r_isWord (d := d) (k := 4) rfl (hro 1000014 1 (by decide)) rfl rfl rfl (by decide) (fun t ht => (congrArg (· &&& 255) (hro 1000044 t (by decide))).trans (px_byok 4 (by decide) t (Nat.lt_trans ht (by decide)))) hie he) (by omega) ?_
  refine e_s rfl ?_
  refine e_z (fun h => ?_) (fun h => ?_)
  · rw [h]
    repeat refine e_s rfl ?_
    exact e_r rfl
  rw [h, cond_false]
  repeat refine e_s rfl ?_
  refine e_c rfl (r_isWord (d := d) (k := 5) rfl (hro 1000015 1 (by decide)) rfl rfl rfl (by decide) (fun t ht => (congrArg (· &&& 255) (hro 1000045 t (by decide))).trans (px_byok 5 (by decide) t (Nat.lt_trans ht (by decide)))) hie he) (by omega) ?_
  refine e_s rfl ?_
  refine e_z (fun h => ?_) (fun h => ?_)
  · rw [h]
    repeat refine e_s rfl ?_
    exact e_r rfl
  rw [h, cond_false]
  repeat refine e_s rfl ?_
  refine e_c rfl (r_isWord (d := d) (k := 6) rfl (hro 1000016 1 (by decide)) rfl rfl rfl (by decide) (fun t ht => (congrArg (· &&& 255) (hro 1000046 t (by decide))).trans (px_byok 6 (by decide) t (Nat.lt_trans ht (by decide)))) hie he) (by omega) ?_
  refine e_s rfl ?_
  refine e_z (fun h => ?_) (fun h => ?_)
  · rw [h]
    repeat refine e_s rfl ?_
    exact e_r rfl
  rw [h, cond_false]
  repeat refine e_s rfl ?_
  refine e_c rfl (r_isWord (d := d) (k := 7) rfl (hro 1000017 1 (by decide)) rfl rfl rfl (by decide) (fun t ht => (congrArg (· &&& 255) (hro 1000047 t (by decide))).trans (px_byok 7 (by decide) t (Nat.lt_trans ht (by decide)))) hie he) (by omega) ?_
  refine e_s rfl ?_
  refine e_z (fun h => ?_) (fun h => ?_)
  · rw [h]
    repeat refine e_s rfl ?_
    exact e_r rfl
  rw [h, cond_false]
  repeat refine e_s rfl ?_
  refine e_c rfl (r_isWord (d := d) (k := 8) rfl (hro 1000018 1 (by decide)) rfl rfl rfl (by decide) (fun t ht => (congrArg (· &&& 255) (hro 1000048 t (by decide))).trans (px_byok 8 (by decide) t (Nat.lt_trans ht (by decide)))) hie he) (by omega) ?_
  refine e_s rfl ?_
  refine e_z (fun h => ?_) (fun h => ?_)
  · rw [h]
    repeat refine e_s rfl ?_
    exact e_r rfl
  rw [h, cond_false]
  repeat refine e_s rfl ?_
  refine e_c rfl (r_isWord (d := d) (k := 9) rfl (hro 1000019 1 (by decide)) rfl rfl rfl (by decide) (fun t ht => (congrArg (· &&& 255) (hro 1000049 t (by decide))).trans (px_byok 9 (by decide) t (Nat.lt_trans ht (by decide)))) hie he) (by omega) ?_
  refine e_s rfl ?_
  refine e_z (fun h => ?_) (fun h => ?_)
  · rw [h]
    repeat refine e_s rfl ?_
    exact e_r rfl
  rw [h, cond_false]
  repeat refine e_s rfl ?_
  refine e_c rfl (r_isWord (d := d) (k := 10) rfl (hro 1000020 1 (by decide)) rfl rfl rfl (by decide) (fun t ht => (congrArg (· &&& 255) (hro 1000050 t (by decide))).trans (px_byok 10 (by decide) t (Nat.lt_trans ht (by decide)))) hie he) (by omega) ?_
  refine e_s rfl ?_
  refine e_z (fun h => ?_) (fun h => ?_)
  · rw [h]
    repeat refine e_s rfl ?_
    exact e_r rfl
  rw [h, cond_false]
  repeat refine e_s rfl ?_
  refine e_c rfl (r_isWord (d := d) (k := 11) rfl (hro 1000021 1 (by decide)) rfl rfl rfl (by decide) (fun t ht => (congrArg (· &&& 255) (hro 1000051 t (by decide))).trans (px_byok 11 (by decide) t (Nat.lt_trans ht (by decide)))) hie he) (by omega) ?_
  refine e_s rfl ?_
  refine e_z (fun h => ?_) (fun h => ?_)
  · rw [h]
    repeat refine e_s rfl ?_
    exact e_r rfl
  rw [h, cond_false]
  repeat refine e_s rfl ?_
  refine e_c rfl (r_isWord (d := d) (k := 12) rfl (hro 1000022 1 (by decide)) rfl rfl rfl (by decide) (fun t ht => (congrArg (· &&& 255) (hro 1000052 t (by decide))).trans (px_byok 12 (by decide) t (Nat.lt_trans ht (by decide)))) hie he) (by omega) ?_
  refine e_s rfl ?_
  refine e_z (fun h => ?_) (fun h => ?_)
  · rw [h]
    repeat refine e_s rfl ?_
    exact e_r rfl
  rw [h, cond_false]
  repeat refine e_s rfl ?_
  exact e_r rfl
theorem w_ntok {e : Nat} (he : e ≤ 160) : ∀ f i (v : Int32), i + f = e → ∀ a : Option Value, px_ev (d + 1) 25 15 [some (.ref 10), a, some (.int (nI e)), some (.int v), some (.int (nI i))] [] I J (tR so r0) (tS L s0) n q (some (.int (nval (I 11) f i v)), I, J, tR so r0, tS L s0, n, q)
  | 0, i, v, hi, a => by
    repeat refine e_s rfl ?_
    refine e_bt (nI_le (by omega) (by omega)) ?_
    repeat refine e_s rfl ?_
    exact e_r rfl
  | f + 1, i, v, hi, a => by
    repeat refine e_s rfl ?_
    refine e_bf (nI_ge (by omega) (by omega)) ?_
    repeat refine e_s rfl ?_
    refine e_ia rfl rfl rfl (show i < 160 by omega) (by decide) ?_
    refine e_s rfl ?_
    refine e_s rfl ?_
    refine e_s rfl ?_
    refine e_s rfl ?_
    refine e_s rfl ?_
    refine e_s rfl ?_
    rw [show nI i + 1 = nI (i + 1) from nI_1 i]
    exact w_ntok he f (i + 1) _ (by omega) a
theorem r_ntok {i e : Nat} (hie : i ≤ e) (he : e ≤ 160) : px_mt (d + 1) 25 [.ref 10, .int (nI i), .int (nI e)] I J (tR so r0) (tS L s0) n q (some (.int (ncode (I 11) i e)), I, J, tR so r0, tS L s0, n, q) := by
  unfold px_mt ncode
  refine e_s rfl ?_
  refine e_s rfl ?_
  refine e_s rfl ?_
  rw [pk_sub hie]
  refine e_s rfl ?_
  refine e_s rfl ?_
  refine e_b (fun h => ?_) (fun h => ?_)
  · have h2 : e - i ≤ 4 := (nI_leI (b := 4) (by omega) (by omega)).mp h
    rw [if_neg (by omega)]
    refine e_s rfl ?_
    refine e_s rfl ?_
    refine e_s rfl ?_
    refine e_s rfl ?_
    exact w_ntok he (e - i) i 0 (by omega) _
  · have h2 : ¬ e - i ≤ 4 := fun z => h ((nI_leI (b := 4) (by omega) (by omega)).mpr z)
    rw [if_pos (by omega)]
    refine e_s rfl ?_
    exact e_r rfl
end PXT2
