/-! rows with conditions: arrays, objects at any address, branches -/
section PXV
variable {d m pc n q a b c nx len kd j : Nat} {tb : List (Nat × Nat)} {v : Value} {pl : px_L} {st : List Value} {I : px_HI} {J : px_HJ} {R : px_HR} {S : px_HS} {r : Option Value × px_G}
theorem e_bt {a b : Nat} {c : Prop} {ic : Decidable c} (h : c) (k : px_ev d m a pl st I J R S n q r) : px_ev d m (cond (decide c) a b) pl st I J R S n q r := by rw [decide_eq_true h]; exact k
theorem e_bf {a b : Nat} {c : Prop} {ic : Decidable c} (h : ¬ c) (k : px_ev d m b pl st I J R S n q r) : px_ev d m (cond (decide c) a b) pl st I J R S n q r := by rw [decide_eq_false h]; exact k
theorem e_pc {p1 p2 : Nat} (h : p1 = p2) (k : px_ev d m p2 pl st I J R S n q r) : px_ev d m p1 pl st I J R S n q r := h ▸ k
theorem px_1of {i : px_I} (hT : px_T m pc = some i) (h : (Nat.beq i.1 47 || (Nat.ble 21 i.1 && Nat.ble i.1 24)) = false) : px_1 m pc pl st I J R S n q = px_st i pl st I J R S n q := by
  unfold px_1
  rw [hT]
  show cond _ none (px_st i pl st I J R S n q) = _
  rw [h]
  rfl
theorem px_inN (hj : j < len) (hl : len < 2 ^ 31) : px_in (nI j) len = true := decide_eq_true (vp_in_nI hj hl)
theorem e_ia {o : Nat} (hT : px_T m pc = some (38, a, b, c, nx, tb, v)) (hS : S o = (kd, len)) (hk : (Nat.beq kd 100 || Nat.beq kd 200) = true) (hj : j < len) (hl : len < 2 ^ 31) (k : px_ev (d + 1) m nx pl (.int (I o j) :: st) I J R S n q r) : px_ev (d + 1) m pc pl (.int (nI j) :: .ref o :: st) I J R S n q r := by
  refine e_s ?_ k
  rw [px_1of hT rfl]
  simp only [px_st, hS, hk, px_inN hj hl, Bool.and_self, if_true, nI_clamp (Nat.lt_trans hj hl)]
theorem e_za {o : Nat} (hT : px_T m pc = some (40, a, b, c, nx, tb, v)) (hS : S o = (kd, len)) (hk : (Nat.beq kd 102 || Nat.beq kd 203) = true) (hj : j < len) (hl : len < 2 ^ 31) (k : px_ev (d + 1) m nx pl (.int (I o j) :: st) I J R S n q r) : px_ev (d + 1) m pc pl (.int (nI j) :: .ref o :: st) I J R S n q r := by
  refine e_s ?_ k
  rw [px_1of hT rfl]
  simp only [px_st, hS, hk, px_inN hj hl, Bool.and_self, if_true, nI_clamp (Nat.lt_trans hj hl)]
theorem e_la {o : Nat} (hT : px_T m pc = some (39, a, b, c, nx, tb, v)) (hS : S o = (kd, len)) (hk : Nat.beq kd 101 = true) (hj : j < len) (hl : len < 2 ^ 31) (k : px_ev (d + 1) m nx pl (.long (J o j) :: st) I J R S n q r) : px_ev (d + 1) m pc pl (.int (nI j) :: .ref o :: st) I J R S n q r := by
  refine e_s ?_ k
  rw [px_1of hT rfl]
  simp only [px_st, hS, hk, px_inN hj hl, Bool.and_self, if_true, nI_clamp (Nat.lt_trans hj hl)]
theorem e_aa {o : Nat} {x : Option Nat} (hT : px_T m pc = some (41, a, b, c, nx, tb, v)) (hS : S o = (kd, len)) (hk : (tb.lookup kd).isSome = true) (hj : j < len) (hl : len < 2 ^ 31) (hx : R o j = x) (k : px_ev (d + 1) m nx pl (px_rv x :: st) I J R S n q r) : px_ev (d + 1) m pc pl (.int (nI j) :: .ref o :: st) I J R S n q r := by
  refine e_s ?_ k
  rw [px_1of hT rfl]
  simp only [px_st, hS, hk, px_inN hj hl, Bool.and_self, if_true, nI_clamp (Nat.lt_trans hj hl), hx]
theorem e_is {o : Nat} {y : Int32} (hT : px_T m pc = some (42, a, b, c, nx, tb, v)) (hS : S o = (kd, len)) (hk : Nat.beq kd 100 = true) (hj : j < len) (hl : len < 2 ^ 31) (k : px_ev (d + 1) m nx pl st (px_u I o j y) J R S n q r) : px_ev (d + 1) m pc pl (.int y :: .int (nI j) :: .ref o :: st) I J R S n q r := by
  refine e_s ?_ k
  rw [px_1of hT rfl]
  simp only [px_st, hS, hk, px_inN hj hl, Bool.and_self, if_true, nI_clamp (Nat.lt_trans hj hl)]
theorem e_ls {o : Nat} {y : Int64} (hT : px_T m pc = some (43, a, b, c, nx, tb, v)) (hS : S o = (kd, len)) (hk : Nat.beq kd 101 = true) (hj : j < len) (hl : len < 2 ^ 31) (k : px_ev (d + 1) m nx pl st I (px_u J o j y) R S n q r) : px_ev (d + 1) m pc pl (.long y :: .int (nI j) :: .ref o :: st) I J R S n q r := by
  refine e_s ?_ k
  rw [px_1of hT rfl]
  simp only [px_st, hS, hk, px_inN hj hl, Bool.and_self, if_true, nI_clamp (Nat.lt_trans hj hl)]
theorem e_zs {o : Nat} {y : Int32} (hT : px_T m pc = some (44, a, b, c, nx, tb, v)) (hS : S o = (kd, len)) (hk : Nat.beq kd 102 = true) (hj : j < len) (hl : len < 2 ^ 31) (hy : y = 0 ∨ y = 1) (k : px_ev (d + 1) m nx pl st (px_u I o j y) J R S n q r) : px_ev (d + 1) m pc pl (.int y :: .int (nI j) :: .ref o :: st) I J R S n q r := by
  refine e_s ?_ k
  rw [px_1of hT rfl]
  have hf : px_fit 1 y = true := decide_eq_true hy
  simp only [px_st, hS, hk, px_inN hj hl, hf, Bool.and_self, if_true, nI_clamp (Nat.lt_trans hj hl)]
theorem e_as {o y : Nat} {kx : Nat} {lx : Nat} (hT : px_T m pc = some (45, a, b, c, nx, tb, v)) (hS : S o = (kd, len)) (hS2 : S y = (kx, lx)) (hk : tb.contains (kd, kx) = true) (hj : j < len) (hl : len < 2 ^ 31) (k : px_ev (d + 1) m nx pl st I J (px_u R o j (some y)) S n q r) : px_ev (d + 1) m pc pl (.ref y :: .int (nI j) :: .ref o :: st) I J R S n q r := by
  refine e_s ?_ k
  rw [px_1of hT rfl]
  simp only [px_st, hS, hS2, hk, px_inN hj hl, Bool.and_self, if_true, nI_clamp (Nat.lt_trans hj hl)]
theorem e_gi {o : Nat} (hT : px_T m pc = some (28, a, b, c, nx, tb, v)) (hS : S o = (kd, len)) (hk : (tb.lookup kd).isSome = true) (k : px_ev (d + 1) m nx pl (.int (I o a) :: st) I J R S n q r) : px_ev (d + 1) m pc pl (.ref o :: st) I J R S n q r := by
  refine e_s ?_ k
  rw [px_1of hT rfl]
  simp only [px_st, hS, hk, if_true]
theorem e_gr {o : Nat} {x : Option Nat} (hT : px_T m pc = some (30, a, b, c, nx, tb, v)) (hS : S o = (kd, len)) (hk : (tb.lookup kd).isSome = true) (hx : R o a = x) (k : px_ev (d + 1) m nx pl (px_rv x :: st) I J R S n q r) : px_ev (d + 1) m pc pl (.ref o :: st) I J R S n q r := by
  refine e_s ?_ k
  rw [px_1of hT rfl]
  simp only [px_st, hS, hk, if_true, hx]
theorem e_pi {o : Nat} {x : Int32} (hT : px_T m pc = some (31, a, b, c, nx, tb, v)) (hS : S o = (kd, len)) (hk : (tb.lookup kd).isSome = true) (hf : px_fit b x = true) (k : px_ev (d + 1) m nx pl st (px_u I o a x) J R S n q r) : px_ev (d + 1) m pc pl (.int x :: .ref o :: st) I J R S n q r := by
  refine e_s ?_ k
  rw [px_1of hT rfl]
  simp only [px_st, hS, hk, hf, Bool.and_self, if_true]
theorem e_pr {o x : Nat} (hT : px_T m pc = some (33, a, b, c, nx, tb, v)) (hS : S o = (kd, len)) (hk : (tb.lookup kd).isSome = true) (k : px_ev (d + 1) m nx pl st I J (px_u R o a (some x)) S n q r) : px_ev (d + 1) m pc pl (.ref x :: .ref o :: st) I J R S n q r := by
  refine e_s ?_ k
  rw [px_1of hT rfl]
  simp only [px_st, hS, hk, if_true]
theorem e_al {o : Nat} (hT : px_T m pc = some (37, a, b, c, nx, tb, v)) (hS : S o = (kd, len)) (hk : (Nat.ble 100 kd && !Nat.beq kd 150) = true) (k : px_ev (d + 1) m nx pl (.int (nI len) :: st) I J R S n q r) : px_ev (d + 1) m pc pl (.ref o :: st) I J R S n q r := by
  refine e_s ?_ k
  rw [px_1of hT rfl]
  simp only [px_st, hS, hk, if_true]
  rfl
theorem e_in {o z : Nat} (hT : px_T m pc = some (46, a, b, c, nx, tb, v)) (hS : S o = (kd, len)) (hk : tb.lookup kd = some z) (k : px_ev (d + 1) m nx pl (.int (nI z) :: st) I J R S n q r) : px_ev (d + 1) m pc pl (.ref o :: st) I J R S n q r := by
  refine e_s ?_ k
  rw [px_1of hT rfl]
  simp only [px_st, hS, hk]
  rfl
/-- a call on an object at any address -/
theorem e_cv {d' o k1 n1 q1 : Nat} {rest : List Value} {w : Option Value} {I1 : px_HI} {J1 : px_HJ} {R1 : px_HR} {S1 : px_HS} (hT : px_T m pc = some (47, a, b + 1, c, nx, tb, v)) (hle : Nat.ble a st.length = true) (hdr : st.drop a = .ref o :: rest) (hS : S o = (kd, len)) (hk : tb.lookup kd = some k1) (hlo : (px_lo rest && Nat.ble (px_sl (.ref o :: (st.take a).reverse)).length (px_nl k1)) = true) (hc : px_mt d' k1 (.ref o :: (st.take a).reverse) I J R S n q (w, I1, J1, R1, S1, n1, q1)) (hd : d' ≤ d) (kk : px_ev (d + 1) m nx pl (w.toList ++ rest) I1 J1 R1 S1 n1 q1 r) : px_ev (d + 1) m pc pl st I J R S n q r := by
  refine e_c (nx := nx) (k := k1) (as := .ref o :: (st.take a).reverse) (rest := rest) ?_ hc hd kk
  unfold px_3
  rw [hT]
  simp only [px_ca, hle, if_true, hdr, hS, hk]
  show cond (Nat.beq 47 47) (cond (px_lo rest && Nat.ble (px_sl (.ref o :: (st.take a).reverse)).length (px_nl k1)) _ none) none = _
  rw [hlo]
  rfl
end PXV
