/-! what is read hangs on the bytes below the size alone -/
section PXCG
variable {b b' : Nat → Int32} {z : Nat}
theorem skp_c {p : Int32 → Bool} : ∀ f i, (∀ j, i ≤ j → j < i + f → b j = b' j) → skp p b f i = skp p b' f i
  | 0, _, _ => rfl
  | f + 1, i, h => by
    unfold skp
    rw [h i (by omega) (by omega), skp_c f (i + 1) (fun j h1 h2 => h j (by omega) (by omega))]
theorem isl_c : ∀ (w : List Int32) i, (∀ j, i ≤ j → j < i + w.length → b j = b' j) → isl b w i = isl b' w i
  | [], _, _ => rfl
  | x :: w, i, h => by
    unfold isl
    have hl : (x :: w).length = w.length + 1 := rfl
    rw [h i (by omega) (by omega), isl_c w (i + 1) (fun j h1 h2 => h j (by omega) (by omega))]
theorem isw_c {w : List Int32} {i e : Nat} (h : ∀ j, i ≤ j → j < e → b j = b' j) : isw w b i e = isw w b' i e := by
  unfold isw
  cases hb : Nat.beq (e - i) w.length with
  | false => rfl
  | true =>
    have hl := Nat.beq_eq.mp hb
    rw [isl_c w i (fun j h1 h2 => h j h1 (by omega))]
theorem nval_c : ∀ f i v, (∀ j, i ≤ j → j < i + f → b j = b' j) → nval b f i v = nval b' f i v
  | 0, _, _, _ => rfl
  | f + 1, i, v, h => by
    unfold nval
    rw [h i (by omega) (by omega), nval_c f (i + 1) _ (fun j h1 h2 => h j (by omega) (by omega))]
theorem tke_c {p : Nat} (h : ∀ j, j < z → b j = b' j) (hp : p < z) : tke b z p = tke b' z p := by
  unfold tke
  rw [h p hp, skp_c (z - p) p (fun j _ h2 => h j (by omega)), skp_c (z - p) p (fun j _ h2 => h j (by omega))]
theorem tke_leC {p : Nat} (hp : p < z) : tke b z p ≤ z := by
  unfold tke
  have h1 := skp_le isLt b (z - p) p
  have h2 := skp_le isDg b (z - p) p
  cases isLt (b p) with
  | true => show skp isLt b (z - p) p ≤ z; omega
  | false =>
    cases isDg (b p) with
    | true => show skp isDg b (z - p) p ≤ z; omega
    | false => show p + 1 ≤ z; omega
theorem tkc_c {p : Nat} (h : ∀ j, j < z → b j = b' j) : tkc b z p = tkc b' z p := by
  unfold tkc
  by_cases hp : z ≤ p
  · rw [if_pos hp, if_pos hp]
  · rw [if_neg hp, if_neg hp]
    have hp' : p < z := by omega
    have hle := tke_leC (b := b') hp'
    have hw : ∀ w : List Int32, isw w b p (tke b' z p) = isw w b' p (tke b' z p) := fun w => isw_c (fun j _ h2 => h j (by omega))
    have hc : wcode b p (tke b' z p) = wcode b' p (tke b' z p) := by
      unfold wcode
      simp only [hw]
    have hn : ncode b p (tke b' z p) = ncode b' p (tke b' z p) := by
      unfold ncode
      by_cases g : 4 < tke b' z p - p
      · rw [if_pos g, if_pos g]
      · rw [if_neg g, if_neg g, nval_c _ _ _ (fun j h1 h2 => h j (by omega))]
    rw [tke_c h hp', hc, hn, h p hp']
theorem sk_c {i : Nat} (h : ∀ j, j < z → b j = b' j) : sk b z i = sk b' z i := by
  unfold sk
  exact skp_c _ _ (fun j h1 h2 => h j (by omega))
theorem nxt_c {p : Nat} (h : ∀ j, j < z → b j = b' j) : nxt b z p = nxt b' z p := by
  unfold nxt
  by_cases hp : z ≤ p
  · rw [if_pos hp, if_pos hp]
  · rw [if_neg hp, if_neg hp, tke_c h (by omega), sk_c h]
theorem PP_cg (h : ∀ j, j < z → b j = b' j) : ∀ f m dep p acc v, PP b z f m dep p acc v = PP b' z f m dep p acc v
  | 0, _, _, _, _, _ => rfl
  | f + 1, m, dep, p, acc, v => by
    have ht : ∀ p, tkc b z p = tkc b' z p := fun p => tkc_c h
    have hx : ∀ p, nxt b z p = nxt b' z p := fun p => nxt_c h
    have ih := PP_cg h f
    unfold PP
    simp only [ht, hx, ih]
theorem rd_c (h : ∀ j, j < z → b j = b' j) : rd1 b z = rd1 b' z ∧ rd2 b z = rd2 b' z ∧ rd3 b z = rd3 b' z ∧ rdOK b z = rdOK b' z := by
  have ht : ∀ p, tkc b z p = tkc b' z p := fun p => tkc_c h
  have hx : ∀ p, nxt b z p = nxt b' z p := fun p => nxt_c h
  have hP : ∀ w p acc, pPart b z w p acc = pPart b' z w p acc := fun w p acc => by
    unfold pPart
    simp only [ht, hx, PP_cg h]
  have h1 : rd1 b z = rd1 b' z := by
    unfold rd1
    rw [show pos b z 0 = pos b' z 0 from sk_c h, hP]
  have h2 : rd2 b z = rd2 b' z := by
    unfold rd2
    simp only [h1, hP]
  have h3 : rd3 b z = rd3 b' z := by
    unfold rd3
    simp only [h2, hP]
  refine ⟨h1, h2, h3, ?_⟩
  unfold rdOK
  rw [h3, ht]
end PXCG
