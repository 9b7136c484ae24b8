/-! copy, on both sides -/
theorem sub_T {m : Nat} {v : Int32} (hm : m ≤ 40) (hv : ¬ v < 0) : (nI m - v).toInt = (m : Int) - v.toInt := by
  obtain ⟨k, hk, rfl⟩ := nI_of hv
  rw [Int32.toInt_sub, nI_toInt (by omega), nI_toInt hk]
  exact Int.bmod_eq_of_le (by omega) (by omega)
def hld (m : Nat) (y v : Int32) : Prop := ¬ y < 0 ∧ ¬ v < 0 ∧ y ≤ nI m - v
section PXCO
variable {d D n q L cc tc rl sg tp s : Nat} {so : Option Nat} {dr : px_HR} {ds : px_HS} {I I0 : px_HI} {J : px_HJ} {xs : Nat → Int32} {ca kd nb ta ua wa tz : Nat → Nat} {x y z v w : Int32}
theorem r_holds {m : Nat} (hs : s < 4) (hm : m ≤ 40) (hz : I (20 + 2 * s) 2 = nI m) : (hld m y v → px_mt (d + 1) 137 [.ref (20 + 2 * s), .int y, .int v] I J (dR so dr) (dS L ds) n q (some (.int 1), I, J, dR so dr, dS L ds, n, q)) ∧ (¬ hld m y v → px_mt (d + 1) 137 [.ref (20 + 2 * s), .int y, .int v] I J (dR so dr) (dS L ds) n q (some (.int 0), I, J, dR so dr, dS L ds, n, q)) := by
  obtain ⟨s1, s2, s3, s4⟩ := sh_S (ds := ds) (L := L) (so := so) (dr := dr) hs
  constructor
  · rintro ⟨g1, g2, g3⟩
    unfold px_mt
    repeat refine e_s rfl ?_
    refine e_bf g1 ?_
    repeat refine e_s rfl ?_
    refine e_bf g2 ?_
    repeat refine e_s rfl ?_
    refine e_gi rfl s1 rfl ?_
    rw [hz]
    repeat refine e_s rfl ?_
    refine e_bf (fun g => ?_) ?_
    · rw [Int32.le_iff_toInt_le, sub_T hm g2] at g3
      rw [Int32.lt_iff_toInt_lt, nI_toInt (by omega)] at g
      rw [Int32.lt_iff_toInt_lt, show (0 : Int32).toInt = 0 by decide] at g1
      omega
    repeat refine e_s rfl ?_
    refine e_gi rfl s1 rfl ?_
    rw [hz]
    repeat refine e_s rfl ?_
    refine e_bf (Int32.not_lt.mpr g3) ?_
    repeat refine e_s rfl ?_
    exact e_r rfl
  · intro hn
    unfold px_mt
    repeat refine e_s rfl ?_
    refine e_b (fun g => ?_) (fun g1 => ?_)
    · repeat refine e_s rfl ?_
      exact e_r rfl
    repeat refine e_s rfl ?_
    refine e_b (fun g => ?_) (fun g2 => ?_)
    · repeat refine e_s rfl ?_
      exact e_r rfl
    repeat refine e_s rfl ?_
    refine e_gi rfl s1 rfl ?_
    rw [hz]
    repeat refine e_s rfl ?_
    refine e_b (fun g => ?_) (fun g3 => ?_)
    · repeat refine e_s rfl ?_
      exact e_r rfl
    repeat refine e_s rfl ?_
    refine e_gi rfl s1 rfl ?_
    rw [hz]
    repeat refine e_s rfl ?_
    refine e_bt (Int32.not_le.mp (fun g => hn ⟨g1, g2, g⟩)) ?_
    repeat refine e_s rfl ?_
    exact e_r rfl
theorem w_cpF {o i j N : Nat} (hs : s < 4) (ho : o < 4) (hi : i + N ≤ 40) (hj : j + N ≤ 40) (hn : ∀ q q', q < q' → q' < N → ¬ 40 * o + j + q = 40 * s + i + q') : ∀ k t (I : px_HI) (x8 : Option Value), t + k = N → (∀ q, q < t → I 48 (40 * o + j + q) = I0 48 (40 * s + i + q)) → (∀ a p, (a = 48 → p < 40 * o + j ∨ 40 * o + j + t ≤ p) → I a p = I0 a p) → ∃ I', px_ev (d + 1) 234 121 [some (.ref 31), some (.int (nI s)), some (.int (nI i)), some (.int (nI o)), some (.int (nI j)), some (.int (nI N)), some (.int 0), some (.int (nI t)), x8] [] I J (dR so dr) (dS L ds) n q (some (.int (nI N)), I', J, dR so dr, dS L ds, n, q) ∧ (∀ q, q < N → I' 48 (40 * o + j + q) = I0 48 (40 * s + i + q)) ∧ (∀ a p, (a = 48 → p < 40 * o + j ∨ 40 * o + j + N ≤ p) → I' a p = I0 a p)
  | 0, t, I, x8, ht, h1, h2 => by
    have e : t = N := by omega
    subst e
    refine ⟨I, ?_, h1, h2⟩
    repeat refine e_s rfl ?_
    refine e_bt (nI_le (by omega) (by omega)) ?_
    repeat refine e_s rfl ?_
    exact e_r rfl
  | k + 1, t, I, x8, ht, h1, h2 => by
    obtain ⟨I', r1, r2, r3⟩ := w_cpF hs ho hi hj hn k (t + 1) (px_u I 48 (40 * o + j + t) (I 48 (40 * s + i + t))) (some (.int (nI t))) (by omega) (fun q hq => by
      by_cases e : q = t
      · subst e
        rw [u_eq]
        refine h2 48 _ (fun _ => ?_)
        by_cases g : 40 * s + i + q < 40 * o + j ∨ 40 * o + j + q ≤ 40 * s + i + q
        · exact g
        · exact absurd (show 40 * o + j + (40 * s + i + q - (40 * o + j)) = 40 * s + i + q by omega) (hn _ q (by omega) (by omega))
      · rw [u_ne (fun _ => by omega)]
        exact h1 q (by omega)) (fun a p g => by
      rw [u_ne (fun e => by have := g e; omega)]
      exact h2 a p (fun e => by have := g e; omega))
    refine ⟨I', ?_, r2, r3⟩
    repeat refine e_s rfl ?_
    refine e_bf (nI_ge (by omega) (by omega)) ?_
    repeat refine e_s rfl ?_
    rw [show (40 : Int32) * nI s = nI (40 * s) from pk_mul 40 s, show (40 : Int32) * nI o = nI (40 * o) from pk_mul 40 o, nI_add, nI_add, nI_add, nI_add]
    refine e_ia rfl rfl rfl (show 40 * s + i + t < 160 by omega) (by decide) ?_
    refine e_is rfl rfl rfl (show 40 * o + j + t < 160 by omega) (by decide) ?_
    refine e_s rfl ?_
    refine e_s rfl ?_
    rw [nI_1]
    exact r1
theorem w_cpB {o i j N : Nat} (hs : s < 4) (ho : o < 4) (hi : i + N ≤ 40) (hj : j + N ≤ 40) (hn : ∀ q q', q' < q → q < N → ¬ 40 * o + j + q = 40 * s + i + q') : ∀ k t (I : px_HI) (x8 : Option Value), t + k = N → (∀ q, k ≤ q → q < N → I 48 (40 * o + j + q) = I0 48 (40 * s + i + q)) → (∀ a p, (a = 48 → p < 40 * o + j + k ∨ 40 * o + j + N ≤ p) → I a p = I0 a p) → ∃ I', px_ev (d + 1) 234 121 [some (.ref 31), some (.int (nI s)), some (.int (nI i)), some (.int (nI o)), some (.int (nI j)), some (.int (nI N)), some (.int 1), some (.int (nI t)), x8] [] I J (dR so dr) (dS L ds) n q (some (.int (nI N)), I', J, dR so dr, dS L ds, n, q) ∧ (∀ q, q < N → I' 48 (40 * o + j + q) = I0 48 (40 * s + i + q)) ∧ (∀ a p, (a = 48 → p < 40 * o + j ∨ 40 * o + j + N ≤ p) → I' a p = I0 a p)
  | 0, t, I, x8, ht, h1, h2 => by
    have e : t = N := by omega
    subst e
    refine ⟨I, ?_, fun q hq => h1 q (by omega) hq, fun a p g => h2 a p (fun e => by have := g e; omega)⟩
    repeat refine e_s rfl ?_
    refine e_bt (nI_le (by omega) (by omega)) ?_
    repeat refine e_s rfl ?_
    exact e_r rfl
  | k + 1, t, I, x8, ht, h1, h2 => by
    obtain ⟨I', r1, r2, r3⟩ := w_cpB hs ho hi hj hn k (t + 1) (px_u I 48 (40 * o + j + k) (I 48 (40 * s + i + k))) (some (.int (nI k))) (by omega) (fun q hq hq2 => by
      by_cases e : q = k
      · subst e
        rw [u_eq]
        refine h2 48 _ (fun _ => ?_)
        by_cases g : 40 * s + i + q < 40 * o + j + (q + 1) ∨ 40 * o + j + N ≤ 40 * s + i + q
        · exact g
        · exact absurd (show 40 * o + j + (40 * s + i + q - (40 * o + j)) = 40 * s + i + q by omega) (hn _ q (by omega) (by omega))
      · rw [u_ne (fun _ => by omega)]
        exact h1 q (by omega) hq2) (fun a p g => by
      rw [u_ne (fun e => by have := g e; omega)]
      exact h2 a p (fun e => by have := g e; omega))
    refine ⟨I', ?_, r2, r3⟩
    have ek : nI N - 1 - nI t = nI k := by
      rw [show N = (N - 1) + 1 by omega, nI_pred, pk_sub (by omega), show N - 1 - t = k by omega]
    repeat refine e_s rfl ?_
    refine e_bf (nI_ge (by omega) (by omega)) ?_
    repeat refine e_s rfl ?_
    rw [ek, show (40 : Int32) * nI s = nI (40 * s) from pk_mul 40 s, show (40 : Int32) * nI o = nI (40 * o) from pk_mul 40 o, nI_add, nI_add, nI_add, nI_add]
    refine e_ia rfl rfl rfl (show 40 * s + i + k < 160 by omega) (by decide) ?_
    refine e_is rfl rfl rfl (show 40 * o + j + k < 160 by omega) (by decide) ?_
    refine e_s rfl ?_
    refine e_s rfl ?_
    rw [nI_1]
    exact r1
end PXCO
