/-! rows of the pure machine: goal first -/
def px_1 (m pc : Nat) (pl : px_L) (st : List Value) (I : px_HI) (J : px_HJ) (R : px_HR) (S : px_HS) (n q : Nat) : Option (Nat × px_L × List Value × px_G) := match px_T m pc with
  | none => none
  | some i => cond (Nat.beq i.1 47 || (Nat.ble 21 i.1 && Nat.ble i.1 24)) none (px_st i pl st I J R S n q)
def px_2 (m pc : Nat) (st : List Value) : Option (Option Value) := match px_T m pc with
  | none => none
  | some i => px_re i st
def px_3 (m pc : Nat) (st : List Value) (S : px_HS) : Option (Nat × Nat × List Value × List Value) := match px_T m pc with
  | none => none
  | some i => cond (Nat.beq i.1 47) (match px_ca i st S with
    | none => none
    | some (k, as, rest) => cond (px_lo rest && Nat.ble (px_sl as).length (px_nl k)) (some (i.2.2.2.2.1, k, as, rest)) none) none
/-- a method, from its start, with these arguments -/
def px_mt (d k : Nat) (as : List Value) (I : px_HI) (J : px_HJ) (R : px_HR) (S : px_HS) (n q : Nat) (r : Option Value × px_G) : Prop := px_ev d k 0 (px_en as (px_nl k)) [] I J R S n q r
section PXR
variable {d m pc pc' n n' q q' : Nat} {pl pl' : px_L} {st st' : List Value} {I I' : px_HI} {J J' : px_HJ} {R R' : px_HR} {S S' : px_HS} {r : Option Value × px_G}
theorem e_s (h : px_1 m pc pl st I J R S n q = some (pc', pl', st', I', J', R', S', n', q')) (k : px_ev (d + 1) m pc' pl' st' I' J' R' S' n' q' r) : px_ev (d + 1) m pc pl st I J R S n q r := by
  obtain ⟨f, hf⟩ := k
  unfold px_1 at h
  split at h
  · cases h
  · rename_i i hi
    cases hc : (Nat.beq i.1 47 || (Nat.ble 21 i.1 && Nat.ble i.1 24)) with
    | true => rw [hc] at h; cases h
    | false =>
      rw [hc, cond_false] at h
      refine ⟨f + 1, ?_⟩
      unfold px_run
      rw [hi]
      dsimp only
      split
      · rename_i h47; rw [h47] at hc; cases hc
      · rename_i h47; rw [h47] at hc; cases hc
      · rename_i h47; rw [h47] at hc; cases hc
      · rename_i h47; rw [h47] at hc; cases hc
      · rename_i h47; rw [h47] at hc; cases hc
      · rw [h]
        exact hf
theorem e_r {v : Option Value} (h : px_2 m pc st = some v) : px_ev (d + 1) m pc pl st I J R S n q (v, I, J, R, S, n, q) := by
  unfold px_2 at h
  split at h
  · cases h
  · rename_i i hi
    refine ⟨1, ?_⟩
    unfold px_run
    rw [hi]
    dsimp only
    obtain ⟨op, a, b, cc, nx, tb, w⟩ := i
    dsimp only
    split
    · unfold px_re at h; dsimp only at h; cases h
    · rw [h]
    · rw [h]
    · rw [h]
    · rw [h]
    · rename_i h1 h2 h3 h4 h5
      unfold px_re at h
      dsimp only at h
      split at h
      · exact absurd rfl h2
      · exact absurd rfl h3
      · exact absurd rfl h4
      · exact absurd rfl h5
      · cases h
theorem e_c {d' nx k n1 q1 : Nat} {as rest : List Value} {v : Option Value} {I1 : px_HI} {J1 : px_HJ} {R1 : px_HR} {S1 : px_HS} (h : px_3 m pc st S = some (nx, k, as, rest)) (hc : px_mt d' k as I J R S n q (v, I1, J1, R1, S1, n1, q1)) (hd : d' ≤ d) (kk : px_ev (d + 1) m nx pl (v.toList ++ rest) I1 J1 R1 S1 n1 q1 r) : px_ev (d + 1) m pc pl st I J R S n q r := by
  obtain ⟨f, hf⟩ := hc
  obtain ⟨f2, hf2⟩ := kk
  unfold px_3 at h
  split at h
  · cases h
  · rename_i i hi
    cases h47 : Nat.beq i.1 47 with
    | false => rw [h47] at h; cases h
    | true =>
      rw [h47, cond_true] at h
      split at h
      · cases h
      · rename_i k1 as1 rest1 hca
        cases hz : (px_lo rest1 && Nat.ble (px_sl as1).length (px_nl k1)) with
        | false => rw [hz] at h; cases h
        | true =>
          rw [hz, cond_true] at h
          cases h
          refine ⟨f + f2 + 1, ?_⟩
          unfold px_run
          rw [hi]
          dsimp only
          split
          · rw [hca]
            dsimp only
            rw [if_pos hz, px_mono f (f + f2) d' d _ _ _ _ _ _ (by omega) hd hf]
            exact px_mono f2 (f + f2) (d + 1) (d + 1) _ _ _ _ _ _ (by omega) (Nat.le_refl _) hf2
          · rename_i z; rw [z] at h47; cases h47
          · rename_i z; rw [z] at h47; cases h47
          · rename_i z; rw [z] at h47; cases h47
          · rename_i z; rw [z] at h47; cases h47
          · rename_i z z1 z2 z3 z4; exact absurd (Nat.beq_eq.mp h47) z
theorem px_mt.mono {d d' k : Nat} {as : List Value} (h : px_mt d k as I J R S n q r) (hd : d ≤ d') : px_mt d' k as I J R S n q r := by
  obtain ⟨f, hf⟩ := h
  exact ⟨f, px_mono f f d d' _ _ _ _ _ _ (Nat.le_refl _) hd hf⟩
end PXR
