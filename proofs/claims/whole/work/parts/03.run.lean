/-! the run of the pure machine over the claim's tables, and its rows -/
def px_run : Nat → Nat → Nat → Nat → px_L → List Value → px_G → Option (Option Value × px_G)
  | 0, _, _, _, _, _, _ => none
  | _ + 1, 0, _, _, _, _, _ => none
  | f + 1, d + 1, m, pc, pl, st, (I, J, R, S, n, q) =>
    match px_T m pc with
    | none => none
    | some i => match i.1 with
      | 47 => match px_ca i st S with
        | none => none
        | some (k, as, rest) => if (px_lo rest && Nat.ble (px_sl as).length (px_nl k)) = true then
            match px_run f d k 0 (px_en as (px_nl k)) [] (I, J, R, S, n, q) with
            | none => none
            | some (r, g) => px_run f (d + 1) m i.2.2.2.2.1 pl (r.toList ++ rest) g
          else none
      | 21 => match px_re i st with
        | none => none
        | some r => some (r, I, J, R, S, n, q)
      | 22 => match px_re i st with
        | none => none
        | some r => some (r, I, J, R, S, n, q)
      | 23 => match px_re i st with
        | none => none
        | some r => some (r, I, J, R, S, n, q)
      | 24 => match px_re i st with
        | none => none
        | some r => some (r, I, J, R, S, n, q)
      | _ => match px_st i pl st I J R S n q with
        | none => none
        | some (pc', pl', st', g) => px_run f (d + 1) m pc' pl' st' g
/-- from here the method comes to its end, with that answer and that heap -/
def px_ev (d m pc : Nat) (pl : px_L) (st : List Value) (I : px_HI) (J : px_HJ) (R : px_HR) (S : px_HS) (n q : Nat) (r : Option Value × px_G) : Prop := ∃ f, px_run f d m pc pl st (I, J, R, S, n, q) = some r
theorem px_mono : ∀ (f f' d d' m pc : Nat) (pl : px_L) (st : List Value) (g : px_G) (r : Option Value × px_G), f ≤ f' → d ≤ d' → px_run f d m pc pl st g = some r → px_run f' d' m pc pl st g = some r
  | 0, _, _, _, _, _, _, _, _, _, _, _, h => by simp [px_run] at h
  | f + 1, 0, d, d', m, pc, pl, st, g, r, hf, hd, h => by omega
  | f + 1, f' + 1, 0, d', m, pc, pl, st, g, r, hf, hd, h => by simp [px_run] at h
  | f + 1, f' + 1, d + 1, 0, m, pc, pl, st, g, r, hf, hd, h => by omega
  | f + 1, f' + 1, d + 1, d' + 1, m, pc, pl, st, (I, J, R, S, n, q), r, hf, hd, h => by
    have ih := px_mono f f'
    unfold px_run at h ⊢
    split at h
    · cases h
    · rename_i i hi
      try rw [hi]
      try dsimp only
      split at h
      · split at h
        · cases h
        · rename_i k as rest hca
          try rw [hca]
          try dsimp only
          split at h
          · rename_i hlo
            try rw [if_pos hlo]
            split at h
            · cases h
            · rename_i r1 g1 h1
              rw [ih d d' _ _ _ _ _ _ (by omega) (by omega) h1]
              exact ih (d + 1) (d' + 1) _ _ _ _ _ _ (by omega) (by omega) h
          · cases h
      · exact h
      · exact h
      · exact h
      · exact h
      · split at h
        · cases h
        · rename_i pc' pl' st' g' hst
          try rw [hst]
          try dsimp only
          exact ih (d + 1) (d' + 1) _ _ _ _ _ _ (by omega) (by omega) h
