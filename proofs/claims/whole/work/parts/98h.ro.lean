/-! no run touches the script -/
def rI (I I' : px_HI) (S S' : px_HS) : Prop := (∀ j, I' 1000000 j = I 1000000 j) ∧ S' 1000000 = S 1000000
theorem rI.trans {I I' I'' : px_HI} {S S' S'' : px_HS} (h : rI I I' S S') (g : rI I' I'' S' S'') : rI I I'' S S'' := ⟨fun j => (g.1 j).trans (h.1 j), g.2.trans h.2⟩
theorem u_ro {I : px_HI} {o a : Nat} {x : Int32} {S : px_HS} (h : ¬ o = 1000000) : rI I (px_u I o a x) S S := ⟨fun _ => u_ne (fun e => absurd e.symm h), rfl⟩
theorem z_ro {I : px_HI} {n : Nat} {S : px_HS} {v : Nat × Nat} (h : Nat.blt n 1000000 = true) : rI I (px_z I n 0) S (px_us S n v) := by
  have h2 := Nat.le_of_ble_eq_true h
  exact ⟨fun _ => z_ne (by omega), us_ne (by omega)⟩
theorem row_ro {I : px_HI} {o : Nat} {f : Nat → Int32} {S : px_HS} (h : ¬ o = 1000000) : rI I (px_row I o f) S S := ⟨fun _ => row_ne (fun e => h e.symm), rfl⟩
def px_tk (i : px_I) : Bool := match i with
  | (31, _, _, _, _, tb, _) => (tb.lookup 200).isNone
  | _ => true
theorem px_tkA : ((List.range 238).all (fun m => (List.range (px_len m)).all (fun pc => match px_T0 m pc with
  | some i => px_tk i
  | none => true))) = true := by decide +kernel
theorem px_tkT {m pc : Nat} {i : px_I} (h : px_T m pc = some i) : px_tk i = true := by
  unfold px_T at h
  cases hb : (Nat.blt m px_nm && Nat.blt pc (px_len m)) with
  | false =>
    rw [hb] at h
    cases h
  | true =>
    rw [hb, cond_true] at h
    have h1 := Nat.le_of_ble_eq_true (Bool.and_eq_true_iff.mp hb).1
    have h2 := Nat.le_of_ble_eq_true (Bool.and_eq_true_iff.mp hb).2
    unfold px_nm at h1
    have g := List.all_eq_true.mp (List.all_eq_true.mp px_tkA m (List.mem_range.mpr (by omega))) pc (List.mem_range.mpr (by omega))
    rw [h] at g
    exact g
theorem st_ro {i : px_I} {pl : px_L} {st : List Value} {I : px_HI} {J : px_HJ} {R : px_HR} {S : px_HS} {n q : Nat} {r : Nat × px_L × List Value × px_G} (h : px_st i pl st I J R S n q = some r) (hS : (S 1000000).1 = 200) (ht : px_tk i = true) : rI I r.2.2.2.1 S r.2.2.2.2.2.2.1 := by
  obtain ⟨op, a, b, c, nx, tb, v⟩ := i
  unfold px_st at h
  dsimp only at h
  split at h
  all_goals repeat' split at h
  all_goals first
    | (cases h; done)
    | (cases h; exact ⟨fun _ => rfl, rfl⟩)
    | (rename_i hif; cases h; refine u_ro (fun e => ?_); rw [e, hS] at hif; cases hif; done)
    | (rename_i hif; cases h; refine row_ro (fun e => ?_); rw [e, hS] at hif; simp at hif; done)
    | (rename_i hif; cases h; exact z_ro hif)
    | (rename_i hif; cases h; exact z_ro (Bool.and_eq_true_iff.mp hif).2)
    | (rename_i hif; cases h; refine u_ro (fun e => ?_); rw [e, hS] at hif; have ht' : (tb.lookup 200).isNone = true := ht; cases hl : tb.lookup 200 with
        | none => rw [hl] at hif; cases hif
        | some z => rw [hl] at ht'; cases ht')
theorem px_ro : ∀ (f d m pc : Nat) (pl : px_L) (st : List Value) (g : px_G) (r : Option Value × px_G), px_run f d m pc pl st g = some r → (g.2.2.2.1 1000000).1 = 200 → rI g.1 r.2.1 g.2.2.2.1 r.2.2.2.2.1
  | 0, _, _, _, _, _, _, _, h, _ => by simp [px_run] at h
  | f + 1, 0, m, pc, pl, st, g, r, h, _ => by simp [px_run] at h
  | f + 1, d + 1, m, pc, pl, st, (I, J, R, S, n, q), r, h, hS => by
    have ih := px_ro f
    unfold px_run at h
    split at h
    · cases h
    · rename_i i hi
      split at h
      · split at h
        · cases h
        · rename_i k as rest hca
          split at h
          · rename_i hlo
            split at h
            · cases h
            · rename_i r1 g1 h1
              have k1 := ih d _ _ _ _ _ _ h1 hS
              have k2 := ih (d + 1) _ _ _ _ _ _ h (by
                show (g1.2.2.2.1 1000000).1 = 200
                rw [show g1.2.2.2.1 1000000 = S 1000000 from k1.2]
                exact hS)
              exact k1.trans k2
          · cases h
      · split at h
        · cases h
        · cases h
          exact ⟨fun _ => rfl, rfl⟩
      · split at h
        · cases h
        · cases h
          exact ⟨fun _ => rfl, rfl⟩
      · split at h
        · cases h
        · cases h
          exact ⟨fun _ => rfl, rfl⟩
      · split at h
        · cases h
        · cases h
          exact ⟨fun _ => rfl, rfl⟩
      · split at h
        · cases h
        · rename_i pc' pl' st' g' hst
          have k1 := st_ro hst hS (px_tkT hi)
          have k2 := ih (d + 1) _ _ _ _ _ _ h (by
            show (g'.2.2.2.1 1000000).1 = 200
            rw [show g'.2.2.2.1 1000000 = S 1000000 from k1.2]
            exact hS)
          exact k1.trans k2
theorem mt_ro {d k n q n' q' : Nat} {as : List Value} {I I' : px_HI} {J J' : px_HJ} {R R' : px_HR} {S S' : px_HS} {v : Option Value} (h : px_mt d k as I J R S n q (v, I', J', R', S', n', q')) (hS : (S 1000000).1 = 200) (j : Nat) : I' 1000000 j = I 1000000 j := by
  obtain ⟨f, hf⟩ := h
  exact (px_ro f d k 0 _ _ _ _ hf hS).1 j
