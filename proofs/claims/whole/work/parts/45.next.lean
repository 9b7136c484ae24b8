/-! THE MODEL: next() -/
def mkd (b : Nat → Int32) (z p : Nat) : Int32 := if z ≤ p then 0 else cond (isLt (b p)) 1 (cond (isDg (b p)) (if 4 < tke b z p - p then 4 else 2) (if mcode (b p) = -23 then 4 else 3))
def mS (I : px_HI) (J : px_HJ) (b : Nat → Int32) (z p : Nat) : Prop := p ≤ z ∧ I 31 26 = mkd b z p ∧ I 31 27 = nI p ∧ (mkd b z p = 1 ∨ mkd b z p = 2 ∨ mkd b z p = 3 → I 31 25 = nI (tke b z p)) ∧ (mkd b z p = 3 → J 31 28 = (b p).toInt64) ∧ (mkd b z p = 2 → ∃ V, V < 10000 ∧ tkc b z p = nI V ∧ J 31 28 = lN V)
abbrev nA (I : px_HI) (p : Nat) : px_HI := px_u (px_u (px_u I 31 25 (nI p)) 31 27 (nI p)) 31 26 4
section PXM2
variable {D n q L : Nat} {so : Option Nat} {I : px_HI} {J : px_HJ} {dr : px_HR} {ds : px_HS} {b : Nat → Int32} {z fr p h : Nat} {r : Option Value × px_G}
theorem nA_fr : mFr I (nA I p) J J := (((mFr.refl I J).u (by decide) (by decide)).u (by decide) (by decide)).u (by decide) (by decide)
theorem nA_k {k : Nat} (hk : 29 ≤ k) : nA I p 31 k = I 31 k := by
  unfold nA
  rw [u_ne (fun _ => by omega), u_ne (fun _ => by omega), u_ne (fun _ => by omega)]
theorem nx300 {y : Int32} (hI : I 31 25 = nI p) : px_ev (D + 1) 156 300 [some (.ref 31), some (.int y), none] [] I J (dR so dr) (dS L ds) n q (none, px_u (px_u I 31 26 3) 31 25 (nI (p + 1)), px_u J 31 28 y.toInt64, dR so dr, dS L ds, n, q) := by
  repeat refine e_s rfl ?_
  rw [show px_u I 31 26 3 31 25 = nI p from hI, nI_1]
  exact e_r rfl
theorem mk_sel {y : Int32} {d : Nat} {I2 : px_HI} {J2 : px_HJ} (hk : ¬ mcode y = -23 → px_ev (D + 1) 156 300 [some (.ref 31), some (.int y), none] [] I J (dR so dr) (dS L ds) n q r) (hn : mcode y = -23 → px_ev (D + 1) 156 321 [some (.ref 31), some (.int y), none] [] I J (dR so dr) (dS L ds) n q r) : px_ev (D + 1) 156 252 [some (.ref 31), some (.int y), none] [] I J (dR so dr) (dS L ds) n q r := by
  repeat refine e_s rfl ?_
  refine e_b (fun h => hk (by rw [h]; decide)) (fun h1 => ?_)
  repeat refine e_s rfl ?_
  refine e_b (fun h => hk (by rw [h]; decide)) (fun h2 => ?_)
  repeat refine e_s rfl ?_
  refine e_b (fun h => hk (by rw [h]; decide)) (fun h3 => ?_)
  repeat refine e_s rfl ?_
  refine e_b (fun h => hk (by rw [h]; decide)) (fun h4 => ?_)
  repeat refine e_s rfl ?_
  refine e_b (fun h => hk (by rw [h]; decide)) (fun h5 => ?_)
  repeat refine e_s rfl ?_
  refine e_b (fun h => hk (by rw [h]; decide)) (fun h6 => ?_)
  repeat refine e_s rfl ?_
  refine e_b (fun h => hk (by rw [h]; decide)) (fun h7 => ?_)
  repeat refine e_s rfl ?_
  refine e_b (fun h8 => hn ?_) (fun h => hk (by rw [Classical.not_not.mp h]; decide))
  unfold mcode
  rw [if_neg h1, if_neg h2, if_neg h3, if_neg h4, if_neg h5, if_neg h6, if_neg h7, if_neg h8]
theorem r_next (hB : mB I b z fr) (hh : I 31 25 = nI h) (hz : h ≤ z) : ∃ I' J', px_mt (D + 3) 156 [.ref 31] I J (dR so dr) (dS L ds) n q (none, I', J', dR so dr, dS L ds, n, q) ∧ mFr I I' J J' ∧ (∀ k, 29 ≤ k → I' 31 k = I 31 k) ∧ mS I' J' b z (sk b z h) := by
  have h160 := hB.2.2.1
  have hsk := sk_le (b := b) hz
  have hstart : ∀ r, px_ev (D + 3) 156 39 [some (.ref 31), none, none] [] (px_u I 31 25 (nI (sk b z h))) J (dR so dr) (dS L ds) n q r → px_mt (D + 3) 156 [.ref 31] I J (dR so dr) (dS L ds) n q r := fun r k => w_skip (z - h) I h hB hh (by omega) k
  generalize sk b z h = p at hsk hstart
  have h61 : ∀ r, px_ev (D + 3) 156 61 [some (.ref 31), some (.int (bAt b z p)), none] [] (nA I p) J (dR so dr) (dS L ds) n q r → px_mt (D + 3) 156 [.ref 31] I J (dR so dr) (dS L ds) n q r := by
    intro r k
    refine hstart r ?_
    repeat refine e_s rfl ?_
    rw [show px_u I 31 25 (nI p) 31 25 = nI p from rfl, show px_u (px_u I 31 25 (nI p)) 31 27 (nI p) 31 25 = nI p from rfl]
    refine e_c rfl (r_byte (D := D) ((hB.u (by decide) (by decide)).u (by decide) (by decide)) (by omega)) (by omega) ?_
    refine e_s rfl ?_
    refine e_s rfl ?_
    refine e_s rfl ?_
    refine e_s rfl ?_
    exact k
  have hBA : mB (nA I p) b z fr := hB.fr (nA_fr (J := J))
  by_cases hpz : z ≤ p
  · have ep : p = z := by omega
    subst ep
    have hk : mkd b p p = 0 := if_pos (Nat.le_refl _)
    refine ⟨px_u (px_u (nA I p) 31 26 0) 31 27 (nI p), J, h61 _ ?_, (nA_fr.u (by decide) (by decide)).u (by decide) (by decide), fun k hk => ?_, Nat.le_refl _, by rw [hk]; rfl, rfl, fun g => ?_, fun g => ?_, fun g => ?_⟩
    · rw [show bAt b p p = -1 from if_neg (by omega)]
      repeat refine e_s rfl ?_
      rw [show px_u (nA I p) 31 26 0 31 24 = nI p from hB.2.1]
      exact e_r rfl
    · rw [u_ne (fun _ => by omega), u_ne (fun _ => by omega), nA_k hk]
    · rw [hk] at g; exact absurd g (by decide)
    · rw [hk] at g; exact absurd g (by decide)
    · rw [hk] at g; exact absurd g (by decide)
  · have hlt : p < z := by omega
    have hb0 := hB.2.2.2.2.2 p hlt
    have htke := tke_le (b := b) hlt
    rw [show bAt b z p = b p from if_pos hlt] at h61
    have h89 : ∀ r, px_ev (D + 3) 156 92 [some (.ref 31), some (.int (b p)), none] [.int (bI (isLt (b p)))] (nA I p) J (dR so dr) (dS L ds) n q r → px_mt (D + 3) 156 [.ref 31] I J (dR so dr) (dS L ds) n q r := by
      intro r k
      refine h61 r ?_
      repeat refine e_s rfl ?_
      refine e_bt hb0 ?_
      repeat refine e_s rfl ?_
      refine e_c rfl (r_inI (D := D) (a := 97) (c := 122) (by decide) (by decide)) (by omega) ?_
      exact k
    cases hl : isLt (b p) with
    | true =>
      have hk : mkd b z p = 1 := by unfold mkd; rw [if_neg hpz, hl]; rfl
      have he : skp isLt b (z - p) p = tke b z p := by unfold tke; rw [hl]; rfl
      refine ⟨px_u (px_u (nA I p) 31 26 1) 31 25 (nI (tke b z p)), J, h89 _ ?_, (nA_fr.u (by decide) (by decide)).u (by decide) (by decide), fun k hk => ?_, by omega, by rw [hk]; rfl, rfl, fun g => rfl, fun g => ?_, fun g => ?_⟩
      · rw [hl]
        refine e_s rfl ?_
        refine e_s rfl ?_
        refine e_s rfl ?_
        refine e_s rfl ?_
        refine w_wd (z - p) _ p (hBA.u (by decide) (by decide)) rfl (by omega) ?_
        rw [he]
        exact e_r rfl
      · rw [u_ne (fun _ => by omega), u_ne (fun _ => by omega), nA_k hk]
      · rw [hk] at g; exact absurd g (by decide)
      · rw [hk] at g; exact absurd g (by decide)
    | false =>
      have h145 : ∀ r, px_ev (D + 3) 156 145 [some (.ref 31), some (.int (b p)), none] [.int (bI (isDg (b p)))] (nA I p) J (dR so dr) (dS L ds) n q r → px_mt (D + 3) 156 [.ref 31] I J (dR so dr) (dS L ds) n q r := by
        intro r k
        refine h89 r ?_
        rw [hl]
        repeat refine e_s rfl ?_
        refine e_c rfl (r_inI (D := D) (a := 48) (c := 57) (by decide) (by decide)) (by omega) ?_
        exact k
      cases hd : isDg (b p) with
      | true =>
        have he : skp isDg b (z - p) p = tke b z p := by unfold tke; rw [hl, hd]; rfl
        have hV := nvM_lt b (z - p) p 0 0 (by decide) (by decide)
        by_cases h4 : 4 < tke b z p - p
        · have hk : mkd b z p = 4 := by unfold mkd; rw [if_neg hpz, hl, hd, cond_false, cond_true, if_pos h4]
          refine ⟨px_u (px_u (px_u (nA I p) 31 26 2) 31 25 (nI (tke b z p))) 31 26 4, px_u (px_u J 31 28 0) 31 28 (lN (nvM b (z - p) p 0 0)), h145 _ ?_, (((nA_fr.u (by decide) (by decide)).u (by decide) (by decide)).u (by decide) (by decide)).uJ.uJ, fun k hk => ?_, by omega, by rw [hk]; rfl, rfl, fun g => ?_, fun g => ?_, fun g => ?_⟩
          · rw [hd]
            refine e_s rfl ?_
            refine e_s rfl ?_
            refine e_s rfl ?_
            refine e_s rfl ?_
            refine e_s rfl ?_
            refine e_s rfl ?_
            refine e_s rfl ?_
            refine e_s rfl ?_
            refine e_s rfl ?_
            refine w_nb (z - p) _ _ p 0 0 (hBA.u (by decide) (by decide)) rfl rfl (by omega) (by omega) ?_
            rw [he]
            repeat refine e_s rfl ?_
            refine e_bf (fun g => by have := (nI_leI (b := 4) (by omega) (by omega)).mp g; omega) ?_
            repeat refine e_s rfl ?_
            exact e_r rfl
          · rw [u_ne (fun _ => by omega), u_ne (fun _ => by omega), u_ne (fun _ => by omega), nA_k hk]
          · rw [hk] at g; exact absurd g (by decide)
          · rw [hk] at g; exact absurd g (by decide)
          · rw [hk] at g; exact absurd g (by decide)
        · have hk : mkd b z p = 2 := by unfold mkd; rw [if_neg hpz, hl, hd, cond_false, cond_true, if_neg h4]
          refine ⟨px_u (px_u (px_u (nA I p) 31 26 2) 31 25 (nI (tke b z p))) 31 26 2, px_u (px_u J 31 28 0) 31 28 (lN (nvM b (z - p) p 0 0)), h145 _ ?_, (((nA_fr.u (by decide) (by decide)).u (by decide) (by decide)).u (by decide) (by decide)).uJ.uJ, fun k hk => ?_, by omega, by rw [hk]; rfl, rfl, fun g => rfl, fun g => ?_, fun g => ⟨nvM b (z - p) p 0 0, hV, ?_, rfl⟩⟩
          · rw [hd]
            refine e_s rfl ?_
            refine e_s rfl ?_
            refine e_s rfl ?_
            refine e_s rfl ?_
            refine e_s rfl ?_
            refine e_s rfl ?_
            refine e_s rfl ?_
            refine e_s rfl ?_
            refine e_s rfl ?_
            refine w_nb (z - p) _ _ p 0 0 (hBA.u (by decide) (by decide)) rfl rfl (by omega) (by omega) ?_
            rw [he]
            repeat refine e_s rfl ?_
            refine e_bt ((nI_leI (b := 4) (by omega) (by omega)).mpr (by omega)) ?_
            repeat refine e_s rfl ?_
            exact e_r rfl
          · rw [u_ne (fun _ => by omega), u_ne (fun _ => by omega), u_ne (fun _ => by omega), nA_k hk]
          · rw [hk] at g; exact absurd g (by decide)
          · unfold tkc
            rw [if_neg hpz, hl, hd, cond_false, cond_true]
            unfold ncode
            rw [if_neg h4]
            exact nval_M b (z - p) p 0 0 (tke b z p - p) (by rw [he]; omega) (by omega)
      | false =>
        have h252 : ∀ r, px_ev (D + 3) 156 252 [some (.ref 31), some (.int (b p)), none] [] (nA I p) J (dR so dr) (dS L ds) n q r → px_mt (D + 3) 156 [.ref 31] I J (dR so dr) (dS L ds) n q r := by
          intro r k
          refine h145 r ?_
          rw [hd]
          refine e_s rfl ?_
          exact k
        have he : tke b z p = p + 1 := by unfold tke; rw [hl, hd]; rfl
        by_cases hm : mcode (b p) = -23
        · have hk : mkd b z p = 4 := by unfold mkd; rw [if_neg hpz, hl, hd, cond_false, cond_false, if_pos hm]
          refine ⟨nA I p, J, h252 _ (mk_sel (d := 0) (I2 := I) (J2 := J) (fun g => absurd hm g) (fun _ => e_r rfl)), nA_fr, fun k hk => ?_, by omega, by rw [hk]; rfl, rfl, fun g => ?_, fun g => ?_, fun g => ?_⟩
          · exact nA_k hk
          · rw [hk] at g; exact absurd g (by decide)
          · rw [hk] at g; exact absurd g (by decide)
          · rw [hk] at g; exact absurd g (by decide)
        · have hk : mkd b z p = 3 := by unfold mkd; rw [if_neg hpz, hl, hd, cond_false, cond_false, if_neg hm]
          refine ⟨px_u (px_u (nA I p) 31 26 3) 31 25 (nI (p + 1)), px_u J 31 28 (b p).toInt64, h252 _ (mk_sel (d := 0) (I2 := I) (J2 := J) (fun _ => nx300 rfl) (fun g => absurd g hm)), ((nA_fr.u (by decide) (by decide)).u (by decide) (by decide)).uJ, fun k hk => ?_, by omega, by rw [hk]; rfl, rfl, fun g => by rw [he]; rfl, fun g => rfl, fun g => ?_⟩
          · rw [u_ne (fun _ => by omega), u_ne (fun _ => by omega), nA_k hk]
          · rw [hk] at g; exact absurd g (by decide)
end PXM2
