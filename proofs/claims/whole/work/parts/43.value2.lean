/-! the value of a Text of the class: the loop -/
section PXTa
variable {d n q t u w sc len to : Nat} {J : px_HJ} {R : px_HR} {S : px_HS} {I0 : px_HI} {v sort who pt fr : Int32}
theorem w_val (hS : S t = (20, 4)) (hR0 : R t 0 = some u) (hU : S u = (100, len)) (hR3 : R t 3 = some w) (hW : S w = (100, len)) (hSc : S sc = (17, 8)) (hl : len < 160) (huw : u ≠ w) (hsw : sc ≠ w) (hto : to ≤ len) : ∀ (ss : List Int32) (i : Nat) (st : List Int32) (I : px_HI) (x9 x10 : Option Value), i + ss.length = to → st.length ≤ i → (∀ j, j < ss.length → I0 u (i + j) = ss.getD j 0) → ex (nmE (I0 sc 0) (I0 sc 1) sort (I0 sc 2) (I0 sc 6) who) ss st = some [v] → skOK (I w) st → (∀ a j, a ≠ w → I a j = I0 a j) → ∃ I', px_ev (d + 2) 87 63 [some (.ref t), some (.int pt), some (.ref sc), some (.int sort), some (.int who), some (.int fr), some (.int (nI to)), some (.int (nI st.length - 1)), some (.int (nI i)), x9, x10] [] I J R S n q (some (.int v), I', J, R, S, n, q) ∧ ∀ a j, a ≠ w → I' a j = I0 a j
  | [], i, st, I, x9, x10, hi, hst, hs, hex, hsk, hI => by
    cases hex
    have hi2 : i = to := hi
    refine ⟨I, ?_, hI⟩
    have e0 : nI ([v] : List Int32).length - 1 = nI 0 := nI_pred 0
    have hlen : 1 ≤ i := hst
    rw [e0]
    repeat refine e_s rfl ?_
    refine e_bt (nI_le (by omega) (by omega)) ?_
    refine e_s rfl ?_
    refine e_s rfl ?_
    refine e_cv rfl rfl rfl hS rfl rfl (r_at (d := d) (k := 0) hS hR3 hW (by omega) hl) (by omega) ?_
    rw [show I w 0 = v from hsk.1]
    exact e_r rfl
  | s :: ss, i, st, I, x9, x10, hi, hst, hs, hex, hsk, hI => by
    have hi2 : i + ss.length + 1 = to := hi
    have hsi : I u i = s := (hI u i huw).trans (hs 0 (Nat.succ_pos _))
    have hs2 : ∀ j, j < ss.length → I0 u (i + 1 + j) = ss.getD j 0 := fun j hj => by
      have := hs (j + 1) (Nat.succ_lt_succ hj)
      rw [show i + 1 + j = i + (j + 1) by omega]
      exact this
    unfold ex at hex
    cases hx : ex1 (nmE (I0 sc 0) (I0 sc 1) sort (I0 sc 2) (I0 sc 6) who) st s with
    | none => rw [hx] at hex; cases hex
    | some st' =>
      rw [hx] at hex
      unfold ex1 at hx
      by_cases h6 : -6 ≤ s
      · rw [if_pos h6] at hx
        cases hx
        have ih := w_val hS hR0 hU hR3 hW hSc hl huw hsw hto ss (i + 1) _ (px_u I w st.length (if 0 ≤ s then s else nmE (I0 sc 0) (I0 sc 1) sort (I0 sc 2) (I0 sc 6) who s)) (some (.int s)) x10 (by omega) (by simp; omega) hs2 hex ⟨u_eq, hsk.up (fun j hj => u_ne (fun _ => by omega))⟩ (fun a j ha => by rw [u_ne (fun e => absurd e ha)]; exact hI a j ha)
        obtain ⟨I', hr, hf⟩ := ih
        refine ⟨I', ?_, hf⟩
        rw [show nI ((if 0 ≤ s then s else nmE (I0 sc 0) (I0 sc 1) sort (I0 sc 2) (I0 sc 6) who s) :: st).length - 1 = nI st.length from nI_pred _] at hr
        repeat refine e_s rfl ?_
        refine e_bf (nI_ge (by omega) (by omega)) ?_
        repeat refine e_s rfl ?_
        refine e_gr rfl hS rfl hR0 ?_
        refine e_al rfl hU rfl ?_
        refine e_s rfl ?_
        refine e_bf (nI_ge (by omega) (by omega)) ?_
        refine e_s rfl ?_
        refine e_gr rfl hS rfl hR0 ?_
        refine e_s rfl ?_
        refine e_ia rfl hU rfl (by omega) (by omega) ?_
        rw [hsi]
        repeat refine e_s rfl ?_
        refine e_bf (Int32.not_lt.mpr h6) ?_
        repeat refine e_s rfl ?_
        rw [tp_1]
        refine e_b (fun h => ?_) (fun h => ?_)
        · rw [if_neg (Int32.not_le.mpr h)] at hr
          repeat refine e_s rfl ?_
          refine e_c rfl (r_nm (d := d) hSc h6 h) (by omega) ?_
          rw [hI sc 0 hsw, hI sc 1 hsw, hI sc 2 hsw, hI sc 6 hsw]
          refine e_cv rfl rfl rfl hS rfl rfl (r_lay (d := d) hS hR3 hW (by omega) hl) (by omega) ?_
          refine e_s rfl ?_
          refine e_s rfl ?_
          refine e_s rfl ?_
          rw [nI_1]
          exact hr
        · rw [if_pos (Int32.not_lt.mp h)] at hr
          repeat refine e_s rfl ?_
          refine e_cv rfl rfl rfl hS rfl rfl (r_lay (d := d) hS hR3 hW (by omega) hl) (by omega) ?_
          refine e_s rfl ?_
          refine e_s rfl ?_
          refine e_s rfl ?_
          rw [nI_1]
          exact hr
      · rw [if_neg h6] at hx
        have h6' := Int32.not_le.mp h6
        by_cases h9 : s = -9
        · rw [if_pos h9] at hx
          cases st with
          | nil => cases hx
          | cons v1 r =>
            cases hx
            have hrl : r.length + 1 ≤ i := hst
            have ih := w_val hS hR0 hU hR3 hW hSc hl huw hsw hto ss (i + 1) _ (px_u I w r.length (bI (decide (v1 = 0)))) (some (.int s)) (some (.int v1)) (by omega) (by simp; omega) hs2 hex ⟨u_eq, hsk.2.up (fun j hj => u_ne (fun _ => by omega))⟩ (fun a j ha => by rw [u_ne (fun e => absurd e ha)]; exact hI a j ha)
            obtain ⟨I', hr, hf⟩ := ih
            refine ⟨I', ?_, hf⟩
            rw [show nI (bI (decide (v1 = 0)) :: r).length - 1 = nI r.length from nI_pred _] at hr
            rw [show nI (v1 :: r).length - 1 = nI r.length from nI_pred _]
            repeat refine e_s rfl ?_
            refine e_bf (nI_ge (by omega) (by omega)) ?_
            repeat refine e_s rfl ?_
            refine e_gr rfl hS rfl hR0 ?_
            refine e_al rfl hU rfl ?_
            refine e_s rfl ?_
            refine e_bf (nI_ge (by omega) (by omega)) ?_
            refine e_s rfl ?_
            refine e_gr rfl hS rfl hR0 ?_
            refine e_s rfl ?_
            refine e_ia rfl hU rfl (by omega) (by omega) ?_
            rw [hsi]
            repeat refine e_s rfl ?_
            refine e_bt h6' ?_
            repeat refine e_s rfl ?_
            refine e_bt h9 ?_
            repeat refine e_s rfl ?_
            refine e_cv rfl rfl rfl hS rfl rfl (r_at (d := d) hS hR3 hW (show r.length < len by omega) hl) (by omega) ?_
            rw [show I w r.length = v1 from hsk.1]
            repeat refine e_s rfl ?_
            refine e_bt (by rw [h9]; decide) ?_
            repeat refine e_s rfl ?_
            refine e_b (fun h => ?_) (fun h => ?_)
            · rw [decide_eq_false h] at hr
              repeat refine e_s rfl ?_
              refine e_cv rfl rfl rfl hS rfl rfl (r_lay (d := d) hS hR3 hW (show r.length < len by omega) hl) (by omega) ?_
              refine e_s rfl ?_
              refine e_s rfl ?_
              refine e_s rfl ?_
              rw [nI_1]
              exact hr
            · rw [decide_eq_true (Classical.not_not.mp h)] at hr
              repeat refine e_s rfl ?_
              refine e_cv rfl rfl rfl hS rfl rfl (r_lay (d := d) hS hR3 hW (show r.length < len by omega) hl) (by omega) ?_
              refine e_s rfl ?_
              refine e_s rfl ?_
              refine e_s rfl ?_
              rw [nI_1]
              exact hr
        · rw [if_neg h9] at hx
          by_cases h15 : s = -15
          · rw [if_pos h15] at hx
            cases st with
            | nil => cases hx
            | cons v1 r =>
              cases hx
              have hrl : r.length + 1 ≤ i := hst
              have ih := w_val hS hR0 hU hR3 hW hSc hl huw hsw hto ss (i + 1) _ (px_u I w r.length (-v1)) (some (.int s)) (some (.int v1)) (by omega) (by simp; omega) hs2 hex ⟨u_eq, hsk.2.up (fun j hj => u_ne (fun _ => by omega))⟩ (fun a j ha => by rw [u_ne (fun e => absurd e ha)]; exact hI a j ha)
              obtain ⟨I', hr, hf⟩ := ih
              refine ⟨I', ?_, hf⟩
              rw [show nI (-v1 :: r).length - 1 = nI r.length from nI_pred _] at hr
              rw [show nI (v1 :: r).length - 1 = nI r.length from nI_pred _]
              repeat refine e_s rfl ?_
              refine e_bf (nI_ge (by omega) (by omega)) ?_
              repeat refine e_s rfl ?_
              refine e_gr rfl hS rfl hR0 ?_
              refine e_al rfl hU rfl ?_
              refine e_s rfl ?_
              refine e_bf (nI_ge (by omega) (by omega)) ?_
              refine e_s rfl ?_
              refine e_gr rfl hS rfl hR0 ?_
              refine e_s rfl ?_
              refine e_ia rfl hU rfl (by omega) (by omega) ?_
              rw [hsi]
              repeat refine e_s rfl ?_
              refine e_bt h6' ?_
              repeat refine e_s rfl ?_
              refine e_bf h9 ?_
              repeat refine e_s rfl ?_
              refine e_bf (fun g => g h15) ?_
              repeat refine e_s rfl ?_
              refine e_cv rfl rfl rfl hS rfl rfl (r_at (d := d) hS hR3 hW (show r.length < len by omega) hl) (by omega) ?_
              rw [show I w r.length = v1 from hsk.1]
              repeat refine e_s rfl ?_
              refine e_bf (fun g => g h15) ?_
              repeat refine e_s rfl ?_
              refine e_cv rfl rfl rfl hS rfl rfl (r_lay (d := d) hS hR3 hW (show r.length < len by omega) hl) (by omega) ?_
              refine e_s rfl ?_
              refine e_s rfl ?_
              refine e_s rfl ?_
              rw [nI_1]
              exact hr
          · rw [if_neg h15] at hx
            cases st with
            | nil => cases hx
            | cons y r1 =>
              cases r1 with
              | nil => cases hx
              | cons x r =>
                cases hx
                have hrl : r.length + 2 ≤ i := hst
                have ih := w_val hS hR0 hU hR3 hW hSc hl huw hsw hto ss (i + 1) _ (px_u I w r.length (jn s x y)) (some (.int s)) x10 (by omega) (by simp; omega) hs2 hex ⟨u_eq, hsk.2.2.up (fun j hj => u_ne (fun _ => by omega))⟩ (fun a j ha => by rw [u_ne (fun e => absurd e ha)]; exact hI a j ha)
                obtain ⟨I', hr, hf⟩ := ih
                refine ⟨I', ?_, hf⟩
                rw [show nI (jn s x y :: r).length - 1 = nI r.length from nI_pred _] at hr
                rw [show nI (y :: x :: r).length - 1 = nI (r.length + 1) from nI_pred _]
                repeat refine e_s rfl ?_
                refine e_bf (nI_ge (by omega) (by omega)) ?_
                repeat refine e_s rfl ?_
                refine e_gr rfl hS rfl hR0 ?_
                refine e_al rfl hU rfl ?_
                refine e_s rfl ?_
                refine e_bf (nI_ge (by omega) (by omega)) ?_
                refine e_s rfl ?_
                refine e_gr rfl hS rfl hR0 ?_
                refine e_s rfl ?_
                refine e_ia rfl hU rfl (by omega) (by omega) ?_
                rw [hsi]
                repeat refine e_s rfl ?_
                refine e_bt h6' ?_
                repeat refine e_s rfl ?_
                refine e_bf h9 ?_
                repeat refine e_s rfl ?_
                refine e_bt h15 ?_
                repeat refine e_s rfl ?_
                rw [pk_m1]
                refine e_cv rfl rfl rfl hS rfl rfl (r_at (d := d) hS hR3 hW (show r.length < len by omega) hl) (by omega) ?_
                rw [show I w r.length = x from hsk.2.1]
                repeat refine e_s rfl ?_
                rw [nI_1]
                refine e_cv rfl rfl rfl hS rfl rfl (r_at (d := d) hS hR3 hW (show r.length + 1 < len by omega) hl) (by omega) ?_
                rw [show I w (r.length + 1) = y from hsk.1]
                refine e_c rfl (r_jn (d := d) s x y) (by omega) ?_
                refine e_cv rfl rfl rfl hS rfl rfl (r_lay (d := d) hS hR3 hW (show r.length < len by omega) hl) (by omega) ?_
                refine e_s rfl ?_
                refine e_s rfl ?_
                rw [nI_1]
                exact hr
theorem r_val0 {a : Nat} {ss : List Int32} (hS : S t = (20, 4)) (hR0 : R t 0 = some u) (hU : S u = (100, len)) (hR3 : R t 3 = some w) (hW : S w = (100, len)) (hSc : S sc = (17, 8)) (hl : len < 160) (huw : u ≠ w) (hsw : sc ≠ w) (hA : I0 t 1 = nI a) (hal : a ≤ len) (hlen : ss.length = a) (hs : ∀ j, j < ss.length → I0 u (0 + j) = ss.getD j 0) (hex : ex (nmE (I0 sc 0) (I0 sc 1) sort (I0 sc 2) (I0 sc 6) who) ss [] = some [v]) : ∃ I', px_mt (d + 2) 87 [.ref t, .int 0, .ref sc, .int sort, .int who] I0 J R S n q (some (.int v), I', J, R, S, n, q) ∧ ∀ a j, a ≠ w → I' a j = I0 a j := by
  obtain ⟨I', hr, hf⟩ := w_val (d := d) (pt := 0) (fr := nI 0) (to := a) (n := n) (q := q) (J := J) (v := v) hS hR0 hU hR3 hW hSc hl huw hsw (by omega) ss 0 [] I0 none none (by omega) (Nat.zero_le _) hs hex trivial (fun _ _ _ => rfl)
  refine ⟨I', ?_, hf⟩
  rw [show nI ([] : List Int32).length - 1 = -1 by decide] at hr
  unfold px_mt
  refine e_s rfl ?_
  refine e_s rfl ?_
  refine e_s rfl ?_
  refine e_s rfl ?_
  refine e_s rfl ?_
  refine e_s rfl ?_
  refine e_s rfl ?_
  refine e_s rfl ?_
  refine e_gi rfl hS rfl ?_
  rw [hA]
  refine e_s rfl ?_
  refine e_s rfl ?_
  refine e_s rfl ?_
  refine e_s rfl ?_
  refine e_s rfl ?_
  refine e_s rfl ?_
  exact hr
theorem r_val1 {a b : Nat} {ss : List Int32} (hS : S t = (20, 4)) (hR0 : R t 0 = some u) (hU : S u = (100, len)) (hR3 : R t 3 = some w) (hW : S w = (100, len)) (hSc : S sc = (17, 8)) (hl : len < 160) (huw : u ≠ w) (hsw : sc ≠ w) (hA : I0 t 1 = nI a) (hB : I0 t 2 = nI b) (hbl : b ≤ len) (hlen : a + ss.length = b) (hs : ∀ j, j < ss.length → I0 u (a + j) = ss.getD j 0) (hex : ex (nmE (I0 sc 0) (I0 sc 1) sort (I0 sc 2) (I0 sc 6) who) ss [] = some [v]) : ∃ I', px_mt (d + 2) 87 [.ref t, .int 1, .ref sc, .int sort, .int who] I0 J R S n q (some (.int v), I', J, R, S, n, q) ∧ ∀ a j, a ≠ w → I' a j = I0 a j := by
  obtain ⟨I', hr, hf⟩ := w_val (d := d) (pt := 1) (fr := nI a) (to := b) (n := n) (q := q) (J := J) (v := v) hS hR0 hU hR3 hW hSc hl huw hsw (by omega) ss a [] I0 none none (by omega) (Nat.zero_le _) hs hex trivial (fun _ _ _ => rfl)
  refine ⟨I', ?_, hf⟩
  rw [show nI ([] : List Int32).length - 1 = -1 by decide] at hr
  unfold px_mt
  refine e_s rfl ?_
  refine e_s rfl ?_
  refine e_s rfl ?_
  refine e_s rfl ?_
  refine e_s rfl ?_
  refine e_s rfl ?_
  refine e_gi rfl hS rfl ?_
  rw [hA]
  refine e_s rfl ?_
  refine e_s rfl ?_
  refine e_s rfl ?_
  refine e_s rfl ?_
  refine e_s rfl ?_
  refine e_s rfl ?_
  refine e_s rfl ?_
  refine e_s rfl ?_
  refine e_gi rfl hS rfl ?_
  rw [hB]
  refine e_s rfl ?_
  refine e_s rfl ?_
  refine e_s rfl ?_
  refine e_s rfl ?_
  refine e_s rfl ?_
  refine e_s rfl ?_
  exact hr
theorem r_val2 {b : Nat} {ss : List Int32} (hS : S t = (20, 4)) (hR0 : R t 0 = some u) (hU : S u = (100, len)) (hR3 : R t 3 = some w) (hW : S w = (100, len)) (hSc : S sc = (17, 8)) (hl : len < 160) (huw : u ≠ w) (hsw : sc ≠ w) (hB : I0 t 2 = nI b) (hlen : b + ss.length = len) (hs : ∀ j, j < ss.length → I0 u (b + j) = ss.getD j 0) (hex : ex (nmE (I0 sc 0) (I0 sc 1) sort (I0 sc 2) (I0 sc 6) who) ss [] = some [v]) : ∃ I', px_mt (d + 2) 87 [.ref t, .int 2, .ref sc, .int sort, .int who] I0 J R S n q (some (.int v), I', J, R, S, n, q) ∧ ∀ a j, a ≠ w → I' a j = I0 a j := by
  obtain ⟨I', hr, hf⟩ := w_val (d := d) (pt := 2) (fr := nI b) (to := len) (n := n) (q := q) (J := J) (v := v) hS hR0 hU hR3 hW hSc hl huw hsw (by omega) ss b [] I0 none none (by omega) (Nat.zero_le _) hs hex trivial (fun _ _ _ => rfl)
  refine ⟨I', ?_, hf⟩
  rw [show nI ([] : List Int32).length - 1 = -1 by decide] at hr
  unfold px_mt
  refine e_s rfl ?_
  refine e_s rfl ?_
  refine e_s rfl ?_
  refine e_s rfl ?_
  refine e_s rfl ?_
  refine e_s rfl ?_
  refine e_gi rfl hS rfl ?_
  rw [hB]
  refine e_s rfl ?_
  refine e_s rfl ?_
  refine e_s rfl ?_
  refine e_s rfl ?_
  refine e_s rfl ?_
  refine e_s rfl ?_
  refine e_s rfl ?_
  refine e_gr rfl hS rfl hR0 ?_
  refine e_al rfl hU rfl ?_
  refine e_s rfl ?_
  refine e_s rfl ?_
  refine e_s rfl ?_
  refine e_s rfl ?_
  refine e_s rfl ?_
  exact hr
end PXTa
