/-! Scene.become of the class -/
section PXS3
variable {d n q L : Nat} {so : Option Nat} {dr : px_HR} {ds : px_HS} {I : px_HI} {J : px_HJ}
theorem r_bec_4_2 : ∃ I', px_mt (d + 1) 107 [.ref 4, .ref 2] I J (dR so dr) (dS L ds) n q (none, I', J, dR so dr, dS L ds, n, q) ∧ (∀ j, j < 7 → I' 4 j = I 2 j) ∧ (∀ j, j < 6 → I' 5 j = I 3 j) ∧ ∀ x j, x ≠ 4 → x ≠ 5 → I' x j = I x j := by
  refine ⟨px_row (px_u (px_u (px_u (px_u (px_u (px_u (px_u (I) 4 0 (I 2 0)) 4 1 (I 2 1)) 4 2 (I 2 2)) 4 3 (I 2 3)) 4 4 (I 2 4)) 4 5 (I 2 5)) 4 6 (I 2 6)) 5 (va_cpy (I 3) (I 5) 0 0 6), ?_, fun j hj => ?_, fun j hj => ?_, fun x j h1 h2 => ?_⟩
  · unfold px_mt
    repeat refine e_s rfl ?_
    exact e_r rfl
  · rw [row_ne (by decide)]
    rcases (show j = 0 ∨ j = 1 ∨ j = 2 ∨ j = 3 ∨ j = 4 ∨ j = 5 ∨ j = 6 by omega) with rfl | rfl | rfl | rfl | rfl | rfl | rfl <;> rfl
  · rw [row_eq, pk_cpy_in (Nat.zero_le _) (by omega)]
    rw [show 0 + (j - 0) = j by omega]
  · rw [row_ne h2, u_ne (fun e => absurd e h1), u_ne (fun e => absurd e h1), u_ne (fun e => absurd e h1), u_ne (fun e => absurd e h1), u_ne (fun e => absurd e h1), u_ne (fun e => absurd e h1), u_ne (fun e => absurd e h1)]
theorem r_bec_6_2 : ∃ I', px_mt (d + 1) 107 [.ref 6, .ref 2] I J (dR so dr) (dS L ds) n q (none, I', J, dR so dr, dS L ds, n, q) ∧ (∀ j, j < 7 → I' 6 j = I 2 j) ∧ (∀ j, j < 6 → I' 7 j = I 3 j) ∧ ∀ x j, x ≠ 6 → x ≠ 7 → I' x j = I x j := by
  refine ⟨px_row (px_u (px_u (px_u (px_u (px_u (px_u (px_u (I) 6 0 (I 2 0)) 6 1 (I 2 1)) 6 2 (I 2 2)) 6 3 (I 2 3)) 6 4 (I 2 4)) 6 5 (I 2 5)) 6 6 (I 2 6)) 7 (va_cpy (I 3) (I 7) 0 0 6), ?_, fun j hj => ?_, fun j hj => ?_, fun x j h1 h2 => ?_⟩
  · unfold px_mt
    repeat refine e_s rfl ?_
    exact e_r rfl
  · rw [row_ne (by decide)]
    rcases (show j = 0 ∨ j = 1 ∨ j = 2 ∨ j = 3 ∨ j = 4 ∨ j = 5 ∨ j = 6 by omega) with rfl | rfl | rfl | rfl | rfl | rfl | rfl <;> rfl
  · rw [row_eq, pk_cpy_in (Nat.zero_le _) (by omega)]
    rw [show 0 + (j - 0) = j by omega]
  · rw [row_ne h2, u_ne (fun e => absurd e h1), u_ne (fun e => absurd e h1), u_ne (fun e => absurd e h1), u_ne (fun e => absurd e h1), u_ne (fun e => absurd e h1), u_ne (fun e => absurd e h1), u_ne (fun e => absurd e h1)]
theorem r_bec_2_6 : ∃ I', px_mt (d + 1) 107 [.ref 2, .ref 6] I J (dR so dr) (dS L ds) n q (none, I', J, dR so dr, dS L ds, n, q) ∧ (∀ j, j < 7 → I' 2 j = I 6 j) ∧ (∀ j, j < 6 → I' 3 j = I 7 j) ∧ ∀ x j, x ≠ 2 → x ≠ 3 → I' x j = I x j := by
  refine ⟨px_row (px_u (px_u (px_u (px_u (px_u (px_u (px_u (I) 2 0 (I 6 0)) 2 1 (I 6 1)) 2 2 (I 6 2)) 2 3 (I 6 3)) 2 4 (I 6 4)) 2 5 (I 6 5)) 2 6 (I 6 6)) 3 (va_cpy (I 7) (I 3) 0 0 6), ?_, fun j hj => ?_, fun j hj => ?_, fun x j h1 h2 => ?_⟩
  · unfold px_mt
    repeat refine e_s rfl ?_
    exact e_r rfl
  · rw [row_ne (by decide)]
    rcases (show j = 0 ∨ j = 1 ∨ j = 2 ∨ j = 3 ∨ j = 4 ∨ j = 5 ∨ j = 6 by omega) with rfl | rfl | rfl | rfl | rfl | rfl | rfl <;> rfl
  · rw [row_eq, pk_cpy_in (Nat.zero_le _) (by omega)]
    rw [show 0 + (j - 0) = j by omega]
  · rw [row_ne h2, u_ne (fun e => absurd e h1), u_ne (fun e => absurd e h1), u_ne (fun e => absurd e h1), u_ne (fun e => absurd e h1), u_ne (fun e => absurd e h1), u_ne (fun e => absurd e h1), u_ne (fun e => absurd e h1)]
theorem r_unh_4_2 : ∃ I', px_mt (d + 2) 121 [.ref 4, .ref 2] I J (dR so dr) (dS L ds) n q (none, I', J, dR so dr, dS L ds, n, q) ∧ (∀ j, j < 6 → I' 4 j = I 2 j) ∧ I' 4 6 = 0 ∧ (∀ j, j < 6 → I' 5 j = I 3 j) ∧ ∀ x j, x ≠ 4 → x ≠ 5 → I' x j = I x j := by
  obtain ⟨I1, h1, h2, h3, h4⟩ := r_bec_4_2 (d := d) (n := n) (q := q) (so := so) (dr := dr) (L := L) (ds := ds) (I := I) (J := J)
  refine ⟨px_u I1 4 6 0, ?_, fun j hj => by rw [u_ne (fun _ => by omega)]; exact h2 j (by omega), u_eq, fun j hj => by rw [u_ne (fun e => absurd e (by decide))]; exact h3 j hj, fun x j g1 g2 => by rw [u_ne (fun e => absurd e g1)]; exact h4 x j g1 g2⟩
  unfold px_mt
  repeat refine e_s rfl ?_
  refine e_c rfl h1 (by omega) ?_
  repeat refine e_s rfl ?_
  exact e_r rfl
theorem r_sadd_2 {sg : Nat} {x : Int32} (hg : I 2 6 = nI sg) (h6 : sg < 6) : px_mt (d + 1) 58 [.ref 2, .int x] I J (dR so dr) (dS L ds) n q (none, px_u (px_u I 3 sg x) 2 6 (nI (sg + 1)), J, dR so dr, dS L ds, n, q) := by
  unfold px_mt
  repeat refine e_s rfl ?_
  rw [hg]
  refine e_bf (nI_ge (b := 6) h6 (by decide)) ?_
  repeat refine e_s rfl ?_
  rw [hg]
  refine e_is rfl rfl rfl h6 (by decide) ?_
  repeat refine e_s rfl ?_
  rw [show px_u I 3 sg x 2 6 = nI sg from hg, nI_1]
  exact e_r rfl
theorem r_sadd_4 {sg : Nat} {x : Int32} (hg : I 4 6 = nI sg) (h6 : sg < 6) : px_mt (d + 1) 58 [.ref 4, .int x] I J (dR so dr) (dS L ds) n q (none, px_u (px_u I 5 sg x) 4 6 (nI (sg + 1)), J, dR so dr, dS L ds, n, q) := by
  unfold px_mt
  repeat refine e_s rfl ?_
  rw [hg]
  refine e_bf (nI_ge (b := 6) h6 (by decide)) ?_
  repeat refine e_s rfl ?_
  rw [hg]
  refine e_is rfl rfl rfl h6 (by decide) ?_
  repeat refine e_s rfl ?_
  rw [show px_u I 5 sg x 4 6 = nI sg from hg, nI_1]
  exact e_r rfl
theorem wFd_c {kd : Nat} {nb : Int32} {f g : Nat → Int32} : ∀ k i (w : Int64), (∀ j, j < i + k → f j = g j) → wFd kd nb f k i w = wFd kd nb g k i w
  | 0, _, _, _ => rfl
  | k + 1, i, w, h => by
    show wFd kd nb f k (i + 1) (w * (snd kd nb (f i) (nI i)).toInt64) = wFd kd nb g k (i + 1) (w * (snd kd nb (g i) (nI i)).toInt64)
    rw [h i (by omega)]
    exact wFd_c k (i + 1) _ (fun j hj => h j (by omega))
end PXS3
