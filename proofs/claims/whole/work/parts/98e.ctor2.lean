/-! the constructor of the class: its cells -/
def rfA : List (Nat × Nat × Nat) := [(0, 0, 1), (0, 2, 2), (0, 3, 4), (0, 4, 6), (0, 5, 8), (0, 7, 9), (0, 8, 15), (0, 10, 16), (0, 11, 17), (0, 12, 18), (0, 15, 19), (2, 7, 3), (4, 7, 5), (6, 7, 7), (9, 0, 10), (9, 3, 14), (10, 0, 11), (10, 2, 12), (10, 3, 13), (16, 0, 20), (16, 1, 22), (16, 2, 24), (16, 3, 26), (20, 0, 21), (22, 0, 23), (24, 0, 25), (26, 0, 27)]
def rfB : List (Nat × Nat × Nat) := [(28, 0, 29), (28, 3, 30)]
def rfC : List (Nat × Nat × Nat) := [(31, 1, 32), (31, 2, 33), (31, 5, 34), (31, 12, 35), (31, 13, 36), (31, 15, 37), (31, 32, 38), (31, 33, 39), (31, 35, 40), (31, 36, 41), (31, 40, 42), (31, 41, 43), (31, 42, 44), (31, 45, 45), (31, 46, 46), (31, 47, 47), (31, 48, 48)]
theorem RF_hi : ∀ a, a ≤ 48 → ∀ j, RF a (j + 49) = none := by
  intro a ha j
  match a, ha with
  | 0, _ => rfl
  | 1, _ => rfl
  | 2, _ => rfl
  | 3, _ => rfl
  | 4, _ => rfl
  | 5, _ => rfl
  | 6, _ => rfl
  | 7, _ => rfl
  | 8, _ => rfl
  | 9, _ => rfl
  | 10, _ => rfl
  | 11, _ => rfl
  | 12, _ => rfl
  | 13, _ => rfl
  | 14, _ => rfl
  | 15, _ => rfl
  | 16, _ => rfl
  | 17, _ => rfl
  | 18, _ => rfl
  | 19, _ => rfl
  | 20, _ => rfl
  | 21, _ => rfl
  | 22, _ => rfl
  | 23, _ => rfl
  | 24, _ => rfl
  | 25, _ => rfl
  | 26, _ => rfl
  | 27, _ => rfl
  | 28, _ => rfl
  | 29, _ => rfl
  | 30, _ => rfl
  | 31, _ => rfl
  | 32, _ => rfl
  | 33, _ => rfl
  | 34, _ => rfl
  | 35, _ => rfl
  | 36, _ => rfl
  | 37, _ => rfl
  | 38, _ => rfl
  | 39, _ => rfl
  | 40, _ => rfl
  | 41, _ => rfl
  | 42, _ => rfl
  | 43, _ => rfl
  | 44, _ => rfl
  | 45, _ => rfl
  | 46, _ => rfl
  | 47, _ => rfl
  | 48, _ => rfl
  | a + 49, h => exact absurd h (by omega)
theorem RF_lo : ((List.range 49).all (fun a => (List.range 49).all (fun j => (RF a j).isNone || (rfA.contains (a, j, (RF a j).getD 0) && Nat.blt a 28) || (rfB.contains (a, j, (RF a j).getD 0) && Nat.beq a 28) || (rfC.contains (a, j, (RF a j).getD 0) && Nat.beq a 31)))) = true := by decide +kernel
theorem RF_m {a j r : Nat} (ha : a ≤ 48) (h : RF a j = some r) : ((a, j, r) ∈ rfA ∧ a < 28) ∨ ((a, j, r) ∈ rfB ∧ a = 28) ∨ ((a, j, r) ∈ rfC ∧ a = 31) := by
  by_cases hj : j < 49
  · have g := List.all_eq_true.mp (List.all_eq_true.mp RF_lo a (List.mem_range.mpr (by omega))) j (List.mem_range.mpr hj)
    rw [h] at g
    simp only [Option.isNone_some, Option.getD_some, Bool.false_or, Bool.or_eq_true, Bool.and_eq_true, List.contains_iff_mem] at g
    rcases g with (g | g) | g
    · exact Or.inl ⟨g.1, by have := Nat.le_of_ble_eq_true g.2; omega⟩
    · exact Or.inr (Or.inl ⟨g.1, Nat.beq_eq.mp g.2⟩)
    · exact Or.inr (Or.inr ⟨g.1, Nat.beq_eq.mp g.2⟩)
  · have e := RF_hi a ha (j - 49)
    rw [show j - 49 + 49 = j by omega, h] at e
    cases e
section PXC2
variable {d n q L c : Nat} {so : Option Nat} {R : px_HR} {S : px_HS} {I : px_HI} {J : px_HJ} {xs : Nat → Int32}
theorem i_3 (hS : S 9 = (16, 5)) : px_mt (d + 2) 3 [.ref 9] I J R S 10 q (none, px_u (px_z (px_u (px_u (px_u (px_z (px_z (px_u (px_z (px_z I 10 0) 11 0) 10 1 0) 12 0) 13 0) 10 4 0) 9 1 (-1)) 9 2 0) 14 0) 9 4 0, px_z (px_z (px_z (px_z (px_z J 10 0) 11 0) 12 0) 13 0) 14 0, px_u (px_z (px_u (px_u (px_z (px_u (px_z (px_u (px_z (px_z R 10 none) 11 none) 10 0 (some 11)) 12 none) 10 2 (some 12)) 13 none) 10 3 (some 13)) 9 0 (some 10)) 14 none) 9 3 (some 14), px_us (px_us (px_us (px_us (px_us S 10 (19, 5)) 11 (100, 160)) 12 (100, 161)) 13 (100, 161)) 14 (100, 160), 15, q + 5 + 160 + 161 + 161 + 160) := by
  have h1 : px_us (px_us (px_us (px_us S 10 (19, 5)) 11 (100, 160)) 12 (100, 161)) 13 (100, 161) 9 = (16, 5) := by
    rw [us_ne (by decide), us_ne (by decide), us_ne (by decide), us_ne (by decide), hS]
  have h2 : px_us (px_us (px_us (px_us (px_us S 10 (19, 5)) 11 (100, 160)) 12 (100, 161)) 13 (100, 161)) 14 (100, 160) 9 = (16, 5) := by
    rw [us_ne (by decide), h1]
  unfold px_mt
  refine e_s rfl ?_
  refine e_s rfl ?_
  refine e_s rfl ?_
  refine e_nw rfl (by decide) ?_
  refine e_s rfl ?_
  refine e_cv (kd := 19) (len := 5) rfl rfl rfl us_eq rfl rfl (i_4 (d := d) us_eq (by decide) (by decide)) (by omega) ?_
  refine e_pr rfl h1 rfl ?_
  refine e_s rfl ?_
  refine e_s rfl ?_
  refine e_pi rfl h1 rfl rfl ?_
  refine e_s rfl ?_
  refine e_s rfl ?_
  refine e_pi rfl h1 rfl rfl ?_
  refine e_s rfl ?_
  refine e_s rfl ?_
  refine e_na (x := 160) rfl (by decide) (by decide) ?_
  refine e_pr rfl h2 rfl ?_
  refine e_s rfl ?_
  refine e_s rfl ?_
  refine e_pi rfl h2 rfl rfl ?_
  exact e_r rfl
/-- what the constructor has made ahead of the first rule -/
theorem c_A : ∃ (I1 : px_HI) (J1 : px_HJ) (R1 : px_HR) (S1 : px_HS) (q1 : Nat), (∀ r, px_ev (d + 3) 1 163 [some (.ref 0), some (.int 0)] [] I1 J1 R1 S1 28 q1 r → px_mt (d + 3) 1 [.ref 0] (px_z (px_I0 xs) 0 0) (px_z px_J0 0 0) (px_z (px_R0 so) 0 none) (px_us (px_S0 L) 0 (21, 16)) 1 16 r) ∧ q1 ≤ 2000 ∧ (∀ a, a < 28 → S1 a = SH a) ∧ (∀ a, 1000000 ≤ a → S1 a = px_S0 L a) ∧ (∀ p, p ∈ rfA → R1 p.1 p.2.1 = some p.2.2) ∧ (∀ a j, 1000000 ≤ a → R1 a j = px_R0 so a j) ∧ (∀ a j, 1000000 ≤ a → I1 a j = px_I0 xs a j) ∧ I1 0 1 = 0 ∧ I1 0 6 = -1 ∧ I1 2 0 = 9 ∧ I1 2 1 = 0 ∧ I1 2 2 = 1 ∧ I1 2 3 = 0 ∧ I1 2 4 = 0 ∧ I1 2 5 = 0 ∧ I1 2 6 = 0 ∧ (∀ j, I1 3 j = 0) ∧ I1 10 1 = 0 ∧ ∀ s, s < 4 → I1 (20 + 2 * s) 1 = -1 ∧ I1 (20 + 2 * s) 2 = 0 := by
  apply Exists.intro
  apply Exists.intro
  apply Exists.intro
  apply Exists.intro
  apply Exists.intro
  apply And.intro
  · intro r kk
    unfold px_mt
    repeat refine e_s rfl ?_
    refine e_c rfl (i_2 (d := d) rfl (by decide) (by decide)) (by omega) ?_
    repeat refine e_s rfl ?_
    refine e_c rfl (i_2 (d := d) rfl (by decide) (by decide)) (by omega) ?_
    repeat refine e_s rfl ?_
    refine e_c rfl (i_2 (d := d) rfl (by decide) (by decide)) (by omega) ?_
    repeat refine e_s rfl ?_
    refine e_c rfl (i_3 (d := d) rfl) (by omega) ?_
    repeat refine e_s rfl ?_
    refine e_c rfl (i_5 (d := d) rfl (by decide) (by decide)) (by omega) ?_
    repeat refine e_s rfl ?_
    refine e_c rfl (i_5 (d := d) rfl (by decide) (by decide)) (by omega) ?_
    repeat refine e_s rfl ?_
    refine e_c rfl (i_5 (d := d) rfl (by decide) (by decide)) (by omega) ?_
    repeat refine e_s rfl ?_
    refine e_c rfl (i_5 (d := d) rfl (by decide) (by decide)) (by omega) ?_
    refine e_s rfl ?_
    refine e_s rfl ?_
    refine e_s rfl ?_
    refine e_s rfl ?_
    refine e_s rfl ?_
    refine e_s rfl ?_
    refine e_s rfl ?_
    refine e_s rfl ?_
    refine e_s rfl ?_
    refine e_s rfl ?_
    exact kk
  · refine ⟨by decide, fun a ha => ?_, fun a ha => ?_, fun p hp => ?_, fun a j ha => ?_, fun a j ha => ?_, rfl, rfl, rfl, rfl, rfl, rfl, rfl, rfl, rfl, fun j => rfl, rfl, fun s hs => ?_⟩
    · match a, ha with
      | 0, _ => rfl
      | 1, _ => rfl
      | 2, _ => rfl
      | 3, _ => rfl
      | 4, _ => rfl
      | 5, _ => rfl
      | 6, _ => rfl
      | 7, _ => rfl
      | 8, _ => rfl
      | 9, _ => rfl
      | 10, _ => rfl
      | 11, _ => rfl
      | 12, _ => rfl
      | 13, _ => rfl
      | 14, _ => rfl
      | 15, _ => rfl
      | 16, _ => rfl
      | 17, _ => rfl
      | 18, _ => rfl
      | 19, _ => rfl
      | 20, _ => rfl
      | 21, _ => rfl
      | 22, _ => rfl
      | 23, _ => rfl
      | 24, _ => rfl
      | 25, _ => rfl
      | 26, _ => rfl
      | 27, _ => rfl
      | a + 28, h => exact absurd h (by omega)
    · repeat rw [us_ne (by omega)]
    · unfold rfA at hp
      simp only [List.mem_cons, List.not_mem_nil, or_false] at hp
      rcases hp with rfl | rfl | rfl | rfl | rfl | rfl | rfl | rfl | rfl | rfl | rfl | rfl | rfl | rfl | rfl | rfl | rfl | rfl | rfl | rfl | rfl | rfl | rfl | rfl | rfl | rfl | rfl <;> rfl
    · repeat first | rw [u_ne (by omega)] | rw [z_ne (by omega)]
    · repeat first | rw [u_ne (by omega)] | rw [z_ne (by omega)]
    · match s, hs with
      | 0, _ => exact ⟨rfl, rfl⟩
      | 1, _ => exact ⟨rfl, rfl⟩
      | 2, _ => exact ⟨rfl, rfl⟩
      | 3, _ => exact ⟨rfl, rfl⟩
end PXC2
