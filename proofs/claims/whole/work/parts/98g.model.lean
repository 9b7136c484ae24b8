/-! the constructor of the model -/
section PXC4
variable {d n q L c p : Nat} {so : Option Nat} {R : px_HR} {S : px_HS} {I : px_HI} {J : px_HJ} {xs : Nat → Int32} {a0 a1 a2 a3 a4 a5 a6 a7 : Int32}
theorem i_142 (hS : S 31 = (22, 49)) (hR : R 31 1 = some 32) (hA : S 32 = (100, 960)) (hp : p + 8 ≤ 960) : px_mt (d + 1) 142 [.ref 31, .int (nI p), .int a0, .int a1, .int a2, .int a3, .int a4, .int a5, .int a6, .int a7] I J R S n q (none, px_u (px_u (px_u (px_u (px_u (px_u (px_u (px_u I 32 p a0) 32 (p + 1) a1) 32 (p + 2) a2) 32 (p + 3) a3) 32 (p + 4) a4) 32 (p + 5) a5) 32 (p + 6) a6) 32 (p + 7) a7, J, R, S, n, q) := by
  unfold px_mt
  refine e_s rfl ?_
  refine e_gr rfl hS rfl hR ?_
  refine e_s rfl ?_
  refine e_s rfl ?_
  refine e_is rfl hA rfl (show p < 960 by omega) (by decide) ?_
  refine e_s rfl ?_
  refine e_gr rfl hS rfl hR ?_
  refine e_s rfl ?_
  refine e_s rfl ?_
  refine e_s rfl ?_
  rw [show nI p + 1 = nI (p + 1) from nI_add p 1]
  refine e_s rfl ?_
  refine e_is rfl hA rfl (show p + 1 < 960 by omega) (by decide) ?_
  refine e_s rfl ?_
  refine e_gr rfl hS rfl hR ?_
  refine e_s rfl ?_
  refine e_s rfl ?_
  refine e_s rfl ?_
  rw [show nI p + 2 = nI (p + 2) from nI_add p 2]
  refine e_s rfl ?_
  refine e_is rfl hA rfl (show p + 2 < 960 by omega) (by decide) ?_
  refine e_s rfl ?_
  refine e_gr rfl hS rfl hR ?_
  refine e_s rfl ?_
  refine e_s rfl ?_
  refine e_s rfl ?_
  rw [show nI p + 3 = nI (p + 3) from nI_add p 3]
  refine e_s rfl ?_
  refine e_is rfl hA rfl (show p + 3 < 960 by omega) (by decide) ?_
  refine e_s rfl ?_
  refine e_gr rfl hS rfl hR ?_
  refine e_s rfl ?_
  refine e_s rfl ?_
  refine e_s rfl ?_
  rw [show nI p + 4 = nI (p + 4) from nI_add p 4]
  refine e_s rfl ?_
  refine e_is rfl hA rfl (show p + 4 < 960 by omega) (by decide) ?_
  refine e_s rfl ?_
  refine e_gr rfl hS rfl hR ?_
  refine e_s rfl ?_
  refine e_s rfl ?_
  refine e_s rfl ?_
  rw [show nI p + 5 = nI (p + 5) from nI_add p 5]
  refine e_s rfl ?_
  refine e_is rfl hA rfl (show p + 5 < 960 by omega) (by decide) ?_
  refine e_s rfl ?_
  refine e_gr rfl hS rfl hR ?_
  refine e_s rfl ?_
  refine e_s rfl ?_
  refine e_s rfl ?_
  rw [show nI p + 6 = nI (p + 6) from nI_add p 6]
  refine e_s rfl ?_
  refine e_is rfl hA rfl (show p + 6 < 960 by omega) (by decide) ?_
  refine e_s rfl ?_
  refine e_gr rfl hS rfl hR ?_
  refine e_s rfl ?_
  refine e_s rfl ?_
  refine e_s rfl ?_
  rw [show nI p + 7 = nI (p + 7) from nI_add p 7]
  refine e_s rfl ?_
  refine e_is rfl hA rfl (show p + 7 < 960 by omega) (by decide) ?_
  exact e_r rfl
theorem c_mod : ∃ (I1 : px_HI) (J1 : px_HJ) (R1 : px_HR) (S1 : px_HS) (q1 : Nat), px_mt (d + 2) 141 [.ref 31] (px_z I 31 0) (px_z J 31 0) (px_z R 31 none) (px_us S 31 (22, 49)) 32 q (none, I1, J1, R1, S1, 49, q1) ∧ q1 ≤ q + 2000 ∧ (∀ a, 31 ≤ a → a ≤ 48 → S1 a = SH a) ∧ (∀ a, a < 31 ∨ 1000000 ≤ a → S1 a = S a) ∧ (∀ p, p ∈ rfC → R1 p.1 p.2.1 = some p.2.2) ∧ (∀ a j, a < 31 ∨ 1000000 ≤ a → R1 a j = R a j) ∧ (∀ a j, a < 31 ∨ 1000000 ≤ a → I1 a j = I a j) ∧ I1 31 3 = 1 ∧ I1 31 4 = 0 ∧ I1 31 6 = 0 ∧ I1 31 7 = 9 ∧ I1 31 8 = 0 ∧ I1 31 9 = 1 ∧ I1 31 10 = 0 ∧ I1 31 11 = 0 ∧ I1 31 14 = 0 ∧ I1 31 16 = 0 ∧ I1 31 43 = -1 ∧ (∀ j, I1 37 j = 0) ∧ (∀ j, I1 45 j = 0) ∧ I1 33 0 = 48 ∧ ∀ j, j < 48 → I1 32 j = frL j := by
  apply Exists.intro
  apply Exists.intro
  apply Exists.intro
  apply Exists.intro
  apply Exists.intro
  apply And.intro
  · unfold px_mt
    repeat refine e_s rfl ?_
    refine e_c rfl (i_142 (d := d) (p := 0) rfl rfl rfl (by decide)) (by omega) ?_
    repeat refine e_s rfl ?_
    refine e_c rfl (i_142 (d := d) (p := 8) rfl rfl rfl (by decide)) (by omega) ?_
    repeat refine e_s rfl ?_
    refine e_c rfl (i_142 (d := d) (p := 16) rfl rfl rfl (by decide)) (by omega) ?_
    repeat refine e_s rfl ?_
    refine e_c rfl (i_142 (d := d) (p := 24) rfl rfl rfl (by decide)) (by omega) ?_
    repeat refine e_s rfl ?_
    refine e_c rfl (i_142 (d := d) (p := 32) rfl rfl rfl (by decide)) (by omega) ?_
    repeat refine e_s rfl ?_
    refine e_c rfl (i_142 (d := d) (p := 40) rfl rfl rfl (by decide)) (by omega) ?_
    repeat refine e_s rfl ?_
    exact e_r rfl
  · have t1 : Int32.toNatClampNeg 960 = 960 := by decide
    have t2 : Int32.toNatClampNeg 6 = 6 := by decide
    have t3 : Int32.toNatClampNeg 160 = 160 := by decide
    have t4 : Int32.toNatClampNeg 7 = 7 := by decide
    have t5 : Int32.toNatClampNeg 24 = 24 := by decide
    have t6 : Int32.toNatClampNeg 4 = 4 := by decide
    refine ⟨by omega, fun a ha ha2 => ?_, fun a ha => ?_, fun p hp => ?_, fun a j ha => ?_, fun a j ha => ?_, rfl, rfl, rfl, rfl, rfl, rfl, rfl, rfl, rfl, rfl, rfl, fun j => rfl, fun j => rfl, rfl, fun j hj => ?_⟩
    · obtain ⟨b, rfl⟩ : ∃ b, a = b + 31 := ⟨a - 31, by omega⟩
      have hb : b < 18 := by omega
      match b, hb with
      | 0, _ => rfl
      | 1, _ => rfl
      | 2, _ => rfl
      | 3, _ => rfl
      | 4, _ => rfl
      | 5, _ => rfl
      | 6, _ => rfl
      | 7, _ => rfl
      | 8, _ => rfl
      | 9, _ => rfl
      | 10, _ => rfl
      | 11, _ => rfl
      | 12, _ => rfl
      | 13, _ => rfl
      | 14, _ => rfl
      | 15, _ => rfl
      | 16, _ => rfl
      | 17, _ => rfl
      | b + 18, h => exact absurd h (by omega)
    · repeat rw [us_ne (by omega)]
    · unfold rfC at hp
      simp only [List.mem_cons, List.not_mem_nil, or_false] at hp
      rcases hp with rfl | rfl | rfl | rfl | rfl | rfl | rfl | rfl | rfl | rfl | rfl | rfl | rfl | rfl | rfl | rfl | rfl <;> rfl
    · repeat first | rw [u_ne (by omega)] | rw [z_ne (by omega)]
    · repeat first | rw [u_ne (by omega)] | rw [z_ne (by omega)]
    · match j, hj with
      | 0, _ => rfl
      | 1, _ => rfl
      | 2, _ => rfl
      | 3, _ => rfl
      | 4, _ => rfl
      | 5, _ => rfl
      | 6, _ => rfl
      | 7, _ => rfl
      | 8, _ => rfl
      | 9, _ => rfl
      | 10, _ => rfl
      | 11, _ => rfl
      | 12, _ => rfl
      | 13, _ => rfl
      | 14, _ => rfl
      | 15, _ => rfl
      | 16, _ => rfl
      | 17, _ => rfl
      | 18, _ => rfl
      | 19, _ => rfl
      | 20, _ => rfl
      | 21, _ => rfl
      | 22, _ => rfl
      | 23, _ => rfl
      | 24, _ => rfl
      | 25, _ => rfl
      | 26, _ => rfl
      | 27, _ => rfl
      | 28, _ => rfl
      | 29, _ => rfl
      | 30, _ => rfl
      | 31, _ => rfl
      | 32, _ => rfl
      | 33, _ => rfl
      | 34, _ => rfl
      | 35, _ => rfl
      | 36, _ => rfl
      | 37, _ => rfl
      | 38, _ => rfl
      | 39, _ => rfl
      | 40, _ => rfl
      | 41, _ => rfl
      | 42, _ => rfl
      | 43, _ => rfl
      | 44, _ => rfl
      | 45, _ => rfl
      | 46, _ => rfl
      | 47, _ => rfl
      | j + 48, h => exact absurd h (by omega)
end PXC4
