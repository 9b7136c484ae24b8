theorem px_arrc {args : Array Value} {s : State} {ty : FieldType} (hp : ∀ C, ty ≠ .object C) (h : (Cond.arrayClass ty).before args s = true) : ∃ cA, ArrOfT s cA ty ∧ va_RA s cA ty := by
  obtain ⟨cA, k, comp, h1, h2, h3⟩ := Cond.arrayClass_spec (args := args) (first := s) (o := none) (s := s) (idx := []) h
  refine ⟨cA, fun n z => ⟨fun k h => (by cases h), k, h2, comp, h3⟩, ?_⟩
  cases ty <;> first | exact h1 | exact absurd rfl (hp _)
theorem px_arro {args : Array Value} {s : State} {C : String} (h : (Cond.arrayOver (.object C)).before args s = true) : ∃ cA, ArrOfT s cA (.object C) ∧ va_RA s cA (.object C) := by
  obtain ⟨comp, cA, k, h1, h2, h3, h4, h5⟩ := Cond.arrayOver_spec (args := args) (first := s) (o := none) (s := s) (idx := []) h
  exact ⟨cA, fun n z => ⟨fun k h => (by cases h), k, h3, comp, h4⟩, k, comp, h3, h4, h1, h5⟩
set_option maxHeartbeats 4000000 in
theorem px_K0 {s : State} {b L : Nat} {xs : Nat → Int32} (hts : ∀ w ∈ lw_tbl, w.before #[Value.ref b] s = true) (hX : va_X b L xs s s.heap) (hgv : (Jvm.Cond.and given_1 narrow_1).before #[Value.ref b] s = true) : ∃ (ro : Nat → Nat) (D : va_G) (aC : Nat → ClassId) (so : Option Nat), ro 1000000 = b ∧ px_K (s.heap.size, ro, D, aC, px_I0 xs, px_R0 so, px_S0 L) s := by
  have hn : ∀ w ∈ px_nar, w.before #[Value.ref b] s = true := flat_of_before _ hgv
  obtain ⟨cl0, hcl0⟩ : ∃ f : Nat → ClassId × (Nat → Nat), ∀ (ci : Nat) (r : vw_C), px_cl[ci]? = some r → u_Kn s r.1 r.2.1 r.2.2 (f ci).1 (f ci).2 := by
    have h0 : ∀ ci : Nat, ∃ q : ClassId × (Nat → Nat), ∀ r : vw_C, px_cl[ci]? = some r → u_Kn s r.1 r.2.1 r.2.2 q.1 q.2 := by
      intro ci
      cases hr : px_cl[ci]? with
      | none => exact ⟨(0, fun _ => 0), fun r h => by cases h⟩
      | some r =>
        have hl := (List.getElem?_eq_some_iff.mp hr).1
        rw [px_cllen] at hl
        have hi := List.all_eq_true.mp px_n7 ci (List.mem_range.mpr hl)
        rw [hr] at hi
        obtain ⟨cC, iS, hK⟩ := u_known hts (fun w hw => (List.mem_filter.mp ((px_clok hr).1 w hw)).1) (hts _ (of_decide_eq_true hi))
        exact ⟨(cC, iS), fun r1 h => by cases h; exact hK⟩
    exact Classical.axiomOfChoice h0
  obtain ⟨c0, k0⟩ := px_arrc (by intro C h; cases h) (hts _ px_n13.1)
  obtain ⟨c1, k1⟩ := px_arrc (by intro C h; cases h) (hts _ px_n13.2.1)
  obtain ⟨c2, k2⟩ := px_arrc (by intro C h; cases h) (hts _ px_n13.2.2.1)
  obtain ⟨c3, k3⟩ := px_arrc (by intro C h; cases h) (hts _ px_n13.2.2.2)
  obtain ⟨c4, k4⟩ := px_arro (hts _ px_n10.1)
  obtain ⟨c5, k5⟩ := px_arro (hts _ px_n10.2.1)
  obtain ⟨c6, k6⟩ := px_arro (hts _ px_n10.2.2)
  have hA : ∀ a : Nat, a < s.heap.size → ¬ (fun q : Nat => s.heap.size ≤ q) a := fun a h => Nat.not_le.mpr h
  have hw1 := fun (i : Nat) (hi : i < 13) => List.all_eq_true.mp px_n1 i (List.mem_range.mpr hi)
  simp only [Bool.and_eq_true, decide_eq_true_eq] at hw1
  obtain ⟨adK, adV, hvS, hadK⟩ := vk_Sof (args := #[Value.ref b]) (s := s) (N := 13) (tm := px_tm) (len := px_ln) (byt := px_by) (A := fun q : Nat => s.heap.size ≤ q)
    (fun i hi => by have : (List.range 13).all (fun i => decide (px_ln.getD i 0 < 2 ^ 31)) = true := by decide +kernel
                    exact of_decide_eq_true (List.all_eq_true.mp this i (List.mem_range.mpr hi)))
    (fun i hi => hn _ (hw1 i hi).1.1.1) (fun i hi => hn _ (hw1 i hi).1.1.2) (fun i hi => hn _ (hw1 i hi).1.2) (fun i hi => hn _ (hw1 i hi).2)
    (fun i hi j hj => hn _ (of_decide_eq_true (List.all_eq_true.mp (List.all_eq_true.mp px_n2 i (List.mem_range.mpr hi)) j (List.mem_range.mpr hj))))
    (fun i j hi hj hij => by
      rcases Nat.lt_or_gt_of_ne hij with h | h
      · exact Or.inl (hn _ (px_n3 i j h hj))
      · exact Or.inr (hn _ (px_n3 j i h hi))) hA
  obtain ⟨tH, htH, hTH⟩ := va_Tof (args := #[Value.ref b]) (s := s) (tm := .static "AtTheDoor" "HOUSE_BOUNDS" "[I") (ty := .int) (N := 5) (f := fun j => .int (px_hb j)) (A := fun q : Nat => s.heap.size ≤ q) (by decide) (hn _ px_n5.2.2.1) (va_eqt (hn _ px_n5.2.2.2)) (fun j hj => va_eqt (hn _ (of_decide_eq_true (List.all_eq_true.mp px_n6 j (List.mem_range.mpr hj))))) hA
  obtain ⟨vs, hvs, hvr⟩ := Cond.isRef_spec (args := #[Value.ref b]) (first := s) (o := none) (s := s) (idx := []) (hn _ px_n5.2.1)
  obtain ⟨so, sa, hso⟩ : ∃ (so : Option Nat) (sa : Nat), (so = none ∧ vs = .null) ∨ (so = some 1000003 ∧ vs = .ref sa) := by
    cases vs with
    | null => exact ⟨none, 0, Or.inl ⟨rfl, rfl⟩⟩
    | ref a => exact ⟨some 1000003, a, Or.inr ⟨rfl, rfl⟩⟩
    | _ => cases hvr
  have hz := fun (k : Nat) (hk : k < 3) => List.all_eq_true.mp px_n12 k (List.mem_range.mpr hk)
  simp only [Bool.and_eq_true, decide_eq_true_eq] at hz
  refine ⟨fun a => if a = 1000000 then b else if a = 1000001 then tH else if a = 1000003 then sa else if a < 1000040 then adK (a - 1000010) else adV (a - 1000040), (fun ci => (cl0 ci).1, fun ci => (cl0 ci).2), fun t => match t with
    | 0 => c0
    | 1 => c1
    | 2 => c2
    | 3 => c3
    | 4 => c4
    | 5 => c5
    | _ => c6, so, rfl, ?_⟩
  refine ⟨⟨fun ci r hr => hcl0 ci r hr, fun k x hx => ?_⟩, fun x hx => va_Nw.of rfl (hts _ (of_decide_eq_true (List.all_eq_true.mp px_n8 x hx))), fun x hx => va_Nw.of rfl (hts _ (of_decide_eq_true (List.all_eq_true.mp px_n9 x hx))), fun x hx => va_Nc.of (hn _ (of_decide_eq_true (List.all_eq_true.mp px_n4 x hx))), ⟨va_AO.of (hts _ px_n10.1), va_AO.of (hts _ px_n10.2.1), va_AO.of (hts _ px_n10.2.2)⟩, fun k x hx => ?_, ⟨va_Zof (hts _ (hz 0 (by decide)).1) (hts _ (hz 0 (by decide)).2) (va_eqi (hn _ px_n5.1)) hA, va_Zof (hts _ (hz 1 (by decide)).1) (hts _ (hz 1 (by decide)).2) htH hA, ?_⟩, fun a ha => ?_, fun a ha => ?_, fun a ha => ?_, fun a ha => ?_⟩
  · match k, hx with
    | 0, hx => cases hx; exact k0
    | 1, hx => cases hx; exact k1
    | 2, hx => cases hx; exact k2
    | 3, hx => cases hx; exact k3
    | 4, hx => cases hx; exact k4
    | 5, hx => cases hx; exact k5
    | 6, hx => cases hx; exact k6
    | k + 7, hx => simp [px_tys] at hx
  · have hk : k < 13 := by
      have := (List.getElem?_eq_some_iff.mp hx).1
      rw [px_selen] at this
      exact this
    have h1 := hadK k hk
    unfold px_tm at h1
    rw [hx] at h1
    have e1 : (fun a => if a = 1000000 then b else if a = 1000001 then tH else if a = 1000003 then sa else if a < 1000040 then adK (a - 1000010) else adV (a - 1000040)) (1000010 + k) = adK k := by
      show (if 1000010 + k = 1000000 then b else if 1000010 + k = 1000001 then tH else if 1000010 + k = 1000003 then sa else if 1000010 + k < 1000040 then adK (1000010 + k - 1000010) else adV (1000010 + k - 1000040)) = _
      rw [if_neg (by omega), if_neg (by omega), if_neg (by omega), if_pos (by omega), Nat.add_sub_cancel_left]
    show vk_R _ _ _ ((fun a => if a = 1000000 then b else if a = 1000001 then tH else if a = 1000003 then sa else if a < 1000040 then adK (a - 1000010) else adV (a - 1000040)) (1000010 + k)) s
    rw [e1]
    exact vk_R.of (hts _ (of_decide_eq_true (List.all_eq_true.mp px_n11 x (List.mem_of_getElem? hx)))) h1
  · have e1 : px_rn (s.heap.size, (fun a => if a = 1000000 then b else if a = 1000001 then tH else if a = 1000003 then sa else if a < 1000040 then adK (a - 1000010) else adV (a - 1000040)), (fun ci => (cl0 ci).1, fun ci => (cl0 ci).2), (fun t => match t with
    | 0 => c0
    | 1 => c1
    | 2 => c2
    | 3 => c3
    | 4 => c4
    | 5 => c5
    | _ => c6), px_I0 xs, px_R0 so, px_S0 L) (px_rv (px_R0 so 1000002 0)) = vs := by
      rcases hso with ⟨rfl, rfl⟩ | ⟨rfl, rfl⟩ <;> rfl
    exact va_Zof (hts _ (hz 2 (by decide)).1) (hts _ (hz 2 (by decide)).2) (hvs.trans (congrArg some e1.symm)) hA
  · have h2 : a = 1000000 ∨ a = 1000001 := by
      have ha : (px_S0 L a).1 = 200 := ha
      unfold px_S0 at ha
      by_cases h1 : a = 1000000
      · exact Or.inl h1
      · by_cases h2 : a = 1000001
        · exact Or.inr h2
        · rw [show Nat.beq a 1000000 = false from Bool.eq_false_iff.mpr (fun z => h1 (Nat.beq_eq.mp z)), show Nat.beq a 1000001 = false from Bool.eq_false_iff.mpr (fun z => h2 (Nat.beq_eq.mp z)), cond_false, cond_false] at ha
          cases hq : (Nat.ble 1000010 a && Nat.ble a 1000022) <;> rw [hq] at ha
          · cases hq2 : (Nat.ble 1000040 a && Nat.ble a 1000052) <;> rw [hq2] at ha <;> cases ha
          · cases ha
    rcases h2 with rfl | rfl
    · obtain ⟨scr, g1, g2, g3, g4, g5⟩ := hX
      exact ⟨scr, g1, g2, g3, by rw [g4]; exact Nat.le_refl L, by rw [g4]; rfl, g5, Nat.not_le.mpr (Array.getElem?_eq_some_iff.mp g1).1⟩
    · exact hTH
  · have ha : (px_S0 L a).1 = 203 := ha
    have h2 : 1000040 ≤ a ∧ a ≤ 1000052 ∧ px_S0 L a = (203, px_ln.getD (a - 1000040) 0) ∧ px_I0 xs a = fun k => (px_by.getD (a - 1000040) []).getD k 0 := by
      unfold px_S0 at ha
      by_cases h1 : a = 1000000
      · subst h1; cases ha
      · by_cases h2 : a = 1000001
        · subst h2; cases ha
        · have b1 : Nat.beq a 1000000 = false := Bool.eq_false_iff.mpr (fun z => h1 (Nat.beq_eq.mp z))
          have b2 : Nat.beq a 1000001 = false := Bool.eq_false_iff.mpr (fun z => h2 (Nat.beq_eq.mp z))
          rw [b1, b2, cond_false, cond_false] at ha
          cases hq : (Nat.ble 1000010 a && Nat.ble a 1000022) <;> rw [hq] at ha
          · cases hq2 : (Nat.ble 1000040 a && Nat.ble a 1000052) <;> rw [hq2] at ha
            · cases ha
            · have hq3 := hq2
              simp only [Bool.and_eq_true, Nat.ble_eq] at hq3
              refine ⟨hq3.1, hq3.2, ?_, ?_⟩
              · unfold px_S0
                rw [b1, b2, hq, hq2]
                rfl
              · funext k
                unfold px_I0
                rw [b1, b2, hq2, cond_false, cond_false, cond_true]
          · cases ha
    obtain ⟨g1, g2, g3, g4⟩ := h2
    show va_T .byte ((fun a => if a = 1000000 then b else if a = 1000001 then tH else if a = 1000003 then sa else if a < 1000040 then adK (a - 1000010) else adV (a - 1000040)) a) (px_S0 L a).2 (fun j => .int (px_I0 xs a j)) _ s s.heap
    rw [g3, g4]
    have e1 : (fun a => if a = 1000000 then b else if a = 1000001 then tH else if a = 1000003 then sa else if a < 1000040 then adK (a - 1000010) else adV (a - 1000040)) a = adV (a - 1000040) := by
      show (if a = 1000000 then b else if a = 1000001 then tH else if a = 1000003 then sa else if a < 1000040 then adK (a - 1000010) else adV (a - 1000040)) = _
      rw [if_neg (by omega), if_neg (by omega), if_neg (by omega), if_neg (by omega)]
    rw [e1]
    have hfin := (hvS.1 (a - 1000040) (by omega)).2.2.2
    generalize a - 1000040 = z at hfin ⊢
    exact hfin
  · have ha : (px_S0 L a).1 = 150 := ha
    have h2 : 1000010 ≤ a ∧ a ≤ 1000022 ∧ px_I0 xs a 1 = 0 ∧ px_R0 so a 0 = some (a + 30) := by
      unfold px_S0 at ha
      by_cases h1 : a = 1000000
      · subst h1; cases ha
      · by_cases h2 : a = 1000001
        · subst h2; cases ha
        · have b1 : Nat.beq a 1000000 = false := Bool.eq_false_iff.mpr (fun z => h1 (Nat.beq_eq.mp z))
          have b2 : Nat.beq a 1000001 = false := Bool.eq_false_iff.mpr (fun z => h2 (Nat.beq_eq.mp z))
          rw [b1, b2, cond_false, cond_false] at ha
          cases hq : (Nat.ble 1000010 a && Nat.ble a 1000022) <;> rw [hq] at ha
          · cases hq2 : (Nat.ble 1000040 a && Nat.ble a 1000052) <;> rw [hq2] at ha <;> cases ha
          · have hq3 := hq
            simp only [Bool.and_eq_true, Nat.ble_eq] at hq3
            refine ⟨hq3.1, hq3.2, ?_, ?_⟩
            · unfold px_I0
              rw [b1, b2, show (Nat.ble 1000040 a && Nat.ble a 1000052) = false from Bool.eq_false_iff.mpr (fun z => by simp only [Bool.and_eq_true, Nat.ble_eq] at z; omega)]
              rfl
            · unfold px_R0
              rw [show Nat.beq a 1000002 = false from Bool.eq_false_iff.mpr (fun z => by have := Nat.beq_eq.mp z; omega), hq]
              rfl
    obtain ⟨g1, g2, g3, g4⟩ := h2
    have e1 : (fun a => if a = 1000000 then b else if a = 1000001 then tH else if a = 1000003 then sa else if a < 1000040 then adK (a - 1000010) else adV (a - 1000040)) a = adK (a - 1000010) := by
      show (if a = 1000000 then b else if a = 1000001 then tH else if a = 1000003 then sa else if a < 1000040 then adK (a - 1000010) else adV (a - 1000040)) = _
      rw [if_neg (by omega), if_neg (by omega), if_neg (by omega), if_pos (by omega)]
    have e2 : (fun a => if a = 1000000 then b else if a = 1000001 then tH else if a = 1000003 then sa else if a < 1000040 then adK (a - 1000010) else adV (a - 1000040)) (a + 30) = adV (a - 1000010) := by
      show (if a + 30 = 1000000 then b else if a + 30 = 1000001 then tH else if a + 30 = 1000003 then sa else if a + 30 < 1000040 then adK (a + 30 - 1000010) else adV (a + 30 - 1000040)) = _
      rw [if_neg (by omega), if_neg (by omega), if_neg (by omega), if_neg (by omega), show a + 30 - 1000040 = a - 1000010 by omega]
    obtain ⟨q1, q2, q3, -⟩ := hvS.1 (a - 1000010) (by omega)
    dsimp only
    rw [g3, g4]
    have e3 : ∀ E : px_E, E.2.1 (a + 30) = adV (a - 1000010) → px_rn E (px_rv (some (a + 30))) = .ref (adV (a - 1000010)) := by
      intro E hE
      show Value.ref (px_al E (a + 30)) = _
      unfold px_al
      rw [if_neg (by omega), hE]
    rw [e3 _ e2]
    have e1' : (if a = 1000000 then b else if a = 1000001 then tH else if a = 1000003 then sa else if a < 1000040 then adK (a - 1000010) else adV (a - 1000040)) = adK (a - 1000010) := e1
    rw [e1']
    exact ⟨q1, q2, q3⟩
  · show (px_S0 L a).1 = 0 ∨ (px_S0 L a).1 = 150 ∨ (px_S0 L a).1 = 200 ∨ (px_S0 L a).1 = 203
    unfold px_S0
    cases Nat.beq a 1000000
    · cases Nat.beq a 1000001
      · cases (Nat.ble 1000010 a && Nat.ble a 1000022)
        · cases (Nat.ble 1000040 a && Nat.ble a 1000052)
          · exact Or.inl rfl
          · exact Or.inr (Or.inr (Or.inr rfl))
        · exact Or.inr (Or.inl rfl)
      · exact Or.inr (Or.inr (Or.inl rfl))
    · exact Or.inr (Or.inr (Or.inl rfl))
/-- what is left to show of the law: a pure run -/
def px_Law : Prop := ∀ (L : Nat) (xs : Nat → Int32) (so : Option Nat), L ≤ 3072 → ∃ (I' : px_HI) (J' : px_HJ) (R' : px_HR) (S' : px_HS) (n' q' : Nat), n' ≤ 687315 ∧ q' ≤ 7040304 ∧ px_mt 800 0 [.ref 1000000] (px_I0 xs) px_J0 (px_R0 so) (px_S0 L) 0 0 (some (.int 1), I', J', R', S', n', q')
set_option maxHeartbeats 4000000 in
theorem px_start (hlaw : px_Law) {p : Program} {e : Env} {s : State} {m : MethodId} {below : List Frame} {meth : Method} {c : Code} (l : Launch) {b L : Nat} {xs : Nat → Int32} (hL : L ≤ 3072) (C0 : lw_At p s m meth c b L xs) (hname : meth.name = "law") : W p l e room_1 s m #[Value.ref b] below meth c s.heap [] 0 0 (lw_Z below #[Value.ref b] s) (entryFrame m ([Value.ref b] : List Value).toArray 4) := by
  obtain ⟨hx, hb, hr, hml, hown, hts, hX, hbl, hlocks, hgv⟩ := C0
  obtain ⟨ro, D, aC, so, hro, hK⟩ := px_K0 hts hX hgv
  obtain ⟨I', J', R', S', n', q', hn, hq, f, hf⟩ := hlaw L xs so hL
  have hA : px_At (s.heap.size, ro, D, aC, px_I0 xs, px_R0 so, px_S0 L) p s m #[Value.ref b] meth c 0 0 := ⟨by decide, hx, hb, hr, hlocks, hml, hown, fun w hw => hts w (List.mem_filter.mp hw).1, hname, hK, rfl⟩
  obtain ⟨-, -, h3⟩ := px_sound f 800 0 0 _ _ _ _ _ _ 0 0 _ I' J' R' S' n' q' hf
  have hret : px_Ret (s.heap.size, ro, D, aC, px_I0 xs, px_R0 so, px_S0 L) p l e room_1 s m #[Value.ref b] below meth c (lw_Z below #[Value.ref b] s) 0 0 0 (some (.int 1)) I' J' R' S' n' q' := by
    intro H locs ls pc1 cells slots i st1 hT hre hc hq1 hR hS
    obtain ⟨-, hd, -, hcc⟩ := px_dec hT
    obtain ⟨op, a, b1, cc, nx, tb, v⟩ := i
    refine va_forget (fun q hq => hS.2.2 q hq) ?_
    refine W.widen (k := 687315) (n := 7040304) (by omega) (by omega) ?_
    unfold px_re at hre
    dsimp only at hre
    split at hre
    · split at hre
      · split at hre
        · cases hre
          exact lw_ret hx hb hr hlocks hd
        · cases hre
      · cases hre
    · split at hre <;> cases hre
    · split at hre <;> cases hre
    · split at hre <;> cases hre
    · cases hre
  have hgo := h3 _ p l e room_1 s m #[Value.ref b] below meth c (lw_Z below #[Value.ref b] s) 0 0 hA (show 800 ≤ 2048 by decide) (show 100 * 800 ≤ 84000 by decide) (show n' ≤ 0 + 687315 by omega) (show q' ≤ 0 + 7040304 by omega) hret
  rw [lg_entry_eq]
  have hR : px_Rel (s.heap.size, ro, D, aC, px_I0 xs, px_R0 so, px_S0 L) (px_I0 xs) px_J0 (px_R0 so) (px_S0 L) 0 s.heap := by
    refine ⟨fun k x hx => by simp [px_ws] at hx, by omega, fun a h => by omega, fun a h1 h2 => ?_, fun a h => ⟨rfl, rfl, rfl⟩⟩
    unfold px_S0
    rw [show Nat.beq a 1000000 = false from Bool.eq_false_iff.mpr (fun z => by have := Nat.beq_eq.mp z; omega), show Nat.beq a 1000001 = false from Bool.eq_false_iff.mpr (fun z => by have := Nat.beq_eq.mp z; omega), show (Nat.ble 1000010 a && Nat.ble a 1000022) = false from Bool.eq_false_iff.mpr (fun z => by simp only [Bool.and_eq_true, Nat.ble_eq] at z; omega), show (Nat.ble 1000040 a && Nat.ble a 1000052) = false from Bool.eq_false_iff.mpr (fun z => by simp only [Bool.and_eq_true, Nat.ble_eq] at z; omega)]
    rfl
  have hE := px_LR.entry (s.heap.size, ro, D, aC, px_I0 xs, px_R0 so, px_S0 L) [.ref 1000000] (k := 4) (by decide)
  have hrn : ([Value.ref 1000000].map (px_rn (s.heap.size, ro, D, aC, px_I0 xs, px_R0 so, px_S0 L))) = [Value.ref b] := by
    show [Value.ref (px_al _ 1000000)] = _
    unfold px_al
    rw [if_neg (by omega)]
    show [Value.ref (ro 1000000)] = _
    rw [hro]
  rw [hrn] at hE
  exact hgo s.heap [] _ 0 0 rfl rfl hR hE va_S.rf

