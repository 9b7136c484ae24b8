/-! image and back, on both sides -/
section PXIM
variable {d D n q L cc tc rl sg tp s : Nat} {so : Option Nat} {dr : px_HR} {ds : px_HS} {I I0 : px_HI} {J : px_HJ} {xs : Nat → Int32} {ca kd nb ta ua wa tz : Nat → Nat} {x y z v w : Int32}
theorem r_cAt {i a : Nat} (h2 : I 0 1 = nI cc) (h7 : cc ≤ 7) (hi : i < cc) (hR : dR so dr 1 i = some a) : px_mt (d + 2) 45 [.ref 0, .int (nI i)] I J (dR so dr) (dS L ds) n q (some (.ref a), I, J, dR so dr, dS L ds, n, q) := by
  unfold px_mt
  repeat refine e_s rfl ?_
  rw [h2]
  refine e_c rfl (r_below (d := d)) (by omega) ?_
  rw [bI_t ⟨nI_pos' (by omega), nI_lt hi (by omega)⟩]
  repeat refine e_s rfl ?_
  refine e_bf (nI_ge (b := 7) (by omega) (by decide)) ?_
  repeat refine e_s rfl ?_
  refine e_aa rfl rfl rfl (show i < 7 by omega) (by decide) hR ?_
  refine e_s rfl ?_
  exact e_r rfl
theorem cl_lk {k : Nat} (hk : k ≤ 5) {z : Nat} : (([(10, z), (11, z), (12, z), (13, z), (14, z), (15, z)] : List (Nat × Nat)).lookup (cls k)).isSome = true := by
  match k, hk with
  | 0, _ => rfl
  | 1, _ => rfl
  | 2, _ => rfl
  | 3, _ => rfl
  | 4, _ => rfl
  | 5, _ => rfl
theorem w_im (hR : ∀ t, t < cc → dR so dr 1 t = some (ca t) ∧ dS L ds (ca t) = (cls (kd t), 2) ∧ kd t ≤ 5 ∧ 49 ≤ ca t) (h7 : cc ≤ 7) : ∀ k i (I : px_HI) (x2 : Option Value), i + k = cc → I 0 1 = nI cc → (∀ t, t < cc → I (ca t) 1 = nI (nb t)) → ∃ I', px_ev (d + 3) 128 21 [some (.ref 0), some (.int (nI i)), x2] [] I J (dR so dr) (dS L ds) n q (some (.int (nI cc)), I', J, dR so dr, dS L ds, n, q) ∧ (∀ t, i ≤ t → t < cc → I' 8 t = nI (nb t)) ∧ ∀ a j, (a = 8 → j < i ∨ cc ≤ j) → I' a j = I a j
  | 0, i, I, x2, hi, e1, e2 => by
    refine ⟨I, ?_, fun t h1 h2 => by omega, fun _ _ _ => rfl⟩
    repeat refine e_s rfl ?_
    rw [e1]
    refine e_bt (nI_le (by omega) (by omega)) ?_
    repeat refine e_s rfl ?_
    rw [e1]
    exact e_r rfl
  | k + 1, i, I, x2, hi, e1, e2 => by
    obtain ⟨I', r1, r2, r3⟩ := w_im hR h7 k (i + 1) (px_u I 8 i (nI (nb i))) (some (.ref (ca i))) (by omega) e1 (fun t ht => by
      have := (hR t ht).2.2.2
      rw [u_ne (fun e => by omega), e2 t ht])
    obtain ⟨g1, g2, g3, g4⟩ := hR i (by omega)
    refine ⟨I', ?_, fun t h1 h2 => ?_, fun a j g => ?_⟩
    · repeat refine e_s rfl ?_
      rw [e1]
      refine e_bf (nI_ge (by omega) (by omega)) ?_
      repeat refine e_s rfl ?_
      refine e_c rfl (r_cAt (d := d) e1 h7 (show i < cc by omega) g1) (by omega) ?_
      repeat refine e_s rfl ?_
      refine e_gi rfl g2 (cl_lk g3) ?_
      rw [e2 i (by omega)]
      refine e_is rfl rfl rfl (show i < 7 by omega) (by decide) ?_
      refine e_s rfl ?_
      refine e_s rfl ?_
      rw [nI_1]
      exact r1
    · by_cases e : t = i
      · subst e
        rw [r3 8 t (fun _ => by omega), u_eq]
      · exact r2 t (by omega) h2
    · rw [r3 a j (fun e => by have := g e; omega), u_ne (fun e => by have := g e; omega)]
theorem m_image : ∃ I', px_mt (d + 1) 229 [.ref 31] I J (dR so dr) (dS L ds) n q (some (.int (I 31 14)), I', J, dR so dr, dS L ds, n, q) ∧ (∀ i, i < 7 → I' 42 i = I 36 i) ∧ (∀ i, i < 6 → I' 43 i = I 37 i) ∧ I' 44 0 = I 31 7 ∧ I' 44 1 = I 31 8 ∧ I' 44 2 = I 31 9 ∧ I' 44 3 = I 31 10 ∧ I' 44 4 = I 31 11 ∧ I' 44 5 = I 31 16 ∧ I' 31 43 = I 31 14 ∧ I' 31 44 = I 31 4 ∧ ∀ a j, ¬ (a = 42 ∨ a = 43 ∨ a = 44 ∨ a = 31 ∧ (j = 43 ∨ j = 44)) → I' a j = I a j := by
  apply Exists.intro
  apply And.intro
  · unfold px_mt
    repeat refine e_s rfl ?_
    exact e_r rfl
  · refine ⟨fun i hi => ?_, fun i hi => ?_, rfl, rfl, rfl, rfl, rfl, rfl, rfl, rfl, fun a j g => ?_⟩
    · match i, hi with
      | 0, _ => rfl
      | 1, _ => rfl
      | 2, _ => rfl
      | 3, _ => rfl
      | 4, _ => rfl
      | 5, _ => rfl
      | 6, _ => rfl
    · match i, hi with
      | 0, _ => rfl
      | 1, _ => rfl
      | 2, _ => rfl
      | 3, _ => rfl
      | 4, _ => rfl
      | 5, _ => rfl
    · repeat rw [u_ne (fun e => by omega)]
theorem o_image (h : Inv xs L so dr ds I n cc tc rl sg tp ca kd nb ta ua wa tz) : ∃ I1 I2 v, px_mt (d + 3) 128 [.ref 0] I J (dR so dr) (dS L ds) n q (some (.int v), I1, J, dR so dr, dS L ds, n, q) ∧ px_mt (d + 3) 229 [.ref 31] I1 J (dR so dr) (dS L ds) n q (some (.int v), I2, J, dR so dr, dS L ds, n, q) ∧ Inv xs L so dr ds I2 n cc tc rl sg tp ca kd nb ta ua wa tz := by
  have hh := h
  obtain ⟨h0, h1, h2, h3, h4, h5, h6, h7, h8, h9, h10, h11, h12⟩ := h
  obtain ⟨a1, a2, a3, a4, a5, a6, a7, a8, a9, a10, a11⟩ := h1
  obtain ⟨Ia, b1, b2, b3, b4⟩ := r_bec_6_2 (d := d) (n := n) (q := q) (L := L) (so := so) (dr := dr) (ds := ds) (I := I) (J := J)
  have e01 : Ia 0 1 = nI cc := (b4 0 1 (by decide) (by decide)).trans h2.2.1
  obtain ⟨I1, c1, c2, c3⟩ := w_im (d := d) (n := n) (q := q) (L := L) (so := so) (dr := dr) (ds := ds) (J := J) (ca := ca) (kd := kd) (nb := nb) (fun t ht => ⟨(h2.2.2.2 t ht).1, (h2.2.2.2 t ht).2.1, (h2.2.2.2 t ht).2.2.1, (h10 t ht).1⟩) h2.1 cc 0 (px_u Ia 0 6 (Ia 0 1)) none (by omega) e01 (fun t ht => by
    have := (h10 t ht).1
    rw [u_ne (fun e => by omega), b4 _ _ (by omega) (by omega)]
    exact (h2.2.2.2 t ht).2.2.2.2.2.1)
  have f1 : ∀ a j, a ≠ 8 → a ≠ 6 → a ≠ 7 → (a = 0 → j ≠ 6) → I1 a j = I a j := fun a j g1 g2 g3 g4 => by
    rw [c3 a j (fun e => absurd e g1), u_ne g4, b4 a j g2 g3]
  obtain ⟨I2, m1, m2, m3, k0, k1, k2, k3, k4, k5, k6, k7, k8⟩ := m_image (d := d + 2) (n := n) (q := q) (L := L) (so := so) (dr := dr) (ds := ds) (I := I1) (J := J)
  have f31 : ∀ j, I1 31 j = I 31 j := fun j => f1 31 j (by decide) (by decide) (by decide) (fun e => by omega)
  rw [f31 14, h2.2.2.1] at m1
  refine ⟨I1, I2, nI cc, ?_, m1, hh.kept (fun a j g => ?_) (Or.inr ⟨cc, rl, sg, by omega, h0, a10, ?_, ?_, ?_, ?_, ?_, ?_, ?_, ?_, ?_, ?_, ?_, fun j hj => ?_, fun i hi => ⟨?_, nb i, (h2.2.2.2 i hi).2.2.2.1, ?_⟩⟩)⟩
  · unfold px_mt
    repeat refine e_s rfl ?_
    refine e_c rfl b1 (by omega) ?_
    refine e_s rfl ?_
    refine e_s rfl ?_
    refine e_s rfl ?_
    refine e_s rfl ?_
    refine e_s rfl ?_
    refine e_s rfl ?_
    exact c1
  · unfold kFt at g
    rw [k8 a j (by omega), f1 a j (by omega) (by omega) (by omega) (by omega)]
  · rw [k8 0 6 (by decide), c3 0 6 (by omega), u_eq, e01]
  · rw [k6, f31, h2.2.2.1]
  · rw [k8 6 0 (by decide), c3 6 0 (by omega), u_ne (by decide), b2 0 (by decide), k0, f31, a1]
  · rw [k8 6 1 (by decide), c3 6 1 (by omega), u_ne (by decide), b2 1 (by decide), k1, f31, a2]
  · rw [k8 6 2 (by decide), c3 6 2 (by omega), u_ne (by decide), b2 2 (by decide), k2, f31, a3]
  · rw [k8 6 3 (by decide), c3 6 3 (by omega), u_ne (by decide), b2 3 (by decide), k3, f31, a4]
  · rw [k8 6 4 (by decide), c3 6 4 (by omega), u_ne (by decide), b2 4 (by decide), k4, f31, a5]
  · rw [k8 6 5 (by decide), c3 6 5 (by omega), u_ne (by decide), b2 5 (by decide), a6]
  · rw [k7, f31, a7]
  · rw [k8 6 6 (by decide), c3 6 6 (by omega), u_ne (by decide), b2 6 (by decide), a8]
  · rw [k5, f31, a9]
  · rw [k8 7 j (by omega), c3 7 j (by omega), u_ne (by omega), b3 j hj, m3 j hj, f1 37 j (by omega) (by omega) (by omega) (by omega), a11 j hj]
  · have c7 := h2.1
    rw [k8 8 i (by omega), c2 i (by omega) hi, m2 i (by omega), f1 36 i (by omega) (by omega) (by omega) (by omega)]
    exact (h2.2.2.2 i hi).2.2.2.2.2.2.2.symm
  · rw [k8 8 i (by omega), c2 i (by omega) hi]
theorem w_bk {kc : Nat} {f : Nat → Nat} (hR : ∀ t, t < kc → dR so dr 1 t = some (ca t) ∧ dS L ds (ca t) = (cls (kd t), 2) ∧ kd t ≤ 5 ∧ 49 ≤ ca t) (hinj : ∀ i j, i < kc → j < kc → ca i = ca j → i = j) (h7 : kc ≤ 7) : ∀ k i (I : px_HI) (x2 : Option Value), i + k = kc → I 0 1 = nI kc → (∀ t, t < kc → I 8 t = nI (f t)) → ∃ I', px_ev (d + 3) 129 32 [some (.ref 0), some (.int (nI i)), x2] [] I J (dR so dr) (dS L ds) n q (some (.int (nI kc)), I', J, dR so dr, dS L ds, n, q) ∧ (∀ t, i ≤ t → t < kc → I' (ca t) 1 = nI (f t)) ∧ ∀ a j, (¬ ∃ t, i ≤ t ∧ t < kc ∧ a = ca t ∧ j = 1) → I' a j = I a j
  | 0, i, I, x2, hi, e1, e2 => by
    refine ⟨I, ?_, fun t h1 h2 => by omega, fun _ _ _ => rfl⟩
    repeat refine e_s rfl ?_
    rw [e1]
    refine e_bt (nI_le (by omega) (by omega)) ?_
    repeat refine e_s rfl ?_
    rw [e1]
    exact e_r rfl
  | k + 1, i, I, x2, hi, e1, e2 => by
    obtain ⟨g1, g2, g3, g4⟩ := hR i (by omega)
    obtain ⟨I', r1, r2, r3⟩ := w_bk hR hinj h7 k (i + 1) (px_u I (ca i) 1 (nI (f i))) (some (.ref (ca i))) (by omega) ((u_ne (fun e => by omega)).trans e1) (fun t ht => (u_ne (fun e => by omega)).trans (e2 t ht))
    refine ⟨I', ?_, fun t h1 h2 => ?_, fun a j g => ?_⟩
    · repeat refine e_s rfl ?_
      rw [e1]
      refine e_bf (nI_ge (by omega) (by omega)) ?_
      repeat refine e_s rfl ?_
      refine e_c rfl (r_cAt (d := d) e1 h7 (show i < kc by omega) g1) (by omega) ?_
      repeat refine e_s rfl ?_
      refine e_ia rfl rfl rfl (show i < 7 by omega) (by decide) ?_
      rw [e2 i (by omega)]
      refine e_pi rfl g2 (cl_lk g3) rfl ?_
      refine e_s rfl ?_
      refine e_s rfl ?_
      rw [nI_1]
      exact r1
    · by_cases e : t = i
      · subst e
        rw [r3 (ca t) 1 (fun ⟨t', q1, q2, q3, q4⟩ => by have := hinj t t' h2 q2 q3; omega), u_eq]
      · exact r2 t (by omega) h2
    · rw [r3 a j (fun ⟨t', q1, q2, q3, q4⟩ => g ⟨t', by omega, q2, q3, q4⟩), u_ne (fun e e2 => g ⟨i, by omega, by omega, e, e2⟩)]
theorem m_back {kc : Nat} (e43 : I 31 43 = nI kc) (h7 : kc ≤ 7) : ∃ I', px_mt (d + 1) 230 [.ref 31] I J (dR so dr) (dS L ds) n q (some (.int (I 31 43)), I', J, dR so dr, dS L ds, n, q) ∧ (∀ i, i < 7 → I' 36 i = I 42 i) ∧ (∀ i, i < 6 → I' 37 i = I 43 i) ∧ I' 31 7 = I 44 0 ∧ I' 31 8 = I 44 1 ∧ I' 31 9 = I 44 2 ∧ I' 31 10 = I 44 3 ∧ I' 31 11 = I 44 4 ∧ I' 31 16 = I 44 5 ∧ I' 31 14 = I 31 43 ∧ I' 31 4 = I 31 44 ∧ ∀ a j, ¬ (a = 36 ∨ a = 37 ∨ a = 31 ∧ (j = 4 ∨ 7 ≤ j ∧ j ≤ 11 ∨ j = 14 ∨ j = 16)) → I' a j = I a j := by
  apply Exists.intro
  apply And.intro
  · unfold px_mt
    repeat refine e_s rfl ?_
    refine e_bt (fun g => ?_) ?_
    · rw [e43] at g
      revert g
      match kc, h7 with
      | 0, _ => decide
      | 1, _ => decide
      | 2, _ => decide
      | 3, _ => decide
      | 4, _ => decide
      | 5, _ => decide
      | 6, _ => decide
      | 7, _ => decide
    repeat refine e_s rfl ?_
    exact e_r rfl
  · refine ⟨fun i hi => ?_, fun i hi => ?_, rfl, rfl, rfl, rfl, rfl, rfl, rfl, rfl, fun a j g => ?_⟩
    · match i, hi with
      | 0, _ => rfl
      | 1, _ => rfl
      | 2, _ => rfl
      | 3, _ => rfl
      | 4, _ => rfl
      | 5, _ => rfl
      | 6, _ => rfl
    · match i, hi with
      | 0, _ => rfl
      | 1, _ => rfl
      | 2, _ => rfl
      | 3, _ => rfl
      | 4, _ => rfl
      | 5, _ => rfl
    · repeat rw [u_ne (fun e => by omega)]
theorem o_back (h : Inv xs L so dr ds I n cc tc rl sg tp ca kd nb ta ua wa tz) : ∃ I1 I2 v cc' rl' sg' nb', px_mt (d + 3) 129 [.ref 0] I J (dR so dr) (dS L ds) n q (some (.int v), I1, J, dR so dr, dS L ds, n, q) ∧ px_mt (d + 3) 230 [.ref 31] I1 J (dR so dr) (dS L ds) n q (some (.int v), I2, J, dR so dr, dS L ds, n, q) ∧ Inv xs L so dr ds I2 n cc' tc rl' sg' tp ca kd nb' ta ua wa tz := by
  have hh := h
  obtain ⟨h0, h1, h2, h3, h4, h5, h6, h7, h8, h9, h10, h11, h12⟩ := h
  rcases h5 with ⟨n1, n2⟩ | ⟨kc, kr, ks, y1, y2, y3, y4, y5, y6, y7, y8, y9, y10, y11, y12, y13, y14, y15, y16⟩
  · refine ⟨I, I, -3, cc, rl, sg, nb, ?_, ?_, hh⟩
    · unfold px_mt
      repeat refine e_s rfl ?_
      rw [n1]
      repeat refine e_s rfl ?_
      exact e_r rfl
    · unfold px_mt
      repeat refine e_s rfl ?_
      rw [n2]
      repeat refine e_s rfl ?_
      exact e_r rfl
  have c7 := h2.1
  obtain ⟨Ia, b1, b2, b3, b4⟩ := r_bec_2_6 (d := d) (n := n) (q := q) (L := L) (so := so) (dr := dr) (ds := ds) (I := I) (J := J)
  have e06 : Ia 0 6 = nI kc := (b4 0 6 (by decide) (by decide)).trans y4
  have e8 : ∀ t, t < kc → I 8 t = nI ((I 8 t).toNatClampNeg) ∧ (I 8 t).toNatClampNeg ≤ 9 := fun t ht => by
    obtain ⟨_, x, hx, e⟩ := y16 t ht
    rw [e, nI_clamp (by omega)]
    exact ⟨rfl, hx⟩
  obtain ⟨I1, c1, c2, c3⟩ := w_bk (d := d) (n := n) (q := q) (L := L) (so := so) (dr := dr) (ds := ds) (J := J) (ca := ca) (kd := kd) (kc := kc) (f := fun t => (I 8 t).toNatClampNeg) (fun t ht => ⟨(h2.2.2.2 t (by omega)).1, (h2.2.2.2 t (by omega)).2.1, (h2.2.2.2 t (by omega)).2.2.1, (h10 t (by omega)).1⟩) (fun i j hi hj => h11 i j (by omega) (by omega)) (by omega) kc 0 (px_u Ia 0 1 (nI kc)) none (by omega) rfl (fun t ht => by
    rw [u_ne (fun e => by omega), b4 _ _ (by omega) (by omega)]
    exact (e8 t ht).1)
  have f1 : ∀ a j, a < 49 ∨ 1000000 ≤ a → a ≠ 2 → a ≠ 3 → (a = 0 → j ≠ 1) → I1 a j = I a j := fun a j g1 g2 g3 g4 => by
    rw [c3 a j (fun ⟨t, q1, q2, q3, q4⟩ => by have := h10 t (by omega); omega), u_ne g4, b4 a j g2 g3]
  have f2 : ∀ j, I1 2 j = Ia 2 j := fun j => by
    rw [c3 2 j (fun ⟨t, q1, q2, q3, q4⟩ => by have := h10 t (by omega); omega), u_ne (by omega)]
  have f3 : ∀ j, I1 3 j = Ia 3 j := fun j => by
    rw [c3 3 j (fun ⟨t, q1, q2, q3, q4⟩ => by have := h10 t (by omega); omega), u_ne (by omega)]
  obtain ⟨I2, m1, m2, m3, k0, k1, k2, k3, k4, k5, k6, k7, k8⟩ := m_back (d := d + 2) (n := n) (q := q) (L := L) (so := so) (dr := dr) (ds := ds) (I := I1) (J := J) (kc := kc) ((f1 31 43 (by decide) (by decide) (by decide) (by decide)).trans y5) (by omega)
  have f31 : ∀ j, I1 31 j = I 31 j := fun j => f1 31 j (by decide) (by decide) (by decide) (fun e => by omega)
  have f44 : ∀ j, I1 44 j = I 44 j := fun j => f1 44 j (by decide) (by decide) (by decide) (fun e => by omega)
  rw [f31 43, y5] at m1
  have fk : ∀ a j, a < 49 ∨ 1000000 ≤ a → a ≠ 2 → a ≠ 3 → a ≠ 36 → a ≠ 37 → (a = 0 → j ≠ 1) → (a = 31 → ¬ (j = 4 ∨ 7 ≤ j ∧ j ≤ 11 ∨ j = 14 ∨ j = 16)) → I2 a j = I a j := fun a j g1 g2 g3 g4 g5 g6 g7 => by
    rw [k8 a j (fun g => by rcases g with g | g | ⟨g, g'⟩; exact g4 g; exact g5 g; exact g7 g g'), f1 a j g1 g2 g3 g6]
  have ft : ∀ t j, t < tc → I2 (ta t) j = I (ta t) j := fun t j ht => by
    have g := h12 t ht
    rw [k8 _ j (by omega), c3 _ j (fun ⟨t', q1, q2, q3, q4⟩ => by
      have g' := (h3.2.2.2.2 t ht).2.1.1
      rw [q3, (h2.2.2.2 t' (by omega)).2.1] at g'
      have := (Prod.mk.inj g').1
      have := cls_lt (k := kd t')
      omega), u_ne (by omega), b4 _ j (by omega) (by omega)]
  have fu : ∀ t j, t < tc → I2 (ua t) j = I (ua t) j := fun t j ht => by
    have g := (h3.2.2.2.2 t ht).2.2.2.2.2.2.1
    rw [k8 _ j (by omega), c3 _ j (fun ⟨t', q1, q2, q3, q4⟩ => by
      have g' := (h3.2.2.2.2 t ht).2.1.2.2.2.1
      rw [q3, (h2.2.2.2 t' (by omega)).2.1] at g'
      have := (Prod.mk.inj g').1
      have := cls_lt (k := kd t')
      omega), u_ne (by omega), b4 _ j (by omega) (by omega)]
  refine ⟨I1, I2, nI kc, kc, kr, ks, fun t => (I 8 t).toNatClampNeg, ?_, m1, y2, ?_, ?_, h3.g2 (fk _ _ (by omega) (by omega) (by omega) (by omega) (by omega) (by omega) (by omega)) (fk _ _ (by omega) (by omega) (by omega) (by omega) (by omega) (by omega) (by omega)) (fun j => fk _ _ (by omega) (by omega) (by omega) (by omega) (by omega) (by omega) (by omega)) (fun j => fk _ _ (by omega) (by omega) (by omega) (by omega) (by omega) (by omega) (by omega)) ft fu, h4.fr (fun a j g => ?_), ?_, h6.fr (fun a j g => ?_), fun a j g => ?_, h8, h9, fun i hi => h10 i (by omega), fun i j hi hj => h11 i j (by omega) (by omega), h12⟩
  · unfold px_mt
    repeat refine e_s rfl ?_
    rw [y4]
    refine e_bt (fun g => ?_) ?_
    · revert g
      have hk7 : kc ≤ 7 := by omega
      clear c1 c2 c3 y1 y4 y5 e06 e8 y16 m1
      match kc, hk7 with
      | 0, _ => decide
      | 1, _ => decide
      | 2, _ => decide
      | 3, _ => decide
      | 4, _ => decide
      | 5, _ => decide
      | 6, _ => decide
      | 7, _ => decide
    repeat refine e_s rfl ?_
    refine e_c rfl b1 (by omega) ?_
    refine e_s rfl ?_
    refine e_s rfl ?_
    refine e_s rfl ?_
    rw [e06]
    refine e_s rfl ?_
    refine e_s rfl ?_
    refine e_s rfl ?_
    exact c1
  · refine ⟨?_, ?_, ?_, ?_, ?_, ?_, ?_, ?_, ?_, y3, fun j hj => ?_⟩
    · rw [k8 2 0 (by decide), f2, b2 0 (by decide), k0, f44, y6]
    · rw [k8 2 1 (by decide), f2, b2 1 (by decide), k1, f44, y7]
    · rw [k8 2 2 (by decide), f2, b2 2 (by decide), k2, f44, y8]
    · rw [k8 2 3 (by decide), f2, b2 3 (by decide), k3, f44, y9]
    · rw [k8 2 4 (by decide), f2, b2 4 (by decide), k4, f44, y10]
    · rw [k8 2 5 (by decide), f2, b2 5 (by decide), y11]
    · rw [k7, f31, y12]
    · rw [k8 2 6 (by decide), f2, b2 6 (by decide), y13]
    · rw [k5, f44, y14]
    · rw [k8 3 j (by omega), f3, b3 j hj, m3 j hj, f1 43 j (by omega) (by omega) (by omega) (by omega), y15 j hj]
  · refine ⟨by omega, ?_, ?_, fun t ht => ?_⟩
    · rw [k8 0 1 (by decide), c3 0 1 (fun ⟨t, q1, q2, q3, q4⟩ => by have := h10 t (by omega); omega), u_eq]
    · rw [k6, f31, y5]
    · obtain ⟨g1, g2, g3, g4, g5, g6, g7, g8⟩ := h2.2.2.2 t (by omega)
      have g49 := (h10 t (by omega)).1
      refine ⟨g1, g2, g3, (e8 t ht).2, ?_, ?_, ?_, ?_⟩
      · rw [k8 _ 0 (by omega), c3 _ 0 (fun ⟨t', q1, q2, q3, q4⟩ => by omega), u_ne (by omega), b4 _ 0 (by omega) (by omega), g5]
      · rw [k8 _ 1 (by omega), c2 t (by omega) ht]
      · rw [fk 35 t (by omega) (by omega) (by omega) (by omega) (by omega) (by omega) (by omega), g7]
      · rw [m2 t (by omega), f1 42 t (by omega) (by omega) (by omega) (by omega), ← (y16 t ht).1]
        exact (e8 t ht).1
  · unfold pFt at g
    exact fk a j (by omega) (by omega) (by omega) (by omega) (by omega) (by omega) (by omega)
  · have fk' : ∀ a j, kFt a j → I2 a j = I a j := fun a j g => by
      unfold kFt at g
      exact fk a j (by omega) (by omega) (by omega) (by omega) (by omega) (by omega) (by omega)
    exact kIv.fr (Or.inr ⟨kc, kr, ks, by omega, y2, y3, y4, y5, y6, y7, y8, y9, y10, y11, y12, y13, y14, y15, y16⟩) fk'
  · unfold sFt at g
    exact fk a j (by omega) (by omega) (by omega) (by omega) (by omega) (by omega) (by omega)
  · rw [fk a j (by omega) (by omega) (by omega) (by omega) (by omega) (by omega) (by omega)]
    exact h7 a j g
end PXIM
