/-! the tables hold: every instruction is the one that its bytes decode to, every word that it needs is among the Statement's -/
def px_B : List Cond := lw_tbl.filter goodWord
def px_has (ps : List Nat) (ws : List Cond) : Bool := decide (ps.filterMap (fun i => lw_tbl[i]?) = ws) && ws.all goodWord
theorem px_has.mem {ps : List Nat} {ws : List Cond} (h : px_has ps ws = true) : ∀ w ∈ ws, w ∈ px_B := by
  intro w hw
  unfold px_has at h
  simp only [Bool.and_eq_true, decide_eq_true_eq, List.all_eq_true] at h
  refine List.mem_filter.mpr ⟨?_, h.2 w hw⟩
  rw [← h.1] at hw
  obtain ⟨i, -, hi⟩ := List.mem_filterMap.mp hw
  exact List.mem_of_getElem? hi
theorem px_B.good : ∀ w ∈ px_B, (w.onTables && w.keeps) = true ∨ ∃ ty, w = .arrayClass ty := fun w hw => good_of_word (List.mem_filter.mp hw).2
def px_kn (k : Nat) : String := cond (Nat.beq k 150) "java/lang/String" (px_cn (k - 10))
def px_fw (o c ci k : Nat) (ref : String) : List Cond := match px_cl[ci]? with
  | none => []
  | some r => .fieldLink (px_cn o) c ref (r.2.1 k).2.1 (r.2.1 k).2.2.1 :: (if ref = (r.2.1 k).1 then [] else [.sameField ref (r.2.1 k).1 (r.2.1 k).2.1 (r.2.1 k).2.2.1])
def px_fok (e : Nat × Nat × Nat × Nat × String × List Nat) : Bool := (match px_cl[e.2.2.1]? with
  | some r => Nat.blt e.2.2.2.1 r.2.2
  | none => false) && px_has e.2.2.2.2.2 (px_fw e.1 e.2.1 e.2.2.1 e.2.2.2.1 e.2.2.2.2.1)
set_option maxRecDepth 100000 in
theorem px_flok : px_fl.all px_fok = true := by decide +kernel
def px_cw (o c kd cal ty : Nat) (x : MethodName) : List Cond := match ty with
  | 0 => [.methodLink (px_cn o) c x, .static x, .initialized x.cls]
  | 1 => [.methodLink (px_cn o) c x, .instanceMethod x, .selects x.cls x x, .initialized x.cls]
  | 2 => [.methodLink (px_cn o) c x, .sameMethod x.cls x.cls x.name x.desc, .instanceMethod x, .selects (px_kn kd) x (px_y cal), .instanceMethod (px_y cal), .initialized (px_y cal).cls]
  | 3 => [.methodLink (px_cn o) c x, .instanceMethod x, .initialized x.cls]
  | 4 => [.instanceMethod x, .initialized x.cls]
  | _ => [.methodLink (px_cn o) c x, .sameMethod x.cls (px_y cal).cls x.name x.desc, .superclass (px_cn o) x.cls, .instanceMethod (px_y cal), .initialized (px_y cal).cls] ++ (if x.cls = (px_y cal).cls then [] else [.superclass x.cls (px_y cal).cls])
/-- what a call's row says, beside its words -/
def px_cx (o c kd cal ty : Nat) (x : MethodName) : Bool := match ty with
  | 0 => decide (x = px_y cal)
  | 1 => decide (x = px_y cal ∧ x.cls = px_kn kd)
  | 2 => decide ((px_y cal).desc = x.desc) && (List.range px_nm).any (fun m => decide (px_y m = x) && Nat.ble 1 m)
  | 3 => decide (x = px_y cal ∧ x.name = "<init>")
  | 4 => decide (x = px_y cal ∧ x.name = "<init>") && px_nest.any (fun q => decide (q.1 = px_cn o ∧ q.2.1 = c ∧ q.2.2.1 = x))
  | 5 => decide ((px_y cal).desc = x.desc ∧ (px_y cal).name = x.name ∧ x.name ≠ "<init>")
  | _ => false
def px_cok (e : Nat × Nat × Nat × Nat × Nat × Nat × MethodName × List Nat) : Bool := match e with
  | (o, c, b, kd, cal, ty, x, ps) => px_has ps (px_cw o c kd cal ty x) && px_cx o c kd cal ty x && decide (x.cls ≠ "java/lang/invoke/MethodHandle" ∧ x.cls ≠ "java/lang/invoke/VarHandle" ∧ (px_y cal).cls ≠ "java/lang/invoke/MethodHandle" ∧ (px_y cal).cls ≠ "java/lang/invoke/VarHandle") && Nat.ble 1 cal && Nat.blt cal px_nm && decide (b = match ty with | 0 => 0 | 1 => 1 | 2 => 1 | _ => 2)
-- CALLS BEGIN
set_option maxRecDepth 100000 in
theorem px_csok0 : px_cs_0.all px_cok = true := by decide +kernel
set_option maxRecDepth 100000 in
theorem px_csok1 : px_cs_1.all px_cok = true := by decide +kernel
set_option maxRecDepth 100000 in
theorem px_csok2 : px_cs_2.all px_cok = true := by decide +kernel
set_option maxRecDepth 100000 in
theorem px_csok3 : px_cs_3.all px_cok = true := by decide +kernel
set_option maxRecDepth 100000 in
theorem px_csok4 : px_cs_4.all px_cok = true := by decide +kernel
set_option maxRecDepth 100000 in
theorem px_csok5 : px_cs_5.all px_cok = true := by decide +kernel
theorem px_csok : px_cs.all px_cok = true := by
  unfold px_cs
  simp only [List.all_append, Bool.and_eq_true]
  exact ⟨⟨⟨⟨⟨px_csok0, px_csok1⟩, px_csok2⟩, px_csok3⟩, px_csok4⟩, px_csok5⟩
-- CALLS END
def px_mok (m : Nat) : Bool := Jvm.plainName (px_y m).cls && decide (px_cn (px_on m) = (px_y m).cls) && Nat.ble (px_nl m) 60 && goodWord (.code (px_y m) (px_bc m) (px_nl m) (px_rt m))
set_option maxRecDepth 100000 in
theorem px_mok1 : (List.range px_nm).all px_mok = true := by decide +kernel
theorem px_mall {m : Nat} (h2 : m < px_nm) : px_mok m = true := List.all_eq_true.mp px_mok1 m (List.mem_range.mpr h2)
def px_neok (e : Nat × Nat × Nat × List Nat) : Bool := match px_cl[e.2.2.1]? with
  | none => false
  | some r => px_has e.2.2.2 [.classLink (px_cn e.1) e.2.1 r.1, .instantiable r.1 r.2.2, .initialized r.1]
theorem px_neall : px_ne.all px_neok = true := by decide +kernel
theorem px_aeall : px_ae.all (fun e => px_has e.2.2.2.2 [.classLink (px_cn e.1) e.2.1 e.2.2.2.1]) = true := by decide +kernel
theorem px_ieall : px_ie.all (fun e => px_has e.2.2.2.2.2 [.classLink (px_cn e.1) e.2.1 e.2.2.2.2.1] && (match e.2.2.2.1 with
  | 0 => px_ncast.contains (px_kn e.2.2.1, e.2.2.2.2.1)
  | 1 => px_cast.contains (px_kn e.2.2.1, e.2.2.2.2.1) || decide (px_kn e.2.2.1 = e.2.2.2.2.1)
  | _ => false)) = true := by decide +kernel
theorem px_leall : px_le.all (fun e => px_has e.2.2.2 [.constant (px_cn e.1) e.2.1 e.2.2.1]) = true := by decide +kernel
theorem px_l2all : px_l2.all (fun e => px_has e.2.2.2 [.constantLong (px_cn e.1) e.2.1 e.2.2.1]) = true := by decide +kernel
theorem px_geall : px_ge.all (fun e => px_has e.2.2.2 [.fieldLink (px_cn e.1) e.2.1 (px_gn e.2.2.1).1 (px_gn e.2.2.1).2.1 (px_gn e.2.2.1).2.2]) = true := by decide +kernel
theorem px_fsall : px_fs.all (fun e => px_has e.2.2.2 [match e.2.2.1 with
  | 0 => .fieldLink (px_cn e.1) e.2.1 "java/lang/String" "value" "[B"
  | _ => .fieldLink (px_cn e.1) e.2.1 "java/lang/String" "coder" "B"]) = true := by decide +kernel
theorem px_keall : px_ke.all (fun e => px_has e.2.2 [.methodLink (px_cn e.1) e.2.1 arraycopyName, .native arraycopyName, .static arraycopyName, .initialized "java/lang/System"]) = true := by decide +kernel
theorem px_oeall : px_oe.all (fun e => px_has e.2.2 [.methodLink (px_cn e.1) e.2.1 Lib.objectInit, .instanceMethod Lib.objectInit]) = true := by decide +kernel
def px_mx (b : Nat) : MethodName := match b with
  | 0 => Lib.Math.max.name
  | 1 => Lib.Math.min.name
  | _ => Lib.MathLoose.max_long.x
theorem px_meall : px_me.all (fun e => px_has e.2.2.2 [.methodLink (px_cn e.1) e.2.1 (px_mx e.2.2.1), .static (px_mx e.2.2.1), .initialized "java/lang/Math"]) = true := by decide +kernel
theorem px_mc0 : px_has [px_mp 0] [.code Lib.Math.max.name Lib.Math.max.code 2 (some .int)] = true := by decide +kernel
theorem px_mc1 : px_has [px_mp 1] [.code Lib.Math.min.name Lib.Math.min.code 2 (some .int)] = true := by decide +kernel
theorem px_mc2 : px_has [px_mp 2] [.code Lib.MathLoose.max_long.x Lib.MathLoose.max_long.code 4 (some .long)] = true := by decide +kernel
theorem px_occ : px_has [px_op] [.code Lib.objectInit ⟨#[0xb1]⟩ 1 none] = true := by decide +kernel
