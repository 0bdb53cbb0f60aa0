/-! rows over worlds w0 ++ l, for the constructors -/
theorem ap_get {w0 l : List va_E} {n k : Nat} {e : va_E} (hn : w0.length = n) (h : l[k]? = some e) : (w0 ++ l)[n + k]? = some e := by
  subst hn
  rw [List.getElem?_append_right (Nat.le_add_right _ _), Nat.add_sub_cancel_left]
  exact h
theorem ap_set {w0 l : List va_E} {n k : Nat} {e : va_E} (hn : w0.length = n) : (w0 ++ l).set (n + k) e = w0 ++ l.set k e := by
  subst hn
  rw [List.set_append_right _ _ (Nat.le_add_right _ _), Nat.add_sub_cancel_left]
abbrev rmC (d c s : Nat) : Room := { frames := d, cells := c, slots := s, locals := 40 * d }
theorem ap_len {w0 l : List va_E} {n c : Nat} (hn : w0.length = n) (hc : l.length = c) : (w0 ++ l).length = n + c := by rw [List.length_append, hn, hc]
section Vrows
variable {X : XT} {M : MD} {R : Room} {Z : List Frame → Array Value → State → State → Prop} {cn sn pc pc2 ix : Nat} {ls : List (Nat × Value)} {st : List Value} {w0 l l' : List va_E} {n c : Nat}
theorem V_get {ci k N i : Nat} {C : String} {T : u_T} {ty : Nat → FieldType} {fs : List Value} {v : Value} (hn : w0.length = n) (hcl : gv_Cl ci C T N ty) (hk : k < N) (hf : Cond.fieldLink M.1 ix (T k).1 (T k).2.1 (T k).2.2.1 ∈ gv_gw) (hw : l[i]? = some (.inr (ci, fs))) (hv : fs[k]? = some v) (d : decode M.2.2.1 pc = .ok (.getfield ix, 3)) (hpc : pc + 3 = pc2)
    (kk : GG X M R Z cn sn pc2 ls (v :: st) (w0 ++ l)) : GG X M R Z cn sn pc ls (.ref (n + i) :: st) (w0 ++ l) := by
  subst hpc
  exact G_get hcl hk hf (ap_get hn hw) hv d kk
theorem V_put {ci k N i : Nat} {C : String} {T : u_T} {ty : Nat → FieldType} {fs : List Value} {v : Value} (hn : w0.length = n) (hcl : gv_Cl ci C T N ty) (hk : k < N) (hf : Cond.fieldLink M.1 ix (T k).1 (T k).2.1 (T k).2.2.1 ∈ gv_gw) (hfin : (T k).2.2.2 = false) (hv : ∀ b, narrow (ty k) (gv_cv b v) = gv_cv b v ∧ fits (ty k) (gv_cv b v) = true) (hw : l[i]? = some (.inr (ci, fs))) (hl : k < fs.length) (hl' : l.set i (.inr (ci, fs.set k v)) = l') (d : decode M.2.2.1 pc = .ok (.putfield ix, 3)) (hpc : pc + 3 = pc2)
    (kk : GG X M R Z cn sn pc2 ls st (w0 ++ l')) : GG X M R Z cn sn pc ls (v :: .ref (n + i) :: st) (w0 ++ l) := by
  subst hpc; subst hl'
  exact G_put hcl hk hf hfin hv (ap_get hn hw) hl d (by rw [ap_set hn]; exact kk)
theorem V_putF {ci k N i : Nat} {C : String} {T : u_T} {ty : Nat → FieldType} {fs : List Value} {v : Value} (hn : w0.length = n) (hcl : gv_Cl ci C T N ty) (hk : k < N) (hf : Cond.fieldLink M.1 ix (T k).1 (T k).2.1 (T k).2.2.1 ∈ gv_gw) (hfin : (T k).2.2.2 = true) (hin : M.2.1 = "<init>") (hdecl : (T k).1 = M.1) (hv : ∀ b, narrow (ty k) (gv_cv b v) = gv_cv b v ∧ fits (ty k) (gv_cv b v) = true) (hw : l[i]? = some (.inr (ci, fs))) (hl : k < fs.length) (hl' : l.set i (.inr (ci, fs.set k v)) = l') (d : decode M.2.2.1 pc = .ok (.putfield ix, 3)) (hpc : pc + 3 = pc2)
    (kk : GG X M R Z cn sn pc2 ls st (w0 ++ l')) : GG X M R Z cn sn pc ls (v :: .ref (n + i) :: st) (w0 ++ l) := by
  subst hpc; subst hl'
  exact G_putF hcl hk hf hfin hin hdecl hv (ap_get hn hw) hl d (by rw [ap_set hn]; exact kk)
theorem V_new {ci N : Nat} {C : String} {T : u_T} {ty : Nat → FieldType} {fs : List Value} (hn : w0.length = n) (hcl : gv_Cl ci C T N ty) (hln : Cond.classLink M.1 ix C ∈ gv_gw) (hin : Cond.instantiable C N ∈ gv_gw) (hini : Cond.initialized C ∈ gv_gw) (hfs : ∀ j, j < N → defaultValue (ty j) = vp_V fs j) (hfb : ∀ b, fs.map (gv_cv b) = fs) (hR : cn + 1 ≤ R.cells ∧ sn + N ≤ R.slots) (hc : l.length = c) (hl' : l ++ [.inr (ci, fs)] = l') (d : decode M.2.2.1 pc = .ok (.new ix, 3)) (hpc : pc + 3 = pc2)
    (k : GG X M R Z (cn + 1) (sn + N) pc2 ls (.ref (n + c) :: st) (w0 ++ l')) : GG X M R Z cn sn pc ls st (w0 ++ l) := by
  subst hc; subst hl'; subst hn
  refine G_new hcl hln hin hini hfs hfb hR d hpc ?_
  rw [List.length_append, List.append_assoc]
  exact k
theorem V_newi {m : Int32} {N : Nat} (hn : w0.length = n) (hN : m.toNatClampNeg = N) (hm : ¬ m < 0) (hb : N * componentBytes .int ≤ 536870912) (ha : Cond.arrayClass .int ∈ gv_gw) (hR : cn + 1 ≤ R.cells ∧ sn + N ≤ R.slots) (hc : l.length = c) (hl' : l ++ [.inl (0, N, .inl (fun _ => 0))] = l') (d : decode M.2.2.1 pc = .ok (.newarray .int, 2)) (hpc : pc + 2 = pc2)
    (k : GG X M R Z (cn + 1) (sn + N) pc2 ls (.ref (n + c) :: st) (w0 ++ l')) : GG X M R Z cn sn pc ls (.int m :: st) (w0 ++ l) := by
  subst hc; subst hl'; subst hn
  refine G_newi hN hm hb ha hR d hpc ?_
  rw [List.length_append, List.append_assoc]
  exact k
theorem V_newz {m : Int32} {N : Nat} (hn : w0.length = n) (hN : m.toNatClampNeg = N) (hm : ¬ m < 0) (hb : N * componentBytes .boolean ≤ 536870912) (ha : Cond.arrayClass .boolean ∈ gv_gw) (hR : cn + 1 ≤ R.cells ∧ sn + N ≤ R.slots) (hc : l.length = c) (hl' : l ++ [.inl (1, N, .inl (fun _ => 0))] = l') (d : decode M.2.2.1 pc = .ok (.newarray .boolean, 2)) (hpc : pc + 2 = pc2)
    (k : GG X M R Z (cn + 1) (sn + N) pc2 ls (.ref (n + c) :: st) (w0 ++ l')) : GG X M R Z cn sn pc ls (.int m :: st) (w0 ++ l) := by
  subst hc; subst hl'; subst hn
  refine G_newz hN hm hb ha hR d hpc ?_
  rw [List.length_append, List.append_assoc]
  exact k
theorem V_newq {m : Int32} {N t0 : Nat} {C : String} (hn : w0.length = n) (ht : ∀ X : XT, (gv_Ty X)[t0]? = some (X.2.2.2.2 t0, .object C)) (hC : C ∈ gv_over) (hln : Cond.classLink M.1 ix C ∈ gv_gw) (hN : m.toNatClampNeg = N) (hm : ¬ m < 0) (hb : N * 4 ≤ 536870912) (hR : cn + 1 ≤ R.cells ∧ sn + N ≤ R.slots) (hc : l.length = c) (hl' : l ++ [.inl (t0, N, .inr (.inr (.inr (.inr (fun _ => none)))))] = l') (d : decode M.2.2.1 pc = .ok (.anewarray ix, 3)) (hpc : pc + 3 = pc2)
    (k : GG X M R Z (cn + 1) (sn + N) pc2 ls (.ref (n + c) :: st) (w0 ++ l')) : GG X M R Z cn sn pc ls (.int m :: st) (w0 ++ l) := by
  subst hc; subst hl'; subst hn
  refine G_newq ht hC hln hN hm hb hR d hpc ?_
  rw [List.length_append, List.append_assoc]
  exact k
theorem V_aast {i j ci N t0 : Nat} {f : Nat → Option Nat} {x : Int32} {q : vw_C} {vs : List Value} (hn : w0.length = n) (ht : ∀ X : XT, (gv_Ty X)[t0]? = some (X.2.2.2.2 t0, .object q.1)) (hw : l[i]? = some (.inl (t0, N, .inr (.inr (.inr (.inr f)))))) (hv : l[j]? = some (.inr (ci, vs))) (hq : vwCl[ci]? = some q) (hin : (decide (x < 0) || decide (N ≤ x.toNatClampNeg)) = false) (hl' : l.set i (.inl (t0, N, .inr (.inr (.inr (.inr (va_up f x.toNatClampNeg (some (n + j)))))))) = l') (d : decode M.2.2.1 pc = .ok (.aastore, 1)) (hpc : pc + 1 = pc2)
    (k : GG X M R Z cn sn pc2 ls st (w0 ++ l')) : GG X M R Z cn sn pc ls (.ref (n + j) :: .int x :: .ref (n + i) :: st) (w0 ++ l) := by
  subst hpc; subst hl'
  exact G_aast ht (ap_get hn hw) (ap_get hn hv) hq (by simpa [vp_in] using hin) d (by rw [ap_set hn]; exact k)
theorem V_iast {i N : Nat} {f : Nat → Int32} {x v : Int32} (hn : w0.length = n) (hw : l[i]? = some (.inl (0, N, .inl f))) (hin : vp_in x N) (hl' : l.set i (.inl (0, N, .inl (upd f x.toNatClampNeg v))) = l') (d : decode M.2.2.1 pc = .ok (.iastore, 1)) (hpc : pc + 1 = pc2)
    (k : GG X M R Z cn sn pc2 ls st (w0 ++ l')) : GG X M R Z cn sn pc ls (.int v :: .int x :: .ref (n + i) :: st) (w0 ++ l) := by
  subst hpc; subst hl'
  exact G_iast (ap_get hn hw) hin d (by rw [ap_set hn]; exact k)
theorem V_callI {My : MD} {y : MethodName} {ar : Nat} {Ry : Room} {as : List Value} {e : va_E} {o : List va_E} {stf : List Value} (hn : w0.length = n) (hs : gv_SI M My ix y ar) (hc : CT My y Ry (.ref (n + c) :: as) ((w0 ++ l) ++ [e]) none ((w0 ++ l) ++ o)) (hnn : as.length = ar) (hst : as.reverse ++ .ref (n + c) :: st = stf) (hR : (Ry.frames + 1 ≤ R.frames ∧ 8 + (My.2.2.2.1 + 11) + Ry.locals ≤ R.locals) ∧ cn + Ry.cells ≤ R.cells ∧ sn + Ry.slots ≤ R.slots) (hcat : (st.map fun v => v.category).sum ≤ 8) (hcl : l.length = c) (hol : o.length = 1 + Ry.cells) (hl' : l ++ o = l') (d : decode M.2.2.1 pc = .ok (.invokespecial ix, 3)) (hpc : pc + 3 = pc2)
    (k : GG X M R Z (cn + Ry.cells) (sn + Ry.slots) pc2 ls st (w0 ++ l')) : GG X M R Z cn sn pc ls stf (w0 ++ (l ++ [e])) := by
  subst hl'
  rw [← List.append_assoc]
  refine G_callI hs hc hnn hst hR hcat (by simp [hol]; omega) d hpc ?_
  rw [List.append_assoc]
  exact k
theorem V_callIN {My : MD} {y : MethodName} {ar : Nat} {host : String} {Ry : Room} {as : List Value} {e : va_E} {o : List va_E} {stf : List Value} (hn : w0.length = n) (hs : gv_SIN M My ix y ar host) (hc : CT My y Ry (.ref (n + c) :: as) ((w0 ++ l) ++ [e]) none ((w0 ++ l) ++ o)) (hnn : as.length = ar) (hst : as.reverse ++ .ref (n + c) :: st = stf) (hR : (Ry.frames + 1 ≤ R.frames ∧ 8 + (My.2.2.2.1 + 11) + Ry.locals ≤ R.locals) ∧ cn + Ry.cells ≤ R.cells ∧ sn + Ry.slots ≤ R.slots) (hcat : (st.map fun v => v.category).sum ≤ 8) (hcl : l.length = c) (hol : o.length = 1 + Ry.cells) (hl' : l ++ o = l') (d : decode M.2.2.1 pc = .ok (.invokespecial ix, 3)) (hpc : pc + 3 = pc2)
    (k : GG X M R Z (cn + Ry.cells) (sn + Ry.slots) pc2 ls st (w0 ++ l')) : GG X M R Z cn sn pc ls stf (w0 ++ (l ++ [e])) := by
  subst hl'
  rw [← List.append_assoc]
  refine G_callIN hs hc hnn hst hR hcat (by simp [hol]; omega) d hpc ?_
  rw [List.append_assoc]
  exact k
end Vrows
abbrev md_X7_init : MD := (RX7, "<init>", cX7_init, 1, none)
abbrev md_X8_init : MD := (RX8, "<init>", cX8_init, 1, none)
abbrev md_X6_init : MD := (RX6, "<init>", cX6_init, 1, none)
abbrev md_X1_init : MD := (RX1, "<init>", cX1_init, 1, none)
abbrev md_X9_init : MD := (RX9, "<init>", cX9_init, 2, none)
abbrev md_X4_init : MD := (RX4, "<init>", cX4_init, 2, none)
abbrev md_X5_init : MD := (RX5, "<init>", cX5_init, 1, none)
abbrev md_X0_init : MD := (RX0, "<init>", cX0_init, 1, none)
abbrev md_X3_init : MD := (RX3, "<init>", cX3_init, 2, none)
abbrev md_X2_init : MD := (RX2, "<init>", cX2_init, 1, none)
abbrev md_X10_init : MD := (RX10, "<init>", cX10_init, 2, none)
abbrev md_X11_init : MD := (RX11, "<init>", cX11_init, 2, none)
theorem kw_81 : Cond.methodLink RX10 1 Lib.objectInit ∈ gv_gw := gv_in 81 (by decide +kernel) (by decide +kernel)
theorem kw_84 : Cond.classLink RX10 7 RX8 ∈ gv_gw := gv_in 84 (by decide +kernel) (by decide +kernel)
theorem kw_85 : Cond.instantiable RX8 7 ∈ gv_gw := gv_in 85 (by decide +kernel) (by decide +kernel)
theorem kw_89 : Cond.methodLink RX8 3 Lib.objectInit ∈ gv_gw := gv_in 89 (by decide +kernel) (by decide +kernel)
theorem kw_90 : Cond.classLink RX8 9 RX7 ∈ gv_gw := gv_in 90 (by decide +kernel) (by decide +kernel)
theorem kw_91 : Cond.instantiable RX7 12 ∈ gv_gw := gv_in 91 (by decide +kernel) (by decide +kernel)
theorem kw_95 : Cond.methodLink RX7 3 Lib.objectInit ∈ gv_gw := gv_in 95 (by decide +kernel) (by decide +kernel)
theorem kw_166 : Cond.arrayClass .int ∈ gv_gw := gv_in 166 (by decide +kernel) (by decide +kernel)
theorem kw_94 : Cond.code yX7_init cX7_init 1 none ∈ gv_gw := gv_in 94 (by decide +kernel) (by decide +kernel)
theorem kw_93 : Cond.instanceMethod yX7_init ∈ gv_gw := gv_in 93 (by decide +kernel) (by decide +kernel)
theorem kw_88 : Cond.code yX8_init cX8_init 1 none ∈ gv_gw := gv_in 88 (by decide +kernel) (by decide +kernel)
theorem kw_87 : Cond.instanceMethod yX8_init ∈ gv_gw := gv_in 87 (by decide +kernel) (by decide +kernel)
theorem kw_193 : Cond.classLink RX10 16 RX1 ∈ gv_gw := gv_in 193 (by decide +kernel) (by decide +kernel)
theorem kw_194 : Cond.instantiable RX1 3 ∈ gv_gw := gv_in 194 (by decide +kernel) (by decide +kernel)
theorem kw_198 : Cond.methodLink RX1 3 Lib.objectInit ∈ gv_gw := gv_in 198 (by decide +kernel) (by decide +kernel)
theorem kw_199 : Cond.classLink RX1 9 RX7 ∈ gv_gw := gv_in 199 (by decide +kernel) (by decide +kernel)
theorem kw_201 : Cond.classLink RX1 18 RX6 ∈ gv_gw := gv_in 201 (by decide +kernel) (by decide +kernel)
theorem kw_202 : Cond.instantiable RX6 10 ∈ gv_gw := gv_in 202 (by decide +kernel) (by decide +kernel)
theorem kw_206 : Cond.methodLink RX6 3 Lib.objectInit ∈ gv_gw := gv_in 206 (by decide +kernel) (by decide +kernel)
theorem kw_205 : Cond.code yX6_init cX6_init 1 none ∈ gv_gw := gv_in 205 (by decide +kernel) (by decide +kernel)
theorem kw_204 : Cond.instanceMethod yX6_init ∈ gv_gw := gv_in 204 (by decide +kernel) (by decide +kernel)
theorem kw_197 : Cond.code yX1_init cX1_init 1 none ∈ gv_gw := gv_in 197 (by decide +kernel) (by decide +kernel)
theorem kw_196 : Cond.instanceMethod yX1_init ∈ gv_gw := gv_in 196 (by decide +kernel) (by decide +kernel)
theorem kw_257 : Cond.fieldLink RX10 23 (TX1 0).1 (TX1 0).2.1 (TX1 0).2.2.1 ∈ gv_gw := gv_in 257 (by decide +kernel) (by decide +kernel)
theorem kw_260 : Cond.fieldLink RX10 28 (TX1 1).1 (TX1 1).2.1 (TX1 1).2.2.1 ∈ gv_gw := gv_in 260 (by decide +kernel) (by decide +kernel)
theorem kw_270 : Cond.classLink RX10 33 RX9 ∈ gv_gw := gv_in 270 (by decide +kernel) (by decide +kernel)
theorem kw_271 : Cond.instantiable RX9 6 ∈ gv_gw := gv_in 271 (by decide +kernel) (by decide +kernel)
theorem kw_275 : Cond.methodLink RX9 3 Lib.objectInit ∈ gv_gw := gv_in 275 (by decide +kernel) (by decide +kernel)
theorem kw_274 : Cond.code yX9_init cX9_init 2 none ∈ gv_gw := gv_in 274 (by decide +kernel) (by decide +kernel)
theorem kw_273 : Cond.instanceMethod yX9_init ∈ gv_gw := gv_in 273 (by decide +kernel) (by decide +kernel)
theorem kw_272 : Cond.methodLink RX10 35 yX9_init ∈ gv_gw := gv_in 272 (by decide +kernel) (by decide +kernel)
theorem kw_297 : Cond.classLink RX10 42 RX4 ∈ gv_gw := gv_in 297 (by decide +kernel) (by decide +kernel)
theorem kw_298 : Cond.instantiable RX4 6 ∈ gv_gw := gv_in 298 (by decide +kernel) (by decide +kernel)
theorem kw_302 : Cond.methodLink RX4 3 Lib.objectInit ∈ gv_gw := gv_in 302 (by decide +kernel) (by decide +kernel)
theorem kw_301 : Cond.code yX4_init cX4_init 2 none ∈ gv_gw := gv_in 301 (by decide +kernel) (by decide +kernel)
theorem kw_300 : Cond.instanceMethod yX4_init ∈ gv_gw := gv_in 300 (by decide +kernel) (by decide +kernel)
theorem kw_299 : Cond.methodLink RX10 44 yX4_init ∈ gv_gw := gv_in 299 (by decide +kernel) (by decide +kernel)
theorem kw_324 : Cond.classLink RX10 51 RX5 ∈ gv_gw := gv_in 324 (by decide +kernel) (by decide +kernel)
theorem kw_325 : Cond.instantiable RX5 3 ∈ gv_gw := gv_in 325 (by decide +kernel) (by decide +kernel)
theorem kw_329 : Cond.methodLink RX5 3 Lib.objectInit ∈ gv_gw := gv_in 329 (by decide +kernel) (by decide +kernel)
theorem kw_328 : Cond.code yX5_init cX5_init 1 none ∈ gv_gw := gv_in 328 (by decide +kernel) (by decide +kernel)
theorem kw_327 : Cond.instanceMethod yX5_init ∈ gv_gw := gv_in 327 (by decide +kernel) (by decide +kernel)
theorem kw_343 : Cond.classLink RX10 58 RX0 ∈ gv_gw := gv_in 343 (by decide +kernel) (by decide +kernel)
theorem kw_344 : Cond.instantiable RX0 3 ∈ gv_gw := gv_in 344 (by decide +kernel) (by decide +kernel)
theorem kw_348 : Cond.methodLink RX0 3 Lib.objectInit ∈ gv_gw := gv_in 348 (by decide +kernel) (by decide +kernel)
theorem kw_347 : Cond.code yX0_init cX0_init 1 none ∈ gv_gw := gv_in 347 (by decide +kernel) (by decide +kernel)
theorem kw_346 : Cond.instanceMethod yX0_init ∈ gv_gw := gv_in 346 (by decide +kernel) (by decide +kernel)
theorem kw_360 : Cond.classLink RX10 65 RX3 ∈ gv_gw := gv_in 360 (by decide +kernel) (by decide +kernel)
theorem kw_361 : Cond.instantiable RX3 3 ∈ gv_gw := gv_in 361 (by decide +kernel) (by decide +kernel)
theorem kw_365 : Cond.methodLink RX3 3 Lib.objectInit ∈ gv_gw := gv_in 365 (by decide +kernel) (by decide +kernel)
theorem kw_366 : Cond.classLink RX3 9 RX6 ∈ gv_gw := gv_in 366 (by decide +kernel) (by decide +kernel)
theorem kw_364 : Cond.code yX3_init cX3_init 2 none ∈ gv_gw := gv_in 364 (by decide +kernel) (by decide +kernel)
theorem kw_363 : Cond.instanceMethod yX3_init ∈ gv_gw := gv_in 363 (by decide +kernel) (by decide +kernel)
theorem kw_362 : Cond.methodLink RX10 67 yX3_init ∈ gv_gw := gv_in 362 (by decide +kernel) (by decide +kernel)
theorem kw_380 : Cond.classLink RX10 72 RX2 ∈ gv_gw := gv_in 380 (by decide +kernel) (by decide +kernel)
theorem kw_382 : Cond.instantiable RX2 3 ∈ gv_gw := gv_in 382 (by decide +kernel) (by decide +kernel)
theorem kw_71 : Cond.initialized RX2 ∈ gv_gw := gv_in 71 (by decide +kernel) (by decide +kernel)
theorem kw_386 : Cond.methodLink RX2 1 Lib.objectInit ∈ gv_gw := gv_in 386 (by decide +kernel) (by decide +kernel)
theorem kw_387 : Cond.classLink RX2 7 RX6 ∈ gv_gw := gv_in 387 (by decide +kernel) (by decide +kernel)
theorem kw_391 : Cond.fieldLink RX2 10 (TX2 2).1 (TX2 2).2.1 (TX2 2).2.2.1 ∈ gv_gw := gv_in 391 (by decide +kernel) (by decide +kernel)
theorem kw_385 : Cond.code yX2_init cX2_init 1 none ∈ gv_gw := gv_in 385 (by decide +kernel) (by decide +kernel)
theorem kw_384 : Cond.instanceMethod yX2_init ∈ gv_gw := gv_in 384 (by decide +kernel) (by decide +kernel)
theorem kw_901 : Cond.methodLink RX11 1 Lib.objectInit ∈ gv_gw := gv_in 901 (by decide +kernel) (by decide +kernel)
theorem kw_981 : Cond.arrayClass .boolean ∈ gv_gw := gv_in 981 (by decide +kernel) (by decide +kernel)
theorem si_X8_11 {nm : String} {cc : ByteArray} {nL : Nat} {rt : Option FieldType} : gv_SIN (RX8, nm, cc, nL, rt) md_X7_init 11 yX7_init 0 "LateBridges" := ⟨(show (RX8, 11, yX7_init, "LateBridges") ∈ gv_nest by decide +kernel), kw_93, kw_63, kw_94, rfl, rfl, ⟨by decide +kernel, by decide +kernel, by decide +kernel⟩⟩
theorem si_X10_9 {nm : String} {cc : ByteArray} {nL : Nat} {rt : Option FieldType} : gv_SIN (RX10, nm, cc, nL, rt) md_X8_init 9 yX8_init 0 "LateBridges" := ⟨(show (RX10, 9, yX8_init, "LateBridges") ∈ gv_nest by decide +kernel), kw_87, kw_62, kw_88, rfl, rfl, ⟨by decide +kernel, by decide +kernel, by decide +kernel⟩⟩
theorem si_X1_11 {nm : String} {cc : ByteArray} {nL : Nat} {rt : Option FieldType} : gv_SIN (RX1, nm, cc, nL, rt) md_X7_init 11 yX7_init 0 "LateBridges" := ⟨(show (RX1, 11, yX7_init, "LateBridges") ∈ gv_nest by decide +kernel), kw_93, kw_63, kw_94, rfl, rfl, ⟨by decide +kernel, by decide +kernel, by decide +kernel⟩⟩
theorem si_X1_20 {nm : String} {cc : ByteArray} {nL : Nat} {rt : Option FieldType} : gv_SIN (RX1, nm, cc, nL, rt) md_X6_init 20 yX6_init 0 "LateBridges" := ⟨(show (RX1, 20, yX6_init, "LateBridges") ∈ gv_nest by decide +kernel), kw_204, kw_65, kw_205, rfl, rfl, ⟨by decide +kernel, by decide +kernel, by decide +kernel⟩⟩
theorem si_X10_18 {nm : String} {cc : ByteArray} {nL : Nat} {rt : Option FieldType} : gv_SIN (RX10, nm, cc, nL, rt) md_X1_init 18 yX1_init 0 "LateBridges" := ⟨(show (RX10, 18, yX1_init, "LateBridges") ∈ gv_nest by decide +kernel), kw_196, kw_64, kw_197, rfl, rfl, ⟨by decide +kernel, by decide +kernel, by decide +kernel⟩⟩
theorem si_X10_35 {nm : String} {cc : ByteArray} {nL : Nat} {rt : Option FieldType} : gv_SI (RX10, nm, cc, nL, rt) md_X9_init 35 yX9_init 1 := ⟨kw_272, kw_273, kw_66, kw_274, rfl, rfl, ⟨by decide +kernel, by decide +kernel, by decide +kernel⟩⟩
theorem si_X10_44 {nm : String} {cc : ByteArray} {nL : Nat} {rt : Option FieldType} : gv_SI (RX10, nm, cc, nL, rt) md_X4_init 44 yX4_init 1 := ⟨kw_299, kw_300, kw_67, kw_301, rfl, rfl, ⟨by decide +kernel, by decide +kernel, by decide +kernel⟩⟩
theorem si_X10_53 {nm : String} {cc : ByteArray} {nL : Nat} {rt : Option FieldType} : gv_SIN (RX10, nm, cc, nL, rt) md_X5_init 53 yX5_init 0 "LateBridges" := ⟨(show (RX10, 53, yX5_init, "LateBridges") ∈ gv_nest by decide +kernel), kw_327, kw_68, kw_328, rfl, rfl, ⟨by decide +kernel, by decide +kernel, by decide +kernel⟩⟩
theorem si_X10_60 {nm : String} {cc : ByteArray} {nL : Nat} {rt : Option FieldType} : gv_SIN (RX10, nm, cc, nL, rt) md_X0_init 60 yX0_init 0 "LateBridges" := ⟨(show (RX10, 60, yX0_init, "LateBridges") ∈ gv_nest by decide +kernel), kw_346, kw_69, kw_347, rfl, rfl, ⟨by decide +kernel, by decide +kernel, by decide +kernel⟩⟩
theorem si_X3_17 {nm : String} {cc : ByteArray} {nL : Nat} {rt : Option FieldType} : gv_SIN (RX3, nm, cc, nL, rt) md_X6_init 17 yX6_init 0 "LateBridges" := ⟨(show (RX3, 17, yX6_init, "LateBridges") ∈ gv_nest by decide +kernel), kw_204, kw_65, kw_205, rfl, rfl, ⟨by decide +kernel, by decide +kernel, by decide +kernel⟩⟩
theorem si_X10_67 {nm : String} {cc : ByteArray} {nL : Nat} {rt : Option FieldType} : gv_SI (RX10, nm, cc, nL, rt) md_X3_init 67 yX3_init 0 := ⟨kw_362, kw_363, kw_70, kw_364, rfl, rfl, ⟨by decide +kernel, by decide +kernel, by decide +kernel⟩⟩
theorem si_X2_9 {nm : String} {cc : ByteArray} {nL : Nat} {rt : Option FieldType} : gv_SIN (RX2, nm, cc, nL, rt) md_X6_init 9 yX6_init 0 "LateBridges" := ⟨(show (RX2, 9, yX6_init, "LateBridges") ∈ gv_nest by decide +kernel), kw_204, kw_65, kw_205, rfl, rfl, ⟨by decide +kernel, by decide +kernel, by decide +kernel⟩⟩
theorem si_X10_78 {nm : String} {cc : ByteArray} {nL : Nat} {rt : Option FieldType} : gv_SIN (RX10, nm, cc, nL, rt) md_X2_init 78 yX2_init 0 "LateBridges" := ⟨(show (RX10, 78, yX2_init, "LateBridges") ∈ gv_nest by decide +kernel), kw_384, kw_71, kw_385, rfl, rfl, ⟨by decide +kernel, by decide +kernel, by decide +kernel⟩⟩
theorem cl_240 : (240 : Int32).toNatClampNeg = 240 := by decide
theorem cl_8 : (8 : Int32).toNatClampNeg = 8 := by decide
theorem cl_15 : (15 : Int32).toNatClampNeg = 15 := by decide
theorem cl_16 : (16 : Int32).toNatClampNeg = 16 := by decide
theorem cl_70 : (70 : Int32).toNatClampNeg = 70 := by decide
theorem cl_134 : (134 : Int32).toNatClampNeg = 134 := by decide
theorem is_268 : (Int16.ofInt (268)).toInt32 = (268 : Int32) := by decide
theorem cl_268 : (268 : Int32).toNatClampNeg = 268 := by decide
theorem is_2144 : (Int16.ofInt (2144)).toInt32 = (2144 : Int32) := by decide
theorem cl_2144 : (2144 : Int32).toNatClampNeg = 2144 := by decide
theorem is_5120 : (Int16.ofInt (5120)).toInt32 = (5120 : Int32) := by decide
theorem cl_5120 : (5120 : Int32).toNatClampNeg = 5120 := by decide
theorem df_X8 : ∀ j, j < 7 → defaultValue (tyX8 j) = vp_V [.null, .int 0, .int 0, .int 0, .null, .int 0, .int 0] j := fun j h => by match j, h with | 0, _ => rfl | 1, _ => rfl | 2, _ => rfl | 3, _ => rfl | 4, _ => rfl | 5, _ => rfl | 6, _ => rfl | (j + 7), h => exact absurd h (by omega)
theorem df_X7 : ∀ j, j < 12 → defaultValue (tyX7 j) = vp_V [.int 0, .int 0, .int 0, .int 0, .null, .null, .null, .null, .null, .null, .null, .null] j := fun j h => by match j, h with | 0, _ => rfl | 1, _ => rfl | 2, _ => rfl | 3, _ => rfl | 4, _ => rfl | 5, _ => rfl | 6, _ => rfl | 7, _ => rfl | 8, _ => rfl | 9, _ => rfl | 10, _ => rfl | 11, _ => rfl | (j + 12), h => exact absurd h (by omega)
theorem df_X1 : ∀ j, j < 3 → defaultValue (tyX1 j) = vp_V [.null, .null, .int 0] j := fun j h => by match j, h with | 0, _ => rfl | 1, _ => rfl | 2, _ => rfl | (j + 3), h => exact absurd h (by omega)
theorem df_X6 : ∀ j, j < 10 → defaultValue (tyX6 j) = vp_V [.int 0, .int 0, .null, .null, .null, .null, .null, .null, .null, .null] j := fun j h => by match j, h with | 0, _ => rfl | 1, _ => rfl | 2, _ => rfl | 3, _ => rfl | 4, _ => rfl | 5, _ => rfl | 6, _ => rfl | 7, _ => rfl | 8, _ => rfl | 9, _ => rfl | (j + 10), h => exact absurd h (by omega)
theorem df_X9 : ∀ j, j < 6 → defaultValue (tyX9 j) = vp_V [.int 0, .int 0, .null, .null, .int 0, .int 0] j := fun j h => by match j, h with | 0, _ => rfl | 1, _ => rfl | 2, _ => rfl | 3, _ => rfl | 4, _ => rfl | 5, _ => rfl | (j + 6), h => exact absurd h (by omega)
theorem df_X4 : ∀ j, j < 6 → defaultValue (tyX4 j) = vp_V [.int 0, .null, .null, .null, .null, .null] j := fun j h => by match j, h with | 0, _ => rfl | 1, _ => rfl | 2, _ => rfl | 3, _ => rfl | 4, _ => rfl | 5, _ => rfl | (j + 6), h => exact absurd h (by omega)
theorem df_X5 : ∀ j, j < 3 → defaultValue (tyX5 j) = vp_V [.int 0, .int 0, .int 0] j := fun j h => by match j, h with | 0, _ => rfl | 1, _ => rfl | 2, _ => rfl | (j + 3), h => exact absurd h (by omega)
theorem df_X0 : ∀ j, j < 3 → defaultValue (tyX0 j) = vp_V [.int 0, .null, .null] j := fun j h => by match j, h with | 0, _ => rfl | 1, _ => rfl | 2, _ => rfl | (j + 3), h => exact absurd h (by omega)
theorem df_X3 : ∀ j, j < 3 → defaultValue (tyX3 j) = vp_V [.int 0, .null, .int 0] j := fun j h => by match j, h with | 0, _ => rfl | 1, _ => rfl | 2, _ => rfl | (j + 3), h => exact absurd h (by omega)
theorem df_X2 : ∀ j, j < 3 → defaultValue (tyX2 j) = vp_V [.int 0, .int 0, .null] j := fun j h => by match j, h with | 0, _ => rfl | 1, _ => rfl | 2, _ => rfl | (j + 3), h => exact absurd h (by omega)
