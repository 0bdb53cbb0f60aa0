/-! library calls, makings, constructors' calls of GG -/
section GGmore
variable {X : XT} {M : MD} {R : Room} {Z : List Frame → Array Value → State → State → Prop} {cn sn pc : Nat} {ls : List (Nat × Value)} {st : List Value} {w : List va_E}
theorem gm_max1 : Cond.static Lib.Math.max.name ∈ gv_gw := by decide +kernel
theorem gm_max2 : Cond.code Lib.Math.max.name Lib.Math.max.code 2 (some .int) ∈ gv_gw := by decide +kernel
theorem gm_min1 : Cond.static Lib.Math.min.name ∈ gv_gw := by decide +kernel
theorem gm_min2 : Cond.code Lib.Math.min.name Lib.Math.min.code 2 (some .int) ∈ gv_gw := by decide +kernel
theorem gm_math : Cond.initialized "java/lang/Math" ∈ gv_gw := by decide +kernel
theorem gm_sys : Cond.initialized "java/lang/System" ∈ gv_gw := by decide +kernel
theorem gm_cpy1 : Cond.native arraycopyName ∈ gv_gw := by decide +kernel
theorem gm_cpy2 : Cond.static arraycopyName ∈ gv_gw := by decide +kernel
theorem gm_obj1 : Cond.instanceMethod Lib.objectInit ∈ gv_gw := by decide +kernel
theorem gm_obj2 : Cond.code Lib.objectInit ⟨#[0xb1]⟩ 1 none ∈ gv_gw := by decide +kernel
theorem G_max {ix : Nat} {x y : Int32} {pc2 : Nat} (hl : Cond.methodLink M.1 ix Lib.Math.max.name ∈ gv_gw) (hR : 1 ≤ R.frames ∧ 21 ≤ R.locals ∧ cn ≤ R.cells ∧ sn ≤ R.slots) (hcat : (st.map fun v => v.category).sum ≤ 8) (d : decode M.2.2.1 pc = .ok (.invokestatic ix, 3)) (hpc : pc + 3 = pc2) (k : GG X M R Z cn sn pc2 ls (.int (if x < y then y else x) :: st) w) : GG X M R Z cn sn pc ls (.int y :: .int x :: st) w := fun p e s m args below meth c H locs la C h1 h2 h3 h4 => by
  subst hpc
  have hts := C.2.2.2.2.1
  exact va_mmax C.1 C.2.1 (by rw [C.2.2.1, h4.1]) C.2.2.2.1 (hts _ hl) (hts _ gm_max1) (hts _ gm_math) (hts _ gm_max2) hR.1 (by rw [gv_st]; omega) hR.2.2.1 hR.2.2.2 d (k p e s m args below meth c H locs la C h1 h2 h3 h4)
theorem G_min {ix : Nat} {x y : Int32} {pc2 : Nat} (hl : Cond.methodLink M.1 ix Lib.Math.min.name ∈ gv_gw) (hR : 1 ≤ R.frames ∧ 21 ≤ R.locals ∧ cn ≤ R.cells ∧ sn ≤ R.slots) (hcat : (st.map fun v => v.category).sum ≤ 8) (d : decode M.2.2.1 pc = .ok (.invokestatic ix, 3)) (hpc : pc + 3 = pc2) (k : GG X M R Z cn sn pc2 ls (.int (if y < x then y else x) :: st) w) : GG X M R Z cn sn pc ls (.int y :: .int x :: st) w := fun p e s m args below meth c H locs la C h1 h2 h3 h4 => by
  subst hpc
  have hts := C.2.2.2.2.1
  exact va_mmin C.1 C.2.1 (by rw [C.2.2.1, h4.1]) C.2.2.2.1 (hts _ hl) (hts _ gm_min1) (hts _ gm_math) (hts _ gm_min2) hR.1 (by rw [gv_st]; omega) hR.2.2.1 hR.2.2.2 d (k p e s m args below meth c H locs la C h1 h2 h3 h4)
theorem G_copy {ix i0 i1 n0 n1 : Nat} {f g : Nat → Int32} {sp dp n : Int32} {pc2 : Nat} (hl : Cond.methodLink M.1 ix arraycopyName ∈ gv_gw) (hw0 : w[i0]? = some (.inl (0, n0, .inl f))) (hw1 : w[i1]? = some (.inl (0, n1, .inl g))) (q1 : ¬ sp < 0) (q2 : ¬ dp < 0) (q3 : ¬ n < 0) (q4 : sp.toNatClampNeg + n.toNatClampNeg ≤ n0) (q5 : dp.toNatClampNeg + n.toNatClampNeg ≤ n1) (hR : 1 ≤ R.frames ∧ 8 + (nativeFrameWords "java/lang/System" "arraycopy" 5 + 11) ≤ R.locals) (hcat : (st.map fun v => v.category).sum ≤ 8) (d : decode M.2.2.1 pc = .ok (.invokestatic ix, 3)) (hpc : pc + 3 = pc2)
    (k : GG X M R Z cn sn pc2 ls st (w.set i1 (.inl (0, n1, .inl (va_cpy f g sp.toNatClampNeg dp.toNatClampNeg n.toNatClampNeg))))) : GG X M R Z cn sn pc ls (.int n :: .int dp :: .ref i1 :: .int sp :: .ref i0 :: st) w := fun p e s m args below meth c H locs la C h1 h2 h3 h4 => by
  subst hpc
  have hts := C.2.2.2.2.1
  exact va_copyi C.1 C.2.1 (by rw [C.2.2.1, h4.1]) C.2.2.2.1 (hts _ hl) (hts _ gm_cpy1) (hts _ gm_cpy2) (hts _ gm_sys) C.2.2.2.2.2.1 h2 (gv_wl_D X w) h3 i0 i1 0 0 (gv_wl_at hw0) (gv_wl_at hw1) rfl rfl rfl q1 q2 q3 q4 q5 (fun _ _ => rfl) hR.1 (by rw [gv_st]; omega) d (fun H1 locs1 r1 _ r3 => by
    refine k p e s m args below meth c H1 locs1 la C (by rw [List.length_set]; exact h1) ?_ r3 h4
    rw [← gv_wl_set]
    exact r1)
theorem G_obj {ix i : Nat} {pc2 : Nat} (hl : Cond.methodLink M.1 ix Lib.objectInit ∈ gv_gw) (hR : 1 ≤ R.frames ∧ 20 ≤ R.locals) (hcat : (st.map fun v => v.category).sum ≤ 8) (d : decode M.2.2.1 pc = .ok (.invokespecial ix, 3)) (hpc : pc + 3 = pc2) (k : GG X M R Z cn sn pc2 ls st w) : GG X M R Z cn sn pc ls (.ref i :: st) w := fun p e s m args below meth c H locs la C h1 h2 h3 h4 => by
  subst hpc
  have hts := C.2.2.2.2.1
  refine W.objInit C.1 C.2.1 C.2.2.2.1 (hts _ hl) (hts _ gm_obj1) (hts _ gm_obj2) rfl (by show la.size = _; rw [C.2.2.1, h4.1]) rfl d hR.1 ?_ (k p e s m args below meth c H locs la C h1 h2 h3 h4)
  show 2 * 0 + _ + 12 ≤ _
  rw [gv_st]
  omega
theorem gv_grow {p : Program} {e : Env} {s : State} {m : MethodId} {args : Array Value} {below : List Frame} {meth : Method} {c : Code} {H H' : Heap} {locs : List Loc} {la : Array Slot} {ce : va_E} {sz : Nat} {pc2 : Nat}
    (C : gv_Cx X M p s m args meth c) (h1 : s.heap.size + cn = X.2.1 + w.length) (h2 : va_P (gv_D X) vwCl (gv_wl X w) H) (h3 : va_S (gv_A X) s.heap H locs) (h4 : lv_has la M.2.2.2.1 (gv_cL X.2.1 ls)) (hsz : H.size = X.2.1 + w.length)
    (hat : va_at (gv_D X) vwCl (X.2.1 + w.length, gv_cE X ce) H') (z1 : H'.size = X.2.1 + w.length + 1) (o1 : ∀ q, q < X.2.1 + w.length → H'[q]? = H[q]?)
    (k : GG X M R Z (cn + 1) (sn + sz) pc2 ls (.ref w.length :: st) (w ++ [ce])) : W p X.1 e R s m args below meth c H' locs (cn + 1) (sn + sz) (Z below args s) (F0 m pc2 la (.ref (X.2.1 + w.length) :: st.map (gv_cv X.2.1))) := by
  refine k p e s m args below meth c H' locs la C (by simp; omega) ?_ ⟨by have := h3.1; omega, fun q x1 x2 => (o1 q (by have := h3.1; omega)).trans (h3.2.1 q x1 x2), h3.2.2⟩ h4
  rw [gv_wl_app]
  refine (h2.kept (fun j q hq => o1 _ ?_)).app (fun j q hq => ?_)
  · rw [← hsz]; exact (h2 j q hq).lt
  · have hz : j < 1 := (List.getElem?_eq_some_iff.mp hq).1
    rw [show j = 0 by omega] at hq
    cases hq
    exact hat
theorem G_new {ci N ix : Nat} {C : String} {T : u_T} {ty : Nat → FieldType} {fs : List Value} {pc2 : Nat} (hcl : gv_Cl ci C T N ty) (hln : Cond.classLink M.1 ix C ∈ gv_gw) (hin : Cond.instantiable C N ∈ gv_gw) (hini : Cond.initialized C ∈ gv_gw) (hfs : ∀ j, j < N → defaultValue (ty j) = vp_V fs j) (hfb : ∀ b, fs.map (gv_cv b) = fs) (hR : cn + 1 ≤ R.cells ∧ sn + N ≤ R.slots) (d : decode M.2.2.1 pc = .ok (.new ix, 3)) (hpc : pc + 3 = pc2)
    (k : GG X M R Z (cn + 1) (sn + N) pc2 ls (.ref w.length :: st) (w ++ [.inr (ci, fs)])) : GG X M R Z cn sn pc ls st w := fun p e s m args below meth c H locs la Cx h1 h2 h3 h4 => by
  subst hpc
  have hts := Cx.2.2.2.2.1
  refine gv_size Cx.2.2.2.2.2.2.2.2.2.2 h1 h2 h3 (fun hsz => ?_)
  have hKn := Cx.2.2.2.2.2.1.1 ci _ hcl.1
  refine W.newcK Cx.1 Cx.2.1 Cx.2.2.2.1 (hts _ hln) (hts _ hin) (hts _ hini) rfl d hR.1 hR.2 hKn.2.1 hsz (fun H' kC hkC e1 z1 o1 => ?_)
  refine gv_grow (ce := .inr (ci, fs)) Cx h1 h2 h3 h4 hsz ?_ z1 o1 k
  refine (show ∃ r : vw_C, vwCl[ci]? = some r ∧ t_OB (X.2.1 + w.length) (X.2.2.1 ci) r.2.2 (X.2.2.2.1 ci) H' (vp_V (fs.map (gv_cv X.2.1))) from ⟨_, hcl.1, ?_⟩)
  rw [hfb]
  exact (u_born ty hts hcl.2.1 hKn hkC e1 hcl.2.2.1).to hfs
theorem G_newi {n : Int32} {N : Nat} {pc2 : Nat} (hN : n.toNatClampNeg = N) (hn : ¬ n < 0) (hb : N * componentBytes .int ≤ 536870912) (ha : Cond.arrayClass .int ∈ gv_gw) (hR : cn + 1 ≤ R.cells ∧ sn + N ≤ R.slots) (d : decode M.2.2.1 pc = .ok (.newarray .int, 2)) (hpc : pc + 2 = pc2)
    (k : GG X M R Z (cn + 1) (sn + N) pc2 ls (.ref w.length :: st) (w ++ [.inl (0, N, .inl (fun _ => 0))])) : GG X M R Z cn sn pc ls (.int n :: st) w := fun p e s m args below meth c H locs la Cx h1 h2 h3 h4 => by
  subst hpc
  have hts := Cx.2.2.2.2.1
  refine gv_size Cx.2.2.2.2.2.2.2.2.2.2 h1 h2 h3 (fun hsz => ?_)
  refine va_newaK (atype := .int) Cx.1 Cx.2.1 (hts _ ha) rfl d rfl hn hN hb hR.1 hR.2 hsz (fun H' cA e1 z1 o1 hAr hNm => ?_)
  have hc : cA = X.2.2.2.2 0 := Option.some.inj (hNm.symm.trans (Cx.2.2.2.2.2.1.2 0 _ rfl).2)
  subst hc
  refine gv_grow Cx h1 h2 h3 h4 hsz ?_ z1 o1 k
  exact e1
theorem G_newz {n : Int32} {N : Nat} {pc2 : Nat} (hN : n.toNatClampNeg = N) (hn : ¬ n < 0) (hb : N * componentBytes .boolean ≤ 536870912) (ha : Cond.arrayClass .boolean ∈ gv_gw) (hR : cn + 1 ≤ R.cells ∧ sn + N ≤ R.slots) (d : decode M.2.2.1 pc = .ok (.newarray .boolean, 2)) (hpc : pc + 2 = pc2)
    (k : GG X M R Z (cn + 1) (sn + N) pc2 ls (.ref w.length :: st) (w ++ [.inl (1, N, .inl (fun _ => 0))])) : GG X M R Z cn sn pc ls (.int n :: st) w := fun p e s m args below meth c H locs la Cx h1 h2 h3 h4 => by
  subst hpc
  have hts := Cx.2.2.2.2.1
  refine gv_size Cx.2.2.2.2.2.2.2.2.2.2 h1 h2 h3 (fun hsz => ?_)
  refine va_newaK (atype := .boolean) Cx.1 Cx.2.1 (hts _ ha) rfl d rfl hn hN hb hR.1 hR.2 hsz (fun H' cA e1 z1 o1 hAr hNm => ?_)
  have hc : cA = X.2.2.2.2 1 := Option.some.inj (hNm.symm.trans (Cx.2.2.2.2.2.1.2 1 _ rfl).2)
  subst hc
  refine gv_grow Cx h1 h2 h3 h4 hsz ?_ z1 o1 k
  exact e1
theorem G_newq {n : Int32} {N ix t0 : Nat} {C : String} {pc2 : Nat} (ht : ∀ X : XT, (gv_Ty X)[t0]? = some (X.2.2.2.2 t0, .object C)) (hC : C ∈ gv_over) (hln : Cond.classLink M.1 ix C ∈ gv_gw) (hN : n.toNatClampNeg = N) (hn : ¬ n < 0) (hb : N * 4 ≤ 536870912) (hR : cn + 1 ≤ R.cells ∧ sn + N ≤ R.slots) (d : decode M.2.2.1 pc = .ok (.anewarray ix, 3)) (hpc : pc + 3 = pc2)
    (k : GG X M R Z (cn + 1) (sn + N) pc2 ls (.ref w.length :: st) (w ++ [.inl (t0, N, .inr (.inr (.inr (.inr (fun _ => none)))))])) : GG X M R Z cn sn pc ls (.int n :: st) w := fun p e s m args below meth c H locs la Cx h1 h2 h3 h4 => by
  subst hpc
  subst hN
  have hts := Cx.2.2.2.2.1
  refine gv_size Cx.2.2.2.2.2.2.2.2.2.2 h1 h2 h3 (fun hsz => ?_)
  refine W.anew Cx.1 Cx.2.1 Cx.2.2.2.1 (hts _ hln) (va_AO.use (Cx.2.2.2.2.2.2.1.2 C hC)) rfl d rfl hn hb hR.1 hR.2 (fun cA kA comp f1 f2 f3 f4 => ?_)
  have hra := (Cx.2.2.2.2.2.1.2 t0 _ (ht X)).2
  obtain ⟨kA', comp', b1, b2, b3, b4⟩ := hra
  have hc : cA = X.2.2.2.2 t0 := Option.some.inj (f1.symm.trans b4)
  subst hc
  rw [hsz]
  refine gv_grow Cx h1 h2 h3 h4 hsz ?_ (by rw [Array.size_push, hsz]) (fun q hq => by rw [Array.getElem?_push, if_neg (by omega)]) k
  show (H.push _)[X.2.1 + w.length]? = some (vp_cell _ _)
  rw [← hsz, Array.getElem?_push_size, arrV_new, vp_cell_q]
  rfl
theorem G_aast {i j ci n t0 : Nat} {f : Nat → Option Nat} {x : Int32} {q : vw_C} {vs : List Value} (ht : ∀ X : XT, (gv_Ty X)[t0]? = some (X.2.2.2.2 t0, .object q.1)) (hw : w[i]? = some (.inl (t0, n, .inr (.inr (.inr (.inr f)))))) (hv : w[j]? = some (.inr (ci, vs))) (hq : vwCl[ci]? = some q) (hin : vp_in x n) (d : decode M.2.2.1 pc = .ok (.aastore, 1))
    (k : GG X M R Z cn sn (pc + 1) ls st (w.set i (.inl (t0, n, .inr (.inr (.inr (.inr (va_up f x.toNatClampNeg (some j)))))))))  : GG X M R Z cn sn pc ls (.ref j :: .int x :: .ref i :: st) w := fun p e s m args below meth c H locs la Cx h1 h2 h3 h4 =>
  va_astq Cx.1 Cx.2.1 Cx.2.2.2.2.2.1 h2 (gv_wl_D X w) h3 i t0 j ci (gv_wl_at hw) (ht X) (gv_wl_at hv) hq hin d (fun H1 locs1 r1 _ r3 => by
    refine k p e s m args below meth c H1 locs1 la Cx (by rw [List.length_set]; exact h1) ?_ r3 h4
    rw [← gv_wl_set]
    have e1 : gv_cE X (.inl (t0, n, .inr (.inr (.inr (.inr (va_up f x.toNatClampNeg (some j))))))) = .inl (X.2.2.2.2 t0, n, .inr (.inr (.inr (.inr (va_up (fun j => (f j).map (fun a => X.2.1 + a)) x.toNatClampNeg (some (X.2.1 + j))))))) := by
      show Sum.inl _ = Sum.inl _
      congr 7
      funext y
      simp only [va_up]
      split <;> rfl
    rw [e1]
    exact r1)
/-- constructors: of a class that may be named, and of a nest mate -/
def gv_SI (M My : MD) (ix : Nat) (y : MethodName) (n : Nat) : Prop := Cond.methodLink M.1 ix y ∈ gv_gw ∧ Cond.instanceMethod y ∈ gv_gw ∧ Cond.initialized y.cls ∈ gv_gw ∧ Cond.code y My.2.2.1 My.2.2.2.1 none ∈ gv_gw ∧ y.name = "<init>" ∧ My.2.2.2.2 = none ∧ (y.cls ≠ "java/lang/invoke/MethodHandle" ∧ y.cls ≠ "java/lang/invoke/VarHandle" ∧ (parseMethodDescriptor y.desc).map (fun d => d.parameters.length) = some n)
def gv_SIN (M My : MD) (ix : Nat) (y : MethodName) (n : Nat) (host : String) : Prop := (M.1, ix, y, host) ∈ gv_nest ∧ Cond.instanceMethod y ∈ gv_gw ∧ Cond.initialized y.cls ∈ gv_gw ∧ Cond.code y My.2.2.1 My.2.2.2.1 none ∈ gv_gw ∧ y.name = "<init>" ∧ My.2.2.2.2 = none ∧ (y.cls ≠ "java/lang/invoke/MethodHandle" ∧ y.cls ≠ "java/lang/invoke/VarHandle" ∧ (parseMethodDescriptor y.desc).map (fun d => d.parameters.length) = some n)
def gv_SSN (M My : MD) (ix : Nat) (y : MethodName) (n : Nat) (host : String) : Prop := (M.1, ix, y, host) ∈ gv_nest ∧ Cond.static y ∈ gv_gw ∧ Cond.initialized y.cls ∈ gv_gw ∧ Cond.code y My.2.2.1 My.2.2.2.1 My.2.2.2.2 ∈ gv_gw ∧ (y.cls ≠ "java/lang/invoke/MethodHandle" ∧ y.cls ≠ "java/lang/invoke/VarHandle" ∧ (parseMethodDescriptor y.desc).map (fun d => d.parameters.length) = some n)
theorem G_callI {My : MD} {y : MethodName} {ix n i : Nat} {Ry : Room} {as : List Value} {w' : List va_E} {stf : List Value} {pc2 : Nat} (hs : gv_SI M My ix y n) (hc : CT My y Ry (.ref i :: as) w none w') (hn : as.length = n) (hst : as.reverse ++ .ref i :: st = stf) (hR : (Ry.frames + 1 ≤ R.frames ∧ 8 + (My.2.2.2.1 + 11) + Ry.locals ≤ R.locals) ∧ cn + Ry.cells ≤ R.cells ∧ sn + Ry.slots ≤ R.slots) (hcat : (st.map fun v => v.category).sum ≤ 8) (hlen : w'.length = w.length + Ry.cells) (d : decode M.2.2.1 pc = .ok (.invokespecial ix, 3)) (hpc : pc + 3 = pc2)
    (k : GG X M R Z (cn + Ry.cells) (sn + Ry.slots) pc2 ls st w') : GG X M R Z cn sn pc ls stf w := fun p e s m args below meth c H locs la C h1 h2 h3 h4 => by
  subst hst
  obtain ⟨g1, g2, g4, g5, g7, g8, g6⟩ := hs
  have hts := C.2.2.2.2.1
  refine gv_size C.2.2.2.2.2.2.2.2.2.2 h1 h2 h3 (fun hsz => ?_)
  rw [gv_rev]
  have hM := hc X
  rw [g8] at hM
  refine gv_after (va_runI (As := as.map (gv_cv X.2.1)) (rest := st.map (gv_cv X.2.1)) ⟨C.1, C.2.1, C.2.2.1, C.2.2.2.1, hts⟩ hM ⟨callB_of n hts (gv_goodIn g5) rfl rfl rfl (hts _ g4) (hts _ g1) g6 hR.1, g7, hts _ g2⟩ ⟨gv_blind (.ref i :: as) w, fun U hU hW => ⟨rfl, by rw [hU]; exact hsz, by rw [hU]; exact h2, va_K.moved hW.alike C.2.2.2.2.2.1, C.2.2.2.2.2.2.1.moved hW⟩⟩ rfl (by simpa using hn) h4.1 rfl (lv_room (by rw [gv_st]; exact hcat)) d hR.2) hlen hpc C h1 h3 h4 k
theorem G_callIN {My : MD} {y : MethodName} {ix n i : Nat} {host : String} {Ry : Room} {as : List Value} {w' : List va_E} {stf : List Value} {pc2 : Nat} (hs : gv_SIN M My ix y n host) (hc : CT My y Ry (.ref i :: as) w none w') (hn : as.length = n) (hst : as.reverse ++ .ref i :: st = stf) (hR : (Ry.frames + 1 ≤ R.frames ∧ 8 + (My.2.2.2.1 + 11) + Ry.locals ≤ R.locals) ∧ cn + Ry.cells ≤ R.cells ∧ sn + Ry.slots ≤ R.slots) (hcat : (st.map fun v => v.category).sum ≤ 8) (hlen : w'.length = w.length + Ry.cells) (d : decode M.2.2.1 pc = .ok (.invokespecial ix, 3)) (hpc : pc + 3 = pc2)
    (k : GG X M R Z (cn + Ry.cells) (sn + Ry.slots) pc2 ls st w') : GG X M R Z cn sn pc ls stf w := fun p e s m args below meth c H locs la C h1 h2 h3 h4 => by
  subst hst
  obtain ⟨g1, g2, g4, g5, g7, g8, g6⟩ := hs
  have hts := C.2.2.2.2.1
  refine gv_size C.2.2.2.2.2.2.2.2.2.2 h1 h2 h3 (fun hsz => ?_)
  rw [gv_rev]
  have hM := hc X
  rw [g8] at hM
  refine gv_after (va_runIN (As := as.map (gv_cv X.2.1)) (rest := st.map (gv_cv X.2.1)) ⟨C.1, C.2.1, C.2.2.1, C.2.2.2.1, hts⟩ hM ⟨va_cnB n hts (gv_goodIn g5) rfl rfl rfl (C.2.2.2.2.2.2.1.1 _ g1) (hts _ g4) g6 hR.1, g7, hts _ g2⟩ ⟨gv_blind (.ref i :: as) w, fun U hU hW => ⟨rfl, by rw [hU]; exact hsz, by rw [hU]; exact h2, va_K.moved hW.alike C.2.2.2.2.2.1, C.2.2.2.2.2.2.1.moved hW⟩⟩ rfl (by simpa using hn) h4.1 rfl (lv_room (by rw [gv_st]; exact hcat)) d hR.2) hlen hpc C h1 h3 h4 k
theorem G_callSN {My : MD} {y : MethodName} {ix n : Nat} {host : String} {Ry : Room} {as : List Value} {r : Option Value} {w' : List va_E} {stf : List Value} {pc2 : Nat} (hs : gv_SSN M My ix y n host) (hc : CT My y Ry as w r w') (hn : as.length = n) (hst : as.reverse ++ st = stf) (hR : (Ry.frames + 1 ≤ R.frames ∧ 8 + (My.2.2.2.1 + 11) + Ry.locals ≤ R.locals) ∧ cn + Ry.cells ≤ R.cells ∧ sn + Ry.slots ≤ R.slots) (hcat : (st.map fun v => v.category).sum ≤ 8) (hlen : w'.length = w.length + Ry.cells) (d : decode M.2.2.1 pc = .ok (.invokestatic ix, 3)) (hpc : pc + 3 = pc2)
    (k : GG X M R Z (cn + Ry.cells) (sn + Ry.slots) pc2 ls (r.toList ++ st) w') : GG X M R Z cn sn pc ls stf w := fun p e s m args below meth c H locs la C h1 h2 h3 h4 => by
  subst hst
  obtain ⟨g1, g2, g4, g5, g6⟩ := hs
  have hts := C.2.2.2.2.1
  refine gv_size C.2.2.2.2.2.2.2.2.2.2 h1 h2 h3 (fun hsz => ?_)
  rw [List.map_append, List.map_reverse]
  refine gv_after (va_runSN (As := as.map (gv_cv X.2.1)) (rest := st.map (gv_cv X.2.1)) ⟨C.1, C.2.1, C.2.2.1, C.2.2.2.1, hts⟩ (hc X) ⟨va_cnB n hts (gv_goodIn g5) rfl rfl rfl (C.2.2.2.2.2.2.1.1 _ g1) (hts _ g4) g6 hR.1, hts _ g2, trivial⟩ ⟨gv_blind as w, fun U hU hW => ⟨rfl, by rw [hU]; exact hsz, by rw [hU]; exact h2, va_K.moved hW.alike C.2.2.2.2.2.1, C.2.2.2.2.2.2.1.moved hW⟩⟩ rfl (by simpa using hn) h4.1 rfl (lv_room (by rw [gv_st]; exact hcat)) d hR.2) hlen hpc C h1 h3 h4 k
end GGmore
