/-! heap rows, calls, returns of GG -/
section GGheap
variable {X : XT} {M : MD} {R : Room} {Z : List Frame → Array Value → State → State → Prop} {cn sn pc : Nat} {ls : List (Nat × Value)} {st : List Value} {w : List va_E}
theorem G_lcmp {x y : Int64} {pc2 : Nat} (d : decode M.2.2.1 pc = .ok (.lcmp, 1)) (hpc : pc + 1 = pc2) (k : GG X M R Z cn sn pc2 ls (.int (lg_cmp x y) :: st) w) : GG X M R Z cn sn pc ls (.long y :: .long x :: st) w := by subst hpc; exact fun p e s m args below meth c H locs la C h1 h2 h3 h4 => W.lcmp C.1 C.2.1 d (k p e s m args below meth c H locs la C h1 h2 h3 h4)
/-- the heap's size, from the walk's own book -/
theorem gv_size {p : Program} {l : Launch} {e : Env} {s : State} {m : MethodId} {args : Array Value} {below : List Frame} {meth : Method} {c : Code} {H : Heap} {locs : List Loc} {Q : State → Prop} {g : JFrame}
    (hb : X.2.1 ≤ s.heap.size) (h1 : s.heap.size + cn = X.2.1 + w.length) (h2 : va_P (gv_D X) vwCl (gv_wl X w) H) (h3 : va_S (gv_A X) s.heap H locs)
    (k : H.size = X.2.1 + w.length → W p l e R s m args below meth c H locs cn sn Q g) : W p l e R s m args below meth c H locs cn sn Q g := by
  intro T hT S
  have hu : H.size ≤ s.heap.size + cn := by rw [← hT]; exact S.heapSize
  have hl : X.2.1 + w.length ≤ H.size := by
    rcases Nat.eq_zero_or_pos w.length with h0 | h0
    · have := h3.1
      omega
    · have hlt : w.length - 1 < w.length := by omega
      have hg := (h2 _ _ (gv_wl_at (X := X) (List.getElem?_eq_getElem hlt))).lt
      simp at hg
      omega
  exact k (by omega) T hT S
/-- what a class's rows say -/
def gv_Cl (ci : Nat) (C : String) (T : u_T) (N : Nat) (ty : Nat → FieldType) : Prop := vwCl[ci]? = some (C, T, N) ∧ (∀ w ∈ u_ws C T N, w ∈ gv_gw) ∧ (∀ k, k < N → parseFieldDescriptor (T k).2.2.1 = some (ty k)) ∧ (∀ a, a < N → ∀ b, b < N → a ≠ b → (T a).2.1 ≠ (T b).2.1)
theorem G_get {ci k N i ix : Nat} {C : String} {T : u_T} {ty : Nat → FieldType} {fs : List Value} {v : Value} (hcl : gv_Cl ci C T N ty) (hk : k < N) (hf : Cond.fieldLink M.1 ix (T k).1 (T k).2.1 (T k).2.2.1 ∈ gv_gw) (hw : w[i]? = some (.inr (ci, fs))) (hv : fs[k]? = some v) (d : decode M.2.2.1 pc = .ok (.getfield ix, 3))
    (kk : GG X M R Z cn sn (pc + 3) ls (v :: st) w) : GG X M R Z cn sn pc ls (.ref i :: st) w := fun p e s m args below meth c H locs la Cx h1 h2 h3 h4 =>
  va_get Cx.1 Cx.2.1 Cx.2.2.2.2.1 hcl.2.1 Cx.2.2.2.1 Cx.2.2.2.2.2.1 h2 i (gv_wl_at hw) hcl.1 k hk (Cx.2.2.2.2.1 _ hf) (fun _ h => h) (by simp [hv]) d (kk p e s m args below meth c H locs la Cx h1 h2 h3 h4)
theorem G_put {ci k N i ix : Nat} {C : String} {T : u_T} {ty : Nat → FieldType} {fs : List Value} {v : Value} (hcl : gv_Cl ci C T N ty) (hk : k < N) (hf : Cond.fieldLink M.1 ix (T k).1 (T k).2.1 (T k).2.2.1 ∈ gv_gw) (hfin : (T k).2.2.2 = false) (hn : ∀ b, narrow (ty k) (gv_cv b v) = gv_cv b v ∧ fits (ty k) (gv_cv b v) = true) (hw : w[i]? = some (.inr (ci, fs))) (hl : k < fs.length) (d : decode M.2.2.1 pc = .ok (.putfield ix, 3))
    (kk : GG X M R Z cn sn (pc + 3) ls st (w.set i (.inr (ci, fs.set k v)))) : GG X M R Z cn sn pc ls (v :: .ref i :: st) w := fun p e s m args below meth c H locs la Cx h1 h2 h3 h4 =>
  va_put Cx.1 Cx.2.1 Cx.2.2.2.2.1 hcl.2.1 ty hcl.2.2.1 hcl.2.2.2 Cx.2.2.2.1 Cx.2.2.2.2.2.1 h2 (gv_wl_D X w) h3 i (gv_wl_at hw) hcl.1 k hk (Cx.2.2.2.2.1 _ hf) (fun _ h => h) hfin (hcl.2.2.1 k hk) (hn X.2.1).1 (hn X.2.1).2 (by simpa using hl) d (fun H1 locs1 q1 _ q3 => by
    refine kk p e s m args below meth c H1 locs1 la Cx (by rw [List.length_set]; exact h1) ?_ q3 h4
    have e1 := gv_wl_set X w i (.inr (ci, fs.set k v))
    rw [← e1]
    simpa [gv_cE, List.map_set] using q1)
theorem G_putF {ci k N i ix : Nat} {C : String} {T : u_T} {ty : Nat → FieldType} {fs : List Value} {v : Value} (hcl : gv_Cl ci C T N ty) (hk : k < N) (hf : Cond.fieldLink M.1 ix (T k).1 (T k).2.1 (T k).2.2.1 ∈ gv_gw) (hfin : (T k).2.2.2 = true) (hin : M.2.1 = "<init>") (hdecl : (T k).1 = M.1) (hn : ∀ b, narrow (ty k) (gv_cv b v) = gv_cv b v ∧ fits (ty k) (gv_cv b v) = true) (hw : w[i]? = some (.inr (ci, fs))) (hl : k < fs.length) (d : decode M.2.2.1 pc = .ok (.putfield ix, 3))
    (kk : GG X M R Z cn sn (pc + 3) ls st (w.set i (.inr (ci, fs.set k v)))) : GG X M R Z cn sn pc ls (v :: .ref i :: st) w := fun p e s m args below meth c H locs la Cx h1 h2 h3 h4 =>
  va_putF Cx.1 Cx.2.1 Cx.2.2.2.2.1 hcl.2.1 ty hcl.2.2.1 hcl.2.2.2 Cx.2.2.2.1 Cx.2.2.2.2.2.1 h2 (gv_wl_D X w) h3 i (gv_wl_at hw) hcl.1 k hk (Cx.2.2.2.2.1 _ hf) (fun _ h => h) hfin (Cx.2.2.2.2.2.2.2.2.2.1.trans hin) hdecl (hcl.2.2.1 k hk) (hn X.2.1).1 (hn X.2.1).2 (by simpa using hl) d (fun H1 locs1 q1 _ q3 => by
    refine kk p e s m args below meth c H1 locs1 la Cx (by rw [List.length_set]; exact h1) ?_ q3 h4
    have e1 := gv_wl_set X w i (.inr (ci, fs.set k v))
    rw [← e1]
    simpa [gv_cE, List.map_set] using q1)
theorem G_iald {i n : Nat} {f : Nat → Int32} {x : Int32} (hw : w[i]? = some (.inl (0, n, .inl f))) (hin : vp_in x n) (d : decode M.2.2.1 pc = .ok (.iaload, 1))
    (kk : GG X M R Z cn sn (pc + 1) ls (.int (f x.toNatClampNeg) :: st) w) : GG X M R Z cn sn pc ls (.int x :: .ref i :: st) w := fun p e s m args below meth c H locs la Cx h1 h2 h3 h4 =>
  va_iald Cx.1 Cx.2.1 Cx.2.2.2.2.2.1 h2 i 0 (gv_wl_at hw) rfl hin d (kk p e s m args below meth c H locs la Cx h1 h2 h3 h4)
theorem G_zald {i n : Nat} {f : Nat → Int32} {x : Int32} (hw : w[i]? = some (.inl (1, n, .inl f))) (hin : vp_in x n) (d : decode M.2.2.1 pc = .ok (.baload, 1))
    (kk : GG X M R Z cn sn (pc + 1) ls (.int (f x.toNatClampNeg) :: st) w) : GG X M R Z cn sn pc ls (.int x :: .ref i :: st) w := fun p e s m args below meth c H locs la Cx h1 h2 h3 h4 =>
  va_zald Cx.1 Cx.2.1 Cx.2.2.2.2.2.1 h2 i 1 (gv_wl_at hw) rfl hin d (kk p e s m args below meth c H locs la Cx h1 h2 h3 h4)
theorem G_iast {i n : Nat} {f : Nat → Int32} {x v : Int32} (hw : w[i]? = some (.inl (0, n, .inl f))) (hin : vp_in x n) (d : decode M.2.2.1 pc = .ok (.iastore, 1))
    (kk : GG X M R Z cn sn (pc + 1) ls st (w.set i (.inl (0, n, .inl (upd f x.toNatClampNeg v))))) : GG X M R Z cn sn pc ls (.int v :: .int x :: .ref i :: st) w := fun p e s m args below meth c H locs la Cx h1 h2 h3 h4 =>
  va_iast Cx.1 Cx.2.1 Cx.2.2.2.2.2.1 h2 (gv_wl_D X w) h3 i 0 (gv_wl_at hw) rfl hin d (fun H1 locs1 q1 _ q3 => by
    refine kk p e s m args below meth c H1 locs1 la Cx (by rw [List.length_set]; exact h1) ?_ q3 h4
    rw [← gv_wl_set]
    exact q1)
theorem G_zast {i n : Nat} {f : Nat → Int32} {x v : Int32} (hw : w[i]? = some (.inl (1, n, .inl f))) (hin : vp_in x n) (d : decode M.2.2.1 pc = .ok (.bastore, 1))
    (kk : GG X M R Z cn sn (pc + 1) ls st (w.set i (.inl (1, n, .inl (upd f x.toNatClampNeg (vp_nar .boolean v)))))) : GG X M R Z cn sn pc ls (.int v :: .int x :: .ref i :: st) w := fun p e s m args below meth c H locs la Cx h1 h2 h3 h4 =>
  va_zast Cx.1 Cx.2.1 Cx.2.2.2.2.2.1 h2 (gv_wl_D X w) h3 i 1 (gv_wl_at hw) rfl hin d (fun H1 locs1 q1 _ q3 => by
    refine kk p e s m args below meth c H1 locs1 la Cx (by rw [List.length_set]; exact h1) ?_ q3 h4
    rw [← gv_wl_set]
    exact q1)
theorem G_aald {i n t0 : Nat} {f : Nat → Option Nat} {C : String} {x : Int32} {r : Nat} (ht : ∀ X : XT, (gv_Ty X)[t0]? = some (X.2.2.2.2 t0, .object C)) (hw : w[i]? = some (.inl (t0, n, .inr (.inr (.inr (.inr f)))))) (hin : vp_in x n) (hr : f x.toNatClampNeg = some r) (d : decode M.2.2.1 pc = .ok (.aaload, 1))
    (kk : GG X M R Z cn sn (pc + 1) ls (.ref r :: st) w) : GG X M R Z cn sn pc ls (.int x :: .ref i :: st) w := fun p e s m args below meth c H locs la Cx h1 h2 h3 h4 =>
  va_aldq Cx.1 Cx.2.1 Cx.2.2.2.2.2.1 h2 i t0 (gv_wl_at hw) (ht X) hin d (by
    have hk := kk p e s m args below meth c H locs la Cx h1 h2 h3 h4
    simpa [hr, va_rf, gv_cv] using hk)
/-- the end of a method -/
def gv_Q (X : XT) (r : Option Value) (w : List va_E) : Array Value → State → Outcome → State → Prop := fun _ s o t => o = .returned (r.map (gv_cv X.2.1)) ∧ va_P (gv_D X) vwCl (gv_wl X w) t.heap ∧ va_K (gv_D X) vwCl (gv_Ty X) t ∧ gv_Ns t ∧ va_F (gv_A X) s t
def gv_Z (X : XT) (mc ms : Nat) (r : Option Value) (w : List va_E) : List Frame → Array Value → State → State → Prop := fun below args s => MQ below (gv_Q X r w) args s mc ms (gv_A X)
theorem gv_Ns.moved {s t : State} (hW : s.WarmedH t.vm) (h : gv_Ns s) : gv_Ns t := ⟨fun n hn => va_Nw.warmM hW (h.1 n hn), fun C hC => va_AO.moved hW.alike (h.2 C hC)⟩
theorem G_iret {v : Int32} (hr : M.2.2.2.2 = some .int) (d : decode M.2.2.1 pc = .ok (.ireturn, 1)) : GG X M R (gv_Z X cn sn (some (.int v)) w) cn sn pc ls [.int v] w := fun p e s m args below meth c H locs la Cx h1 h2 h3 h4 =>
  W.iret (v := v) Cx.1 Cx.2.1 (Cx.2.2.2.2.2.2.2.2.1.trans hr) (fun t ht hW => ⟨rfl, by rw [ht]; exact h2, va_K.moved hW.alike Cx.2.2.2.2.2.1, Cx.2.2.2.2.2.2.1.moved hW, h3.F ht⟩) h3.2.2 d Cx.2.2.2.2.2.2.2.1
theorem G_zret {v : Int32} (hr : M.2.2.2.2 = some .boolean) (hn : narrow .boolean (.int v) = .int v) (d : decode M.2.2.1 pc = .ok (.ireturn, 1)) : GG X M R (gv_Z X cn sn (some (.int v)) w) cn sn pc ls [.int v] w := fun p e s m args below meth c H locs la Cx h1 h2 h3 h4 =>
  W.zret (v := v) Cx.1 Cx.2.1 (Cx.2.2.2.2.2.2.2.2.1.trans hr) hn (fun t ht hW => ⟨rfl, by rw [ht]; exact h2, va_K.moved hW.alike Cx.2.2.2.2.2.1, Cx.2.2.2.2.2.2.1.moved hW, h3.F ht⟩) h3.2.2 d Cx.2.2.2.2.2.2.2.1
theorem G_lret {v : Int64} (hr : M.2.2.2.2 = some .long) (d : decode M.2.2.1 pc = .ok (.lreturn, 1)) : GG X M R (gv_Z X cn sn (some (.long v)) w) cn sn pc ls [.long v] w := fun p e s m args below meth c H locs la Cx h1 h2 h3 h4 =>
  W.lret (v := v) Cx.1 Cx.2.1 (Cx.2.2.2.2.2.2.2.2.1.trans hr) (fun t ht hW => ⟨rfl, by rw [ht]; exact h2, va_K.moved hW.alike Cx.2.2.2.2.2.1, Cx.2.2.2.2.2.2.1.moved hW, h3.F ht⟩) h3.2.2 d Cx.2.2.2.2.2.2.2.1
theorem G_vret (hr : M.2.2.2.2 = none) (d : decode M.2.2.1 pc = .ok (.return_, 1)) : GG X M R (gv_Z X cn sn none w) cn sn pc ls [] w := fun p e s m args below meth c H locs la Cx h1 h2 h3 h4 =>
  W.vret Cx.1 Cx.2.1 (Cx.2.2.2.2.2.2.2.2.1.trans hr) (fun t ht hW => ⟨rfl, by rw [ht]; exact h2, va_K.moved hW.alike Cx.2.2.2.2.2.1, Cx.2.2.2.2.2.2.1.moved hW, h3.F ht⟩) h3.2.2 d Cx.2.2.2.2.2.2.2.1
end GGheap
/-- a method's contract: from cells w it answers r and leaves w' -/
def CT (M : MD) (y : MethodName) (R : Room) (av : List Value) (w : List va_E) (r : Option Value) (w' : List va_E) : Prop :=
  ∀ X : XT, Met X.1 y (.code y M.2.2.1 M.2.2.2.1 M.2.2.2.2 :: gv_gw) R (va_Pc (av.map (gv_cv X.2.1)) (gv_Pre X w)) (gv_Q X r w') R.cells R.slots (gv_A X)
theorem gv_args (b : Nat) (av : List Value) : ∀ i, lv_args i (av.map (gv_cv b)) = gv_cL b (lv_args i av) := by
  induction av with
  | nil => intro i; rfl
  | cons v vs ih =>
    intro i
    simp only [List.map_cons, lv_args, gv_cat, gv_cL, List.map_cons]
    congr 1
    exact ih _
theorem gv_sl (b : Nat) (av : List Value) : (lg_sl (av.map (gv_cv b))).length = (lg_sl av).length := by
  induction av with
  | nil => rfl
  | cons v vs ih =>
    simp only [lg_sl, List.map_cons, List.flatMap_cons, List.length_append, gv_cat] at ih ⊢
    rw [ih]
    by_cases h : v.category = 2 <;> simp [h]
theorem CT_of {M : MD} {y : MethodName} {R : Room} {av : List Value} {w : List va_E} {r : Option Value} {w' : List va_E} (hy : plainName y.cls = true) (hM : M.1 = y.cls ∧ M.2.1 = y.name) (hl : (lg_sl av).length ≤ M.2.2.2.1)
    (k : ∀ X : XT, GG X M R (gv_Z X R.cells R.slots r w') 0 0 0 (lv_args 0 av) [] w) : CT M y R av w r w' := by
  intro X
  refine Met.ofW (cc := M.2.2.1) (maxL := M.2.2.2.1) (ret := M.2.2.2.2) hy rfl ?_
  intro p e s m args below meth c s₁ B hml hv
  obtain ⟨rfl, hsz, hP, hK, hN⟩ := hv
  have hts := atoms_spec (ws := .code y M.2.2.1 M.2.2.2.1 M.2.2.2.2 :: gv_gw) B.pre
  have hown : s.vm.findClass M.1 = some m.cls := by rw [hM.1]; exact findClass_of_methodNamed B.named
  have hle := lv_entry (av.map (gv_cv X.2.1)) (n := M.2.2.2.1) (by rw [gv_sl]; exact hl)
  rw [lg_entry_eq]
  rw [gv_args] at hle
  exact k X p e s m _ below meth c s.heap [] _ ⟨B.exec, B.bytes, hml, hown, fun w hw => hts w (List.mem_cons_of_mem _ hw), hK, hN, B.notSynchronized, B.returns, by rw [hM.2]; exact (name_of_methodNamed B.named B.method).1, by omega⟩ (by omega) hP va_S.rf hle
theorem gv_good : gv_gw.all goodWord = true := by
  simp [gv_gw, List.all_filter]
theorem gv_goodIn {y : MethodName} {c : ByteArray} {n : Nat} {r : Option FieldType} (h : Cond.code y c n r ∈ gv_gw) : GoodIn gv_gw (.code y c n r :: gv_gw) := fun v hv => by
  have hm : v ∈ gv_gw := (List.mem_cons.mp hv).elim (fun e => e ▸ h) id
  exact ⟨hm, good_of_word (List.all_eq_true.mp gv_good v hm)⟩
section GGcall
variable {X : XT} {M : MD} {R : Room} {Z : List Frame → Array Value → State → State → Prop} {cn sn pc : Nat} {ls : List (Nat × Value)} {st : List Value} {w : List va_E}
theorem gv_blind (av : List Value) (w : List va_E) : FrameBlind (va_Pc (av.map (gv_cv X.2.1)) (gv_Pre X w)) := fun a U g mk q => by
  obtain ⟨q0, q1, q2, q3, q4, q5⟩ := q
  exact ⟨q0, q1, q2, va_K.moved (u := U) (U := U.calling g mk a) (Vm.Alike.refl U.vm) q3, fun n hn => va_Nw.same rfl (u := U) rfl (q4 n hn), fun C hC => va_AO.moved (u := U) (U := U.calling g mk a) (Vm.Alike.refl U.vm) (q5 C hC)⟩
/-- behind any call -/
theorem gv_after {p : Program} {e : Env} {s : State} {m : MethodId} {args : Array Value} {below : List Frame} {meth : Method} {c : Code} {H : Heap} {locs : List Loc} {la : Array Slot} {st0 : List Value} {mc ms : Nat} {r : Option Value} {w' : List va_E} {a : Array Value} {pc2 : Nat}
    (hr : va_Run p X.1 e R s m args below meth c H locs cn sn mc ms (F0 m pc la st0) (st.map (gv_cv X.2.1)) (gv_Q X r w' a) (gv_A X)) (hlen : w'.length = w.length + mc) (hpc : pc + 3 = pc2)
    (C : gv_Cx X M p s m args meth c) (h1 : s.heap.size + cn = X.2.1 + w.length) (h3 : va_S (gv_A X) s.heap H locs) (h4 : lv_has la M.2.2.2.1 (gv_cL X.2.1 ls))
    (k : GG X M R Z (cn + mc) (sn + ms) pc2 ls (r.toList ++ st) w') : W p X.1 e R s m args below meth c H locs cn sn (Z below args s) (F0 m pc la st0) := by
  subst hpc
  intro T hT S
  obtain ⟨v, st₀, t, T', L, g0, S', hL, e1, e2, ⟨hv, q1, q2, q3, q4, q5⟩, go⟩ := hr T hT S
  have hv' : v = r.map (gv_cv X.2.1) := by cases hv; rfl
  subst hv'
  rw [g0] at q4 q5
  have hS' : va_S (gv_A X) s.heap T'.heap (locs ++ L) := ⟨by rw [e1]; exact Nat.le_trans h3.1 q4, fun q x1 x2 => by rw [e1, q5 q (Nat.lt_of_lt_of_le x1 h3.1) x2]; exact h3.2.1 q x1 x2, fun q hq => (List.mem_append.mp hq).elim (h3.2.2 q) (hL q)⟩
  have hk := k p e s m args below meth c T'.heap (locs ++ L) la C (by omega) (by rw [e1]; exact q1) hS' h4
  obtain ⟨t2, a1, b1⟩ := hk T' rfl S'
  refine ⟨t2, go t2 ?_, b1⟩
  have ee : (r.toList ++ st).map (gv_cv X.2.1) = (r.map (gv_cv X.2.1)).toList ++ st.map (gv_cv X.2.1) := by
    cases r <;> simp
  rw [ee] at a1
  exact a1
theorem gv_rev (b : Nat) (as : List Value) (x : Value) (st : List Value) : ((as.reverse ++ x :: st).map (gv_cv b)) = (as.map (gv_cv b)).reverse ++ gv_cv b x :: st.map (gv_cv b) := by simp
theorem gv_st (st : List Value) (b : Nat) : ((st.map (gv_cv b)).map fun v => v.category).sum = (st.map fun v => v.category).sum := by
  simp [List.map_map, Function.comp_def, gv_cat]
/-- what a call of a method needs of the tables, once for a call's site -/
def gv_SV (M My : MD) (ix : Nat) (y : MethodName) (n : Nat) : Prop := Cond.methodLink M.1 ix y ∈ gv_gw ∧ Cond.instanceMethod y ∈ gv_gw ∧ Cond.selects y.cls y y ∈ gv_gw ∧ Cond.initialized y.cls ∈ gv_gw ∧ Cond.code y My.2.2.1 My.2.2.2.1 My.2.2.2.2 ∈ gv_gw ∧ (y.cls ≠ "java/lang/invoke/MethodHandle" ∧ y.cls ≠ "java/lang/invoke/VarHandle" ∧ (parseMethodDescriptor y.desc).map (fun d => d.parameters.length) = some n)
def gv_SS (M My : MD) (ix : Nat) (y : MethodName) (n : Nat) : Prop := Cond.methodLink M.1 ix y ∈ gv_gw ∧ Cond.static y ∈ gv_gw ∧ Cond.initialized y.cls ∈ gv_gw ∧ Cond.code y My.2.2.1 My.2.2.2.1 My.2.2.2.2 ∈ gv_gw ∧ (y.cls ≠ "java/lang/invoke/MethodHandle" ∧ y.cls ≠ "java/lang/invoke/VarHandle" ∧ (parseMethodDescriptor y.desc).map (fun d => d.parameters.length) = some n)
theorem G_callV {My : MD} {y : MethodName} {ix n i ci : Nat} {Ry : Room} {as : List Value} {r : Option Value} {w' : List va_E} {fs : List Value} {q : vw_C} {stf : List Value} {pc2 : Nat} (hs : gv_SV M My ix y n) (hc : CT My y Ry (.ref i :: as) w r w') (hw : w[i]? = some (.inr (ci, fs))) (hq : vwCl[ci]? = some q) (hqc : q.1 = y.cls) (hn : as.length = n) (hst : as.reverse ++ .ref i :: st = stf) (hR : (Ry.frames + 1 ≤ R.frames ∧ 8 + (My.2.2.2.1 + 11) + Ry.locals ≤ R.locals) ∧ cn + Ry.cells ≤ R.cells ∧ sn + Ry.slots ≤ R.slots) (hcat : (st.map fun v => v.category).sum ≤ 8) (hlen : w'.length = w.length + Ry.cells) (d : decode M.2.2.1 pc = .ok (.invokevirtual ix, 3)) (hpc : pc + 3 = pc2)
    (k : GG X M R Z (cn + Ry.cells) (sn + Ry.slots) pc2 ls (r.toList ++ st) w') : GG X M R Z cn sn pc ls stf w := fun p e s m args below meth c H locs la C h1 h2 h3 h4 => by
  subst hst
  obtain ⟨g1, g2, g3, g4, g5, g6⟩ := hs
  have hts := C.2.2.2.2.1
  refine gv_size C.2.2.2.2.2.2.2.2.2.2 h1 h2 h3 (fun hsz => ?_)
  rw [gv_rev]
  have hrec := va_recv C.2.2.2.2.2.1 h2 hq (gv_wl_at hw)
  rw [hqc] at hrec
  refine gv_after (va_runV (As := as.map (gv_cv X.2.1)) (rest := st.map (gv_cv X.2.1)) ⟨C.1, C.2.1, C.2.2.1, C.2.2.2.1, hts⟩ (hc X) ⟨callB_of n hts (gv_goodIn g5) rfl rfl rfl (hts _ g4) (hts _ g1) g6 hR.1, hts _ g2, hts _ g3⟩ ⟨gv_blind (.ref i :: as) w, hrec, fun U hU hW => ⟨rfl, by rw [hU]; exact hsz, by rw [hU]; exact h2, va_K.moved hW.alike C.2.2.2.2.2.1, C.2.2.2.2.2.2.1.moved hW⟩⟩ rfl (by simpa using hn) h4.1 rfl (lv_room (by rw [gv_st]; exact hcat)) d hR.2) hlen hpc C h1 h3 h4 k
theorem G_callS {My : MD} {y : MethodName} {ix n : Nat} {Ry : Room} {as : List Value} {r : Option Value} {w' : List va_E} {stf : List Value} {pc2 : Nat} (hs : gv_SS M My ix y n) (hc : CT My y Ry as w r w') (hn : as.length = n) (hst : as.reverse ++ st = stf) (hR : (Ry.frames + 1 ≤ R.frames ∧ 8 + (My.2.2.2.1 + 11) + Ry.locals ≤ R.locals) ∧ cn + Ry.cells ≤ R.cells ∧ sn + Ry.slots ≤ R.slots) (hcat : (st.map fun v => v.category).sum ≤ 8) (hlen : w'.length = w.length + Ry.cells) (d : decode M.2.2.1 pc = .ok (.invokestatic ix, 3)) (hpc : pc + 3 = pc2)
    (k : GG X M R Z (cn + Ry.cells) (sn + Ry.slots) pc2 ls (r.toList ++ st) w') : GG X M R Z cn sn pc ls stf w := fun p e s m args below meth c H locs la C h1 h2 h3 h4 => by
  subst hst
  obtain ⟨g1, g2, g4, g5, g6⟩ := hs
  have hts := C.2.2.2.2.1
  refine gv_size C.2.2.2.2.2.2.2.2.2.2 h1 h2 h3 (fun hsz => ?_)
  rw [List.map_append, List.map_reverse]
  refine gv_after (va_runS (As := as.map (gv_cv X.2.1)) (rest := st.map (gv_cv X.2.1)) ⟨C.1, C.2.1, C.2.2.1, C.2.2.2.1, hts⟩ (hc X) ⟨callB_of n hts (gv_goodIn g5) rfl rfl rfl (hts _ g4) (hts _ g1) g6 hR.1, hts _ g2⟩ ⟨gv_blind as w, fun U hU hW => ⟨rfl, by rw [hU]; exact hsz, by rw [hU]; exact h2, va_K.moved hW.alike C.2.2.2.2.2.1, C.2.2.2.2.2.2.1.moved hW⟩⟩ rfl (by simpa using hn) h4.1 rfl (lv_room (by rw [gv_st]; exact hcat)) d hR.2) hlen hpc C h1 h3 h4 k
end GGcall
