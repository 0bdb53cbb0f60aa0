/-! the law's own judgement: concrete locals and stack, the script below the world -/
abbrev mdL (nm : String) : MD := (RL, nm, code, 4, some .boolean)
def GL (X : XT) (sb L : Nat) (xs : Nat → Int32) (cn sn pc : Nat) (ls : List (Nat × Value)) (st : List Value) (w : List va_E) : Prop :=
  ∀ (p : Program) (e : Env) (s : State) (m : MethodId) (below : List Frame) (meth : Method) (c : Code) (H : Heap) (locs : List Loc) (la : Array Slot),
    gv_Cx X (mdL meth.name) p s m #[.ref sb] meth c → va_X sb L xs s s.heap → sb < X.2.1 → X.2.1 = s.heap.size → s.heap.size + cn = X.2.1 + w.length → va_P (gv_D X) vwCl (gv_wl X w) H → va_S (gv_A X) s.heap H locs → lv_has la 4 ls →
    W p X.1 e room_1 s m #[.ref sb] below meth c H locs cn sn (lw_Z below #[.ref sb] s) (F0 m pc la st)
section GLrows
variable {X : XT} {sb L : Nat} {xs : Nat → Int32} {cn sn pc pc2 : Nat} {ls : List (Nat × Value)} {st : List Value} {w : List va_E}
theorem L_iconst {n : Int} {v : Int32} (d : decode code pc = .ok (.iconst n, 1)) (hv : Int32.ofInt n = v) (hpc : pc + 1 = pc2) (k : GL X sb L xs cn sn pc2 ls (.int v :: st) w) : GL X sb L xs cn sn pc ls (st) w := by subst hpc; exact fun p e s m below meth c H locs la C hX hb h0 h1 h2 h3 h4 => lv_iconst C.1 C.2.1 d hv (k p e s m below meth c H locs la C hX hb h0 h1 h2 h3 h4)
theorem L_bipush {n : Int} {v : Int32} (d : decode code pc = .ok (.bipush n, 2)) (hv : (Int8.ofInt n).toInt32 = v) (hpc : pc + 2 = pc2) (k : GL X sb L xs cn sn pc2 ls (.int v :: st) w) : GL X sb L xs cn sn pc ls (st) w := by subst hpc; exact fun p e s m below meth c H locs la C hX hb h0 h1 h2 h3 h4 => lv_bipush C.1 C.2.1 d hv (k p e s m below meth c H locs la C hX hb h0 h1 h2 h3 h4)
theorem L_iadd {x y : Int32} (d : decode code pc = .ok (.iadd, 1))  (hpc : pc + 1 = pc2) (k : GL X sb L xs cn sn pc2 ls (.int (x + y) :: st) w) : GL X sb L xs cn sn pc ls (.int y :: .int x :: st) w := by subst hpc; exact fun p e s m below meth c H locs la C hX hb h0 h1 h2 h3 h4 => lv_iadd C.1 C.2.1 d  (k p e s m below meth c H locs la C hX hb h0 h1 h2 h3 h4)
theorem L_isub {x y : Int32} (d : decode code pc = .ok (.isub, 1))  (hpc : pc + 1 = pc2) (k : GL X sb L xs cn sn pc2 ls (.int (x - y) :: st) w) : GL X sb L xs cn sn pc ls (.int y :: .int x :: st) w := by subst hpc; exact fun p e s m below meth c H locs la C hX hb h0 h1 h2 h3 h4 => lv_isub C.1 C.2.1 d  (k p e s m below meth c H locs la C hX hb h0 h1 h2 h3 h4)
theorem L_iand {x y : Int32} (d : decode code pc = .ok (.iand, 1))  (hpc : pc + 1 = pc2) (k : GL X sb L xs cn sn pc2 ls (.int (x &&& y) :: st) w) : GL X sb L xs cn sn pc ls (.int y :: .int x :: st) w := by subst hpc; exact fun p e s m below meth c H locs la C hX hb h0 h1 h2 h3 h4 => lv_iand C.1 C.2.1 d  (k p e s m below meth c H locs la C hX hb h0 h1 h2 h3 h4)
theorem L_iload_n {j : Fin 4} {i : Nat} {x : Int32} (q : Nat) (hq : ls[q]? = some (i, .int x)) (d : decode code pc = .ok (.iload_n j, 1)) (hi : (j : Nat) = i) (hpc : pc + 1 = pc2) (k : GL X sb L xs cn sn pc2 ls (.int x :: st) w) : GL X sb L xs cn sn pc ls st w := by subst hpc; exact fun p e s m below meth c H locs la C hX hb h0 h1 h2 h3 h4 => lv_iload_n C.1 C.2.1 d hi (lv_at h4 q hq) (k p e s m below meth c H locs la C hX hb h0 h1 h2 h3 h4)
theorem L_istore_n {j : Fin 4} {i : Nat} {x : Int32} {ls' : List (Nat × Value)} (d : decode code pc = .ok (.istore_n j, 1)) (hi : (j : Nat) = i) (hn : i < 4) (hl : (i, Value.int x) :: ls.filter (fun q => !(q.1 == i) && !(q.1 + 1 == i && q.2.category == 2)) = ls') (hpc : pc + 1 = pc2) (k : GL X sb L xs cn sn pc2 ls' st w) : GL X sb L xs cn sn pc ls (.int x :: st) w := by subst hpc; exact fun p e s m below meth c H locs la C hX hb h0 h1 h2 h3 h4 => lv_istore_n C.1 C.2.1 d hi h4 hn hl (fun la2 hl2 => k p e s m below meth c H locs la2 C hX hb h0 h1 h2 h3 hl2)
theorem L_aload_n {j : Fin 4} {i : Nat} {x : Nat} (q : Nat) (hq : ls[q]? = some (i, .ref x)) (d : decode code pc = .ok (.aload_n j, 1)) (hi : (j : Nat) = i) (hpc : pc + 1 = pc2) (k : GL X sb L xs cn sn pc2 ls (.ref x :: st) w) : GL X sb L xs cn sn pc ls st w := by subst hpc; exact fun p e s m below meth c H locs la C hX hb h0 h1 h2 h3 h4 => lv_aload_n C.1 C.2.1 d hi (lv_at h4 q hq) (k p e s m below meth c H locs la C hX hb h0 h1 h2 h3 h4)
theorem L_astore_n {j : Fin 4} {i : Nat} {x : Nat} {ls' : List (Nat × Value)} (d : decode code pc = .ok (.astore_n j, 1)) (hi : (j : Nat) = i) (hn : i < 4) (hl : (i, Value.ref x) :: ls.filter (fun q => !(q.1 == i) && !(q.1 + 1 == i && q.2.category == 2)) = ls') (hpc : pc + 1 = pc2) (k : GL X sb L xs cn sn pc2 ls' st w) : GL X sb L xs cn sn pc ls (.ref x :: st) w := by subst hpc; exact fun p e s m below meth c H locs la C hX hb h0 h1 h2 h3 h4 => lv_astore_n C.1 C.2.1 d hi h4 hn hl (fun la2 hl2 => k p e s m below meth c H locs la2 C hX hb h0 h1 h2 h3 hl2)
theorem L_iinc {i : Nat} {n : Int} {x v : Int32} {ls' : List (Nat × Value)} (q : Nat) (hq : ls[q]? = some (i, .int x)) (d : decode code pc = .ok (.iinc i n, 3)) (hv : x + Int32.ofInt n = v) (hn : i < 4) (hl : (i, Value.int v) :: ls.filter (fun q => !(q.1 == i) && !(q.1 + 1 == i && q.2.category == 2)) = ls') (hpc : pc + 3 = pc2) (k : GL X sb L xs cn sn pc2 ls' st w) : GL X sb L xs cn sn pc ls st w := by subst hpc; exact fun p e s m below meth c H locs la C hX hb h0 h1 h2 h3 h4 => lv_iinc C.1 C.2.1 d h4 hq hv hn hl (fun la2 hl2 => k p e s m below meth c H locs la2 C hX hb h0 h1 h2 h3 hl2)
theorem L_sub {ls' : List (Nat × Value)} (ks : List Nat) (h : lv_pick ls ks = ls') (k : GL X sb L xs cn sn pc ls' st w) : GL X sb L xs cn sn pc ls st w := fun p e s m below meth c H locs la C hX hb h0 h1 h2 h3 h4 => k p e s m below meth c H locs la C hX hb h0 h1 h2 h3 (lv_sub h4 ks h)
theorem L_dup {v : Value} (hv : v.category = 1) (d : decode code pc = .ok (.dup, 1)) (hpc : pc + 1 = pc2) (k : GL X sb L xs cn sn pc2 ls (v :: v :: st) w) : GL X sb L xs cn sn pc ls (v :: st) w := by subst hpc; exact fun p e s m below meth c H locs la C hX hb h0 h1 h2 h3 h4 => lv_dup C.1 C.2.1 d hv (k p e s m below meth c H locs la C hX hb h0 h1 h2 h3 h4)
theorem L_goto {off : Int} {tgt : Nat} (d : decode code pc = .ok (.goto off, 3)) (ht : (pc : Int) + off = (tgt : Int)) (k : GL X sb L xs cn sn tgt ls st w) : GL X sb L xs cn sn pc ls st w := fun p e s m below meth c H locs la C hX hb h0 h1 h2 h3 h4 => lv_goto C.1 C.2.1 d ht (k p e s m below meth c H locs la C hX hb h0 h1 h2 h3 h4)
theorem L_icmp_eq {x y : Int32} {off : Int} {tgt : Nat} (d : decode code pc = .ok (.if_icmp .eq off, 3)) (ht : (pc : Int) + off = (tgt : Int)) (hxy : x = y) (k : GL X sb L xs cn sn tgt ls st w) : GL X sb L xs cn sn pc ls (.int y :: .int x :: st) w := fun p e s m below meth c H locs la C hX hb h0 h1 h2 h3 h4 => lv_icmp_eq C.1 C.2.1 d ht (fun _ => k p e s m below meth c H locs la C hX hb h0 h1 h2 h3 h4) (fun q => absurd hxy q)
theorem L_icmp_gt {x y : Int32} {off : Int} {tgt : Nat} (d : decode code pc = .ok (.if_icmp .gt off, 3)) (ht : (pc : Int) + off = (tgt : Int)) (hpc : pc + 3 = pc2) (kt : y < x → GL X sb L xs cn sn tgt ls st w) (kf : ¬ y < x → GL X sb L xs cn sn pc2 ls st w) : GL X sb L xs cn sn pc ls (.int y :: .int x :: st) w := by subst hpc; exact fun p e s m below meth c H locs la C hX hb h0 h1 h2 h3 h4 => lv_icmp_gt C.1 C.2.1 d ht (fun q => kt q p e s m below meth c H locs la C hX hb h0 h1 h2 h3 h4) (fun q => kf q p e s m below meth c H locs la C hX hb h0 h1 h2 h3 h4)
theorem L_if_eq {x : Int32} {off : Int} {tgt : Nat} (d : decode code pc = .ok (.ifCond .eq off, 3)) (ht : (pc : Int) + off = (tgt : Int)) (hpc : pc + 3 = pc2) (kt : x = 0 → GL X sb L xs cn sn tgt ls st w) (kf : ¬ x = 0 → GL X sb L xs cn sn pc2 ls st w) : GL X sb L xs cn sn pc ls (.int x :: st) w := by subst hpc; exact fun p e s m below meth c H locs la C hX hb h0 h1 h2 h3 h4 => lv_if_eq C.1 C.2.1 d ht (fun q => kt q p e s m below meth c H locs la C hX hb h0 h1 h2 h3 h4) (fun q => kf q p e s m below meth c H locs la C hX hb h0 h1 h2 h3 h4)
theorem L_tabIn {dflt lo hi : Int} {offs : Array Int} {len : Nat} {x : Int32} {off : Int} {tgt : Nat} (v : Int32) (q : x = v) (d : decode code pc = .ok (.tableswitch dflt lo hi offs, len)) (q1 : ¬ v.toInt < lo) (q2 : ¬ hi < v.toInt) (ho : offs[(v.toInt - lo).toNat]? = some off) (ht : (pc : Int) + off = (tgt : Int)) (k : GL X sb L xs cn sn tgt ls st w) : GL X sb L xs cn sn pc ls (.int x :: st) w := by subst q; exact fun p e s m below meth c H locs la C hX hb h0 h1 h2 h3 h4 => lv_tableIn C.1 C.2.1 d q1 q2 ho ht (k p e s m below meth c H locs la C hX hb h0 h1 h2 h3 h4)
theorem L_tabOut {dflt lo hi : Int} {offs : Array Int} {len : Nat} {x : Int32} {tgt : Nat} (d : decode code pc = .ok (.tableswitch dflt lo hi offs, len)) (q1 : x.toInt < lo ∨ hi < x.toInt) (ht : (pc : Int) + dflt = (tgt : Int)) (k : GL X sb L xs cn sn tgt ls st w) : GL X sb L xs cn sn pc ls (.int x :: st) w := fun p e s m below meth c H locs la C hX hb h0 h1 h2 h3 h4 => lv_tableOut C.1 C.2.1 d q1 ht (k p e s m below meth c H locs la C hX hb h0 h1 h2 h3 h4)
theorem L_sld {i v : Int32} (hin : vp_in i L) (hv : xs i.toNatClampNeg = v) (d : decode code pc = .ok (.iaload, 1)) (hpc : pc + 1 = pc2) (k : GL X sb L xs cn sn pc2 ls (.int v :: st) w) : GL X sb L xs cn sn pc ls (.int i :: .ref sb :: st) w := by
  subst hpc; subst hv
  exact fun p e s m below meth c H locs la C hX hb h0 h1 h2 h3 h4 => va_sld C.1 C.2.1 hX (by omega) (by show ¬ X.2.1 ≤ sb; omega) h3 hin d (k p e s m below meth c H locs la C hX hb h0 h1 h2 h3 h4)
theorem L_slen (d : decode code pc = .ok (.arraylength, 1)) (hpc : pc + 1 = pc2) (k : GL X sb L xs cn sn pc2 ls (.int (nI L) :: st) w) : GL X sb L xs cn sn pc ls (.ref sb :: st) w := by
  subst hpc
  exact fun p e s m below meth c H locs la C hX hb h0 h1 h2 h3 h4 => va_slen C.1 C.2.1 hX (by omega) (by show ¬ X.2.1 ≤ sb; omega) h3 d (k p e s m below meth c H locs la C hX hb h0 h1 h2 h3 h4)
theorem L_ret (hc : cn ≤ 600000) (hs : sn ≤ 7302250) (d : decode code pc = .ok (.ireturn, 1)) : GL X sb L xs cn sn pc ls [.int 1] w := fun p e s m below meth c H locs la C hX hb h0 h1 h2 h3 h4 => va_forget (fun q hq => by have := h3.2.2 q hq; show s.heap.size ≤ q.base; rw [← h0]; exact this) (W.widen hc hs (lw_ret C.1 C.2.1 C.2.2.2.2.2.2.2.2.1 C.2.2.2.2.2.2.2.1 d))
theorem L_new {ci N ix : Nat} {C : String} {T : u_T} {ty : Nat → FieldType} {fs : List Value} (hcl : gv_Cl ci C T N ty) (hln : Cond.classLink RL ix C ∈ gv_gw) (hin : Cond.instantiable C N ∈ gv_gw) (hini : Cond.initialized C ∈ gv_gw) (hfs : ∀ j, j < N → defaultValue (ty j) = vp_V fs j) (hfb : ∀ b, fs.map (gv_cv b) = fs) (hR : cn + 1 ≤ 600000 ∧ sn + N ≤ 7302250) (d : decode code pc = .ok (.new ix, 3)) (hpc : pc + 3 = pc2)
    (k : GL X sb L xs (cn + 1) (sn + N) pc2 ls (.ref (X.2.1 + w.length) :: st) (w ++ [.inr (ci, fs)])) : GL X sb L xs cn sn pc ls st w := fun p e s m below meth c H locs la Cx hX hb h0 h1 h2 h3 h4 => by
  subst hpc
  have hts := Cx.2.2.2.2.1
  refine gv_size Cx.2.2.2.2.2.2.2.2.2.2 h1 h2 h3 (fun hsz => ?_)
  have hKn := Cx.2.2.2.2.2.1.1 ci _ hcl.1
  refine W.newcK Cx.1 Cx.2.1 Cx.2.2.2.1 (hts _ hln) (hts _ hin) (hts _ hini) rfl d hR.1 hR.2 hKn.2.1 hsz (fun H' kC hkC e1 z1 o1 => ?_)
  refine k p e s m below meth c H' locs la Cx hX hb h0 (by simp; omega) ?_ ⟨by have := h3.1; omega, fun q x1 x2 => (o1 q (by have := h3.1; omega)).trans (h3.2.1 q x1 x2), h3.2.2⟩ h4
  rw [gv_wl_app]
  refine (h2.kept (fun j q hq => o1 _ ?_)).app (fun j q hq => ?_)
  · rw [← hsz]; exact (h2 j q hq).lt
  · have hz : j < 1 := (List.getElem?_eq_some_iff.mp hq).1
    rw [show j = 0 by omega] at hq
    cases hq
    refine (show ∃ r : vw_C, vwCl[ci]? = some r ∧ t_OB (X.2.1 + w.length) (X.2.2.1 ci) r.2.2 (X.2.2.2.1 ci) H' (vp_V (fs.map (gv_cv X.2.1))) from ⟨_, hcl.1, ?_⟩)
    rw [hfb]
    exact (u_born ty hts hcl.2.1 hKn hkC e1 hcl.2.2.1).to hfs
theorem gl_after {p : Program} {e : Env} {s : State} {m : MethodId} {below : List Frame} {meth : Method} {c : Code} {H : Heap} {locs : List Loc} {la : Array Slot} {st0 : List Value} {mc ms : Nat} {r : Option Value} {w' : List va_E} {a : Array Value}
    (hr : va_Run p X.1 e room_1 s m #[.ref sb] below meth c H locs cn sn mc ms (F0 m pc la st0) st (gv_Q X r w' a) (gv_A X)) (hlen : w'.length = w.length + mc) (hpc : pc + 3 = pc2)
    (C : gv_Cx X (mdL meth.name) p s m #[.ref sb] meth c) (hX : va_X sb L xs s s.heap) (hb : sb < X.2.1) (h0 : X.2.1 = s.heap.size) (h1 : s.heap.size + cn = X.2.1 + w.length) (h3 : va_S (gv_A X) s.heap H locs) (h4 : lv_has la 4 ls)
    (k : GL X sb L xs (cn + mc) (sn + ms) pc2 ls ((r.map (gv_cv X.2.1)).toList ++ st) w') : W p X.1 e room_1 s m #[.ref sb] below meth c H locs cn sn (lw_Z below #[.ref sb] s) (F0 m pc la st0) := by
  subst hpc
  intro T hT S
  obtain ⟨v, st₀, t, T', Lc, g0, S', hL, e1, e2, ⟨hv, q1, q2, q3, q4, q5⟩, go⟩ := hr T hT S
  have hv' : v = r.map (gv_cv X.2.1) := by cases hv; rfl
  subst hv'
  rw [g0] at q4 q5
  have hS' : va_S (gv_A X) s.heap T'.heap (locs ++ Lc) := ⟨by rw [e1]; exact Nat.le_trans h3.1 q4, fun q x1 x2 => by rw [e1, q5 q (Nat.lt_of_lt_of_le x1 h3.1) x2]; exact h3.2.1 q x1 x2, fun q hq => (List.mem_append.mp hq).elim (h3.2.2 q) (hL q)⟩
  have hk := k p e s m below meth c T'.heap (locs ++ Lc) la C hX hb h0 (by omega) (by rw [e1]; exact q1) hS' h4
  obtain ⟨t2, a1, b1⟩ := hk T' rfl S'
  exact ⟨t2, go t2 a1, b1⟩
theorem L_callV {My : MD} {y : MethodName} {ix n i ci a : Nat} {as : List Value} {v : Int32} {w' : List va_E} {fs : List Value} {q : vw_C} {stf : List Value} (hs : gv_SV (mdL "law") My ix y n) (hc : CT My y (rmD a) (.ref i :: as) w (some (.int v)) w') (hw : w[i]? = some (.inr (ci, fs))) (hq : vwCl[ci]? = some q) (hqc : q.1 = y.cls) (hn : as.length = n) (hst : (as.map (gv_cv X.2.1)).reverse ++ .ref (X.2.1 + i) :: st = stf) (hR : a ≤ 100) (hL : My.2.2.2.1 ≤ 21) (hcn : cn ≤ 600000 ∧ sn ≤ 7302250) (hcat : (st.map fun v => v.category).sum ≤ 8) (hlen : w'.length = w.length) (d : decode code pc = .ok (.invokevirtual ix, 3)) (hpc : pc + 3 = pc2)
    (k : GL X sb L xs cn sn pc2 ls (.int v :: st) w') : GL X sb L xs cn sn pc ls stf w := fun p e s m below meth c H locs la C hX hb h0 h1 h2 h3 h4 => by
  subst hst
  obtain ⟨g1, g2, g3, g4, g5, g6⟩ := hs
  have hts := C.2.2.2.2.1
  refine gv_size C.2.2.2.2.2.2.2.2.2.2 h1 h2 h3 (fun hsz => ?_)
  have hrec := va_recv C.2.2.2.2.2.1 h2 hq (gv_wl_at hw)
  rw [hqc] at hrec
  refine gl_after (va_runV (As := as.map (gv_cv X.2.1)) (rest := st) ⟨C.1, C.2.1, C.2.2.1, C.2.2.2.1, hts⟩ (hc X) ⟨callB_of n hts (gv_goodIn g5) rfl rfl rfl (hts _ g4) (hts _ g1) g6 ⟨by show a + 1 ≤ 2048; omega, by show 8 + (My.2.2.2.1 + 11) + 40 * a ≤ 84000; omega⟩, hts _ g2, hts _ g3⟩ ⟨gv_blind (.ref i :: as) w, hrec, fun U hU hW => ⟨rfl, by rw [hU]; exact hsz, by rw [hU]; exact h2, va_K.moved hW.alike C.2.2.2.2.2.1, C.2.2.2.2.2.2.1.moved hW⟩⟩ rfl (by simpa using hn) h4.1 rfl (lv_room hcat) d ⟨by show cn + 0 ≤ 600000; omega, by show sn + 0 ≤ 7302250; omega⟩) (by rw [hlen]; rfl) hpc C hX hb h0 h1 h3 h4 k
theorem L_callI {My : MD} {y : MethodName} {ix n i : Nat} {Ry : Room} {w' : List va_E} (hs : gv_SI (mdL "law") My ix y n) (hc : CT My y Ry [.ref i] w none w') (hn : 0 = n) (hR : (Ry.frames + 1 ≤ 2048 ∧ 8 + (My.2.2.2.1 + 11) + Ry.locals ≤ 84000) ∧ cn + Ry.cells ≤ 600000 ∧ sn + Ry.slots ≤ 7302250) (hcat : (st.map fun v => v.category).sum ≤ 8) (hlen : w'.length = w.length + Ry.cells) (d : decode code pc = .ok (.invokespecial ix, 3)) (hpc : pc + 3 = pc2)
    (k : GL X sb L xs (cn + Ry.cells) (sn + Ry.slots) pc2 ls st w') : GL X sb L xs cn sn pc ls (.ref (X.2.1 + i) :: st) w := fun p e s m below meth c H locs la C hX hb h0 h1 h2 h3 h4 => by
  obtain ⟨g1, g2, g4, g5, g7, g8, g6⟩ := hs
  have hts := C.2.2.2.2.1
  refine gv_size C.2.2.2.2.2.2.2.2.2.2 h1 h2 h3 (fun hsz => ?_)
  have hM := hc X
  rw [g8] at hM
  refine gl_after (va_runI (As := []) (rest := st) ⟨C.1, C.2.1, C.2.2.1, C.2.2.2.1, hts⟩ hM ⟨callB_of n hts (gv_goodIn g5) rfl rfl rfl (hts _ g4) (hts _ g1) g6 hR.1, g7, hts _ g2⟩ ⟨gv_blind [.ref i] w, fun U hU hW => ⟨rfl, by rw [hU]; exact hsz, by rw [hU]; exact h2, va_K.moved hW.alike C.2.2.2.2.2.1, C.2.2.2.2.2.2.1.moved hW⟩⟩ rfl hn h4.1 rfl (lv_room hcat) d hR.2) hlen hpc C hX hb h0 h1 h3 h4 k
end GLrows
theorem kw_434 : Cond.code yX10_feed cX10_feed 2 (some .int) ∈ gv_gw := gv_in 434 (by decide +kernel) (by decide +kernel)
theorem kw_431 : Cond.methodLink RL 13 yX10_feed ∈ gv_gw := gv_in 431 (by decide +kernel) (by decide +kernel)
theorem kw_432 : Cond.instanceMethod yX10_feed ∈ gv_gw := gv_in 432 (by decide +kernel) (by decide +kernel)
theorem kw_433 : Cond.selects RX10 yX10_feed yX10_feed ∈ gv_gw := gv_in 433 (by decide +kernel) (by decide +kernel)
theorem kw_985 : Cond.code yX11_feed cX11_feed 2 (some .int) ∈ gv_gw := gv_in 985 (by decide +kernel) (by decide +kernel)
theorem kw_982 : Cond.methodLink RL 17 yX11_feed ∈ gv_gw := gv_in 982 (by decide +kernel) (by decide +kernel)
theorem kw_983 : Cond.instanceMethod yX11_feed ∈ gv_gw := gv_in 983 (by decide +kernel) (by decide +kernel)
theorem kw_984 : Cond.selects RX11 yX11_feed yX11_feed ∈ gv_gw := gv_in 984 (by decide +kernel) (by decide +kernel)
theorem kw_444 : Cond.code yX10_town cX10_town 2 (some .int) ∈ gv_gw := gv_in 444 (by decide +kernel) (by decide +kernel)
theorem kw_441 : Cond.methodLink RL 18 yX10_town ∈ gv_gw := gv_in 441 (by decide +kernel) (by decide +kernel)
theorem kw_442 : Cond.instanceMethod yX10_town ∈ gv_gw := gv_in 442 (by decide +kernel) (by decide +kernel)
theorem kw_443 : Cond.selects RX10 yX10_town yX10_town ∈ gv_gw := gv_in 443 (by decide +kernel) (by decide +kernel)
theorem kw_994 : Cond.code yX11_town cX11_town 2 (some .int) ∈ gv_gw := gv_in 994 (by decide +kernel) (by decide +kernel)
theorem kw_991 : Cond.methodLink RL 22 yX11_town ∈ gv_gw := gv_in 991 (by decide +kernel) (by decide +kernel)
theorem kw_992 : Cond.instanceMethod yX11_town ∈ gv_gw := gv_in 992 (by decide +kernel) (by decide +kernel)
theorem kw_993 : Cond.selects RX11 yX11_town yX11_town ∈ gv_gw := gv_in 993 (by decide +kernel) (by decide +kernel)
theorem kw_550 : Cond.code yX10_fault cX10_fault 1 (some .int) ∈ gv_gw := gv_in 550 (by decide +kernel) (by decide +kernel)
theorem kw_547 : Cond.methodLink RL 23 yX10_fault ∈ gv_gw := gv_in 547 (by decide +kernel) (by decide +kernel)
theorem kw_548 : Cond.instanceMethod yX10_fault ∈ gv_gw := gv_in 548 (by decide +kernel) (by decide +kernel)
theorem kw_549 : Cond.selects RX10 yX10_fault yX10_fault ∈ gv_gw := gv_in 549 (by decide +kernel) (by decide +kernel)
theorem kw_1042 : Cond.code yX11_fault cX11_fault 1 (some .int) ∈ gv_gw := gv_in 1042 (by decide +kernel) (by decide +kernel)
theorem kw_1039 : Cond.methodLink RL 26 yX11_fault ∈ gv_gw := gv_in 1039 (by decide +kernel) (by decide +kernel)
theorem kw_1040 : Cond.instanceMethod yX11_fault ∈ gv_gw := gv_in 1040 (by decide +kernel) (by decide +kernel)
theorem kw_1041 : Cond.selects RX11 yX11_fault yX11_fault ∈ gv_gw := gv_in 1041 (by decide +kernel) (by decide +kernel)
theorem kw_554 : Cond.code yX10_told cX10_told 2 (some .int) ∈ gv_gw := gv_in 554 (by decide +kernel) (by decide +kernel)
theorem kw_551 : Cond.methodLink RL 27 yX10_told ∈ gv_gw := gv_in 551 (by decide +kernel) (by decide +kernel)
theorem kw_552 : Cond.instanceMethod yX10_told ∈ gv_gw := gv_in 552 (by decide +kernel) (by decide +kernel)
theorem kw_553 : Cond.selects RX10 yX10_told yX10_told ∈ gv_gw := gv_in 553 (by decide +kernel) (by decide +kernel)
theorem kw_1046 : Cond.code yX11_told cX11_told 2 (some .int) ∈ gv_gw := gv_in 1046 (by decide +kernel) (by decide +kernel)
theorem kw_1043 : Cond.methodLink RL 30 yX11_told ∈ gv_gw := gv_in 1043 (by decide +kernel) (by decide +kernel)
theorem kw_1044 : Cond.instanceMethod yX11_told ∈ gv_gw := gv_in 1044 (by decide +kernel) (by decide +kernel)
theorem kw_1045 : Cond.selects RX11 yX11_told yX11_told ∈ gv_gw := gv_in 1045 (by decide +kernel) (by decide +kernel)
theorem kw_600 : Cond.code yX10_bridge cX10_bridge 3 (some .int) ∈ gv_gw := gv_in 600 (by decide +kernel) (by decide +kernel)
theorem kw_597 : Cond.methodLink RL 31 yX10_bridge ∈ gv_gw := gv_in 597 (by decide +kernel) (by decide +kernel)
theorem kw_598 : Cond.instanceMethod yX10_bridge ∈ gv_gw := gv_in 598 (by decide +kernel) (by decide +kernel)
theorem kw_599 : Cond.selects RX10 yX10_bridge yX10_bridge ∈ gv_gw := gv_in 599 (by decide +kernel) (by decide +kernel)
theorem kw_1089 : Cond.code yX11_bridge cX11_bridge 4 (some .int) ∈ gv_gw := gv_in 1089 (by decide +kernel) (by decide +kernel)
theorem kw_1086 : Cond.methodLink RL 35 yX11_bridge ∈ gv_gw := gv_in 1086 (by decide +kernel) (by decide +kernel)
theorem kw_1087 : Cond.instanceMethod yX11_bridge ∈ gv_gw := gv_in 1087 (by decide +kernel) (by decide +kernel)
theorem kw_1088 : Cond.selects RX11 yX11_bridge yX11_bridge ∈ gv_gw := gv_in 1088 (by decide +kernel) (by decide +kernel)
theorem kw_626 : Cond.code yX10_keeper cX10_keeper 3 (some .int) ∈ gv_gw := gv_in 626 (by decide +kernel) (by decide +kernel)
theorem kw_623 : Cond.methodLink RL 36 yX10_keeper ∈ gv_gw := gv_in 623 (by decide +kernel) (by decide +kernel)
theorem kw_624 : Cond.instanceMethod yX10_keeper ∈ gv_gw := gv_in 624 (by decide +kernel) (by decide +kernel)
theorem kw_625 : Cond.selects RX10 yX10_keeper yX10_keeper ∈ gv_gw := gv_in 625 (by decide +kernel) (by decide +kernel)
theorem kw_1106 : Cond.code yX11_keeper cX11_keeper 3 (some .int) ∈ gv_gw := gv_in 1106 (by decide +kernel) (by decide +kernel)
theorem kw_1103 : Cond.methodLink RL 39 yX11_keeper ∈ gv_gw := gv_in 1103 (by decide +kernel) (by decide +kernel)
theorem kw_1104 : Cond.instanceMethod yX11_keeper ∈ gv_gw := gv_in 1104 (by decide +kernel) (by decide +kernel)
theorem kw_1105 : Cond.selects RX11 yX11_keeper yX11_keeper ∈ gv_gw := gv_in 1105 (by decide +kernel) (by decide +kernel)
theorem kw_635 : Cond.code yX10_jumper cX10_jumper 3 (some .int) ∈ gv_gw := gv_in 635 (by decide +kernel) (by decide +kernel)
theorem kw_632 : Cond.methodLink RL 40 yX10_jumper ∈ gv_gw := gv_in 632 (by decide +kernel) (by decide +kernel)
theorem kw_633 : Cond.instanceMethod yX10_jumper ∈ gv_gw := gv_in 633 (by decide +kernel) (by decide +kernel)
theorem kw_634 : Cond.selects RX10 yX10_jumper yX10_jumper ∈ gv_gw := gv_in 634 (by decide +kernel) (by decide +kernel)
theorem kw_1114 : Cond.code yX11_jumper cX11_jumper 3 (some .int) ∈ gv_gw := gv_in 1114 (by decide +kernel) (by decide +kernel)
theorem kw_1111 : Cond.methodLink RL 43 yX11_jumper ∈ gv_gw := gv_in 1111 (by decide +kernel) (by decide +kernel)
theorem kw_1112 : Cond.instanceMethod yX11_jumper ∈ gv_gw := gv_in 1112 (by decide +kernel) (by decide +kernel)
theorem kw_1113 : Cond.selects RX11 yX11_jumper yX11_jumper ∈ gv_gw := gv_in 1113 (by decide +kernel) (by decide +kernel)
theorem kw_656 : Cond.code yX10_flight cX10_flight 3 (some .int) ∈ gv_gw := gv_in 656 (by decide +kernel) (by decide +kernel)
theorem kw_653 : Cond.methodLink RL 44 yX10_flight ∈ gv_gw := gv_in 653 (by decide +kernel) (by decide +kernel)
theorem kw_654 : Cond.instanceMethod yX10_flight ∈ gv_gw := gv_in 654 (by decide +kernel) (by decide +kernel)
theorem kw_655 : Cond.selects RX10 yX10_flight yX10_flight ∈ gv_gw := gv_in 655 (by decide +kernel) (by decide +kernel)
theorem kw_1134 : Cond.code yX11_flight cX11_flight 3 (some .int) ∈ gv_gw := gv_in 1134 (by decide +kernel) (by decide +kernel)
theorem kw_1131 : Cond.methodLink RL 47 yX11_flight ∈ gv_gw := gv_in 1131 (by decide +kernel) (by decide +kernel)
theorem kw_1132 : Cond.instanceMethod yX11_flight ∈ gv_gw := gv_in 1132 (by decide +kernel) (by decide +kernel)
theorem kw_1133 : Cond.selects RX11 yX11_flight yX11_flight ∈ gv_gw := gv_in 1133 (by decide +kernel) (by decide +kernel)
theorem kw_661 : Cond.code yX10_roll cX10_roll 3 (some .int) ∈ gv_gw := gv_in 661 (by decide +kernel) (by decide +kernel)
theorem kw_658 : Cond.methodLink RL 48 yX10_roll ∈ gv_gw := gv_in 658 (by decide +kernel) (by decide +kernel)
theorem kw_659 : Cond.instanceMethod yX10_roll ∈ gv_gw := gv_in 659 (by decide +kernel) (by decide +kernel)
theorem kw_660 : Cond.selects RX10 yX10_roll yX10_roll ∈ gv_gw := gv_in 660 (by decide +kernel) (by decide +kernel)
theorem kw_1138 : Cond.code yX11_roll cX11_roll 3 (some .int) ∈ gv_gw := gv_in 1138 (by decide +kernel) (by decide +kernel)
theorem kw_1135 : Cond.methodLink RL 51 yX11_roll ∈ gv_gw := gv_in 1135 (by decide +kernel) (by decide +kernel)
theorem kw_1136 : Cond.instanceMethod yX11_roll ∈ gv_gw := gv_in 1136 (by decide +kernel) (by decide +kernel)
theorem kw_1137 : Cond.selects RX11 yX11_roll yX11_roll ∈ gv_gw := gv_in 1137 (by decide +kernel) (by decide +kernel)
theorem kw_669 : Cond.code yX10_leap cX10_leap 3 (some .int) ∈ gv_gw := gv_in 669 (by decide +kernel) (by decide +kernel)
theorem kw_666 : Cond.methodLink RL 52 yX10_leap ∈ gv_gw := gv_in 666 (by decide +kernel) (by decide +kernel)
theorem kw_667 : Cond.instanceMethod yX10_leap ∈ gv_gw := gv_in 667 (by decide +kernel) (by decide +kernel)
theorem kw_668 : Cond.selects RX10 yX10_leap yX10_leap ∈ gv_gw := gv_in 668 (by decide +kernel) (by decide +kernel)
theorem kw_1142 : Cond.code yX11_leap cX11_leap 3 (some .int) ∈ gv_gw := gv_in 1142 (by decide +kernel) (by decide +kernel)
theorem kw_1139 : Cond.methodLink RL 55 yX11_leap ∈ gv_gw := gv_in 1139 (by decide +kernel) (by decide +kernel)
theorem kw_1140 : Cond.instanceMethod yX11_leap ∈ gv_gw := gv_in 1140 (by decide +kernel) (by decide +kernel)
theorem kw_1141 : Cond.selects RX11 yX11_leap yX11_leap ∈ gv_gw := gv_in 1141 (by decide +kernel) (by decide +kernel)
theorem kw_699 : Cond.code yX10_post cX10_post 4 (some .int) ∈ gv_gw := gv_in 699 (by decide +kernel) (by decide +kernel)
theorem kw_696 : Cond.methodLink RL 56 yX10_post ∈ gv_gw := gv_in 696 (by decide +kernel) (by decide +kernel)
theorem kw_697 : Cond.instanceMethod yX10_post ∈ gv_gw := gv_in 697 (by decide +kernel) (by decide +kernel)
theorem kw_698 : Cond.selects RX10 yX10_post yX10_post ∈ gv_gw := gv_in 698 (by decide +kernel) (by decide +kernel)
theorem kw_1164 : Cond.code yX11_post cX11_post 4 (some .int) ∈ gv_gw := gv_in 1164 (by decide +kernel) (by decide +kernel)
theorem kw_1161 : Cond.methodLink RL 59 yX11_post ∈ gv_gw := gv_in 1161 (by decide +kernel) (by decide +kernel)
theorem kw_1162 : Cond.instanceMethod yX11_post ∈ gv_gw := gv_in 1162 (by decide +kernel) (by decide +kernel)
theorem kw_1163 : Cond.selects RX11 yX11_post yX11_post ∈ gv_gw := gv_in 1163 (by decide +kernel) (by decide +kernel)
theorem kw_703 : Cond.code yX10_rest cX10_rest 3 (some .int) ∈ gv_gw := gv_in 703 (by decide +kernel) (by decide +kernel)
theorem kw_700 : Cond.methodLink RL 60 yX10_rest ∈ gv_gw := gv_in 700 (by decide +kernel) (by decide +kernel)
theorem kw_701 : Cond.instanceMethod yX10_rest ∈ gv_gw := gv_in 701 (by decide +kernel) (by decide +kernel)
theorem kw_702 : Cond.selects RX10 yX10_rest yX10_rest ∈ gv_gw := gv_in 702 (by decide +kernel) (by decide +kernel)
theorem kw_1168 : Cond.code yX11_rest cX11_rest 3 (some .int) ∈ gv_gw := gv_in 1168 (by decide +kernel) (by decide +kernel)
theorem kw_1165 : Cond.methodLink RL 63 yX11_rest ∈ gv_gw := gv_in 1165 (by decide +kernel) (by decide +kernel)
theorem kw_1166 : Cond.instanceMethod yX11_rest ∈ gv_gw := gv_in 1166 (by decide +kernel) (by decide +kernel)
theorem kw_1167 : Cond.selects RX11 yX11_rest yX11_rest ∈ gv_gw := gv_in 1167 (by decide +kernel) (by decide +kernel)
theorem kw_707 : Cond.code yX10_train cX10_train 2 (some .int) ∈ gv_gw := gv_in 707 (by decide +kernel) (by decide +kernel)
theorem kw_704 : Cond.methodLink RL 64 yX10_train ∈ gv_gw := gv_in 704 (by decide +kernel) (by decide +kernel)
theorem kw_705 : Cond.instanceMethod yX10_train ∈ gv_gw := gv_in 705 (by decide +kernel) (by decide +kernel)
theorem kw_706 : Cond.selects RX10 yX10_train yX10_train ∈ gv_gw := gv_in 706 (by decide +kernel) (by decide +kernel)
theorem kw_1172 : Cond.code yX11_train cX11_train 2 (some .int) ∈ gv_gw := gv_in 1172 (by decide +kernel) (by decide +kernel)
theorem kw_1169 : Cond.methodLink RL 67 yX11_train ∈ gv_gw := gv_in 1169 (by decide +kernel) (by decide +kernel)
theorem kw_1170 : Cond.instanceMethod yX11_train ∈ gv_gw := gv_in 1170 (by decide +kernel) (by decide +kernel)
theorem kw_1171 : Cond.selects RX11 yX11_train yX11_train ∈ gv_gw := gv_in 1171 (by decide +kernel) (by decide +kernel)
theorem kw_711 : Cond.code yX10_talk cX10_talk 4 (some .int) ∈ gv_gw := gv_in 711 (by decide +kernel) (by decide +kernel)
theorem kw_708 : Cond.methodLink RL 68 yX10_talk ∈ gv_gw := gv_in 708 (by decide +kernel) (by decide +kernel)
theorem kw_709 : Cond.instanceMethod yX10_talk ∈ gv_gw := gv_in 709 (by decide +kernel) (by decide +kernel)
theorem kw_710 : Cond.selects RX10 yX10_talk yX10_talk ∈ gv_gw := gv_in 710 (by decide +kernel) (by decide +kernel)
theorem kw_1176 : Cond.code yX11_talk cX11_talk 4 (some .int) ∈ gv_gw := gv_in 1176 (by decide +kernel) (by decide +kernel)
theorem kw_1173 : Cond.methodLink RL 71 yX11_talk ∈ gv_gw := gv_in 1173 (by decide +kernel) (by decide +kernel)
theorem kw_1174 : Cond.instanceMethod yX11_talk ∈ gv_gw := gv_in 1174 (by decide +kernel) (by decide +kernel)
theorem kw_1175 : Cond.selects RX11 yX11_talk yX11_talk ∈ gv_gw := gv_in 1175 (by decide +kernel) (by decide +kernel)
theorem kw_715 : Cond.code yX10_hour cX10_hour 2 (some .int) ∈ gv_gw := gv_in 715 (by decide +kernel) (by decide +kernel)
theorem kw_712 : Cond.methodLink RL 72 yX10_hour ∈ gv_gw := gv_in 712 (by decide +kernel) (by decide +kernel)
theorem kw_713 : Cond.instanceMethod yX10_hour ∈ gv_gw := gv_in 713 (by decide +kernel) (by decide +kernel)
theorem kw_714 : Cond.selects RX10 yX10_hour yX10_hour ∈ gv_gw := gv_in 714 (by decide +kernel) (by decide +kernel)
theorem kw_1180 : Cond.code yX11_hour cX11_hour 4 (some .int) ∈ gv_gw := gv_in 1180 (by decide +kernel) (by decide +kernel)
theorem kw_1177 : Cond.methodLink RL 75 yX11_hour ∈ gv_gw := gv_in 1177 (by decide +kernel) (by decide +kernel)
theorem kw_1178 : Cond.instanceMethod yX11_hour ∈ gv_gw := gv_in 1178 (by decide +kernel) (by decide +kernel)
theorem kw_1179 : Cond.selects RX11 yX11_hour yX11_hour ∈ gv_gw := gv_in 1179 (by decide +kernel) (by decide +kernel)
theorem kw_741 : Cond.code yX10_drift cX10_drift 2 (some .int) ∈ gv_gw := gv_in 741 (by decide +kernel) (by decide +kernel)
theorem kw_738 : Cond.methodLink RL 76 yX10_drift ∈ gv_gw := gv_in 738 (by decide +kernel) (by decide +kernel)
theorem kw_739 : Cond.instanceMethod yX10_drift ∈ gv_gw := gv_in 739 (by decide +kernel) (by decide +kernel)
theorem kw_740 : Cond.selects RX10 yX10_drift yX10_drift ∈ gv_gw := gv_in 740 (by decide +kernel) (by decide +kernel)
theorem kw_1192 : Cond.code yX11_drift cX11_drift 7 (some .int) ∈ gv_gw := gv_in 1192 (by decide +kernel) (by decide +kernel)
theorem kw_1189 : Cond.methodLink RL 79 yX11_drift ∈ gv_gw := gv_in 1189 (by decide +kernel) (by decide +kernel)
theorem kw_1190 : Cond.instanceMethod yX11_drift ∈ gv_gw := gv_in 1190 (by decide +kernel) (by decide +kernel)
theorem kw_1191 : Cond.selects RX11 yX11_drift yX11_drift ∈ gv_gw := gv_in 1191 (by decide +kernel) (by decide +kernel)
theorem kw_745 : Cond.code yX10_undo cX10_undo 1 (some .int) ∈ gv_gw := gv_in 745 (by decide +kernel) (by decide +kernel)
theorem kw_742 : Cond.methodLink RL 80 yX10_undo ∈ gv_gw := gv_in 742 (by decide +kernel) (by decide +kernel)
theorem kw_743 : Cond.instanceMethod yX10_undo ∈ gv_gw := gv_in 743 (by decide +kernel) (by decide +kernel)
theorem kw_744 : Cond.selects RX10 yX10_undo yX10_undo ∈ gv_gw := gv_in 744 (by decide +kernel) (by decide +kernel)
theorem kw_1204 : Cond.code yX11_undo cX11_undo 2 (some .int) ∈ gv_gw := gv_in 1204 (by decide +kernel) (by decide +kernel)
theorem kw_1201 : Cond.methodLink RL 83 yX11_undo ∈ gv_gw := gv_in 1201 (by decide +kernel) (by decide +kernel)
theorem kw_1202 : Cond.instanceMethod yX11_undo ∈ gv_gw := gv_in 1202 (by decide +kernel) (by decide +kernel)
theorem kw_1203 : Cond.selects RX11 yX11_undo yX11_undo ∈ gv_gw := gv_in 1203 (by decide +kernel) (by decide +kernel)
theorem kw_753 : Cond.code yX10_way cX10_way 5 (some .int) ∈ gv_gw := gv_in 753 (by decide +kernel) (by decide +kernel)
theorem kw_750 : Cond.methodLink RL 84 yX10_way ∈ gv_gw := gv_in 750 (by decide +kernel) (by decide +kernel)
theorem kw_751 : Cond.instanceMethod yX10_way ∈ gv_gw := gv_in 751 (by decide +kernel) (by decide +kernel)
theorem kw_752 : Cond.selects RX10 yX10_way yX10_way ∈ gv_gw := gv_in 752 (by decide +kernel) (by decide +kernel)
theorem kw_1208 : Cond.code yX11_way cX11_way 8 (some .int) ∈ gv_gw := gv_in 1208 (by decide +kernel) (by decide +kernel)
theorem kw_1205 : Cond.methodLink RL 88 yX11_way ∈ gv_gw := gv_in 1205 (by decide +kernel) (by decide +kernel)
theorem kw_1206 : Cond.instanceMethod yX11_way ∈ gv_gw := gv_in 1206 (by decide +kernel) (by decide +kernel)
theorem kw_1207 : Cond.selects RX11 yX11_way yX11_way ∈ gv_gw := gv_in 1207 (by decide +kernel) (by decide +kernel)
theorem kw_768 : Cond.code yX10_safest cX10_safest 4 (some .int) ∈ gv_gw := gv_in 768 (by decide +kernel) (by decide +kernel)
theorem kw_765 : Cond.methodLink RL 89 yX10_safest ∈ gv_gw := gv_in 765 (by decide +kernel) (by decide +kernel)
theorem kw_766 : Cond.instanceMethod yX10_safest ∈ gv_gw := gv_in 766 (by decide +kernel) (by decide +kernel)
theorem kw_767 : Cond.selects RX10 yX10_safest yX10_safest ∈ gv_gw := gv_in 767 (by decide +kernel) (by decide +kernel)
theorem kw_1216 : Cond.code yX11_safest cX11_safest 13 (some .int) ∈ gv_gw := gv_in 1216 (by decide +kernel) (by decide +kernel)
theorem kw_1213 : Cond.methodLink RL 92 yX11_safest ∈ gv_gw := gv_in 1213 (by decide +kernel) (by decide +kernel)
theorem kw_1214 : Cond.instanceMethod yX11_safest ∈ gv_gw := gv_in 1214 (by decide +kernel) (by decide +kernel)
theorem kw_1215 : Cond.selects RX11 yX11_safest yX11_safest ∈ gv_gw := gv_in 1215 (by decide +kernel) (by decide +kernel)
theorem kw_784 : Cond.code yX10_posts cX10_posts 3 (some .int) ∈ gv_gw := gv_in 784 (by decide +kernel) (by decide +kernel)
theorem kw_781 : Cond.methodLink RL 93 yX10_posts ∈ gv_gw := gv_in 781 (by decide +kernel) (by decide +kernel)
theorem kw_782 : Cond.instanceMethod yX10_posts ∈ gv_gw := gv_in 782 (by decide +kernel) (by decide +kernel)
theorem kw_783 : Cond.selects RX10 yX10_posts yX10_posts ∈ gv_gw := gv_in 783 (by decide +kernel) (by decide +kernel)
theorem kw_1222 : Cond.code yX11_posts cX11_posts 8 (some .int) ∈ gv_gw := gv_in 1222 (by decide +kernel) (by decide +kernel)
theorem kw_1219 : Cond.methodLink RL 96 yX11_posts ∈ gv_gw := gv_in 1219 (by decide +kernel) (by decide +kernel)
theorem kw_1220 : Cond.instanceMethod yX11_posts ∈ gv_gw := gv_in 1220 (by decide +kernel) (by decide +kernel)
theorem kw_1221 : Cond.selects RX11 yX11_posts yX11_posts ∈ gv_gw := gv_in 1221 (by decide +kernel) (by decide +kernel)
theorem kw_810 : Cond.code yX10_tires cX10_tires 6 (some .int) ∈ gv_gw := gv_in 810 (by decide +kernel) (by decide +kernel)
theorem kw_807 : Cond.methodLink RL 97 yX10_tires ∈ gv_gw := gv_in 807 (by decide +kernel) (by decide +kernel)
theorem kw_808 : Cond.instanceMethod yX10_tires ∈ gv_gw := gv_in 808 (by decide +kernel) (by decide +kernel)
theorem kw_809 : Cond.selects RX10 yX10_tires yX10_tires ∈ gv_gw := gv_in 809 (by decide +kernel) (by decide +kernel)
theorem kw_1234 : Cond.code yX11_tires cX11_tires 5 (some .int) ∈ gv_gw := gv_in 1234 (by decide +kernel) (by decide +kernel)
theorem kw_1231 : Cond.methodLink RL 100 yX11_tires ∈ gv_gw := gv_in 1231 (by decide +kernel) (by decide +kernel)
theorem kw_1232 : Cond.instanceMethod yX11_tires ∈ gv_gw := gv_in 1232 (by decide +kernel) (by decide +kernel)
theorem kw_1233 : Cond.selects RX11 yX11_tires yX11_tires ∈ gv_gw := gv_in 1233 (by decide +kernel) (by decide +kernel)
theorem kw_815 : Cond.code yX10_parted cX10_parted 3 (some .int) ∈ gv_gw := gv_in 815 (by decide +kernel) (by decide +kernel)
theorem kw_812 : Cond.methodLink RL 101 yX10_parted ∈ gv_gw := gv_in 812 (by decide +kernel) (by decide +kernel)
theorem kw_813 : Cond.instanceMethod yX10_parted ∈ gv_gw := gv_in 813 (by decide +kernel) (by decide +kernel)
theorem kw_814 : Cond.selects RX10 yX10_parted yX10_parted ∈ gv_gw := gv_in 814 (by decide +kernel) (by decide +kernel)
theorem kw_1238 : Cond.code yX11_parted cX11_parted 5 (some .int) ∈ gv_gw := gv_in 1238 (by decide +kernel) (by decide +kernel)
theorem kw_1235 : Cond.methodLink RL 104 yX11_parted ∈ gv_gw := gv_in 1235 (by decide +kernel) (by decide +kernel)
theorem kw_1236 : Cond.instanceMethod yX11_parted ∈ gv_gw := gv_in 1236 (by decide +kernel) (by decide +kernel)
theorem kw_1237 : Cond.selects RX11 yX11_parted yX11_parted ∈ gv_gw := gv_in 1237 (by decide +kernel) (by decide +kernel)
theorem kw_829 : Cond.code yX10_pays cX10_pays 10 (some .int) ∈ gv_gw := gv_in 829 (by decide +kernel) (by decide +kernel)
theorem kw_826 : Cond.methodLink RL 105 yX10_pays ∈ gv_gw := gv_in 826 (by decide +kernel) (by decide +kernel)
theorem kw_827 : Cond.instanceMethod yX10_pays ∈ gv_gw := gv_in 827 (by decide +kernel) (by decide +kernel)
theorem kw_828 : Cond.selects RX10 yX10_pays yX10_pays ∈ gv_gw := gv_in 828 (by decide +kernel) (by decide +kernel)
theorem kw_1245 : Cond.code yX11_pays cX11_pays 5 (some .int) ∈ gv_gw := gv_in 1245 (by decide +kernel) (by decide +kernel)
theorem kw_1242 : Cond.methodLink RL 108 yX11_pays ∈ gv_gw := gv_in 1242 (by decide +kernel) (by decide +kernel)
theorem kw_1243 : Cond.instanceMethod yX11_pays ∈ gv_gw := gv_in 1243 (by decide +kernel) (by decide +kernel)
theorem kw_1244 : Cond.selects RX11 yX11_pays yX11_pays ∈ gv_gw := gv_in 1244 (by decide +kernel) (by decide +kernel)
theorem kw_835 : Cond.code yX10_exact cX10_exact 5 (some .int) ∈ gv_gw := gv_in 835 (by decide +kernel) (by decide +kernel)
theorem kw_832 : Cond.methodLink RL 109 yX10_exact ∈ gv_gw := gv_in 832 (by decide +kernel) (by decide +kernel)
theorem kw_833 : Cond.instanceMethod yX10_exact ∈ gv_gw := gv_in 833 (by decide +kernel) (by decide +kernel)
theorem kw_834 : Cond.selects RX10 yX10_exact yX10_exact ∈ gv_gw := gv_in 834 (by decide +kernel) (by decide +kernel)
theorem kw_1253 : Cond.code yX11_exact cX11_exact 3 (some .int) ∈ gv_gw := gv_in 1253 (by decide +kernel) (by decide +kernel)
theorem kw_1250 : Cond.methodLink RL 112 yX11_exact ∈ gv_gw := gv_in 1250 (by decide +kernel) (by decide +kernel)
theorem kw_1251 : Cond.instanceMethod yX11_exact ∈ gv_gw := gv_in 1251 (by decide +kernel) (by decide +kernel)
theorem kw_1252 : Cond.selects RX11 yX11_exact yX11_exact ∈ gv_gw := gv_in 1252 (by decide +kernel) (by decide +kernel)
theorem kw_839 : Cond.code yX10_see cX10_see 3 (some .int) ∈ gv_gw := gv_in 839 (by decide +kernel) (by decide +kernel)
theorem kw_836 : Cond.methodLink RL 113 yX10_see ∈ gv_gw := gv_in 836 (by decide +kernel) (by decide +kernel)
theorem kw_837 : Cond.instanceMethod yX10_see ∈ gv_gw := gv_in 837 (by decide +kernel) (by decide +kernel)
theorem kw_838 : Cond.selects RX10 yX10_see yX10_see ∈ gv_gw := gv_in 838 (by decide +kernel) (by decide +kernel)
theorem kw_1257 : Cond.code yX11_see cX11_see 3 (some .int) ∈ gv_gw := gv_in 1257 (by decide +kernel) (by decide +kernel)
theorem kw_1254 : Cond.methodLink RL 117 yX11_see ∈ gv_gw := gv_in 1254 (by decide +kernel) (by decide +kernel)
theorem kw_1255 : Cond.instanceMethod yX11_see ∈ gv_gw := gv_in 1255 (by decide +kernel) (by decide +kernel)
theorem kw_1256 : Cond.selects RX11 yX11_see yX11_see ∈ gv_gw := gv_in 1256 (by decide +kernel) (by decide +kernel)
theorem kw_849 : Cond.code yX10_quick cX10_quick 2 (some .int) ∈ gv_gw := gv_in 849 (by decide +kernel) (by decide +kernel)
theorem kw_846 : Cond.methodLink RL 118 yX10_quick ∈ gv_gw := gv_in 846 (by decide +kernel) (by decide +kernel)
theorem kw_847 : Cond.instanceMethod yX10_quick ∈ gv_gw := gv_in 847 (by decide +kernel) (by decide +kernel)
theorem kw_848 : Cond.selects RX10 yX10_quick yX10_quick ∈ gv_gw := gv_in 848 (by decide +kernel) (by decide +kernel)
theorem kw_1261 : Cond.code yX11_quick cX11_quick 6 (some .int) ∈ gv_gw := gv_in 1261 (by decide +kernel) (by decide +kernel)
theorem kw_1258 : Cond.methodLink RL 121 yX11_quick ∈ gv_gw := gv_in 1258 (by decide +kernel) (by decide +kernel)
theorem kw_1259 : Cond.instanceMethod yX11_quick ∈ gv_gw := gv_in 1259 (by decide +kernel) (by decide +kernel)
theorem kw_1260 : Cond.selects RX11 yX11_quick yX11_quick ∈ gv_gw := gv_in 1260 (by decide +kernel) (by decide +kernel)
theorem kw_857 : Cond.code yX10_watch cX10_watch 1 (some .int) ∈ gv_gw := gv_in 857 (by decide +kernel) (by decide +kernel)
theorem kw_854 : Cond.methodLink RL 122 yX10_watch ∈ gv_gw := gv_in 854 (by decide +kernel) (by decide +kernel)
theorem kw_855 : Cond.instanceMethod yX10_watch ∈ gv_gw := gv_in 855 (by decide +kernel) (by decide +kernel)
theorem kw_856 : Cond.selects RX10 yX10_watch yX10_watch ∈ gv_gw := gv_in 856 (by decide +kernel) (by decide +kernel)
theorem kw_1269 : Cond.code yX11_watch cX11_watch 7 (some .int) ∈ gv_gw := gv_in 1269 (by decide +kernel) (by decide +kernel)
theorem kw_1266 : Cond.methodLink RL 125 yX11_watch ∈ gv_gw := gv_in 1266 (by decide +kernel) (by decide +kernel)
theorem kw_1267 : Cond.instanceMethod yX11_watch ∈ gv_gw := gv_in 1267 (by decide +kernel) (by decide +kernel)
theorem kw_1268 : Cond.selects RX11 yX11_watch yX11_watch ∈ gv_gw := gv_in 1268 (by decide +kernel) (by decide +kernel)
theorem kw_866 : Cond.code yX10_write cX10_write 3 (some .int) ∈ gv_gw := gv_in 866 (by decide +kernel) (by decide +kernel)
theorem kw_863 : Cond.methodLink RL 126 yX10_write ∈ gv_gw := gv_in 863 (by decide +kernel) (by decide +kernel)
theorem kw_864 : Cond.instanceMethod yX10_write ∈ gv_gw := gv_in 864 (by decide +kernel) (by decide +kernel)
theorem kw_865 : Cond.selects RX10 yX10_write yX10_write ∈ gv_gw := gv_in 865 (by decide +kernel) (by decide +kernel)
theorem kw_1273 : Cond.code yX11_write cX11_write 3 (some .int) ∈ gv_gw := gv_in 1273 (by decide +kernel) (by decide +kernel)
theorem kw_1270 : Cond.methodLink RL 129 yX11_write ∈ gv_gw := gv_in 1270 (by decide +kernel) (by decide +kernel)
theorem kw_1271 : Cond.instanceMethod yX11_write ∈ gv_gw := gv_in 1271 (by decide +kernel) (by decide +kernel)
theorem kw_1272 : Cond.selects RX11 yX11_write yX11_write ∈ gv_gw := gv_in 1272 (by decide +kernel) (by decide +kernel)
theorem kw_874 : Cond.code yX10_tear cX10_tear 2 (some .int) ∈ gv_gw := gv_in 874 (by decide +kernel) (by decide +kernel)
theorem kw_871 : Cond.methodLink RL 130 yX10_tear ∈ gv_gw := gv_in 871 (by decide +kernel) (by decide +kernel)
theorem kw_872 : Cond.instanceMethod yX10_tear ∈ gv_gw := gv_in 872 (by decide +kernel) (by decide +kernel)
theorem kw_873 : Cond.selects RX10 yX10_tear yX10_tear ∈ gv_gw := gv_in 873 (by decide +kernel) (by decide +kernel)
theorem kw_1277 : Cond.code yX11_tear cX11_tear 2 (some .int) ∈ gv_gw := gv_in 1277 (by decide +kernel) (by decide +kernel)
theorem kw_1274 : Cond.methodLink RL 133 yX11_tear ∈ gv_gw := gv_in 1274 (by decide +kernel) (by decide +kernel)
theorem kw_1275 : Cond.instanceMethod yX11_tear ∈ gv_gw := gv_in 1275 (by decide +kernel) (by decide +kernel)
theorem kw_1276 : Cond.selects RX11 yX11_tear yX11_tear ∈ gv_gw := gv_in 1276 (by decide +kernel) (by decide +kernel)
theorem kw_878 : Cond.code yX10_judge cX10_judge 1 (some .int) ∈ gv_gw := gv_in 878 (by decide +kernel) (by decide +kernel)
theorem kw_875 : Cond.methodLink RL 134 yX10_judge ∈ gv_gw := gv_in 875 (by decide +kernel) (by decide +kernel)
theorem kw_876 : Cond.instanceMethod yX10_judge ∈ gv_gw := gv_in 876 (by decide +kernel) (by decide +kernel)
theorem kw_877 : Cond.selects RX10 yX10_judge yX10_judge ∈ gv_gw := gv_in 877 (by decide +kernel) (by decide +kernel)
theorem kw_1281 : Cond.code yX11_judge cX11_judge 2 (some .int) ∈ gv_gw := gv_in 1281 (by decide +kernel) (by decide +kernel)
theorem kw_1278 : Cond.methodLink RL 137 yX11_judge ∈ gv_gw := gv_in 1278 (by decide +kernel) (by decide +kernel)
theorem kw_1279 : Cond.instanceMethod yX11_judge ∈ gv_gw := gv_in 1279 (by decide +kernel) (by decide +kernel)
theorem kw_1280 : Cond.selects RX11 yX11_judge yX11_judge ∈ gv_gw := gv_in 1280 (by decide +kernel) (by decide +kernel)
theorem kw_886 : Cond.code yX10_seed cX10_seed 3 (some .int) ∈ gv_gw := gv_in 886 (by decide +kernel) (by decide +kernel)
theorem kw_883 : Cond.methodLink RL 138 yX10_seed ∈ gv_gw := gv_in 883 (by decide +kernel) (by decide +kernel)
theorem kw_884 : Cond.instanceMethod yX10_seed ∈ gv_gw := gv_in 884 (by decide +kernel) (by decide +kernel)
theorem kw_885 : Cond.selects RX10 yX10_seed yX10_seed ∈ gv_gw := gv_in 885 (by decide +kernel) (by decide +kernel)
theorem kw_1285 : Cond.code yX11_seed cX11_seed 3 (some .int) ∈ gv_gw := gv_in 1285 (by decide +kernel) (by decide +kernel)
theorem kw_1282 : Cond.methodLink RL 141 yX11_seed ∈ gv_gw := gv_in 1282 (by decide +kernel) (by decide +kernel)
theorem kw_1283 : Cond.instanceMethod yX11_seed ∈ gv_gw := gv_in 1283 (by decide +kernel) (by decide +kernel)
theorem kw_1284 : Cond.selects RX11 yX11_seed yX11_seed ∈ gv_gw := gv_in 1284 (by decide +kernel) (by decide +kernel)
theorem kw_890 : Cond.code yX10_keep cX10_keep 3 (some .int) ∈ gv_gw := gv_in 890 (by decide +kernel) (by decide +kernel)
theorem kw_887 : Cond.methodLink RL 142 yX10_keep ∈ gv_gw := gv_in 887 (by decide +kernel) (by decide +kernel)
theorem kw_888 : Cond.instanceMethod yX10_keep ∈ gv_gw := gv_in 888 (by decide +kernel) (by decide +kernel)
theorem kw_889 : Cond.selects RX10 yX10_keep yX10_keep ∈ gv_gw := gv_in 889 (by decide +kernel) (by decide +kernel)
theorem kw_1289 : Cond.code yX11_keep cX11_keep 3 (some .int) ∈ gv_gw := gv_in 1289 (by decide +kernel) (by decide +kernel)
theorem kw_1286 : Cond.methodLink RL 145 yX11_keep ∈ gv_gw := gv_in 1286 (by decide +kernel) (by decide +kernel)
theorem kw_1287 : Cond.instanceMethod yX11_keep ∈ gv_gw := gv_in 1287 (by decide +kernel) (by decide +kernel)
theorem kw_1288 : Cond.selects RX11 yX11_keep yX11_keep ∈ gv_gw := gv_in 1288 (by decide +kernel) (by decide +kernel)
theorem kw_895 : Cond.code yX10_goBack cX10_goBack 3 (some .int) ∈ gv_gw := gv_in 895 (by decide +kernel) (by decide +kernel)
theorem kw_892 : Cond.methodLink RL 146 yX10_goBack ∈ gv_gw := gv_in 892 (by decide +kernel) (by decide +kernel)
theorem kw_893 : Cond.instanceMethod yX10_goBack ∈ gv_gw := gv_in 893 (by decide +kernel) (by decide +kernel)
theorem kw_894 : Cond.selects RX10 yX10_goBack yX10_goBack ∈ gv_gw := gv_in 894 (by decide +kernel) (by decide +kernel)
theorem kw_1293 : Cond.code yX11_goBack cX11_goBack 3 (some .int) ∈ gv_gw := gv_in 1293 (by decide +kernel) (by decide +kernel)
theorem kw_1290 : Cond.methodLink RL 149 yX11_goBack ∈ gv_gw := gv_in 1290 (by decide +kernel) (by decide +kernel)
theorem kw_1291 : Cond.instanceMethod yX11_goBack ∈ gv_gw := gv_in 1291 (by decide +kernel) (by decide +kernel)
theorem kw_1292 : Cond.selects RX11 yX11_goBack yX11_goBack ∈ gv_gw := gv_in 1292 (by decide +kernel) (by decide +kernel)
theorem si_L_13 {nm : String} {cc : ByteArray} {nL : Nat} {rt : Option FieldType} : gv_SV (RL, nm, cc, nL, rt) md_X10_feed 13 yX10_feed 1 := ⟨kw_431, kw_432, kw_433, kw_61, kw_434, ⟨by decide +kernel, by decide +kernel, by decide +kernel⟩⟩
theorem si_L_17 {nm : String} {cc : ByteArray} {nL : Nat} {rt : Option FieldType} : gv_SV (RL, nm, cc, nL, rt) md_X11_feed 17 yX11_feed 1 := ⟨kw_982, kw_983, kw_984, kw_72, kw_985, ⟨by decide +kernel, by decide +kernel, by decide +kernel⟩⟩
theorem si_L_18 {nm : String} {cc : ByteArray} {nL : Nat} {rt : Option FieldType} : gv_SV (RL, nm, cc, nL, rt) md_X10_town 18 yX10_town 0 := ⟨kw_441, kw_442, kw_443, kw_61, kw_444, ⟨by decide +kernel, by decide +kernel, by decide +kernel⟩⟩
theorem si_L_22 {nm : String} {cc : ByteArray} {nL : Nat} {rt : Option FieldType} : gv_SV (RL, nm, cc, nL, rt) md_X11_town 22 yX11_town 0 := ⟨kw_991, kw_992, kw_993, kw_72, kw_994, ⟨by decide +kernel, by decide +kernel, by decide +kernel⟩⟩
theorem si_L_23 {nm : String} {cc : ByteArray} {nL : Nat} {rt : Option FieldType} : gv_SV (RL, nm, cc, nL, rt) md_X10_fault 23 yX10_fault 0 := ⟨kw_547, kw_548, kw_549, kw_61, kw_550, ⟨by decide +kernel, by decide +kernel, by decide +kernel⟩⟩
theorem si_L_26 {nm : String} {cc : ByteArray} {nL : Nat} {rt : Option FieldType} : gv_SV (RL, nm, cc, nL, rt) md_X11_fault 26 yX11_fault 0 := ⟨kw_1039, kw_1040, kw_1041, kw_72, kw_1042, ⟨by decide +kernel, by decide +kernel, by decide +kernel⟩⟩
theorem si_L_27 {nm : String} {cc : ByteArray} {nL : Nat} {rt : Option FieldType} : gv_SV (RL, nm, cc, nL, rt) md_X10_told 27 yX10_told 1 := ⟨kw_551, kw_552, kw_553, kw_61, kw_554, ⟨by decide +kernel, by decide +kernel, by decide +kernel⟩⟩
theorem si_L_30 {nm : String} {cc : ByteArray} {nL : Nat} {rt : Option FieldType} : gv_SV (RL, nm, cc, nL, rt) md_X11_told 30 yX11_told 1 := ⟨kw_1043, kw_1044, kw_1045, kw_72, kw_1046, ⟨by decide +kernel, by decide +kernel, by decide +kernel⟩⟩
theorem si_L_31 {nm : String} {cc : ByteArray} {nL : Nat} {rt : Option FieldType} : gv_SV (RL, nm, cc, nL, rt) md_X10_bridge 31 yX10_bridge 2 := ⟨kw_597, kw_598, kw_599, kw_61, kw_600, ⟨by decide +kernel, by decide +kernel, by decide +kernel⟩⟩
theorem si_L_35 {nm : String} {cc : ByteArray} {nL : Nat} {rt : Option FieldType} : gv_SV (RL, nm, cc, nL, rt) md_X11_bridge 35 yX11_bridge 2 := ⟨kw_1086, kw_1087, kw_1088, kw_72, kw_1089, ⟨by decide +kernel, by decide +kernel, by decide +kernel⟩⟩
theorem si_L_36 {nm : String} {cc : ByteArray} {nL : Nat} {rt : Option FieldType} : gv_SV (RL, nm, cc, nL, rt) md_X10_keeper 36 yX10_keeper 2 := ⟨kw_623, kw_624, kw_625, kw_61, kw_626, ⟨by decide +kernel, by decide +kernel, by decide +kernel⟩⟩
theorem si_L_39 {nm : String} {cc : ByteArray} {nL : Nat} {rt : Option FieldType} : gv_SV (RL, nm, cc, nL, rt) md_X11_keeper 39 yX11_keeper 2 := ⟨kw_1103, kw_1104, kw_1105, kw_72, kw_1106, ⟨by decide +kernel, by decide +kernel, by decide +kernel⟩⟩
theorem si_L_40 {nm : String} {cc : ByteArray} {nL : Nat} {rt : Option FieldType} : gv_SV (RL, nm, cc, nL, rt) md_X10_jumper 40 yX10_jumper 2 := ⟨kw_632, kw_633, kw_634, kw_61, kw_635, ⟨by decide +kernel, by decide +kernel, by decide +kernel⟩⟩
theorem si_L_43 {nm : String} {cc : ByteArray} {nL : Nat} {rt : Option FieldType} : gv_SV (RL, nm, cc, nL, rt) md_X11_jumper 43 yX11_jumper 2 := ⟨kw_1111, kw_1112, kw_1113, kw_72, kw_1114, ⟨by decide +kernel, by decide +kernel, by decide +kernel⟩⟩
theorem si_L_44 {nm : String} {cc : ByteArray} {nL : Nat} {rt : Option FieldType} : gv_SV (RL, nm, cc, nL, rt) md_X10_flight 44 yX10_flight 2 := ⟨kw_653, kw_654, kw_655, kw_61, kw_656, ⟨by decide +kernel, by decide +kernel, by decide +kernel⟩⟩
theorem si_L_47 {nm : String} {cc : ByteArray} {nL : Nat} {rt : Option FieldType} : gv_SV (RL, nm, cc, nL, rt) md_X11_flight 47 yX11_flight 2 := ⟨kw_1131, kw_1132, kw_1133, kw_72, kw_1134, ⟨by decide +kernel, by decide +kernel, by decide +kernel⟩⟩
theorem si_L_48 {nm : String} {cc : ByteArray} {nL : Nat} {rt : Option FieldType} : gv_SV (RL, nm, cc, nL, rt) md_X10_roll 48 yX10_roll 2 := ⟨kw_658, kw_659, kw_660, kw_61, kw_661, ⟨by decide +kernel, by decide +kernel, by decide +kernel⟩⟩
theorem si_L_51 {nm : String} {cc : ByteArray} {nL : Nat} {rt : Option FieldType} : gv_SV (RL, nm, cc, nL, rt) md_X11_roll 51 yX11_roll 2 := ⟨kw_1135, kw_1136, kw_1137, kw_72, kw_1138, ⟨by decide +kernel, by decide +kernel, by decide +kernel⟩⟩
theorem si_L_52 {nm : String} {cc : ByteArray} {nL : Nat} {rt : Option FieldType} : gv_SV (RL, nm, cc, nL, rt) md_X10_leap 52 yX10_leap 2 := ⟨kw_666, kw_667, kw_668, kw_61, kw_669, ⟨by decide +kernel, by decide +kernel, by decide +kernel⟩⟩
theorem si_L_55 {nm : String} {cc : ByteArray} {nL : Nat} {rt : Option FieldType} : gv_SV (RL, nm, cc, nL, rt) md_X11_leap 55 yX11_leap 2 := ⟨kw_1139, kw_1140, kw_1141, kw_72, kw_1142, ⟨by decide +kernel, by decide +kernel, by decide +kernel⟩⟩
theorem si_L_56 {nm : String} {cc : ByteArray} {nL : Nat} {rt : Option FieldType} : gv_SV (RL, nm, cc, nL, rt) md_X10_post 56 yX10_post 2 := ⟨kw_696, kw_697, kw_698, kw_61, kw_699, ⟨by decide +kernel, by decide +kernel, by decide +kernel⟩⟩
theorem si_L_59 {nm : String} {cc : ByteArray} {nL : Nat} {rt : Option FieldType} : gv_SV (RL, nm, cc, nL, rt) md_X11_post 59 yX11_post 2 := ⟨kw_1161, kw_1162, kw_1163, kw_72, kw_1164, ⟨by decide +kernel, by decide +kernel, by decide +kernel⟩⟩
theorem si_L_60 {nm : String} {cc : ByteArray} {nL : Nat} {rt : Option FieldType} : gv_SV (RL, nm, cc, nL, rt) md_X10_rest 60 yX10_rest 1 := ⟨kw_700, kw_701, kw_702, kw_61, kw_703, ⟨by decide +kernel, by decide +kernel, by decide +kernel⟩⟩
theorem si_L_63 {nm : String} {cc : ByteArray} {nL : Nat} {rt : Option FieldType} : gv_SV (RL, nm, cc, nL, rt) md_X11_rest 63 yX11_rest 1 := ⟨kw_1165, kw_1166, kw_1167, kw_72, kw_1168, ⟨by decide +kernel, by decide +kernel, by decide +kernel⟩⟩
theorem si_L_64 {nm : String} {cc : ByteArray} {nL : Nat} {rt : Option FieldType} : gv_SV (RL, nm, cc, nL, rt) md_X10_train 64 yX10_train 1 := ⟨kw_704, kw_705, kw_706, kw_61, kw_707, ⟨by decide +kernel, by decide +kernel, by decide +kernel⟩⟩
theorem si_L_67 {nm : String} {cc : ByteArray} {nL : Nat} {rt : Option FieldType} : gv_SV (RL, nm, cc, nL, rt) md_X11_train 67 yX11_train 1 := ⟨kw_1169, kw_1170, kw_1171, kw_72, kw_1172, ⟨by decide +kernel, by decide +kernel, by decide +kernel⟩⟩
theorem si_L_68 {nm : String} {cc : ByteArray} {nL : Nat} {rt : Option FieldType} : gv_SV (RL, nm, cc, nL, rt) md_X10_talk 68 yX10_talk 2 := ⟨kw_708, kw_709, kw_710, kw_61, kw_711, ⟨by decide +kernel, by decide +kernel, by decide +kernel⟩⟩
theorem si_L_71 {nm : String} {cc : ByteArray} {nL : Nat} {rt : Option FieldType} : gv_SV (RL, nm, cc, nL, rt) md_X11_talk 71 yX11_talk 2 := ⟨kw_1173, kw_1174, kw_1175, kw_72, kw_1176, ⟨by decide +kernel, by decide +kernel, by decide +kernel⟩⟩
theorem si_L_72 {nm : String} {cc : ByteArray} {nL : Nat} {rt : Option FieldType} : gv_SV (RL, nm, cc, nL, rt) md_X10_hour 72 yX10_hour 1 := ⟨kw_712, kw_713, kw_714, kw_61, kw_715, ⟨by decide +kernel, by decide +kernel, by decide +kernel⟩⟩
theorem si_L_75 {nm : String} {cc : ByteArray} {nL : Nat} {rt : Option FieldType} : gv_SV (RL, nm, cc, nL, rt) md_X11_hour 75 yX11_hour 1 := ⟨kw_1177, kw_1178, kw_1179, kw_72, kw_1180, ⟨by decide +kernel, by decide +kernel, by decide +kernel⟩⟩
theorem si_L_76 {nm : String} {cc : ByteArray} {nL : Nat} {rt : Option FieldType} : gv_SV (RL, nm, cc, nL, rt) md_X10_drift 76 yX10_drift 1 := ⟨kw_738, kw_739, kw_740, kw_61, kw_741, ⟨by decide +kernel, by decide +kernel, by decide +kernel⟩⟩
theorem si_L_79 {nm : String} {cc : ByteArray} {nL : Nat} {rt : Option FieldType} : gv_SV (RL, nm, cc, nL, rt) md_X11_drift 79 yX11_drift 1 := ⟨kw_1189, kw_1190, kw_1191, kw_72, kw_1192, ⟨by decide +kernel, by decide +kernel, by decide +kernel⟩⟩
theorem si_L_80 {nm : String} {cc : ByteArray} {nL : Nat} {rt : Option FieldType} : gv_SV (RL, nm, cc, nL, rt) md_X10_undo 80 yX10_undo 0 := ⟨kw_742, kw_743, kw_744, kw_61, kw_745, ⟨by decide +kernel, by decide +kernel, by decide +kernel⟩⟩
theorem si_L_83 {nm : String} {cc : ByteArray} {nL : Nat} {rt : Option FieldType} : gv_SV (RL, nm, cc, nL, rt) md_X11_undo 83 yX11_undo 0 := ⟨kw_1201, kw_1202, kw_1203, kw_72, kw_1204, ⟨by decide +kernel, by decide +kernel, by decide +kernel⟩⟩
theorem si_L_84 {nm : String} {cc : ByteArray} {nL : Nat} {rt : Option FieldType} : gv_SV (RL, nm, cc, nL, rt) md_X10_way 84 yX10_way 3 := ⟨kw_750, kw_751, kw_752, kw_61, kw_753, ⟨by decide +kernel, by decide +kernel, by decide +kernel⟩⟩
theorem si_L_88 {nm : String} {cc : ByteArray} {nL : Nat} {rt : Option FieldType} : gv_SV (RL, nm, cc, nL, rt) md_X11_way 88 yX11_way 3 := ⟨kw_1205, kw_1206, kw_1207, kw_72, kw_1208, ⟨by decide +kernel, by decide +kernel, by decide +kernel⟩⟩
theorem si_L_89 {nm : String} {cc : ByteArray} {nL : Nat} {rt : Option FieldType} : gv_SV (RL, nm, cc, nL, rt) md_X10_safest 89 yX10_safest 3 := ⟨kw_765, kw_766, kw_767, kw_61, kw_768, ⟨by decide +kernel, by decide +kernel, by decide +kernel⟩⟩
theorem si_L_92 {nm : String} {cc : ByteArray} {nL : Nat} {rt : Option FieldType} : gv_SV (RL, nm, cc, nL, rt) md_X11_safest 92 yX11_safest 3 := ⟨kw_1213, kw_1214, kw_1215, kw_72, kw_1216, ⟨by decide +kernel, by decide +kernel, by decide +kernel⟩⟩
theorem si_L_93 {nm : String} {cc : ByteArray} {nL : Nat} {rt : Option FieldType} : gv_SV (RL, nm, cc, nL, rt) md_X10_posts 93 yX10_posts 2 := ⟨kw_781, kw_782, kw_783, kw_61, kw_784, ⟨by decide +kernel, by decide +kernel, by decide +kernel⟩⟩
theorem si_L_96 {nm : String} {cc : ByteArray} {nL : Nat} {rt : Option FieldType} : gv_SV (RL, nm, cc, nL, rt) md_X11_posts 96 yX11_posts 2 := ⟨kw_1219, kw_1220, kw_1221, kw_72, kw_1222, ⟨by decide +kernel, by decide +kernel, by decide +kernel⟩⟩
theorem si_L_97 {nm : String} {cc : ByteArray} {nL : Nat} {rt : Option FieldType} : gv_SV (RL, nm, cc, nL, rt) md_X10_tires 97 yX10_tires 2 := ⟨kw_807, kw_808, kw_809, kw_61, kw_810, ⟨by decide +kernel, by decide +kernel, by decide +kernel⟩⟩
theorem si_L_100 {nm : String} {cc : ByteArray} {nL : Nat} {rt : Option FieldType} : gv_SV (RL, nm, cc, nL, rt) md_X11_tires 100 yX11_tires 2 := ⟨kw_1231, kw_1232, kw_1233, kw_72, kw_1234, ⟨by decide +kernel, by decide +kernel, by decide +kernel⟩⟩
theorem si_L_101 {nm : String} {cc : ByteArray} {nL : Nat} {rt : Option FieldType} : gv_SV (RL, nm, cc, nL, rt) md_X10_parted 101 yX10_parted 2 := ⟨kw_812, kw_813, kw_814, kw_61, kw_815, ⟨by decide +kernel, by decide +kernel, by decide +kernel⟩⟩
theorem si_L_104 {nm : String} {cc : ByteArray} {nL : Nat} {rt : Option FieldType} : gv_SV (RL, nm, cc, nL, rt) md_X11_parted 104 yX11_parted 2 := ⟨kw_1235, kw_1236, kw_1237, kw_72, kw_1238, ⟨by decide +kernel, by decide +kernel, by decide +kernel⟩⟩
theorem si_L_105 {nm : String} {cc : ByteArray} {nL : Nat} {rt : Option FieldType} : gv_SV (RL, nm, cc, nL, rt) md_X10_pays 105 yX10_pays 2 := ⟨kw_826, kw_827, kw_828, kw_61, kw_829, ⟨by decide +kernel, by decide +kernel, by decide +kernel⟩⟩
theorem si_L_108 {nm : String} {cc : ByteArray} {nL : Nat} {rt : Option FieldType} : gv_SV (RL, nm, cc, nL, rt) md_X11_pays 108 yX11_pays 2 := ⟨kw_1242, kw_1243, kw_1244, kw_72, kw_1245, ⟨by decide +kernel, by decide +kernel, by decide +kernel⟩⟩
theorem si_L_109 {nm : String} {cc : ByteArray} {nL : Nat} {rt : Option FieldType} : gv_SV (RL, nm, cc, nL, rt) md_X10_exact 109 yX10_exact 2 := ⟨kw_832, kw_833, kw_834, kw_61, kw_835, ⟨by decide +kernel, by decide +kernel, by decide +kernel⟩⟩
theorem si_L_112 {nm : String} {cc : ByteArray} {nL : Nat} {rt : Option FieldType} : gv_SV (RL, nm, cc, nL, rt) md_X11_exact 112 yX11_exact 2 := ⟨kw_1250, kw_1251, kw_1252, kw_72, kw_1253, ⟨by decide +kernel, by decide +kernel, by decide +kernel⟩⟩
theorem si_L_113 {nm : String} {cc : ByteArray} {nL : Nat} {rt : Option FieldType} : gv_SV (RL, nm, cc, nL, rt) md_X10_see 113 yX10_see 2 := ⟨kw_836, kw_837, kw_838, kw_61, kw_839, ⟨by decide +kernel, by decide +kernel, by decide +kernel⟩⟩
theorem si_L_117 {nm : String} {cc : ByteArray} {nL : Nat} {rt : Option FieldType} : gv_SV (RL, nm, cc, nL, rt) md_X11_see 117 yX11_see 2 := ⟨kw_1254, kw_1255, kw_1256, kw_72, kw_1257, ⟨by decide +kernel, by decide +kernel, by decide +kernel⟩⟩
theorem si_L_118 {nm : String} {cc : ByteArray} {nL : Nat} {rt : Option FieldType} : gv_SV (RL, nm, cc, nL, rt) md_X10_quick 118 yX10_quick 1 := ⟨kw_846, kw_847, kw_848, kw_61, kw_849, ⟨by decide +kernel, by decide +kernel, by decide +kernel⟩⟩
theorem si_L_121 {nm : String} {cc : ByteArray} {nL : Nat} {rt : Option FieldType} : gv_SV (RL, nm, cc, nL, rt) md_X11_quick 121 yX11_quick 1 := ⟨kw_1258, kw_1259, kw_1260, kw_72, kw_1261, ⟨by decide +kernel, by decide +kernel, by decide +kernel⟩⟩
theorem si_L_122 {nm : String} {cc : ByteArray} {nL : Nat} {rt : Option FieldType} : gv_SV (RL, nm, cc, nL, rt) md_X10_watch 122 yX10_watch 0 := ⟨kw_854, kw_855, kw_856, kw_61, kw_857, ⟨by decide +kernel, by decide +kernel, by decide +kernel⟩⟩
theorem si_L_125 {nm : String} {cc : ByteArray} {nL : Nat} {rt : Option FieldType} : gv_SV (RL, nm, cc, nL, rt) md_X11_watch 125 yX11_watch 0 := ⟨kw_1266, kw_1267, kw_1268, kw_72, kw_1269, ⟨by decide +kernel, by decide +kernel, by decide +kernel⟩⟩
theorem si_L_126 {nm : String} {cc : ByteArray} {nL : Nat} {rt : Option FieldType} : gv_SV (RL, nm, cc, nL, rt) md_X10_write 126 yX10_write 2 := ⟨kw_863, kw_864, kw_865, kw_61, kw_866, ⟨by decide +kernel, by decide +kernel, by decide +kernel⟩⟩
theorem si_L_129 {nm : String} {cc : ByteArray} {nL : Nat} {rt : Option FieldType} : gv_SV (RL, nm, cc, nL, rt) md_X11_write 129 yX11_write 2 := ⟨kw_1270, kw_1271, kw_1272, kw_72, kw_1273, ⟨by decide +kernel, by decide +kernel, by decide +kernel⟩⟩
theorem si_L_130 {nm : String} {cc : ByteArray} {nL : Nat} {rt : Option FieldType} : gv_SV (RL, nm, cc, nL, rt) md_X10_tear 130 yX10_tear 0 := ⟨kw_871, kw_872, kw_873, kw_61, kw_874, ⟨by decide +kernel, by decide +kernel, by decide +kernel⟩⟩
theorem si_L_133 {nm : String} {cc : ByteArray} {nL : Nat} {rt : Option FieldType} : gv_SV (RL, nm, cc, nL, rt) md_X11_tear 133 yX11_tear 0 := ⟨kw_1274, kw_1275, kw_1276, kw_72, kw_1277, ⟨by decide +kernel, by decide +kernel, by decide +kernel⟩⟩
theorem si_L_134 {nm : String} {cc : ByteArray} {nL : Nat} {rt : Option FieldType} : gv_SV (RL, nm, cc, nL, rt) md_X10_judge 134 yX10_judge 0 := ⟨kw_875, kw_876, kw_877, kw_61, kw_878, ⟨by decide +kernel, by decide +kernel, by decide +kernel⟩⟩
theorem si_L_137 {nm : String} {cc : ByteArray} {nL : Nat} {rt : Option FieldType} : gv_SV (RL, nm, cc, nL, rt) md_X11_judge 137 yX11_judge 0 := ⟨kw_1278, kw_1279, kw_1280, kw_72, kw_1281, ⟨by decide +kernel, by decide +kernel, by decide +kernel⟩⟩
theorem si_L_138 {nm : String} {cc : ByteArray} {nL : Nat} {rt : Option FieldType} : gv_SV (RL, nm, cc, nL, rt) md_X10_seed 138 yX10_seed 1 := ⟨kw_883, kw_884, kw_885, kw_61, kw_886, ⟨by decide +kernel, by decide +kernel, by decide +kernel⟩⟩
theorem si_L_141 {nm : String} {cc : ByteArray} {nL : Nat} {rt : Option FieldType} : gv_SV (RL, nm, cc, nL, rt) md_X11_seed 141 yX11_seed 1 := ⟨kw_1282, kw_1283, kw_1284, kw_72, kw_1285, ⟨by decide +kernel, by decide +kernel, by decide +kernel⟩⟩
theorem si_L_142 {nm : String} {cc : ByteArray} {nL : Nat} {rt : Option FieldType} : gv_SV (RL, nm, cc, nL, rt) md_X10_keep 142 yX10_keep 1 := ⟨kw_887, kw_888, kw_889, kw_61, kw_890, ⟨by decide +kernel, by decide +kernel, by decide +kernel⟩⟩
theorem si_L_145 {nm : String} {cc : ByteArray} {nL : Nat} {rt : Option FieldType} : gv_SV (RL, nm, cc, nL, rt) md_X11_keep 145 yX11_keep 1 := ⟨kw_1286, kw_1287, kw_1288, kw_72, kw_1289, ⟨by decide +kernel, by decide +kernel, by decide +kernel⟩⟩
theorem si_L_146 {nm : String} {cc : ByteArray} {nL : Nat} {rt : Option FieldType} : gv_SV (RL, nm, cc, nL, rt) md_X10_goBack 146 yX10_goBack 1 := ⟨kw_892, kw_893, kw_894, kw_61, kw_895, ⟨by decide +kernel, by decide +kernel, by decide +kernel⟩⟩
theorem si_L_149 {nm : String} {cc : ByteArray} {nL : Nat} {rt : Option FieldType} : gv_SV (RL, nm, cc, nL, rt) md_X11_goBack 149 yX11_goBack 1 := ⟨kw_1290, kw_1291, kw_1292, kw_72, kw_1293, ⟨by decide +kernel, by decide +kernel, by decide +kernel⟩⟩
