/-! the functions' own words, and rows that join a step of the machine with a step of the function -/
abbrev WI : Type := Nat → Int32
abbrev WF : Type := Nat → Nat → Int32
def uF (F : WF) (a : Nat) (f : Nat → Int32) : WF := fun b => if b = a then f else F b
def bnd {α β : Type} (a : α) (f : α → β) : β := f a
def ixG {α : Type} (x : Int32) (n : Nat) (f : Option α) : Option α := if x < 0 ∨ n ≤ x.toNatClampNeg then none else f
def nzI {α : Type} (y : Int32) (f : Option α) : Option α := if y = 0 then none else f
def bzG {α : Type} (y : Int32) (f : Option α) : Option α := if y = 0 ∨ y = 1 then f else none
def nzL {α : Type} (y : Int64) (f : Option α) : Option α := if y = 0 then none else f
noncomputable def FU : Nat := Classical.choose (⟨1000000000, rfl⟩ : ∃ n : Nat, n = 1000000000)
theorem FU_big : FU = 1000000000 := Classical.choose_spec (⟨1000000000, rfl⟩ : ∃ n : Nat, n = 1000000000)
abbrev rmD (d : Nat) : Room := { frames := d, cells := 0, slots := 0, locals := 40 * d }
theorem ixG_e {α : Type} {x : Int32} {n : Nat} {f : Option α} {r : α} (h : ixG x n f = some r) : vp_in x n ∧ f = some r := by
  unfold ixG at h
  split at h
  · cases h
  · next q => exact ⟨q, h⟩
theorem nzI_e {α : Type} {y : Int32} {f : Option α} {r : α} (h : nzI y f = some r) : ¬ y = 0 ∧ f = some r := by
  unfold nzI at h
  split at h
  · cases h
  · next q => exact ⟨q, h⟩
theorem nzL_e {α : Type} {y : Int64} {f : Option α} {r : α} (h : nzL y f = some r) : ¬ y = 0 ∧ f = some r := by
  unfold nzL at h
  split at h
  · cases h
  · next q => exact ⟨q, h⟩
theorem bzG_e {α : Type} {y : Int32} {f : Option α} {r : α} (h : bzG y f = some r) : narrow .boolean (.int y) = .int y ∧ f = some r := by
  unfold bzG at h
  split at h
  · next q => exact ⟨by rcases q with rfl | rfl <;> rfl, h⟩
  · cases h
theorem ite_t {α : Type} {c : Prop} [Decidable c] {f g : Option α} {r : α} (h : (if c then f else g) = some r) (q : c) : f = some r := by rw [if_pos q] at h; exact h
theorem ite_f {α : Type} {c : Prop} [Decidable c] {f g : Option α} {r : α} (h : (if c then f else g) = some r) (q : ¬ c) : g = some r := by rw [if_neg q] at h; exact h
theorem ob_e {α β : Type} {x : Option α} {f : α → Option β} {r : β} (h : Option.bind x f = some r) : ∃ a, x = some a ∧ f a = some r := Option.bind_eq_some_iff.mp h
theorem jn_e {α β : Type} {Pr Gj : Prop} {r : α} {b : α → Option β} {a : β} (Hj : α → Prop) (h : bnd r b = some a) (hr : Hj r) (k : ∀ j, Hj j → b j = some a → Pr) : Pr := k r hr h
theorem gv_in {c : Cond} (k : Nat) (h : lw_tbl[k]? = some c) (g : goodWord c = true) : c ∈ gv_gw := List.mem_filter.mpr ⟨List.mem_of_getElem? h, g⟩
theorem gv_subs {ws : List Cond} (ps : List Nat) (hp : ws = ps.filterMap (fun i => lw_tbl[i]?)) (h : ws.all goodWord = true) : ∀ w ∈ ws, w ∈ gv_gw := fun v hv => by
  have h1 := List.all_eq_true.mp h v hv
  rw [hp] at hv
  obtain ⟨i, -, hi⟩ := List.mem_filterMap.mp hv
  exact List.mem_filter.mpr ⟨List.mem_of_getElem? hi, h1⟩
theorem tab_out (x : Int32) (a n : Nat) (hn : n < 2 ^ 31) (h : ∀ j : Nat, a ≤ j → j ≤ n → ¬ x = nI j) : x.toInt < (a : Int) ∨ (n : Int) < x.toInt := by
  by_cases h1 : x.toInt < (a : Int)
  · exact Or.inl h1
  · by_cases h2 : (n : Int) < x.toInt
    · exact Or.inr h2
    · exfalso
      have e1 : x.toInt = ((x.toInt.toNat : Nat) : Int) := by omega
      refine h x.toInt.toNat (by omega) (by omega) ?_
      apply Int32.toInt_inj.mp
      rw [nI_toInt (by omega)]
      exact e1
section Brows
variable {X : XT} {M : MD} {R : Room} {Z : List Frame → Array Value → State → State → Prop} {cn sn pc : Nat} {ls : List (Nat × Value)} {st : List Value} {w : List va_E} {α : Type} {r : α}
theorem B_istore_n {j : Fin 4} {i : Nat} {x : Int32} {f : Int32 → Option α} {pc2 : Nat} (ls' : Int32 → List (Nat × Value)) (h : bnd x f = some r) (d : decode M.2.2.1 pc = .ok (.istore_n j, 1)) (hi : (j : Nat) = i) (hn : i < M.2.2.2.1) (hl : ∀ v, (i, Value.int v) :: ls.filter (fun q => !(q.1 == i) && !(q.1 + 1 == i && q.2.category == 2)) = ls' v) (hpc : pc + 1 = pc2) (k : ∀ v, f v = some r → GG X M R Z cn sn pc2 (ls' v) st w) : GG X M R Z cn sn pc ls (.int x :: st) w := G_istore_n d hi hn (hl x) hpc (k x h)
theorem B_istore {i : Nat} {x : Int32} {f : Int32 → Option α} {pc2 : Nat} (ls' : Int32 → List (Nat × Value)) (h : bnd x f = some r) (d : decode M.2.2.1 pc = .ok (.istore i, 2)) (hn : i < M.2.2.2.1) (hl : ∀ v, (i, Value.int v) :: ls.filter (fun q => !(q.1 == i) && !(q.1 + 1 == i && q.2.category == 2)) = ls' v) (hpc : pc + 2 = pc2) (k : ∀ v, f v = some r → GG X M R Z cn sn pc2 (ls' v) st w) : GG X M R Z cn sn pc ls (.int x :: st) w := G_istore d hn (hl x) hpc (k x h)
theorem B_lstore_n {j : Fin 4} {i : Nat} {x : Int64} {f : Int64 → Option α} {pc2 : Nat} (ls' : Int64 → List (Nat × Value)) (h : bnd x f = some r) (d : decode M.2.2.1 pc = .ok (.lstore_n j, 1)) (hi : (j : Nat) = i) (hn : i + 1 < M.2.2.2.1) (hl : ∀ v, (i, Value.long v) :: ls.filter (fun q => !(q.1 == i) && (!(q.1 == i + 1) && !(q.1 + 1 == i && q.2.category == 2))) = ls' v) (hpc : pc + 1 = pc2) (k : ∀ v, f v = some r → GG X M R Z cn sn pc2 (ls' v) st w) : GG X M R Z cn sn pc ls (.long x :: st) w := G_lstore_n d hi hn (hl x) hpc (k x h)
theorem B_lstore {i : Nat} {x : Int64} {f : Int64 → Option α} {pc2 : Nat} (ls' : Int64 → List (Nat × Value)) (h : bnd x f = some r) (d : decode M.2.2.1 pc = .ok (.lstore i, 2)) (hn : i + 1 < M.2.2.2.1) (hl : ∀ v, (i, Value.long v) :: ls.filter (fun q => !(q.1 == i) && (!(q.1 == i + 1) && !(q.1 + 1 == i && q.2.category == 2))) = ls' v) (hpc : pc + 2 = pc2) (k : ∀ v, f v = some r → GG X M R Z cn sn pc2 (ls' v) st w) : GG X M R Z cn sn pc ls (.long x :: st) w := G_lstore d hn (hl x) hpc (k x h)
theorem B_iinc {i : Nat} {n : Int} {x z : Int32} {f : Int32 → Option α} {pc2 : Nat} (q : Nat) (ls' : Int32 → List (Nat × Value)) (h : bnd (x + z) f = some r) (hq : ls[q]? = some (i, .int x)) (d : decode M.2.2.1 pc = .ok (.iinc i n, 3)) (hz : Int32.ofInt n = z) (hn : i < M.2.2.2.1) (hl : ∀ v, (i, Value.int v) :: ls.filter (fun q => !(q.1 == i) && !(q.1 + 1 == i && q.2.category == 2)) = ls' v) (hpc : pc + 3 = pc2) (k : ∀ v, f v = some r → GG X M R Z cn sn pc2 (ls' v) st w) : GG X M R Z cn sn pc ls st w := G_iinc q hq d (by rw [hz]) hn (hl (x + z)) hpc (k _ h)
theorem B_if_eq {x : Int32} {off : Int} {tgt pc2 : Nat} {f g : Option α} (h : (if x = 0 then f else g) = some r) (d : decode M.2.2.1 pc = .ok (.ifCond .eq off, 3)) (ht : (pc : Int) + off = (tgt : Int)) (hpc : pc + 3 = pc2) (kt : x = 0 → f = some r → GG X M R Z cn sn tgt ls st w) (kf : ¬ x = 0 → g = some r → GG X M R Z cn sn pc2 ls st w) : GG X M R Z cn sn pc ls (.int x :: st) w := G_if_eq d ht (fun q => kt q (ite_t h q)) hpc (fun q => kf q (ite_f h q))
theorem B_icmp_eq {x y : Int32} {off : Int} {tgt pc2 : Nat} {f g : Option α} (h : (if x = y then f else g) = some r) (d : decode M.2.2.1 pc = .ok (.if_icmp .eq off, 3)) (ht : (pc : Int) + off = (tgt : Int)) (hpc : pc + 3 = pc2) (kt : x = y → f = some r → GG X M R Z cn sn tgt ls st w) (kf : ¬ x = y → g = some r → GG X M R Z cn sn pc2 ls st w) : GG X M R Z cn sn pc ls (.int y :: .int x :: st) w := G_icmp_eq d ht (fun q => kt q (ite_t h q)) hpc (fun q => kf q (ite_f h q))
theorem B_if_ne {x : Int32} {off : Int} {tgt pc2 : Nat} {f g : Option α} (h : (if x = 0 then f else g) = some r) (d : decode M.2.2.1 pc = .ok (.ifCond .ne off, 3)) (ht : (pc : Int) + off = (tgt : Int)) (hpc : pc + 3 = pc2) (kt : ¬ x = 0 → g = some r → GG X M R Z cn sn tgt ls st w) (kf : x = 0 → f = some r → GG X M R Z cn sn pc2 ls st w) : GG X M R Z cn sn pc ls (.int x :: st) w := G_if_ne d ht (fun q => kt q (ite_f h q)) hpc (fun q => kf q (ite_t h q))
theorem B_icmp_ne {x y : Int32} {off : Int} {tgt pc2 : Nat} {f g : Option α} (h : (if x = y then f else g) = some r) (d : decode M.2.2.1 pc = .ok (.if_icmp .ne off, 3)) (ht : (pc : Int) + off = (tgt : Int)) (hpc : pc + 3 = pc2) (kt : ¬ x = y → g = some r → GG X M R Z cn sn tgt ls st w) (kf : x = y → f = some r → GG X M R Z cn sn pc2 ls st w) : GG X M R Z cn sn pc ls (.int y :: .int x :: st) w := G_icmp_ne d ht (fun q => kt q (ite_f h q)) hpc (fun q => kf q (ite_t h q))
theorem B_if_lt {x : Int32} {off : Int} {tgt pc2 : Nat} {f g : Option α} (h : (if x < 0 then f else g) = some r) (d : decode M.2.2.1 pc = .ok (.ifCond .lt off, 3)) (ht : (pc : Int) + off = (tgt : Int)) (hpc : pc + 3 = pc2) (kt : x < 0 → f = some r → GG X M R Z cn sn tgt ls st w) (kf : ¬ x < 0 → g = some r → GG X M R Z cn sn pc2 ls st w) : GG X M R Z cn sn pc ls (.int x :: st) w := G_if_lt d ht (fun q => kt q (ite_t h q)) hpc (fun q => kf q (ite_f h q))
theorem B_icmp_lt {x y : Int32} {off : Int} {tgt pc2 : Nat} {f g : Option α} (h : (if x < y then f else g) = some r) (d : decode M.2.2.1 pc = .ok (.if_icmp .lt off, 3)) (ht : (pc : Int) + off = (tgt : Int)) (hpc : pc + 3 = pc2) (kt : x < y → f = some r → GG X M R Z cn sn tgt ls st w) (kf : ¬ x < y → g = some r → GG X M R Z cn sn pc2 ls st w) : GG X M R Z cn sn pc ls (.int y :: .int x :: st) w := G_icmp_lt d ht (fun q => kt q (ite_t h q)) hpc (fun q => kf q (ite_f h q))
theorem B_if_ge {x : Int32} {off : Int} {tgt pc2 : Nat} {f g : Option α} (h : (if 0 ≤ x then f else g) = some r) (d : decode M.2.2.1 pc = .ok (.ifCond .ge off, 3)) (ht : (pc : Int) + off = (tgt : Int)) (hpc : pc + 3 = pc2) (kt : 0 ≤ x → f = some r → GG X M R Z cn sn tgt ls st w) (kf : ¬ 0 ≤ x → g = some r → GG X M R Z cn sn pc2 ls st w) : GG X M R Z cn sn pc ls (.int x :: st) w := G_if_ge d ht (fun q => kt q (ite_t h q)) hpc (fun q => kf q (ite_f h q))
theorem B_icmp_ge {x y : Int32} {off : Int} {tgt pc2 : Nat} {f g : Option α} (h : (if y ≤ x then f else g) = some r) (d : decode M.2.2.1 pc = .ok (.if_icmp .ge off, 3)) (ht : (pc : Int) + off = (tgt : Int)) (hpc : pc + 3 = pc2) (kt : y ≤ x → f = some r → GG X M R Z cn sn tgt ls st w) (kf : ¬ y ≤ x → g = some r → GG X M R Z cn sn pc2 ls st w) : GG X M R Z cn sn pc ls (.int y :: .int x :: st) w := G_icmp_ge d ht (fun q => kt q (ite_t h q)) hpc (fun q => kf q (ite_f h q))
theorem B_if_gt {x : Int32} {off : Int} {tgt pc2 : Nat} {f g : Option α} (h : (if 0 < x then f else g) = some r) (d : decode M.2.2.1 pc = .ok (.ifCond .gt off, 3)) (ht : (pc : Int) + off = (tgt : Int)) (hpc : pc + 3 = pc2) (kt : 0 < x → f = some r → GG X M R Z cn sn tgt ls st w) (kf : ¬ 0 < x → g = some r → GG X M R Z cn sn pc2 ls st w) : GG X M R Z cn sn pc ls (.int x :: st) w := G_if_gt d ht (fun q => kt q (ite_t h q)) hpc (fun q => kf q (ite_f h q))
theorem B_icmp_gt {x y : Int32} {off : Int} {tgt pc2 : Nat} {f g : Option α} (h : (if y < x then f else g) = some r) (d : decode M.2.2.1 pc = .ok (.if_icmp .gt off, 3)) (ht : (pc : Int) + off = (tgt : Int)) (hpc : pc + 3 = pc2) (kt : y < x → f = some r → GG X M R Z cn sn tgt ls st w) (kf : ¬ y < x → g = some r → GG X M R Z cn sn pc2 ls st w) : GG X M R Z cn sn pc ls (.int y :: .int x :: st) w := G_icmp_gt d ht (fun q => kt q (ite_t h q)) hpc (fun q => kf q (ite_f h q))
theorem B_if_le {x : Int32} {off : Int} {tgt pc2 : Nat} {f g : Option α} (h : (if x ≤ 0 then f else g) = some r) (d : decode M.2.2.1 pc = .ok (.ifCond .le off, 3)) (ht : (pc : Int) + off = (tgt : Int)) (hpc : pc + 3 = pc2) (kt : x ≤ 0 → f = some r → GG X M R Z cn sn tgt ls st w) (kf : ¬ x ≤ 0 → g = some r → GG X M R Z cn sn pc2 ls st w) : GG X M R Z cn sn pc ls (.int x :: st) w := G_if_le d ht (fun q => kt q (ite_t h q)) hpc (fun q => kf q (ite_f h q))
theorem B_icmp_le {x y : Int32} {off : Int} {tgt pc2 : Nat} {f g : Option α} (h : (if x ≤ y then f else g) = some r) (d : decode M.2.2.1 pc = .ok (.if_icmp .le off, 3)) (ht : (pc : Int) + off = (tgt : Int)) (hpc : pc + 3 = pc2) (kt : x ≤ y → f = some r → GG X M R Z cn sn tgt ls st w) (kf : ¬ x ≤ y → g = some r → GG X M R Z cn sn pc2 ls st w) : GG X M R Z cn sn pc ls (.int y :: .int x :: st) w := G_icmp_le d ht (fun q => kt q (ite_t h q)) hpc (fun q => kf q (ite_f h q))
theorem B_tabIn {dflt lo hi : Int} {offs : Array Int} {len : Nat} {x : Int32} {off : Int} {tgt : Nat} (v : Int32) (q : x = v) (d : decode M.2.2.1 pc = .ok (.tableswitch dflt lo hi offs, len)) (q1 : ¬ v.toInt < lo) (q2 : ¬ hi < v.toInt) (ho : offs[(v.toInt - lo).toNat]? = some off) (ht : (pc : Int) + off = (tgt : Int)) (k : GG X M R Z cn sn tgt ls st w) : GG X M R Z cn sn pc ls (.int x :: st) w := by subst q; exact G_tableIn d q1 q2 ho ht k
theorem B_lkpIn {dflt : Int} {ps : Array (Int × Int)} {len : Nat} {x : Int32} {off : Int} {tgt : Nat} (v : Int32) (q : x = v) (d : decode M.2.2.1 pc = .ok (.lookupswitch dflt ps, len)) (hp : (ps.toList.zip (ps.toList.drop 1)).all (fun (a, next) => a.1 < next.1) = true) (ho : Op.lookupswitch.offset ps.toList dflt v.toInt = off) (ht : (pc : Int) + off = (tgt : Int)) (k : GG X M R Z cn sn tgt ls st w) : GG X M R Z cn sn pc ls (.int x :: st) w := by subst q; exact G_lookup d hp ho ht k
theorem B_callV {My : MD} {y : MethodName} {ix n i ci a b : Nat} {as : List Value} {rv : Option Value} {w' : List va_E} {fs : List Value} {q : vw_C} {stf stq : List Value} {pc2 : Nat} (hs : gv_SV M My ix y n) (hc : CT My y (rmD a) (.ref i :: as) w rv w') (hw : w[i]? = some (.inr (ci, fs))) (hq : vwCl[ci]? = some q) (hqc : q.1 = y.cls) (hn : as.length = n) (hst : as.reverse ++ .ref i :: st = stf) (hR : a < b) (hL : My.2.2.2.1 ≤ 21) (hcat : (st.map fun v => v.category).sum ≤ 8) (hlen : w'.length = w.length) (d : decode M.2.2.1 pc = .ok (.invokevirtual ix, 3)) (hpc : pc + 3 = pc2)
    (hsq : rv.toList ++ st = stq) (k : GG X M (rmD b) Z cn sn pc2 ls stq w') (hz : cn = 0 ∧ sn = 0) : GG X M (rmD b) Z cn sn pc ls stf w := G_callV hs hc hw hq hqc hn hst ⟨⟨by show a + 1 ≤ b; omega, by show 8 + (My.2.2.2.1 + 11) + 40 * a ≤ 40 * b; omega⟩, by show cn + 0 ≤ 0; omega, by show sn + 0 ≤ 0; omega⟩ hcat hlen d hpc (by rw [hsq]; exact k)
theorem B_callS {My : MD} {y : MethodName} {ix n a b : Nat} {as : List Value} {rv : Option Value} {w' : List va_E} {stf stq : List Value} {pc2 : Nat} (hs : gv_SS M My ix y n) (hc : CT My y (rmD a) as w rv w') (hn : as.length = n) (hst : as.reverse ++ st = stf) (hR : a < b) (hL : My.2.2.2.1 ≤ 21) (hcat : (st.map fun v => v.category).sum ≤ 8) (hlen : w'.length = w.length) (d : decode M.2.2.1 pc = .ok (.invokestatic ix, 3)) (hpc : pc + 3 = pc2)
    (hsq : rv.toList ++ st = stq) (k : GG X M (rmD b) Z cn sn pc2 ls stq w') (hz : cn = 0 ∧ sn = 0) : GG X M (rmD b) Z cn sn pc ls stf w := G_callS hs hc hn hst ⟨⟨by show a + 1 ≤ b; omega, by show 8 + (My.2.2.2.1 + 11) + 40 * a ≤ 40 * b; omega⟩, by show cn + 0 ≤ 0; omega, by show sn + 0 ≤ 0; omega⟩ hcat hlen d hpc (by rw [hsq]; exact k)
theorem B_callSN {My : MD} {y : MethodName} {ix n a b : Nat} {host : String} {as : List Value} {rv : Option Value} {w' : List va_E} {stf stq : List Value} {pc2 : Nat} (hs : gv_SSN M My ix y n host) (hc : CT My y (rmD a) as w rv w') (hn : as.length = n) (hst : as.reverse ++ st = stf) (hR : a < b) (hL : My.2.2.2.1 ≤ 21) (hcat : (st.map fun v => v.category).sum ≤ 8) (hlen : w'.length = w.length) (d : decode M.2.2.1 pc = .ok (.invokestatic ix, 3)) (hpc : pc + 3 = pc2)
    (hsq : rv.toList ++ st = stq) (k : GG X M (rmD b) Z cn sn pc2 ls stq w') (hz : cn = 0 ∧ sn = 0) : GG X M (rmD b) Z cn sn pc ls stf w := G_callSN hs hc hn hst ⟨⟨by show a + 1 ≤ b; omega, by show 8 + (My.2.2.2.1 + 11) + 40 * a ≤ 40 * b; omega⟩, by show cn + 0 ≤ 0; omega, by show sn + 0 ≤ 0; omega⟩ hcat hlen d hpc (by rw [hsq]; exact k)
end Brows
def rf_43 : Nat → Option Nat := (va_up (va_up (va_up (va_up (va_up (va_up (va_up (va_up (va_up (va_up (va_up (va_up (va_up (va_up (va_up (va_up (fun _ => none) 0 (some 44)) 1 (some 53)) 2 (some 62)) 3 (some 71)) 4 (some 80)) 5 (some 89)) 6 (some 98)) 7 (some 107)) 8 (some 116)) 9 (some 125)) 10 (some 134)) 11 (some 143)) 12 (some 152)) 13 (some 161)) 14 (some 170)) 15 (some 179))
def rf_188 : Nat → Option Nat := (va_up (va_up (fun _ => none) 0 (some 189)) 1 (some 199))
def mkW (I : WI) (F : WF) (J : WI) (K : WF) : List va_E := [.inr (10, [.ref 1, .ref 12, .ref 13, .ref 22, .ref 31, .ref 33, .ref 38, .ref 39, .ref 42, .ref 188]),
  .inr (8, [.ref 2, .int (I 38), .int (I 39), .int (I 40), .ref 11, .int (I 41), .int (I 42)]),
  .inr (7, [.int (I 43), .int (I 44), .int (I 45), .int (I 46), .ref 3, .ref 4, .ref 5, .ref 6, .ref 7, .ref 8, .ref 9, .ref 10]),
  .inl (0, 9, .inl (F 152)),
  .inl (0, 9, .inl (F 153)),
  .inl (0, 9, .inl (F 154)),
  .inl (0, 9, .inl (F 155)),
  .inl (0, 9, .inl (F 156)),
  .inl (0, 9, .inl (F 157)),
  .inl (0, 6, .inl (F 158)),
  .inl (0, 6, .inl (F 159)),
  .inl (0, 240, .inl (F 160)),
  .inr (1, [.ref 13, .ref 22, .int (I 47)]),
  .inr (7, [.int (I 48), .int (I 49), .int (I 50), .int (I 51), .ref 14, .ref 15, .ref 16, .ref 17, .ref 18, .ref 19, .ref 20, .ref 21]),
  .inl (0, 9, .inl (F 161)),
  .inl (0, 9, .inl (F 162)),
  .inl (0, 9, .inl (F 163)),
  .inl (0, 9, .inl (F 164)),
  .inl (0, 9, .inl (F 165)),
  .inl (0, 9, .inl (F 166)),
  .inl (0, 6, .inl (F 167)),
  .inl (0, 6, .inl (F 168)),
  .inr (6, [.int (I 0), .int (I 1), .ref 23, .ref 24, .ref 25, .ref 26, .ref 27, .ref 28, .ref 29, .ref 30]),
  .inl (0, 9, .inl (F 0)),
  .inl (0, 9, .inl (F 1)),
  .inl (0, 9, .inl (F 2)),
  .inl (0, 6, .inl (F 3)),
  .inl (0, 6, .inl (F 4)),
  .inl (0, 6, .inl (F 5)),
  .inl (0, 6, .inl (F 6)),
  .inl (0, 20, .inl (F 7)),
  .inr (9, [.int (I 52), .int (I 53), .ref 13, .ref 32, .int (I 54), .int (I 55)]),
  .inl (0, 8, .inl (F 169)),
  .inr (4, [.int (I 56), .ref 34, .ref 12, .ref 35, .ref 36, .ref 37]),
  .inl (0, 9, .inl (F 170)),
  .inl (0, 9, .inl (F 171)),
  .inl (0, 9, .inl (F 172)),
  .inl (0, 9, .inl (F 173)),
  .inr (5, [.int (I 57), .int (I 58), .int (I 59)]),
  .inr (0, [.int (I 60), .ref 40, .ref 41]),
  .inl (0, 15, .inl (F 174)),
  .inl (0, 15, .inl (F 175)),
  .inr (3, [.int (I 61), .ref 43, .int (I 62)]),
  .inl (2, 16, .inr (.inr (.inr (.inr rf_43)))),
  .inr (6, [.int (I 2), .int (I 3), .ref 45, .ref 46, .ref 47, .ref 48, .ref 49, .ref 50, .ref 51, .ref 52]),
  .inl (0, 9, .inl (F 8)),
  .inl (0, 9, .inl (F 9)),
  .inl (0, 9, .inl (F 10)),
  .inl (0, 6, .inl (F 11)),
  .inl (0, 6, .inl (F 12)),
  .inl (0, 6, .inl (F 13)),
  .inl (0, 6, .inl (F 14)),
  .inl (0, 20, .inl (F 15)),
  .inr (6, [.int (I 4), .int (I 5), .ref 54, .ref 55, .ref 56, .ref 57, .ref 58, .ref 59, .ref 60, .ref 61]),
  .inl (0, 9, .inl (F 16)),
  .inl (0, 9, .inl (F 17)),
  .inl (0, 9, .inl (F 18)),
  .inl (0, 6, .inl (F 19)),
  .inl (0, 6, .inl (F 20)),
  .inl (0, 6, .inl (F 21)),
  .inl (0, 6, .inl (F 22)),
  .inl (0, 20, .inl (F 23)),
  .inr (6, [.int (I 6), .int (I 7), .ref 63, .ref 64, .ref 65, .ref 66, .ref 67, .ref 68, .ref 69, .ref 70]),
  .inl (0, 9, .inl (F 24)),
  .inl (0, 9, .inl (F 25)),
  .inl (0, 9, .inl (F 26)),
  .inl (0, 6, .inl (F 27)),
  .inl (0, 6, .inl (F 28)),
  .inl (0, 6, .inl (F 29)),
  .inl (0, 6, .inl (F 30)),
  .inl (0, 20, .inl (F 31)),
  .inr (6, [.int (I 8), .int (I 9), .ref 72, .ref 73, .ref 74, .ref 75, .ref 76, .ref 77, .ref 78, .ref 79]),
  .inl (0, 9, .inl (F 32)),
  .inl (0, 9, .inl (F 33)),
  .inl (0, 9, .inl (F 34)),
  .inl (0, 6, .inl (F 35)),
  .inl (0, 6, .inl (F 36)),
  .inl (0, 6, .inl (F 37)),
  .inl (0, 6, .inl (F 38)),
  .inl (0, 20, .inl (F 39)),
  .inr (6, [.int (I 10), .int (I 11), .ref 81, .ref 82, .ref 83, .ref 84, .ref 85, .ref 86, .ref 87, .ref 88]),
  .inl (0, 9, .inl (F 40)),
  .inl (0, 9, .inl (F 41)),
  .inl (0, 9, .inl (F 42)),
  .inl (0, 6, .inl (F 43)),
  .inl (0, 6, .inl (F 44)),
  .inl (0, 6, .inl (F 45)),
  .inl (0, 6, .inl (F 46)),
  .inl (0, 20, .inl (F 47)),
  .inr (6, [.int (I 12), .int (I 13), .ref 90, .ref 91, .ref 92, .ref 93, .ref 94, .ref 95, .ref 96, .ref 97]),
  .inl (0, 9, .inl (F 48)),
  .inl (0, 9, .inl (F 49)),
  .inl (0, 9, .inl (F 50)),
  .inl (0, 6, .inl (F 51)),
  .inl (0, 6, .inl (F 52)),
  .inl (0, 6, .inl (F 53)),
  .inl (0, 6, .inl (F 54)),
  .inl (0, 20, .inl (F 55)),
  .inr (6, [.int (I 14), .int (I 15), .ref 99, .ref 100, .ref 101, .ref 102, .ref 103, .ref 104, .ref 105, .ref 106]),
  .inl (0, 9, .inl (F 56)),
  .inl (0, 9, .inl (F 57)),
  .inl (0, 9, .inl (F 58)),
  .inl (0, 6, .inl (F 59)),
  .inl (0, 6, .inl (F 60)),
  .inl (0, 6, .inl (F 61)),
  .inl (0, 6, .inl (F 62)),
  .inl (0, 20, .inl (F 63)),
  .inr (6, [.int (I 16), .int (I 17), .ref 108, .ref 109, .ref 110, .ref 111, .ref 112, .ref 113, .ref 114, .ref 115]),
  .inl (0, 9, .inl (F 64)),
  .inl (0, 9, .inl (F 65)),
  .inl (0, 9, .inl (F 66)),
  .inl (0, 6, .inl (F 67)),
  .inl (0, 6, .inl (F 68)),
  .inl (0, 6, .inl (F 69)),
  .inl (0, 6, .inl (F 70)),
  .inl (0, 20, .inl (F 71)),
  .inr (6, [.int (I 18), .int (I 19), .ref 117, .ref 118, .ref 119, .ref 120, .ref 121, .ref 122, .ref 123, .ref 124]),
  .inl (0, 9, .inl (F 72)),
  .inl (0, 9, .inl (F 73)),
  .inl (0, 9, .inl (F 74)),
  .inl (0, 6, .inl (F 75)),
  .inl (0, 6, .inl (F 76)),
  .inl (0, 6, .inl (F 77)),
  .inl (0, 6, .inl (F 78)),
  .inl (0, 20, .inl (F 79)),
  .inr (6, [.int (I 20), .int (I 21), .ref 126, .ref 127, .ref 128, .ref 129, .ref 130, .ref 131, .ref 132, .ref 133]),
  .inl (0, 9, .inl (F 80)),
  .inl (0, 9, .inl (F 81)),
  .inl (0, 9, .inl (F 82)),
  .inl (0, 6, .inl (F 83)),
  .inl (0, 6, .inl (F 84)),
  .inl (0, 6, .inl (F 85)),
  .inl (0, 6, .inl (F 86)),
  .inl (0, 20, .inl (F 87)),
  .inr (6, [.int (I 22), .int (I 23), .ref 135, .ref 136, .ref 137, .ref 138, .ref 139, .ref 140, .ref 141, .ref 142]),
  .inl (0, 9, .inl (F 88)),
  .inl (0, 9, .inl (F 89)),
  .inl (0, 9, .inl (F 90)),
  .inl (0, 6, .inl (F 91)),
  .inl (0, 6, .inl (F 92)),
  .inl (0, 6, .inl (F 93)),
  .inl (0, 6, .inl (F 94)),
  .inl (0, 20, .inl (F 95)),
  .inr (6, [.int (I 24), .int (I 25), .ref 144, .ref 145, .ref 146, .ref 147, .ref 148, .ref 149, .ref 150, .ref 151]),
  .inl (0, 9, .inl (F 96)),
  .inl (0, 9, .inl (F 97)),
  .inl (0, 9, .inl (F 98)),
  .inl (0, 6, .inl (F 99)),
  .inl (0, 6, .inl (F 100)),
  .inl (0, 6, .inl (F 101)),
  .inl (0, 6, .inl (F 102)),
  .inl (0, 20, .inl (F 103)),
  .inr (6, [.int (I 26), .int (I 27), .ref 153, .ref 154, .ref 155, .ref 156, .ref 157, .ref 158, .ref 159, .ref 160]),
  .inl (0, 9, .inl (F 104)),
  .inl (0, 9, .inl (F 105)),
  .inl (0, 9, .inl (F 106)),
  .inl (0, 6, .inl (F 107)),
  .inl (0, 6, .inl (F 108)),
  .inl (0, 6, .inl (F 109)),
  .inl (0, 6, .inl (F 110)),
  .inl (0, 20, .inl (F 111)),
  .inr (6, [.int (I 28), .int (I 29), .ref 162, .ref 163, .ref 164, .ref 165, .ref 166, .ref 167, .ref 168, .ref 169]),
  .inl (0, 9, .inl (F 112)),
  .inl (0, 9, .inl (F 113)),
  .inl (0, 9, .inl (F 114)),
  .inl (0, 6, .inl (F 115)),
  .inl (0, 6, .inl (F 116)),
  .inl (0, 6, .inl (F 117)),
  .inl (0, 6, .inl (F 118)),
  .inl (0, 20, .inl (F 119)),
  .inr (6, [.int (I 30), .int (I 31), .ref 171, .ref 172, .ref 173, .ref 174, .ref 175, .ref 176, .ref 177, .ref 178]),
  .inl (0, 9, .inl (F 120)),
  .inl (0, 9, .inl (F 121)),
  .inl (0, 9, .inl (F 122)),
  .inl (0, 6, .inl (F 123)),
  .inl (0, 6, .inl (F 124)),
  .inl (0, 6, .inl (F 125)),
  .inl (0, 6, .inl (F 126)),
  .inl (0, 20, .inl (F 127)),
  .inr (6, [.int (I 32), .int (I 33), .ref 180, .ref 181, .ref 182, .ref 183, .ref 184, .ref 185, .ref 186, .ref 187]),
  .inl (0, 9, .inl (F 128)),
  .inl (0, 9, .inl (F 129)),
  .inl (0, 9, .inl (F 130)),
  .inl (0, 6, .inl (F 131)),
  .inl (0, 6, .inl (F 132)),
  .inl (0, 6, .inl (F 133)),
  .inl (0, 6, .inl (F 134)),
  .inl (0, 20, .inl (F 135)),
  .inl (3, 2, .inr (.inr (.inr (.inr rf_188)))),
  .inr (2, [.int (I 63), .int (I 64), .ref 190]),
  .inr (6, [.int (I 34), .int (I 35), .ref 191, .ref 192, .ref 193, .ref 194, .ref 195, .ref 196, .ref 197, .ref 198]),
  .inl (0, 9, .inl (F 136)),
  .inl (0, 9, .inl (F 137)),
  .inl (0, 9, .inl (F 138)),
  .inl (0, 6, .inl (F 139)),
  .inl (0, 6, .inl (F 140)),
  .inl (0, 6, .inl (F 141)),
  .inl (0, 6, .inl (F 142)),
  .inl (0, 20, .inl (F 143)),
  .inr (2, [.int (I 65), .int (I 66), .ref 200]),
  .inr (6, [.int (I 36), .int (I 37), .ref 201, .ref 202, .ref 203, .ref 204, .ref 205, .ref 206, .ref 207, .ref 208]),
  .inl (0, 9, .inl (F 144)),
  .inl (0, 9, .inl (F 145)),
  .inl (0, 9, .inl (F 146)),
  .inl (0, 6, .inl (F 147)),
  .inl (0, 6, .inl (F 148)),
  .inl (0, 6, .inl (F 149)),
  .inl (0, 6, .inl (F 150)),
  .inl (0, 20, .inl (F 151)),
  .inr (11, [.int (J 0), .ref 210, .int (J 1), .int (J 2), .int (J 3), .int (J 4), .int (J 5), .ref 211, .ref 212, .ref 213, .ref 214, .ref 215, .ref 216, .int (J 6), .ref 217, .ref 218, .int (J 7), .ref 219, .ref 220, .int (J 8), .ref 221, .ref 222, .int (J 9), .ref 223, .ref 224, .ref 225]),
  .inl (0, 240, .inl (K 0)),
  .inl (0, 70, .inl (K 1)),
  .inl (0, 70, .inl (K 2)),
  .inl (0, 134, .inl (K 3)),
  .inl (0, 268, .inl (K 4)),
  .inl (1, 2, .inl (K 5)),
  .inl (0, 2144, .inl (K 6)),
  .inl (0, 6, .inl (K 7)),
  .inl (1, 6, .inl (K 8)),
  .inl (0, 15, .inl (K 9)),
  .inl (0, 15, .inl (K 10)),
  .inl (0, 8, .inl (K 11)),
  .inl (0, 5120, .inl (K 12)),
  .inl (0, 9, .inl (K 13)),
  .inl (0, 9, .inl (K 14)),
  .inl (0, 9, .inl (K 15))]
set_option maxRecDepth 100000 in
theorem mkW_len (I : WI) (F : WF) (J : WI) (K : WF) : (mkW I F J K).length = 226 := rfl
theorem mkW_ll {I : WI} {F : WF} {J : WI} {K : WF} {I2 : WI} {F2 : WF} {J2 : WI} {K2 : WF} : (mkW I2 F2 J2 K2).length = (mkW I F J K).length := by rw [mkW_len, mkW_len]
theorem gcl0 : gv_Cl 0 RX0 TX0 3 tyX0 := ⟨rfl, gv_subs [353, 355, 357] (by decide +kernel) (by decide +kernel), tyX0_ok, nmX0⟩
theorem gcl1 : gv_Cl 1 RX1 TX1 3 tyX1 := ⟨rfl, gv_subs [263, 265, 267] (by decide +kernel) (by decide +kernel), tyX1_ok, nmX1⟩
theorem gcl2 : gv_Cl 2 RX2 TX2 3 tyX2 := ⟨rfl, gv_subs [393, 395, 397] (by decide +kernel) (by decide +kernel), tyX2_ok, nmX2⟩
theorem gcl3 : gv_Cl 3 RX3 TX3 3 tyX3 := ⟨rfl, gv_subs [373, 375, 377] (by decide +kernel) (by decide +kernel), tyX3_ok, nmX3⟩
theorem gcl4 : gv_Cl 4 RX4 TX4 6 tyX4 := ⟨rfl, gv_subs [311, 313, 315, 317, 319, 321] (by decide +kernel) (by decide +kernel), tyX4_ok, nmX4⟩
theorem gcl5 : gv_Cl 5 RX5 TX5 3 tyX5 := ⟨rfl, gv_subs [336, 338, 340] (by decide +kernel) (by decide +kernel), tyX5_ok, nmX5⟩
theorem gcl6 : gv_Cl 6 RX6 TX6 10 tyX6 := ⟨rfl, gv_subs [235, 237, 239, 241, 243, 245, 247, 249, 251, 253] (by decide +kernel) (by decide +kernel), tyX6_ok, nmX6⟩
theorem gcl7 : gv_Cl 7 RX7 TX7 12 tyX7 := ⟨rfl, gv_subs [141, 143, 145, 147, 149, 151, 153, 155, 157, 159, 161, 163] (by decide +kernel) (by decide +kernel), tyX7_ok, nmX7⟩
theorem gcl8 : gv_Cl 8 RX8 TX8 7 tyX8 := ⟨rfl, gv_subs [178, 180, 182, 184, 186, 188, 190] (by decide +kernel) (by decide +kernel), tyX8_ok, nmX8⟩
theorem gcl9 : gv_Cl 9 RX9 TX9 6 tyX9 := ⟨rfl, gv_subs [284, 286, 288, 290, 292, 294] (by decide +kernel) (by decide +kernel), tyX9_ok, nmX9⟩
theorem gcl10 : gv_Cl 10 RX10 TX10 10 tyX10 := ⟨rfl, gv_subs [410, 412, 414, 416, 418, 420, 422, 424, 426, 428] (by decide +kernel) (by decide +kernel), tyX10_ok, nmX10⟩
theorem gcl11 : gv_Cl 11 RX11 TX11 26 tyX11 := ⟨rfl, gv_subs [928, 930, 932, 934, 936, 938, 940, 942, 944, 946, 948, 950, 952, 954, 956, 958, 960, 962, 964, 966, 968, 970, 972, 974, 976, 978] (by decide +kernel) (by decide +kernel), tyX11_ok, nmX11⟩
/-- an array cell of the world: how it is read, how it is written -/
def FA (i n t a : Nat) (I : WI) (F : WF) (J : WI) (K : WF) : Prop := (mkW I F J K)[i]? = some (.inl (t, n, .inl (F a))) ∧ ∀ g, (mkW I F J K).set i (.inl (t, n, .inl g)) = mkW I (uF F a g) J K
def FM (i n t a : Nat) (I : WI) (F : WF) (J : WI) (K : WF) : Prop := (mkW J K I F)[i]? = some (.inl (t, n, .inl (F a))) ∧ ∀ g, (mkW J K I F).set i (.inl (t, n, .inl g)) = mkW J K I (uF F a g)
section Arows
variable {X : XT} {M : MD} {R : Room} {Z : List Frame → Array Value → State → State → Prop} {cn sn pc pc2 : Nat} {ls : List (Nat × Value)} {st : List Value} {w : List va_E} {α : Type} {r : α} {I : WI} {F : WF} {J : WI} {K : WF} {i n a : Nat} {x v : Int32}
theorem AC {f : Option α} (hq : FA i n 0 a I F J K) (h : ixG x n f = some r) (d : decode M.2.2.1 pc = .ok (.iaload, 1)) (hpc : pc + 1 = pc2) (k : f = some r → GG X M R Z cn sn pc2 ls (.int (F a x.toNatClampNeg) :: st) (mkW I F J K)) : GG X M R Z cn sn pc ls (.int x :: .ref i :: st) (mkW I F J K) := by subst hpc; exact G_iald hq.1 (ixG_e h).1 d (k (ixG_e h).2)
theorem ACc {c : Nat} (hq : FA i n 0 a I F J K) (hc : x.toNatClampNeg = c) (hin : (decide (x < 0) || decide (n ≤ c)) = false) (d : decode M.2.2.1 pc = .ok (.iaload, 1)) (hpc : pc + 1 = pc2) (k : GG X M R Z cn sn pc2 ls (.int (F a c) :: st) (mkW I F J K)) : GG X M R Z cn sn pc ls (.int x :: .ref i :: st) (mkW I F J K) := by
  subst hpc; subst hc
  exact G_iald hq.1 (by simpa [vp_in] using hin) d k
theorem SC {f : WF → Option α} (hq : FA i n 0 a I F J K) (h : ixG x n (bnd (uF F a (upd (F a) x.toNatClampNeg v)) f) = some r) (d : decode M.2.2.1 pc = .ok (.iastore, 1)) (hpc : pc + 1 = pc2) (k : ∀ F', f F' = some r → GG X M R Z cn sn pc2 ls st (mkW I F' J K)) : GG X M R Z cn sn pc ls (.int v :: .int x :: .ref i :: st) (mkW I F J K) := by
  subst hpc
  exact G_iast hq.1 (ixG_e h).1 d (by rw [hq.2]; exact k _ (ixG_e h).2)
theorem SCc {c : Nat} {f : WF → Option α} (hq : FA i n 0 a I F J K) (h : bnd (uF F a (upd (F a) c v)) f = some r) (hc : x.toNatClampNeg = c) (hin : (decide (x < 0) || decide (n ≤ c)) = false) (d : decode M.2.2.1 pc = .ok (.iastore, 1)) (hpc : pc + 1 = pc2) (k : ∀ F', f F' = some r → GG X M R Z cn sn pc2 ls st (mkW I F' J K)) : GG X M R Z cn sn pc ls (.int v :: .int x :: .ref i :: st) (mkW I F J K) := by
  subst hpc; subst hc
  exact G_iast hq.1 (by simpa [vp_in] using hin) d (by rw [hq.2]; exact k _ h)
theorem AzC {f : Option α} (hq : FA i n 1 a I F J K) (h : ixG x n f = some r) (d : decode M.2.2.1 pc = .ok (.baload, 1)) (hpc : pc + 1 = pc2) (k : f = some r → GG X M R Z cn sn pc2 ls (.int (F a x.toNatClampNeg) :: st) (mkW I F J K)) : GG X M R Z cn sn pc ls (.int x :: .ref i :: st) (mkW I F J K) := by subst hpc; exact G_zald hq.1 (ixG_e h).1 d (k (ixG_e h).2)
theorem AzCc {c : Nat} (hq : FA i n 1 a I F J K) (hc : x.toNatClampNeg = c) (hin : (decide (x < 0) || decide (n ≤ c)) = false) (d : decode M.2.2.1 pc = .ok (.baload, 1)) (hpc : pc + 1 = pc2) (k : GG X M R Z cn sn pc2 ls (.int (F a c) :: st) (mkW I F J K)) : GG X M R Z cn sn pc ls (.int x :: .ref i :: st) (mkW I F J K) := by
  subst hpc; subst hc
  exact G_zald hq.1 (by simpa [vp_in] using hin) d k
theorem SzC {f : WF → Option α} (hq : FA i n 1 a I F J K) (h : ixG x n (bnd (uF F a (upd (F a) x.toNatClampNeg (vp_nar .boolean v))) f) = some r) (d : decode M.2.2.1 pc = .ok (.bastore, 1)) (hpc : pc + 1 = pc2) (k : ∀ F', f F' = some r → GG X M R Z cn sn pc2 ls st (mkW I F' J K)) : GG X M R Z cn sn pc ls (.int v :: .int x :: .ref i :: st) (mkW I F J K) := by
  subst hpc
  exact G_zast hq.1 (ixG_e h).1 d (by rw [hq.2]; exact k _ (ixG_e h).2)
theorem SzCc {c : Nat} {f : WF → Option α} (hq : FA i n 1 a I F J K) (h : bnd (uF F a (upd (F a) c (vp_nar .boolean v))) f = some r) (hc : x.toNatClampNeg = c) (hin : (decide (x < 0) || decide (n ≤ c)) = false) (d : decode M.2.2.1 pc = .ok (.bastore, 1)) (hpc : pc + 1 = pc2) (k : ∀ F', f F' = some r → GG X M R Z cn sn pc2 ls st (mkW I F' J K)) : GG X M R Z cn sn pc ls (.int v :: .int x :: .ref i :: st) (mkW I F J K) := by
  subst hpc; subst hc
  exact G_zast hq.1 (by simpa [vp_in] using hin) d (by rw [hq.2]; exact k _ h)
theorem YC {ix i1 a1 : Nat} {m : Int32} {f : WF → Option α} (hq : FA i n 0 a I F J K) (hq1 : FA i1 n 0 a1 I F J K) (h : bnd (uF F a1 (va_cpy (F a) (F a1) 0 0 n)) f = some r) (hl : Cond.methodLink M.1 ix arraycopyName ∈ gv_gw) (hm : ¬ m < 0) (hm2 : m.toNatClampNeg = n) (hR : 1 ≤ R.frames ∧ 8 + (nativeFrameWords "java/lang/System" "arraycopy" 5 + 11) ≤ R.locals) (hcat : (st.map fun v => v.category).sum ≤ 8) (d : decode M.2.2.1 pc = .ok (.invokestatic ix, 3)) (hpc : pc + 3 = pc2) (k : ∀ F', f F' = some r → GG X M R Z cn sn pc2 ls st (mkW I F' J K)) : GG X M R Z cn sn pc ls (.int m :: .int 0 :: .ref i1 :: .int 0 :: .ref i :: st) (mkW I F J K) :=
  G_copy hl hq.1 hq1.1 (by decide) (by decide) hm (by rw [hm2]; exact Nat.le_of_eq (Nat.zero_add n)) (by rw [hm2]; exact Nat.le_of_eq (Nat.zero_add n)) hR hcat d hpc (by rw [hm2, hq1.2]; exact k _ h)
theorem AM {f : Option α} (hq : FM i n 0 a I F J K) (h : ixG x n f = some r) (d : decode M.2.2.1 pc = .ok (.iaload, 1)) (hpc : pc + 1 = pc2) (k : f = some r → GG X M R Z cn sn pc2 ls (.int (F a x.toNatClampNeg) :: st) (mkW J K I F)) : GG X M R Z cn sn pc ls (.int x :: .ref i :: st) (mkW J K I F) := by subst hpc; exact G_iald hq.1 (ixG_e h).1 d (k (ixG_e h).2)
theorem AMc {c : Nat} (hq : FM i n 0 a I F J K) (hc : x.toNatClampNeg = c) (hin : (decide (x < 0) || decide (n ≤ c)) = false) (d : decode M.2.2.1 pc = .ok (.iaload, 1)) (hpc : pc + 1 = pc2) (k : GG X M R Z cn sn pc2 ls (.int (F a c) :: st) (mkW J K I F)) : GG X M R Z cn sn pc ls (.int x :: .ref i :: st) (mkW J K I F) := by
  subst hpc; subst hc
  exact G_iald hq.1 (by simpa [vp_in] using hin) d k
theorem SM {f : WF → Option α} (hq : FM i n 0 a I F J K) (h : ixG x n (bnd (uF F a (upd (F a) x.toNatClampNeg v)) f) = some r) (d : decode M.2.2.1 pc = .ok (.iastore, 1)) (hpc : pc + 1 = pc2) (k : ∀ F', f F' = some r → GG X M R Z cn sn pc2 ls st (mkW J K I F')) : GG X M R Z cn sn pc ls (.int v :: .int x :: .ref i :: st) (mkW J K I F) := by
  subst hpc
  exact G_iast hq.1 (ixG_e h).1 d (by rw [hq.2]; exact k _ (ixG_e h).2)
theorem SMc {c : Nat} {f : WF → Option α} (hq : FM i n 0 a I F J K) (h : bnd (uF F a (upd (F a) c v)) f = some r) (hc : x.toNatClampNeg = c) (hin : (decide (x < 0) || decide (n ≤ c)) = false) (d : decode M.2.2.1 pc = .ok (.iastore, 1)) (hpc : pc + 1 = pc2) (k : ∀ F', f F' = some r → GG X M R Z cn sn pc2 ls st (mkW J K I F')) : GG X M R Z cn sn pc ls (.int v :: .int x :: .ref i :: st) (mkW J K I F) := by
  subst hpc; subst hc
  exact G_iast hq.1 (by simpa [vp_in] using hin) d (by rw [hq.2]; exact k _ h)
theorem AzM {f : Option α} (hq : FM i n 1 a I F J K) (h : ixG x n f = some r) (d : decode M.2.2.1 pc = .ok (.baload, 1)) (hpc : pc + 1 = pc2) (k : f = some r → GG X M R Z cn sn pc2 ls (.int (F a x.toNatClampNeg) :: st) (mkW J K I F)) : GG X M R Z cn sn pc ls (.int x :: .ref i :: st) (mkW J K I F) := by subst hpc; exact G_zald hq.1 (ixG_e h).1 d (k (ixG_e h).2)
theorem AzMc {c : Nat} (hq : FM i n 1 a I F J K) (hc : x.toNatClampNeg = c) (hin : (decide (x < 0) || decide (n ≤ c)) = false) (d : decode M.2.2.1 pc = .ok (.baload, 1)) (hpc : pc + 1 = pc2) (k : GG X M R Z cn sn pc2 ls (.int (F a c) :: st) (mkW J K I F)) : GG X M R Z cn sn pc ls (.int x :: .ref i :: st) (mkW J K I F) := by
  subst hpc; subst hc
  exact G_zald hq.1 (by simpa [vp_in] using hin) d k
theorem SzM {f : WF → Option α} (hq : FM i n 1 a I F J K) (h : ixG x n (bnd (uF F a (upd (F a) x.toNatClampNeg (vp_nar .boolean v))) f) = some r) (d : decode M.2.2.1 pc = .ok (.bastore, 1)) (hpc : pc + 1 = pc2) (k : ∀ F', f F' = some r → GG X M R Z cn sn pc2 ls st (mkW J K I F')) : GG X M R Z cn sn pc ls (.int v :: .int x :: .ref i :: st) (mkW J K I F) := by
  subst hpc
  exact G_zast hq.1 (ixG_e h).1 d (by rw [hq.2]; exact k _ (ixG_e h).2)
theorem SzMc {c : Nat} {f : WF → Option α} (hq : FM i n 1 a I F J K) (h : bnd (uF F a (upd (F a) c (vp_nar .boolean v))) f = some r) (hc : x.toNatClampNeg = c) (hin : (decide (x < 0) || decide (n ≤ c)) = false) (d : decode M.2.2.1 pc = .ok (.bastore, 1)) (hpc : pc + 1 = pc2) (k : ∀ F', f F' = some r → GG X M R Z cn sn pc2 ls st (mkW J K I F')) : GG X M R Z cn sn pc ls (.int v :: .int x :: .ref i :: st) (mkW J K I F) := by
  subst hpc; subst hc
  exact G_zast hq.1 (by simpa [vp_in] using hin) d (by rw [hq.2]; exact k _ h)
theorem YM {ix i1 a1 : Nat} {m : Int32} {f : WF → Option α} (hq : FM i n 0 a I F J K) (hq1 : FM i1 n 0 a1 I F J K) (h : bnd (uF F a1 (va_cpy (F a) (F a1) 0 0 n)) f = some r) (hl : Cond.methodLink M.1 ix arraycopyName ∈ gv_gw) (hm : ¬ m < 0) (hm2 : m.toNatClampNeg = n) (hR : 1 ≤ R.frames ∧ 8 + (nativeFrameWords "java/lang/System" "arraycopy" 5 + 11) ≤ R.locals) (hcat : (st.map fun v => v.category).sum ≤ 8) (d : decode M.2.2.1 pc = .ok (.invokestatic ix, 3)) (hpc : pc + 3 = pc2) (k : ∀ F', f F' = some r → GG X M R Z cn sn pc2 ls st (mkW J K I F')) : GG X M R Z cn sn pc ls (.int m :: .int 0 :: .ref i1 :: .int 0 :: .ref i :: st) (mkW J K I F) :=
  G_copy hl hq.1 hq1.1 (by decide) (by decide) hm (by rw [hm2]; exact Nat.le_of_eq (Nat.zero_add n)) (by rw [hm2]; exact Nat.le_of_eq (Nat.zero_add n)) hR hcat d hpc (by rw [hm2, hq1.2]; exact k _ h)
end Arows
