noncomputable section
def L_X9_farthest_31_29 (k : Int32 → Option (Int32 × WF)) (x2 : Int32) (I : WI) (F : WF) : Nat → Int32 → Int32 → Option (Int32 × WF)
  | 0, _, _ => none
  | n + 1, x1, x3 =>
  if (I 48) ≤ x3 then (k x1)
  else (ixG x3 8 (
  bnd (if x1 < (F 169 x3.toNatClampNeg) then (F 169 x3.toNatClampNeg) else x1) fun x1_205 =>
  bnd (x3 + (1 : Int32)) fun x3_206 =>
  L_X9_farthest_31_29 k x2 I F n x1_205 x3_206))
def L_X9_farthest_31_4 (k : Int32 → WF → Option (Int32 × WF))  (I : WI) : Nat → Int32 → Int32 → WF → Option (Int32 × WF)
  | 0, _, _, _ => none
  | n + 1, x1, x2, F =>
  if (I 48) ≤ x2 then (k x1 F)
  else (Option.bind (f_X7_allBridges_13 I F) fun c_202 =>
  Option.bind (f_X9_measure_31 x2 c_202 I F) fun c_203 =>
  bnd (0 : Int32) fun x3_204 =>
  L_X9_farthest_31_29 (fun x1_207 => bnd (x2 + (1 : Int32)) fun x2_208 =>
  L_X9_farthest_31_4 k I n x1_207 x2_208 c_203) x2 I c_203 FU x1 x3_204)
def f_X9_farthest_31 (I : WI) (F : WF) : Option (Int32 × WF) :=
  bnd (0 : Int32) fun x1_200 =>
  bnd (0 : Int32) fun x2_201 =>
  L_X9_farthest_31_4 (fun x1_209 F_210 => some (x1_209, F_210)) I FU x1_200 x2_201 F
set_option maxRecDepth 100000 in
set_option maxHeartbeats 4000000 in
theorem g_L_X9_farthest_31_29 {X : XT} {x2 : Int32} {I : WI} {F : WF} {J : WI} {K : WF} {a : Int32 × WF} {k : Int32 → Option (Int32 × WF)} (hk : ∀ (e1 : Int32), (k e1 = some a → GG X md_X9_farthest (rmD 3) (gv_Z X (rmD 3).cells (rmD 3).slots (some (.int a.1)) (mkW I a.2 J K)) 0 0 57 [(0, .ref 31), (1, .int e1), (2, .int x2)] [] (mkW I F J K))) : ∀ (n : Nat) (x1 : Int32) (x3 : Int32), L_X9_farthest_31_29 k x2 I F n x1 x3 = some a → GG X md_X9_farthest (rmD 3) (gv_Z X (rmD 3).cells (rmD 3).slots (some (.int a.1)) (mkW I a.2 J K)) 0 0 29 [(0, .ref 31), (1, .int x1), (2, .int x2), (3, .int x3)] [] (mkW I F J K) := by
  intro n
  induction n with
  | zero =>
    intro x1 x3 h
    rw [L_X9_farthest_31_29] at h
    cases h
  | succ n ih =>
    intro x1 x3 h
    rw [L_X9_farthest_31_29] at h
    refine G_iload_n (pc2 := 30) 3 rfl dX9_farthest_29 rfl rfl ?_
    refine G_aload_n (pc2 := 31) 0 rfl dX9_farthest_30 rfl rfl ?_
    refine T_31_2 (pc2 := 34) kw_280 dX9_farthest_31 rfl ?_
    refine T_13_0 (pc2 := 37) kw_97 dX9_farthest_34 rfl ?_
    refine B_icmp_ge (tgt := 57) (pc2 := 40) h dX9_farthest_37 (by decide) rfl (fun _ h => ?_) (fun _ h => ?_)
    · refine G_sub (ls' := [(0, .ref 31), (1, .int x1), (2, .int x2)]) [0, 1, 2] rfl ?_
      exact hk x1 h
    · refine G_iload_n (pc2 := 41) 1 rfl dX9_farthest_40 rfl rfl ?_
      refine G_aload_n (pc2 := 42) 0 rfl dX9_farthest_41 rfl rfl ?_
      refine T_31_3 (pc2 := 45) kw_281 dX9_farthest_42 rfl ?_
      refine G_iload_n (pc2 := 46) 3 rfl dX9_farthest_45 rfl rfl ?_
      refine AC (pc2 := 47) (fa_32 _ _ _ _) h dX9_farthest_46 rfl (fun h => ?_)
      refine G_max (pc2 := 50) kw_586 ⟨by decide, by decide, Nat.le_refl _, Nat.le_refl _⟩ (Nat.le_of_ble_eq_true rfl) dX9_farthest_47 rfl ?_
      refine B_istore_n (pc2 := 51) (fun x1_205 => [(1, .int x1_205), (0, .ref 31), (2, .int x2), (3, .int x3)]) h dX9_farthest_50 rfl (by decide) (fun _ => rfl) rfl (fun x1_205 h => ?_)
      refine B_iinc (pc2 := 54) 3 (fun x3_206 => [(3, .int x3_206), (1, .int x1_205), (0, .ref 31), (2, .int x2)]) h rfl dX9_farthest_51 ic_1 (by decide) (fun _ => rfl) rfl (fun x3_206 h => ?_)
      refine G_goto (tgt := 29) dX9_farthest_54 (by decide) ?_
      refine G_sub (ls' := [(0, .ref 31), (1, .int x1_205), (2, .int x2), (3, .int x3_206)]) [2, 1, 3, 0] rfl ?_
      exact ih x1_205 x3_206 h
set_option maxRecDepth 100000 in
set_option maxHeartbeats 4000000 in
theorem g_L_X9_farthest_31_4 {X : XT} {I : WI} {J : WI} {K : WF} {a : Int32 × WF} {k : Int32 → WF → Option (Int32 × WF)} (hk : ∀ (e1 : Int32) (F' : WF), (k e1 F' = some a → GG X md_X9_farthest (rmD 3) (gv_Z X (rmD 3).cells (rmD 3).slots (some (.int a.1)) (mkW I a.2 J K)) 0 0 63 [(1, .int e1)] [] (mkW I F' J K))) : ∀ (n : Nat) (x1 : Int32) (x2 : Int32) (F : WF), L_X9_farthest_31_4 k I n x1 x2 F = some a → GG X md_X9_farthest (rmD 3) (gv_Z X (rmD 3).cells (rmD 3).slots (some (.int a.1)) (mkW I a.2 J K)) 0 0 4 [(0, .ref 31), (1, .int x1), (2, .int x2)] [] (mkW I F J K) := by
  intro n
  induction n with
  | zero =>
    intro x1 x2 F h
    rw [L_X9_farthest_31_4] at h
    cases h
  | succ n ih =>
    intro x1 x2 F h
    rw [L_X9_farthest_31_4] at h
    refine G_iload_n (pc2 := 5) 2 rfl dX9_farthest_4 rfl rfl ?_
    refine G_aload_n (pc2 := 6) 0 rfl dX9_farthest_5 rfl rfl ?_
    refine T_31_2 (pc2 := 9) kw_280 dX9_farthest_6 rfl ?_
    refine T_13_0 (pc2 := 12) kw_97 dX9_farthest_9 rfl ?_
    refine B_icmp_ge (tgt := 63) (pc2 := 15) h dX9_farthest_12 (by decide) rfl (fun _ h => ?_) (fun _ h => ?_)
    · refine G_sub (ls' := [(1, .int x1)]) [1] rfl ?_
      exact hk x1 F h
    · refine G_aload_n (pc2 := 16) 0 rfl dX9_farthest_15 rfl rfl ?_
      refine G_iload_n (pc2 := 17) 2 rfl dX9_farthest_16 rfl rfl ?_
      refine G_aload_n (pc2 := 18) 0 rfl dX9_farthest_17 rfl rfl ?_
      refine T_31_2 (pc2 := 21) kw_280 dX9_farthest_18 rfl ?_
      obtain ⟨c_202, hc_202, h⟩ := ob_e h
      refine B_callV (pc2 := 24) si_X9_80 (c_X7_allBridges_13 hc_202) (qo_13 _ _ _ _) rfl rfl rfl (st := [.int x2, .ref 31]) (stq := [.int c_202, .int x2, .ref 31]) rfl (by decide) (by decide) (Nat.le_of_ble_eq_true rfl) mkW_ll dX9_farthest_21 rfl rfl ?_ ⟨rfl, rfl⟩
      obtain ⟨c_203, hc_203, h⟩ := ob_e h
      refine B_callV (pc2 := 27) si_X9_19 (c_X9_measure_31 hc_203) (qo_31 _ _ _ _) rfl rfl rfl (st := []) (stq := []) rfl (by decide) (by decide) (Nat.le_of_ble_eq_true rfl) mkW_ll dX9_farthest_24 rfl rfl ?_ ⟨rfl, rfl⟩
      refine G_iconst (pc2 := 28) dX9_farthest_27 ic_0 rfl ?_
      refine B_istore_n (pc2 := 29) (fun x3_204 => [(3, .int x3_204), (0, .ref 31), (1, .int x1), (2, .int x2)]) h dX9_farthest_28 rfl (by decide) (fun _ => rfl) rfl (fun x3_204 h => ?_)
      refine G_sub (ls' := [(0, .ref 31), (1, .int x1), (2, .int x2), (3, .int x3_204)]) [1, 2, 3, 0] rfl ?_
      refine g_L_X9_farthest_31_29 (fun x1_207 h => ?_) FU x1 x3_204 h
      refine B_iinc (pc2 := 60) 2 (fun x2_208 => [(2, .int x2_208), (0, .ref 31), (1, .int x1_207)]) h rfl dX9_farthest_57 ic_1 (by decide) (fun _ => rfl) rfl (fun x2_208 h => ?_)
      refine G_goto (tgt := 4) dX9_farthest_60 (by decide) ?_
      refine G_sub (ls' := [(0, .ref 31), (1, .int x1_207), (2, .int x2_208)]) [1, 2, 0] rfl ?_
      exact ih x1_207 x2_208 c_203 h
set_option maxRecDepth 100000 in
set_option maxHeartbeats 4000000 in
theorem c_X9_farthest_31 {I : WI} {F : WF} {J : WI} {K : WF} {a : Int32 × WF} (h : f_X9_farthest_31  I F = some a) : CT md_X9_farthest yX9_farthest (rmD 3) [.ref 31] (mkW I F J K) (some (.int a.1)) (mkW I a.2 J K) := CT_of pn_X9 ⟨rfl, rfl⟩ (Nat.le_of_ble_eq_true rfl) (fun X => by
  show GG X md_X9_farthest (rmD 3) _ 0 0 0 [(0, .ref 31)] [] (mkW I F J K)
  unfold f_X9_farthest_31 at h
  refine G_iconst (pc2 := 1) dX9_farthest_0 ic_0 rfl ?_
  refine B_istore_n (pc2 := 2) (fun x1_200 => [(1, .int x1_200), (0, .ref 31)]) h dX9_farthest_1 rfl (by decide) (fun _ => rfl) rfl (fun x1_200 h => ?_)
  refine G_iconst (pc2 := 3) dX9_farthest_2 ic_0 rfl ?_
  refine B_istore_n (pc2 := 4) (fun x2_201 => [(2, .int x2_201), (1, .int x1_200), (0, .ref 31)]) h dX9_farthest_3 rfl (by decide) (fun _ => rfl) rfl (fun x2_201 h => ?_)
  refine G_sub (ls' := [(0, .ref 31), (1, .int x1_200), (2, .int x2_201)]) [2, 1, 0] rfl ?_
  refine g_L_X9_farthest_31_4 (fun x1_209 F_210 h => ?_) FU x1_200 x2_201 F h
  refine G_iload_n (pc2 := 64) 0 rfl dX9_farthest_63 rfl rfl ?_
  have ha := Option.some.inj h
  subst ha
  exact G_iret rfl dX9_farthest_64)
def L_X1_trusted_12_4 (k : Int32 → Option (Int32))  (I : WI) (F : WF) : Nat → Int32 → Int32 → Option (Int32)
  | 0, _, _ => none
  | n + 1, x1, x2 =>
  if (I 51) ≤ x2 then (k x1)
  else (ixG x2 6 (
  ixG x2 6 (
  bnd (fun (x1_216 : Int32) => bnd (x2 + (1 : Int32)) fun x2_217 =>
  L_X1_trusted_12_4 k I F n x1_216 x2_217) fun j42_215 =>
  if (F 5 x2.toNatClampNeg) ≤ (F 6 x2.toNatClampNeg) then (j42_215 x1)
  else (bnd (x1 ||| ((1 : Int32) <<< (x2 &&& 31))) fun x1_218 =>
  j42_215 x1_218))))
def f_X1_trusted_12 (I : WI) (F : WF) : Option (Int32) :=
  bnd (0 : Int32) fun x1_213 =>
  bnd (0 : Int32) fun x2_214 =>
  L_X1_trusted_12_4 (fun x1_219 => some x1_219) I F FU x1_213 x2_214
set_option maxRecDepth 100000 in
set_option maxHeartbeats 4000000 in
theorem g_L_X1_trusted_12_4 {X : XT} {I : WI} {F : WF} {J : WI} {K : WF} {a : Int32} {k : Int32 → Option (Int32)} (hk : ∀ (e1 : Int32), (k e1 = some a → GG X md_X1_trusted (rmD 1) (gv_Z X (rmD 1).cells (rmD 1).slots (some (.int a)) (mkW I F J K)) 0 0 48 [(1, .int e1)] [] (mkW I F J K))) : ∀ (n : Nat) (x1 : Int32) (x2 : Int32), L_X1_trusted_12_4 k I F n x1 x2 = some a → GG X md_X1_trusted (rmD 1) (gv_Z X (rmD 1).cells (rmD 1).slots (some (.int a)) (mkW I F J K)) 0 0 4 [(0, .ref 12), (1, .int x1), (2, .int x2)] [] (mkW I F J K) := by
  intro n
  induction n with
  | zero =>
    intro x1 x2 h
    rw [L_X1_trusted_12_4] at h
    cases h
  | succ n ih =>
    intro x1 x2 h
    rw [L_X1_trusted_12_4] at h
    refine G_iload_n (pc2 := 5) 2 rfl dX1_trusted_4 rfl rfl ?_
    refine G_aload_n (pc2 := 6) 0 rfl dX1_trusted_5 rfl rfl ?_
    refine T_12_0 (pc2 := 9) kw_256 dX1_trusted_6 rfl ?_
    refine T_13_3 (pc2 := 12) kw_117 dX1_trusted_9 rfl ?_
    refine B_icmp_ge (tgt := 48) (pc2 := 15) h dX1_trusted_12 (by decide) rfl (fun _ h => ?_) (fun _ h => ?_)
    · refine G_sub (ls' := [(1, .int x1)]) [1] rfl ?_
      exact hk x1 h
    · refine G_aload_n (pc2 := 16) 0 rfl dX1_trusted_15 rfl rfl ?_
      refine T_12_1 (pc2 := 19) kw_259 dX1_trusted_16 rfl ?_
      refine T_22_7 (pc2 := 22) kw_230 dX1_trusted_19 rfl ?_
      refine G_iload_n (pc2 := 23) 2 rfl dX1_trusted_22 rfl rfl ?_
      refine AC (pc2 := 24) (fa_28 _ _ _ _) h dX1_trusted_23 rfl (fun h => ?_)
      refine G_aload_n (pc2 := 25) 0 rfl dX1_trusted_24 rfl rfl ?_
      refine T_12_1 (pc2 := 28) kw_259 dX1_trusted_25 rfl ?_
      refine T_22_8 (pc2 := 31) kw_233 dX1_trusted_28 rfl ?_
      refine G_iload_n (pc2 := 32) 2 rfl dX1_trusted_31 rfl rfl ?_
      refine AC (pc2 := 33) (fa_29 _ _ _ _) h dX1_trusted_32 rfl (fun h => ?_)
      refine jn_e (Gj := True) (fun (j : Int32 → Option (Int32)) => ∀ (x1_216 : Int32), j x1_216 = some a → GG X md_X1_trusted (rmD 1) (gv_Z X (rmD 1).cells (rmD 1).slots (some (.int a)) (mkW I F J K)) 0 0 42 [(0, .ref 12), (1, .int x1_216), (2, .int x2)] [] (mkW I F J K)) h (fun x1_216 h => ?_) (fun j42_215 hj42_215 h => ?_)
      · refine B_iinc (pc2 := 45) 2 (fun x2_217 => [(2, .int x2_217), (0, .ref 12), (1, .int x1_216)]) h rfl dX1_trusted_42 ic_1 (by decide) (fun _ => rfl) rfl (fun x2_217 h => ?_)
        refine G_goto (tgt := 4) dX1_trusted_45 (by decide) ?_
        refine G_sub (ls' := [(0, .ref 12), (1, .int x1_216), (2, .int x2_217)]) [1, 2, 0] rfl ?_
        exact ih x1_216 x2_217 h
      refine B_icmp_le (tgt := 42) (pc2 := 36) h dX1_trusted_33 (by decide) rfl (fun _ h => ?_) (fun _ h => ?_)
      · exact hj42_215 x1 h
      · refine G_iload_n (pc2 := 37) 1 rfl dX1_trusted_36 rfl rfl ?_
        refine G_iconst (pc2 := 38) dX1_trusted_37 ic_1 rfl ?_
        refine G_iload_n (pc2 := 39) 2 rfl dX1_trusted_38 rfl rfl ?_
        refine G_ishl (pc2 := 40) dX1_trusted_39 rfl ?_
        refine G_ior (pc2 := 41) dX1_trusted_40 rfl ?_
        refine B_istore_n (pc2 := 42) (fun x1_218 => [(1, .int x1_218), (0, .ref 12), (2, .int x2)]) h dX1_trusted_41 rfl (by decide) (fun _ => rfl) rfl (fun x1_218 h => ?_)
        refine G_sub (ls' := [(0, .ref 12), (1, .int x1_218), (2, .int x2)]) [1, 0, 2] rfl ?_
        exact hj42_215 x1_218 h
set_option maxRecDepth 100000 in
set_option maxHeartbeats 4000000 in
theorem c_X1_trusted_12 {I : WI} {F : WF} {J : WI} {K : WF} {a : Int32} (h : f_X1_trusted_12  I F = some a) : CT md_X1_trusted yX1_trusted (rmD 1) [.ref 12] (mkW I F J K) (some (.int a)) (mkW I F J K) := CT_of pn_X1 ⟨rfl, rfl⟩ (Nat.le_of_ble_eq_true rfl) (fun X => by
  show GG X md_X1_trusted (rmD 1) _ 0 0 0 [(0, .ref 12)] [] (mkW I F J K)
  unfold f_X1_trusted_12 at h
  refine G_iconst (pc2 := 1) dX1_trusted_0 ic_0 rfl ?_
  refine B_istore_n (pc2 := 2) (fun x1_213 => [(1, .int x1_213), (0, .ref 12)]) h dX1_trusted_1 rfl (by decide) (fun _ => rfl) rfl (fun x1_213 h => ?_)
  refine G_iconst (pc2 := 3) dX1_trusted_2 ic_0 rfl ?_
  refine B_istore_n (pc2 := 4) (fun x2_214 => [(2, .int x2_214), (1, .int x1_213), (0, .ref 12)]) h dX1_trusted_3 rfl (by decide) (fun _ => rfl) rfl (fun x2_214 h => ?_)
  refine G_sub (ls' := [(0, .ref 12), (1, .int x1_213), (2, .int x2_214)]) [2, 1, 0] rfl ?_
  refine g_L_X1_trusted_12_4 (fun x1_219 h => ?_) FU x1_213 x2_214 h
  refine G_iload_n (pc2 := 49) 0 rfl dX1_trusted_48 rfl rfl ?_
  have ha := Option.some.inj h
  subst ha
  exact G_iret rfl dX1_trusted_49)
def L_X1_driest_12_4 (k : Int32 → Option (Int32))  (I : WI) (F : WF) : Nat → Int32 → Int32 → Option (Int32)
  | 0, _, _ => none
  | n + 1, x1, x2 =>
  if (I 51) ≤ x2 then (k x1)
  else (bnd (fun (x1_225 : Int32) => bnd (x2 + (1 : Int32)) fun x2_226 =>
  L_X1_driest_12_4 k I F n x1_225 x2_226) fun j43_224 =>
  bnd (fun (_u : Unit) => bnd x2 fun x1_228 =>
  j43_224 x1_228) fun j41_227 =>
  if x1 = (-1 : Int32) then (j41_227 ())
  else (ixG x2 6 (
  ixG x1 6 (
  if (F 6 x1.toNatClampNeg) ≤ (F 6 x2.toNatClampNeg) then (j43_224 x1)
  else (j41_227 ())))))
def f_X1_driest_12 (I : WI) (F : WF) : Option (Int32) :=
  bnd (-1 : Int32) fun x1_222 =>
  bnd (0 : Int32) fun x2_223 =>
  L_X1_driest_12_4 (fun x1_229 => some x1_229) I F FU x1_222 x2_223
set_option maxRecDepth 100000 in
set_option maxHeartbeats 4000000 in
theorem g_L_X1_driest_12_4 {X : XT} {I : WI} {F : WF} {J : WI} {K : WF} {a : Int32} {k : Int32 → Option (Int32)} (hk : ∀ (e1 : Int32), (k e1 = some a → GG X md_X1_driest (rmD 1) (gv_Z X (rmD 1).cells (rmD 1).slots (some (.int a)) (mkW I F J K)) 0 0 49 [(1, .int e1)] [] (mkW I F J K))) : ∀ (n : Nat) (x1 : Int32) (x2 : Int32), L_X1_driest_12_4 k I F n x1 x2 = some a → GG X md_X1_driest (rmD 1) (gv_Z X (rmD 1).cells (rmD 1).slots (some (.int a)) (mkW I F J K)) 0 0 4 [(0, .ref 12), (1, .int x1), (2, .int x2)] [] (mkW I F J K) := by
  intro n
  induction n with
  | zero =>
    intro x1 x2 h
    rw [L_X1_driest_12_4] at h
    cases h
  | succ n ih =>
    intro x1 x2 h
    rw [L_X1_driest_12_4] at h
    refine G_iload_n (pc2 := 5) 2 rfl dX1_driest_4 rfl rfl ?_
    refine G_aload_n (pc2 := 6) 0 rfl dX1_driest_5 rfl rfl ?_
    refine T_12_0 (pc2 := 9) kw_256 dX1_driest_6 rfl ?_
    refine T_13_3 (pc2 := 12) kw_117 dX1_driest_9 rfl ?_
    refine B_icmp_ge (tgt := 49) (pc2 := 15) h dX1_driest_12 (by decide) rfl (fun _ h => ?_) (fun _ h => ?_)
    · refine G_sub (ls' := [(1, .int x1)]) [1] rfl ?_
      exact hk x1 h
    · refine G_iload_n (pc2 := 16) 1 rfl dX1_driest_15 rfl rfl ?_
      refine G_iconst (pc2 := 17) dX1_driest_16 ic_m1 rfl ?_
      refine jn_e (Gj := True) (fun (j : Int32 → Option (Int32)) => ∀ (x1_225 : Int32), j x1_225 = some a → GG X md_X1_driest (rmD 1) (gv_Z X (rmD 1).cells (rmD 1).slots (some (.int a)) (mkW I F J K)) 0 0 43 [(0, .ref 12), (1, .int x1_225), (2, .int x2)] [] (mkW I F J K)) h (fun x1_225 h => ?_) (fun j43_224 hj43_224 h => ?_)
      · refine B_iinc (pc2 := 46) 2 (fun x2_226 => [(2, .int x2_226), (0, .ref 12), (1, .int x1_225)]) h rfl dX1_driest_43 ic_1 (by decide) (fun _ => rfl) rfl (fun x2_226 h => ?_)
        refine G_goto (tgt := 4) dX1_driest_46 (by decide) ?_
        refine G_sub (ls' := [(0, .ref 12), (1, .int x1_225), (2, .int x2_226)]) [1, 2, 0] rfl ?_
        exact ih x1_225 x2_226 h
      refine jn_e (Gj := True) (fun (j : Unit → Option (Int32)) => ∀ (_u : Unit), j _u = some a → GG X md_X1_driest (rmD 1) (gv_Z X (rmD 1).cells (rmD 1).slots (some (.int a)) (mkW I F J K)) 0 0 41 [(0, .ref 12), (2, .int x2)] [] (mkW I F J K)) h (fun _u h => ?_) (fun j41_227 hj41_227 h => ?_)
      · refine G_iload_n (pc2 := 42) 1 rfl dX1_driest_41 rfl rfl ?_
        refine B_istore_n (pc2 := 43) (fun x1_228 => [(1, .int x1_228), (0, .ref 12), (2, .int x2)]) h dX1_driest_42 rfl (by decide) (fun _ => rfl) rfl (fun x1_228 h => ?_)
        refine G_sub (ls' := [(0, .ref 12), (1, .int x1_228), (2, .int x2)]) [1, 0, 2] rfl ?_
        exact hj43_224 x1_228 h
      refine B_icmp_eq (tgt := 41) (pc2 := 20) h dX1_driest_17 (by decide) rfl (fun _ h => ?_) (fun _ h => ?_)
      · refine G_sub (ls' := [(0, .ref 12), (2, .int x2)]) [0, 2] rfl ?_
        exact hj41_227 () h
      · refine G_aload_n (pc2 := 21) 0 rfl dX1_driest_20 rfl rfl ?_
        refine T_12_1 (pc2 := 24) kw_259 dX1_driest_21 rfl ?_
        refine T_22_8 (pc2 := 27) kw_233 dX1_driest_24 rfl ?_
        refine G_iload_n (pc2 := 28) 2 rfl dX1_driest_27 rfl rfl ?_
        refine AC (pc2 := 29) (fa_29 _ _ _ _) h dX1_driest_28 rfl (fun h => ?_)
        refine G_aload_n (pc2 := 30) 0 rfl dX1_driest_29 rfl rfl ?_
        refine T_12_1 (pc2 := 33) kw_259 dX1_driest_30 rfl ?_
        refine T_22_8 (pc2 := 36) kw_233 dX1_driest_33 rfl ?_
        refine G_iload_n (pc2 := 37) 1 rfl dX1_driest_36 rfl rfl ?_
        refine AC (pc2 := 38) (fa_29 _ _ _ _) h dX1_driest_37 rfl (fun h => ?_)
        refine B_icmp_ge (tgt := 43) (pc2 := 41) h dX1_driest_38 (by decide) rfl (fun _ h => ?_) (fun _ h => ?_)
        · exact hj43_224 x1 h
        · refine G_sub (ls' := [(0, .ref 12), (2, .int x2)]) [0, 2] rfl ?_
          exact hj41_227 () h
set_option maxRecDepth 100000 in
set_option maxHeartbeats 4000000 in
theorem c_X1_driest_12 {I : WI} {F : WF} {J : WI} {K : WF} {a : Int32} (h : f_X1_driest_12  I F = some a) : CT md_X1_driest yX1_driest (rmD 1) [.ref 12] (mkW I F J K) (some (.int a)) (mkW I F J K) := CT_of pn_X1 ⟨rfl, rfl⟩ (Nat.le_of_ble_eq_true rfl) (fun X => by
  show GG X md_X1_driest (rmD 1) _ 0 0 0 [(0, .ref 12)] [] (mkW I F J K)
  unfold f_X1_driest_12 at h
  refine G_iconst (pc2 := 1) dX1_driest_0 ic_m1 rfl ?_
  refine B_istore_n (pc2 := 2) (fun x1_222 => [(1, .int x1_222), (0, .ref 12)]) h dX1_driest_1 rfl (by decide) (fun _ => rfl) rfl (fun x1_222 h => ?_)
  refine G_iconst (pc2 := 3) dX1_driest_2 ic_0 rfl ?_
  refine B_istore_n (pc2 := 4) (fun x2_223 => [(2, .int x2_223), (1, .int x1_222), (0, .ref 12)]) h dX1_driest_3 rfl (by decide) (fun _ => rfl) rfl (fun x2_223 h => ?_)
  refine G_sub (ls' := [(0, .ref 12), (1, .int x1_222), (2, .int x2_223)]) [2, 1, 0] rfl ?_
  refine g_L_X1_driest_12_4 (fun x1_229 h => ?_) FU x1_222 x2_223 h
  refine G_iload_n (pc2 := 50) 0 rfl dX1_driest_49 rfl rfl ?_
  have ha := Option.some.inj h
  subst ha
  exact G_iret rfl dX1_driest_50)
def f_X10_told (x1 : Int32) (I : WI) (F : WF) : Option (Int32 × WF) :=
  if x1 = (0 : Int32) then (some ((I 48), F))
  else if x1 = (1 : Int32) then (some ((I 49), F))
  else if x1 = (2 : Int32) then (some ((I 50), F))
  else if x1 = (3 : Int32) then (some ((I 51), F))
  else if x1 = (4 : Int32) then (some ((I 38), F))
  else if x1 = (5 : Int32) then (some ((I 0), F))
  else if x1 = (6 : Int32) then (Option.bind (f_X1_keptBridges_12 I F) fun c_167 =>
  some (c_167, F))
  else if x1 = (7 : Int32) then (Option.bind (f_X9_bottles_31 I F) fun c_198 =>
  some (c_198.1, c_198.2))
  else if x1 = (8 : Int32) then (Option.bind (f_X9_farthest_31 I F) fun c_211 =>
  some (c_211.1, c_211.2))
  else if x1 = (9 : Int32) then (Option.bind (f_X1_trusted_12 I F) fun c_220 =>
  some (c_220, F))
  else if x1 = (10 : Int32) then (Option.bind (f_X1_driest_12 I F) fun c_230 =>
  some (c_230, F))
  else if x1 = (11 : Int32) then (some ((I 1), F))
  else if x1 = (12 : Int32) then (some ((I 57), F))
  else if x1 = (13 : Int32) then (some ((I 60), F))
  else if x1 = (14 : Int32) then (some ((I 61), F))
  else some ((-1000000002 : Int32), F)
set_option maxRecDepth 100000 in
set_option maxHeartbeats 4000000 in
theorem c_X10_told {x1 : Int32} {I : WI} {F : WF} {J : WI} {K : WF} {a : Int32 × WF} (h : f_X10_told x1 I F = some a) : CT md_X10_told yX10_told (rmD 5) [.ref 0, .int x1] (mkW I F J K) (some (.int a.1)) (mkW I a.2 J K) := CT_of pn_X10 ⟨rfl, rfl⟩ (Nat.le_of_ble_eq_true rfl) (fun X => by
  show GG X md_X10_told (rmD 5) _ 0 0 0 [(0, .ref 0), (1, .int x1)] [] (mkW I F J K)
  unfold f_X10_told at h
  refine G_iload_n (pc2 := 1) 1 rfl dX10_told_0 rfl rfl ?_
  by_cases qx_154 : x1 = (0 : Int32)
  · have h := ite_t h qx_154
    refine B_tabIn (tgt := 76) (off := 75) (0 : Int32) qx_154 dX10_told_1 (by decide) (by decide) (by decide) (by decide) ?_
    refine G_aload_n (pc2 := 77) 0 rfl dX10_told_76 rfl rfl ?_
    refine T_0_2 (pc2 := 80) kw_402 dX10_told_77 rfl ?_
    refine T_13_0 (pc2 := 83) kw_99 dX10_told_80 rfl ?_
    have ha := Option.some.inj h
    subst ha
    exact G_iret rfl dX10_told_83
  have h := ite_f h qx_154
  by_cases qx_155 : x1 = (1 : Int32)
  · have h := ite_t h qx_155
    refine B_tabIn (tgt := 84) (off := 83) (1 : Int32) qx_155 dX10_told_1 (by decide) (by decide) (by decide) (by decide) ?_
    refine G_aload_n (pc2 := 85) 0 rfl dX10_told_84 rfl rfl ?_
    refine T_0_2 (pc2 := 88) kw_402 dX10_told_85 rfl ?_
    refine T_13_1 (pc2 := 91) kw_104 dX10_told_88 rfl ?_
    have ha := Option.some.inj h
    subst ha
    exact G_iret rfl dX10_told_91
  have h := ite_f h qx_155
  by_cases qx_156 : x1 = (2 : Int32)
  · have h := ite_t h qx_156
    refine B_tabIn (tgt := 92) (off := 91) (2 : Int32) qx_156 dX10_told_1 (by decide) (by decide) (by decide) (by decide) ?_
    refine G_aload_n (pc2 := 93) 0 rfl dX10_told_92 rfl rfl ?_
    refine T_0_2 (pc2 := 96) kw_402 dX10_told_93 rfl ?_
    refine T_13_2 (pc2 := 99) kw_111 dX10_told_96 rfl ?_
    have ha := Option.some.inj h
    subst ha
    exact G_iret rfl dX10_told_99
  have h := ite_f h qx_156
  by_cases qx_157 : x1 = (3 : Int32)
  · have h := ite_t h qx_157
    refine B_tabIn (tgt := 100) (off := 99) (3 : Int32) qx_157 dX10_told_1 (by decide) (by decide) (by decide) (by decide) ?_
    refine G_aload_n (pc2 := 101) 0 rfl dX10_told_100 rfl rfl ?_
    refine T_0_2 (pc2 := 104) kw_402 dX10_told_101 rfl ?_
    refine T_13_3 (pc2 := 107) kw_115 dX10_told_104 rfl ?_
    have ha := Option.some.inj h
    subst ha
    exact G_iret rfl dX10_told_107
  have h := ite_f h qx_157
  by_cases qx_158 : x1 = (4 : Int32)
  · have h := ite_t h qx_158
    refine B_tabIn (tgt := 108) (off := 107) (4 : Int32) qx_158 dX10_told_1 (by decide) (by decide) (by decide) (by decide) ?_
    refine G_aload_n (pc2 := 109) 0 rfl dX10_told_108 rfl rfl ?_
    refine T_0_0 (pc2 := 112) kw_400 dX10_told_109 rfl ?_
    refine T_1_1 (pc2 := 115) kw_170 dX10_told_112 rfl ?_
    have ha := Option.some.inj h
    subst ha
    exact G_iret rfl dX10_told_115
  have h := ite_f h qx_158
  by_cases qx_159 : x1 = (5 : Int32)
  · have h := ite_t h qx_159
    refine B_tabIn (tgt := 116) (off := 115) (5 : Int32) qx_159 dX10_told_1 (by decide) (by decide) (by decide) (by decide) ?_
    refine G_aload_n (pc2 := 117) 0 rfl dX10_told_116 rfl rfl ?_
    refine T_0_3 (pc2 := 120) kw_403 dX10_told_117 rfl ?_
    refine T_22_0 (pc2 := 123) kw_209 dX10_told_120 rfl ?_
    have ha := Option.some.inj h
    subst ha
    exact G_iret rfl dX10_told_123
  have h := ite_f h qx_159
  by_cases qx_168 : x1 = (6 : Int32)
  · have h := ite_t h qx_168
    refine B_tabIn (tgt := 124) (off := 123) (6 : Int32) qx_168 dX10_told_1 (by decide) (by decide) (by decide) (by decide) ?_
    refine G_aload_n (pc2 := 125) 0 rfl dX10_told_124 rfl rfl ?_
    refine T_0_1 (pc2 := 128) kw_401 dX10_told_125 rfl ?_
    obtain ⟨c_167, hc_167, h⟩ := ob_e h
    refine B_callV (pc2 := 131) si_X10_137 (c_X1_keptBridges_12 hc_167) (qo_12 _ _ _ _) rfl rfl rfl (st := []) (stq := [.int c_167]) rfl (by decide) (by decide) (Nat.le_of_ble_eq_true rfl) mkW_ll dX10_told_128 rfl rfl ?_ ⟨rfl, rfl⟩
    have ha := Option.some.inj h
    subst ha
    exact G_iret rfl dX10_told_131
  have h := ite_f h qx_168
  by_cases qx_199 : x1 = (7 : Int32)
  · have h := ite_t h qx_199
    refine B_tabIn (tgt := 132) (off := 131) (7 : Int32) qx_199 dX10_told_1 (by decide) (by decide) (by decide) (by decide) ?_
    refine G_aload_n (pc2 := 133) 0 rfl dX10_told_132 rfl rfl ?_
    refine T_0_4 (pc2 := 136) kw_404 dX10_told_133 rfl ?_
    obtain ⟨c_198, hc_198, h⟩ := ob_e h
    refine B_callV (pc2 := 139) si_X10_141 (c_X9_bottles_31 hc_198) (qo_31 _ _ _ _) rfl rfl rfl (st := []) (stq := [.int c_198.1]) rfl (by decide) (by decide) (Nat.le_of_ble_eq_true rfl) mkW_ll dX10_told_136 rfl rfl ?_ ⟨rfl, rfl⟩
    have ha := Option.some.inj h
    subst ha
    exact G_iret rfl dX10_told_139
  have h := ite_f h qx_199
  by_cases qx_212 : x1 = (8 : Int32)
  · have h := ite_t h qx_212
    refine B_tabIn (tgt := 140) (off := 139) (8 : Int32) qx_212 dX10_told_1 (by decide) (by decide) (by decide) (by decide) ?_
    refine G_aload_n (pc2 := 141) 0 rfl dX10_told_140 rfl rfl ?_
    refine T_0_4 (pc2 := 144) kw_404 dX10_told_141 rfl ?_
    obtain ⟨c_211, hc_211, h⟩ := ob_e h
    refine B_callV (pc2 := 147) si_X10_144 (c_X9_farthest_31 hc_211) (qo_31 _ _ _ _) rfl rfl rfl (st := []) (stq := [.int c_211.1]) rfl (by decide) (by decide) (Nat.le_of_ble_eq_true rfl) mkW_ll dX10_told_144 rfl rfl ?_ ⟨rfl, rfl⟩
    have ha := Option.some.inj h
    subst ha
    exact G_iret rfl dX10_told_147
  have h := ite_f h qx_212
  by_cases qx_221 : x1 = (9 : Int32)
  · have h := ite_t h qx_221
    refine B_tabIn (tgt := 148) (off := 147) (9 : Int32) qx_221 dX10_told_1 (by decide) (by decide) (by decide) (by decide) ?_
    refine G_aload_n (pc2 := 149) 0 rfl dX10_told_148 rfl rfl ?_
    refine T_0_1 (pc2 := 152) kw_401 dX10_told_149 rfl ?_
    obtain ⟨c_220, hc_220, h⟩ := ob_e h
    refine B_callV (pc2 := 155) si_X10_147 (c_X1_trusted_12 hc_220) (qo_12 _ _ _ _) rfl rfl rfl (st := []) (stq := [.int c_220]) rfl (by decide) (by decide) (Nat.le_of_ble_eq_true rfl) mkW_ll dX10_told_152 rfl rfl ?_ ⟨rfl, rfl⟩
    have ha := Option.some.inj h
    subst ha
    exact G_iret rfl dX10_told_155
  have h := ite_f h qx_221
  by_cases qx_231 : x1 = (10 : Int32)
  · have h := ite_t h qx_231
    refine B_tabIn (tgt := 156) (off := 155) (10 : Int32) qx_231 dX10_told_1 (by decide) (by decide) (by decide) (by decide) ?_
    refine G_aload_n (pc2 := 157) 0 rfl dX10_told_156 rfl rfl ?_
    refine T_0_1 (pc2 := 160) kw_401 dX10_told_157 rfl ?_
    obtain ⟨c_230, hc_230, h⟩ := ob_e h
    refine B_callV (pc2 := 163) si_X10_150 (c_X1_driest_12 hc_230) (qo_12 _ _ _ _) rfl rfl rfl (st := []) (stq := [.int c_230]) rfl (by decide) (by decide) (Nat.le_of_ble_eq_true rfl) mkW_ll dX10_told_160 rfl rfl ?_ ⟨rfl, rfl⟩
    have ha := Option.some.inj h
    subst ha
    exact G_iret rfl dX10_told_163
  have h := ite_f h qx_231
  by_cases qx_232 : x1 = (11 : Int32)
  · have h := ite_t h qx_232
    refine B_tabIn (tgt := 164) (off := 163) (11 : Int32) qx_232 dX10_told_1 (by decide) (by decide) (by decide) (by decide) ?_
    refine G_aload_n (pc2 := 165) 0 rfl dX10_told_164 rfl rfl ?_
    refine T_0_3 (pc2 := 168) kw_403 dX10_told_165 rfl ?_
    refine T_22_1 (pc2 := 171) kw_211 dX10_told_168 rfl ?_
    have ha := Option.some.inj h
    subst ha
    exact G_iret rfl dX10_told_171
  have h := ite_f h qx_232
  by_cases qx_233 : x1 = (12 : Int32)
  · have h := ite_t h qx_233
    refine B_tabIn (tgt := 172) (off := 171) (12 : Int32) qx_233 dX10_told_1 (by decide) (by decide) (by decide) (by decide) ?_
    refine G_aload_n (pc2 := 173) 0 rfl dX10_told_172 rfl rfl ?_
    refine T_0_6 (pc2 := 176) kw_406 dX10_told_173 rfl ?_
    refine T_38_0 (pc2 := 179) kw_331 dX10_told_176 rfl ?_
    have ha := Option.some.inj h
    subst ha
    exact G_iret rfl dX10_told_179
  have h := ite_f h qx_233
  by_cases qx_234 : x1 = (13 : Int32)
  · have h := ite_t h qx_234
    refine B_tabIn (tgt := 180) (off := 179) (13 : Int32) qx_234 dX10_told_1 (by decide) (by decide) (by decide) (by decide) ?_
    refine G_aload_n (pc2 := 181) 0 rfl dX10_told_180 rfl rfl ?_
    refine T_0_7 (pc2 := 184) kw_407 dX10_told_181 rfl ?_
    refine T_39_0 (pc2 := 187) kw_350 dX10_told_184 rfl ?_
    have ha := Option.some.inj h
    subst ha
    exact G_iret rfl dX10_told_187
  have h := ite_f h qx_234
  by_cases qx_235 : x1 = (14 : Int32)
  · have h := ite_t h qx_235
    refine B_tabIn (tgt := 188) (off := 187) (14 : Int32) qx_235 dX10_told_1 (by decide) (by decide) (by decide) (by decide) ?_
    refine G_aload_n (pc2 := 189) 0 rfl dX10_told_188 rfl rfl ?_
    refine T_0_8 (pc2 := 192) kw_408 dX10_told_189 rfl ?_
    refine T_42_0 (pc2 := 195) kw_370 dX10_told_192 rfl ?_
    have ha := Option.some.inj h
    subst ha
    exact G_iret rfl dX10_told_195
  have h := ite_f h qx_235
  refine G_tableOut (tgt := 196) dX10_told_1 (tab_out _ 0 14 (by decide) (fun j q1 q2 => by match j, q1, q2 with | 0, _, _ => exact qx_154 | 1, _, _ => exact qx_155 | 2, _, _ => exact qx_156 | 3, _, _ => exact qx_157 | 4, _, _ => exact qx_158 | 5, _, _ => exact qx_159 | 6, _, _ => exact qx_168 | 7, _, _ => exact qx_199 | 8, _, _ => exact qx_212 | 9, _, _ => exact qx_221 | 10, _, _ => exact qx_231 | 11, _, _ => exact qx_232 | 12, _, _ => exact qx_233 | 13, _, _ => exact qx_234 | 14, _, _ => exact qx_235 | (j + 15), _, q => exact absurd q (by omega))) (by decide) ?_
  refine G_ldc (pc2 := 198) kw_435 dX10_told_196 rfl ?_
  have ha := Option.some.inj h
  subst ha
  exact G_iret rfl dX10_told_198)
def f_X7_hasBridge_13 (x1 : Int32) (I : WI) (F : WF) : Option (Int32) :=
  if x1 < 0 then (some (0 : Int32))
  else (if (I 49) ≤ x1 then (some (0 : Int32))
  else (some (1 : Int32)))
set_option maxRecDepth 100000 in
set_option maxHeartbeats 4000000 in
theorem c_X7_hasBridge_13 {x1 : Int32} {I : WI} {F : WF} {J : WI} {K : WF} {a : Int32} (h : f_X7_hasBridge_13 x1 I F = some a) : CT md_X7_hasBridge yX7_hasBridge (rmD 1) [.ref 13, .int x1] (mkW I F J K) (some (.int a)) (mkW I F J K) := CT_of pn_X7 ⟨rfl, rfl⟩ (Nat.le_of_ble_eq_true rfl) (fun X => by
  show GG X md_X7_hasBridge (rmD 1) _ 0 0 0 [(0, .ref 13), (1, .int x1)] [] (mkW I F J K)
  unfold f_X7_hasBridge_13 at h
  refine G_iload_n (pc2 := 1) 1 rfl dX7_hasBridge_0 rfl rfl ?_
  refine B_if_lt (tgt := 16) (pc2 := 4) h dX7_hasBridge_1 (by decide) rfl (fun _ h => ?_) (fun _ h => ?_)
  · refine G_iconst (pc2 := 17) dX7_hasBridge_16 ic_0 rfl ?_
    have ha := Option.some.inj h
    subst ha
    exact G_zret (v := (0 : Int32)) rfl (by decide) dX7_hasBridge_17
  · refine G_iload_n (pc2 := 5) 1 rfl dX7_hasBridge_4 rfl rfl ?_
    refine G_aload_n (pc2 := 6) 0 rfl dX7_hasBridge_5 rfl rfl ?_
    refine T_13_1 (pc2 := 9) kw_100 dX7_hasBridge_6 rfl ?_
    refine B_icmp_ge (tgt := 16) (pc2 := 12) h dX7_hasBridge_9 (by decide) rfl (fun _ h => ?_) (fun _ h => ?_)
    · refine G_iconst (pc2 := 17) dX7_hasBridge_16 ic_0 rfl ?_
      have ha := Option.some.inj h
      subst ha
      exact G_zret (v := (0 : Int32)) rfl (by decide) dX7_hasBridge_17
    · refine G_iconst (pc2 := 13) dX7_hasBridge_12 ic_1 rfl ?_
      refine G_goto (tgt := 17) dX7_hasBridge_13 (by decide) ?_
      have ha := Option.some.inj h
      subst ha
      exact G_zret (v := (1 : Int32)) rfl (by decide) dX7_hasBridge_17)
def L_X1_keeperAt_12_2 (k : Option (Int32)) (x1 : Int32) (I : WI) (F : WF) : Nat → Int32 → Option (Int32)
  | 0, _ => none
  | n + 1, x2 =>
  if (I 50) ≤ x2 then (k)
  else (ixG x2 9 (
  if (F 1 x2.toNatClampNeg) = x1 then (some x2)
  else (bnd (x2 + (1 : Int32)) fun x2_242 =>
  L_X1_keeperAt_12_2 k x1 I F n x2_242)))
def f_X1_keeperAt_12 (x1 : Int32) (I : WI) (F : WF) : Option (Int32) :=
  bnd (0 : Int32) fun x2_241 =>
  L_X1_keeperAt_12_2 (some (-1 : Int32)) x1 I F FU x2_241
set_option maxRecDepth 100000 in
set_option maxHeartbeats 4000000 in
theorem g_L_X1_keeperAt_12_2 {X : XT} {x1 : Int32} {I : WI} {F : WF} {J : WI} {K : WF} {a : Int32} {k : Option (Int32)} (hk : (k = some a → GG X md_X1_keeperAt (rmD 1) (gv_Z X (rmD 1).cells (rmD 1).slots (some (.int a)) (mkW I F J K)) 0 0 34 [] [] (mkW I F J K))) : ∀ (n : Nat) (x2 : Int32), L_X1_keeperAt_12_2 k x1 I F n x2 = some a → GG X md_X1_keeperAt (rmD 1) (gv_Z X (rmD 1).cells (rmD 1).slots (some (.int a)) (mkW I F J K)) 0 0 2 [(0, .ref 12), (1, .int x1), (2, .int x2)] [] (mkW I F J K) := by
  intro n
  induction n with
  | zero =>
    intro x2 h
    rw [L_X1_keeperAt_12_2] at h
    cases h
  | succ n ih =>
    intro x2 h
    rw [L_X1_keeperAt_12_2] at h
    refine G_iload_n (pc2 := 3) 2 rfl dX1_keeperAt_2 rfl rfl ?_
    refine G_aload_n (pc2 := 4) 0 rfl dX1_keeperAt_3 rfl rfl ?_
    refine T_12_0 (pc2 := 7) kw_256 dX1_keeperAt_4 rfl ?_
    refine T_13_2 (pc2 := 10) kw_110 dX1_keeperAt_7 rfl ?_
    refine B_icmp_ge (tgt := 34) (pc2 := 13) h dX1_keeperAt_10 (by decide) rfl (fun _ h => ?_) (fun _ h => ?_)
    · refine G_sub (ls' := []) [] rfl ?_
      exact hk  h
    · refine G_aload_n (pc2 := 14) 0 rfl dX1_keeperAt_13 rfl rfl ?_
      refine T_12_1 (pc2 := 17) kw_259 dX1_keeperAt_14 rfl ?_
      refine T_22_3 (pc2 := 20) kw_216 dX1_keeperAt_17 rfl ?_
      refine G_iload_n (pc2 := 21) 2 rfl dX1_keeperAt_20 rfl rfl ?_
      refine AC (pc2 := 22) (fa_24 _ _ _ _) h dX1_keeperAt_21 rfl (fun h => ?_)
      refine G_iload_n (pc2 := 23) 1 rfl dX1_keeperAt_22 rfl rfl ?_
      refine B_icmp_ne (tgt := 28) (pc2 := 26) h dX1_keeperAt_23 (by decide) rfl (fun _ h => ?_) (fun _ h => ?_)
      · refine B_iinc (pc2 := 31) 2 (fun x2_242 => [(2, .int x2_242), (0, .ref 12), (1, .int x1)]) h rfl dX1_keeperAt_28 ic_1 (by decide) (fun _ => rfl) rfl (fun x2_242 h => ?_)
        refine G_goto (tgt := 2) dX1_keeperAt_31 (by decide) ?_
        refine G_sub (ls' := [(0, .ref 12), (1, .int x1), (2, .int x2_242)]) [1, 2, 0] rfl ?_
        exact ih x2_242 h
      · refine G_iload_n (pc2 := 27) 2 rfl dX1_keeperAt_26 rfl rfl ?_
        have ha := Option.some.inj h
        subst ha
        exact G_iret rfl dX1_keeperAt_27
set_option maxRecDepth 100000 in
set_option maxHeartbeats 4000000 in
theorem c_X1_keeperAt_12 {x1 : Int32} {I : WI} {F : WF} {J : WI} {K : WF} {a : Int32} (h : f_X1_keeperAt_12 x1 I F = some a) : CT md_X1_keeperAt yX1_keeperAt (rmD 1) [.ref 12, .int x1] (mkW I F J K) (some (.int a)) (mkW I F J K) := CT_of pn_X1 ⟨rfl, rfl⟩ (Nat.le_of_ble_eq_true rfl) (fun X => by
  show GG X md_X1_keeperAt (rmD 1) _ 0 0 0 [(0, .ref 12), (1, .int x1)] [] (mkW I F J K)
  unfold f_X1_keeperAt_12 at h
  refine G_iconst (pc2 := 1) dX1_keeperAt_0 ic_0 rfl ?_
  refine B_istore_n (pc2 := 2) (fun x2_241 => [(2, .int x2_241), (0, .ref 12), (1, .int x1)]) h dX1_keeperAt_1 rfl (by decide) (fun _ => rfl) rfl (fun x2_241 h => ?_)
  refine G_sub (ls' := [(0, .ref 12), (1, .int x1), (2, .int x2_241)]) [1, 2, 0] rfl ?_
  refine g_L_X1_keeperAt_12_2 (fun h => ?_) FU x2_241 h
  refine G_iconst (pc2 := 35) dX1_keeperAt_34 ic_m1 rfl ?_
  have ha := Option.some.inj h
  subst ha
  exact G_iret rfl dX1_keeperAt_35)
def f_X1_timeIfTired_12 (x1 : Int32) (x2 : Int32) (I : WI) (F : WF) : Option (Int32) :=
  ixG x1 9 (
  bnd (F 0 x1.toNatClampNeg) fun x3_247 =>
  ixG x1 9 (
  if (F 165 x1.toNatClampNeg) = (1 : Int32) then (some (x3_247 + (((I 0) - (I 0) / (2 : Int32) * (2 : Int32)) * (2 : Int32))))
  else if (F 165 x1.toNatClampNeg) = (2 : Int32) then (some (x3_247 + x2))
  else if (F 165 x1.toNatClampNeg) = (3 : Int32) then (some (x3_247 + (x2 / (3 : Int32))))
  else some x3_247))
set_option maxRecDepth 100000 in
set_option maxHeartbeats 4000000 in
theorem c_X1_timeIfTired_12 {x1 : Int32} {x2 : Int32} {I : WI} {F : WF} {J : WI} {K : WF} {a : Int32} (h : f_X1_timeIfTired_12 x1 x2 I F = some a) : CT md_X1_timeIfTired yX1_timeIfTired (rmD 1) [.ref 12, .int x1, .int x2] (mkW I F J K) (some (.int a)) (mkW I F J K) := CT_of pn_X1 ⟨rfl, rfl⟩ (Nat.le_of_ble_eq_true rfl) (fun X => by
  show GG X md_X1_timeIfTired (rmD 1) _ 0 0 0 [(0, .ref 12), (1, .int x1), (2, .int x2)] [] (mkW I F J K)
  unfold f_X1_timeIfTired_12 at h
  refine G_aload_n (pc2 := 1) 0 rfl dX1_timeIfTired_0 rfl rfl ?_
  refine T_12_1 (pc2 := 4) kw_259 dX1_timeIfTired_1 rfl ?_
  refine T_22_2 (pc2 := 7) kw_213 dX1_timeIfTired_4 rfl ?_
  refine G_iload_n (pc2 := 8) 1 rfl dX1_timeIfTired_7 rfl rfl ?_
  refine AC (pc2 := 9) (fa_23 _ _ _ _) h dX1_timeIfTired_8 rfl (fun h => ?_)
  refine B_istore_n (pc2 := 10) (fun x3_247 => [(3, .int x3_247), (0, .ref 12), (1, .int x1), (2, .int x2)]) h dX1_timeIfTired_9 rfl (by decide) (fun _ => rfl) rfl (fun x3_247 h => ?_)
  refine G_aload_n (pc2 := 11) 1 rfl dX1_timeIfTired_10 rfl rfl ?_
  refine T_12_0 (pc2 := 14) kw_256 dX1_timeIfTired_11 rfl ?_
  refine T_13_8 (pc2 := 17) kw_132 dX1_timeIfTired_14 rfl ?_
  refine G_iload_n (pc2 := 18) 2 rfl dX1_timeIfTired_17 rfl rfl ?_
  refine AC (pc2 := 19) (fa_18 _ _ _ _) h dX1_timeIfTired_18 rfl (fun h => ?_)
  by_cases qx_248 : (F 165 x1.toNatClampNeg) = (1 : Int32)
  · have h := ite_t h qx_248
    refine B_tabIn (tgt := 44) (off := 25) (1 : Int32) qx_248 dX1_timeIfTired_19 (by decide) (by decide) (by decide) (by decide) ?_
    refine G_iload_n (pc2 := 45) 0 rfl dX1_timeIfTired_44 rfl rfl ?_
    refine G_aload_n (pc2 := 46) 1 rfl dX1_timeIfTired_45 rfl rfl ?_
    refine T_12_1 (pc2 := 49) kw_259 dX1_timeIfTired_46 rfl ?_
    refine T_22_0 (pc2 := 52) kw_208 dX1_timeIfTired_49 rfl ?_
    refine G_iconst (pc2 := 53) dX1_timeIfTired_52 ic_2 rfl ?_
    refine G_irem (pc2 := 54) dX1_timeIfTired_53 (by decide) rfl ?_
    refine G_iconst (pc2 := 55) dX1_timeIfTired_54 ic_2 rfl ?_
    refine G_imul (pc2 := 56) dX1_timeIfTired_55 rfl ?_
    refine G_iadd (pc2 := 57) dX1_timeIfTired_56 rfl ?_
    have ha := Option.some.inj h
    subst ha
    exact G_iret rfl dX1_timeIfTired_57
  have h := ite_f h qx_248
  by_cases qx_249 : (F 165 x1.toNatClampNeg) = (2 : Int32)
  · have h := ite_t h qx_249
    refine B_tabIn (tgt := 58) (off := 39) (2 : Int32) qx_249 dX1_timeIfTired_19 (by decide) (by decide) (by decide) (by decide) ?_
    refine G_iload_n (pc2 := 59) 0 rfl dX1_timeIfTired_58 rfl rfl ?_
    refine G_iload_n (pc2 := 60) 3 rfl dX1_timeIfTired_59 rfl rfl ?_
    refine G_iadd (pc2 := 61) dX1_timeIfTired_60 rfl ?_
    have ha := Option.some.inj h
    subst ha
    exact G_iret rfl dX1_timeIfTired_61
  have h := ite_f h qx_249
  by_cases qx_250 : (F 165 x1.toNatClampNeg) = (3 : Int32)
  · have h := ite_t h qx_250
    refine B_tabIn (tgt := 62) (off := 43) (3 : Int32) qx_250 dX1_timeIfTired_19 (by decide) (by decide) (by decide) (by decide) ?_
    refine G_iload_n (pc2 := 63) 0 rfl dX1_timeIfTired_62 rfl rfl ?_
    refine G_iload_n (pc2 := 64) 3 rfl dX1_timeIfTired_63 rfl rfl ?_
    refine G_iconst (pc2 := 65) dX1_timeIfTired_64 ic_3 rfl ?_
    refine G_idiv (pc2 := 66) dX1_timeIfTired_65 (by decide) rfl ?_
    refine G_iadd (pc2 := 67) dX1_timeIfTired_66 rfl ?_
    have ha := Option.some.inj h
    subst ha
    exact G_iret rfl dX1_timeIfTired_67
  have h := ite_f h qx_250
  refine G_tableOut (tgt := 68) dX1_timeIfTired_19 (tab_out _ 1 3 (by decide) (fun j q1 q2 => by match j, q1, q2 with | 0, q, _ => exact absurd q (by decide) | 1, _, _ => exact qx_248 | 2, _, _ => exact qx_249 | 3, _, _ => exact qx_250 | (j + 4), _, q => exact absurd q (by omega))) (by decide) ?_
  refine G_iload_n (pc2 := 69) 0 rfl dX1_timeIfTired_68 rfl rfl ?_
  have ha := Option.some.inj h
  subst ha
  exact G_iret rfl dX1_timeIfTired_69)
def f_X1_timeOf_12 (x1 : Int32) (I : WI) (F : WF) : Option (Int32) :=
  ixG x1 9 (
  Option.bind (f_X1_timeIfTired_12 x1 (F 2 x1.toNatClampNeg) I F) fun c_251 =>
  some c_251)
set_option maxRecDepth 100000 in
set_option maxHeartbeats 4000000 in
theorem c_X1_timeOf_12 {x1 : Int32} {I : WI} {F : WF} {J : WI} {K : WF} {a : Int32} (h : f_X1_timeOf_12 x1 I F = some a) : CT md_X1_timeOf yX1_timeOf (rmD 2) [.ref 12, .int x1] (mkW I F J K) (some (.int a)) (mkW I F J K) := CT_of pn_X1 ⟨rfl, rfl⟩ (Nat.le_of_ble_eq_true rfl) (fun X => by
  show GG X md_X1_timeOf (rmD 2) _ 0 0 0 [(0, .ref 12), (1, .int x1)] [] (mkW I F J K)
  unfold f_X1_timeOf_12 at h
  refine G_aload_n (pc2 := 1) 0 rfl dX1_timeOf_0 rfl rfl ?_
  refine G_iload_n (pc2 := 2) 1 rfl dX1_timeOf_1 rfl rfl ?_
  refine G_aload_n (pc2 := 3) 0 rfl dX1_timeOf_2 rfl rfl ?_
  refine T_12_1 (pc2 := 6) kw_259 dX1_timeOf_3 rfl ?_
  refine T_22_4 (pc2 := 9) kw_219 dX1_timeOf_6 rfl ?_
  refine G_iload_n (pc2 := 10) 1 rfl dX1_timeOf_9 rfl rfl ?_
  refine AC (pc2 := 11) (fa_25 _ _ _ _) h dX1_timeOf_10 rfl (fun h => ?_)
  obtain ⟨c_251, hc_251, h⟩ := ob_e h
  refine B_callV (pc2 := 14) si_X1_29 (c_X1_timeIfTired_12 hc_251) (qo_12 _ _ _ _) rfl rfl rfl (st := []) (stq := [.int c_251]) rfl (by decide) (by decide) (Nat.le_of_ble_eq_true rfl) mkW_ll dX1_timeOf_11 rfl rfl ?_ ⟨rfl, rfl⟩
  have ha := Option.some.inj h
  subst ha
  exact G_iret rfl dX1_timeOf_14)
def f_X1_timeAt_12 (x1 : Int32) (I : WI) (F : WF) : Option (Int32) :=
  Option.bind (f_X1_keeperAt_12 x1 I F) fun c_245 =>
  bnd c_245 fun x2_246 =>
  if x2_246 = (-1 : Int32) then (some (-1 : Int32))
  else (Option.bind (f_X1_timeOf_12 x2_246 I F) fun c_252 =>
  some c_252)
set_option maxRecDepth 100000 in
set_option maxHeartbeats 4000000 in
theorem c_X1_timeAt_12 {x1 : Int32} {I : WI} {F : WF} {J : WI} {K : WF} {a : Int32} (h : f_X1_timeAt_12 x1 I F = some a) : CT md_X1_timeAt yX1_timeAt (rmD 3) [.ref 12, .int x1] (mkW I F J K) (some (.int a)) (mkW I F J K) := CT_of pn_X1 ⟨rfl, rfl⟩ (Nat.le_of_ble_eq_true rfl) (fun X => by
  show GG X md_X1_timeAt (rmD 3) _ 0 0 0 [(0, .ref 12), (1, .int x1)] [] (mkW I F J K)
  unfold f_X1_timeAt_12 at h
  refine G_aload_n (pc2 := 1) 0 rfl dX1_timeAt_0 rfl rfl ?_
  refine G_iload_n (pc2 := 2) 1 rfl dX1_timeAt_1 rfl rfl ?_
  obtain ⟨c_245, hc_245, h⟩ := ob_e h
  refine B_callV (pc2 := 5) si_X1_63 (c_X1_keeperAt_12 hc_245) (qo_12 _ _ _ _) rfl rfl rfl (st := []) (stq := [.int c_245]) rfl (by decide) (by decide) (Nat.le_of_ble_eq_true rfl) mkW_ll dX1_timeAt_2 rfl rfl ?_ ⟨rfl, rfl⟩
  refine B_istore_n (pc2 := 6) (fun x2_246 => [(2, .int x2_246), (0, .ref 12), (1, .int x1)]) h dX1_timeAt_5 rfl (by decide) (fun _ => rfl) rfl (fun x2_246 h => ?_)
  refine G_iload_n (pc2 := 7) 0 rfl dX1_timeAt_6 rfl rfl ?_
  refine G_iconst (pc2 := 8) dX1_timeAt_7 ic_m1 rfl ?_
  refine B_icmp_ne (tgt := 15) (pc2 := 11) h dX1_timeAt_8 (by decide) rfl (fun _ h => ?_) (fun _ h => ?_)
  · refine G_aload_n (pc2 := 16) 1 rfl dX1_timeAt_15 rfl rfl ?_
    refine G_iload_n (pc2 := 17) 0 rfl dX1_timeAt_16 rfl rfl ?_
    obtain ⟨c_252, hc_252, h⟩ := ob_e h
    refine B_callV (pc2 := 20) si_X1_67 (c_X1_timeOf_12 hc_252) (qo_12 _ _ _ _) rfl rfl rfl (st := []) (stq := [.int c_252]) rfl (by decide) (by decide) (Nat.le_of_ble_eq_true rfl) mkW_ll dX1_timeAt_17 rfl rfl ?_ ⟨rfl, rfl⟩
    have ha := Option.some.inj h
    subst ha
    exact G_iret rfl dX1_timeAt_20
  · refine G_iconst (pc2 := 12) dX1_timeAt_11 ic_m1 rfl ?_
    refine G_goto (tgt := 20) dX1_timeAt_12 (by decide) ?_
    have ha := Option.some.inj h
    subst ha
    exact G_iret rfl dX1_timeAt_20)
def f_X10_bridge (x1 : Int32) (x2 : Int32) (I : WI) (F : WF) : Option (Int32) :=
  Option.bind (f_X7_hasBridge_13 x1 I F) fun c_236 =>
  if c_236 = 0 then (some (-1000000001 : Int32))
  else (if x2 = (0 : Int32) then (ixG x1 9 (
  some (F 161 x1.toNatClampNeg)))
  else if x2 = (1 : Int32) then (ixG x1 9 (
  some (F 162 x1.toNatClampNeg)))
  else if x2 = (2 : Int32) then (ixG x1 9 (
  some (F 163 x1.toNatClampNeg)))
  else if x2 = (3 : Int32) then (ixG x1 9 (
  some (F 164 x1.toNatClampNeg)))
  else if x2 = (4 : Int32) then (Option.bind (f_X1_keeperAt_12 x1 I F) fun c_243 =>
  some c_243)
  else if x2 = (5 : Int32) then (Option.bind (f_X1_timeAt_12 x1 I F) fun c_253 =>
  some c_253)
  else some (-1000000002 : Int32))
set_option maxRecDepth 100000 in
set_option maxHeartbeats 4000000 in
theorem c_X10_bridge {x1 : Int32} {x2 : Int32} {I : WI} {F : WF} {J : WI} {K : WF} {a : Int32} (h : f_X10_bridge x1 x2 I F = some a) : CT md_X10_bridge yX10_bridge (rmD 4) [.ref 0, .int x1, .int x2] (mkW I F J K) (some (.int a)) (mkW I F J K) := CT_of pn_X10 ⟨rfl, rfl⟩ (Nat.le_of_ble_eq_true rfl) (fun X => by
  show GG X md_X10_bridge (rmD 4) _ 0 0 0 [(0, .ref 0), (1, .int x1), (2, .int x2)] [] (mkW I F J K)
  unfold f_X10_bridge at h
  refine G_aload_n (pc2 := 1) 0 rfl dX10_bridge_0 rfl rfl ?_
  refine T_0_2 (pc2 := 4) kw_402 dX10_bridge_1 rfl ?_
  refine G_iload_n (pc2 := 5) 1 rfl dX10_bridge_4 rfl rfl ?_
  obtain ⟨c_236, hc_236, h⟩ := ob_e h
  refine B_callV (pc2 := 8) si_X10_160 (c_X7_hasBridge_13 hc_236) (qo_13 _ _ _ _) rfl rfl rfl (st := []) (stq := [.int c_236]) rfl (by decide) (by decide) (Nat.le_of_ble_eq_true rfl) mkW_ll dX10_bridge_5 rfl rfl ?_ ⟨rfl, rfl⟩
  refine B_if_ne (tgt := 14) (pc2 := 11) h dX10_bridge_8 (by decide) rfl (fun _ h => ?_) (fun _ h => ?_)
  · refine G_iload_n (pc2 := 15) 2 rfl dX10_bridge_14 rfl rfl ?_
    by_cases qx_237 : x2 = (0 : Int32)
    · have h := ite_t h qx_237
      refine B_tabIn (tgt := 52) (off := 37) (0 : Int32) qx_237 dX10_bridge_15 (by decide) (by decide) (by decide) (by decide) ?_
      refine G_aload_n (pc2 := 53) 0 rfl dX10_bridge_52 rfl rfl ?_
      refine T_0_2 (pc2 := 56) kw_402 dX10_bridge_53 rfl ?_
      refine T_13_4 (pc2 := 59) kw_120 dX10_bridge_56 rfl ?_
      refine G_iload_n (pc2 := 60) 1 rfl dX10_bridge_59 rfl rfl ?_
      refine AC (pc2 := 61) (fa_14 _ _ _ _) h dX10_bridge_60 rfl (fun h => ?_)
      have ha := Option.some.inj h
      subst ha
      exact G_iret rfl dX10_bridge_61
    have h := ite_f h qx_237
    by_cases qx_238 : x2 = (1 : Int32)
    · have h := ite_t h qx_238
      refine B_tabIn (tgt := 62) (off := 47) (1 : Int32) qx_238 dX10_bridge_15 (by decide) (by decide) (by decide) (by decide) ?_
      refine G_aload_n (pc2 := 63) 0 rfl dX10_bridge_62 rfl rfl ?_
      refine T_0_2 (pc2 := 66) kw_402 dX10_bridge_63 rfl ?_
      refine T_13_5 (pc2 := 69) kw_123 dX10_bridge_66 rfl ?_
      refine G_iload_n (pc2 := 70) 1 rfl dX10_bridge_69 rfl rfl ?_
      refine AC (pc2 := 71) (fa_15 _ _ _ _) h dX10_bridge_70 rfl (fun h => ?_)
      have ha := Option.some.inj h
      subst ha
      exact G_iret rfl dX10_bridge_71
    have h := ite_f h qx_238
    by_cases qx_239 : x2 = (2 : Int32)
    · have h := ite_t h qx_239
      refine B_tabIn (tgt := 72) (off := 57) (2 : Int32) qx_239 dX10_bridge_15 (by decide) (by decide) (by decide) (by decide) ?_
      refine G_aload_n (pc2 := 73) 0 rfl dX10_bridge_72 rfl rfl ?_
      refine T_0_2 (pc2 := 76) kw_402 dX10_bridge_73 rfl ?_
      refine T_13_6 (pc2 := 79) kw_126 dX10_bridge_76 rfl ?_
      refine G_iload_n (pc2 := 80) 1 rfl dX10_bridge_79 rfl rfl ?_
      refine AC (pc2 := 81) (fa_16 _ _ _ _) h dX10_bridge_80 rfl (fun h => ?_)
      have ha := Option.some.inj h
      subst ha
      exact G_iret rfl dX10_bridge_81
    have h := ite_f h qx_239
    by_cases qx_240 : x2 = (3 : Int32)
    · have h := ite_t h qx_240
      refine B_tabIn (tgt := 82) (off := 67) (3 : Int32) qx_240 dX10_bridge_15 (by decide) (by decide) (by decide) (by decide) ?_
      refine G_aload_n (pc2 := 83) 0 rfl dX10_bridge_82 rfl rfl ?_
      refine T_0_2 (pc2 := 86) kw_402 dX10_bridge_83 rfl ?_
      refine T_13_7 (pc2 := 89) kw_128 dX10_bridge_86 rfl ?_
      refine G_iload_n (pc2 := 90) 1 rfl dX10_bridge_89 rfl rfl ?_
      refine AC (pc2 := 91) (fa_17 _ _ _ _) h dX10_bridge_90 rfl (fun h => ?_)
      have ha := Option.some.inj h
      subst ha
      exact G_iret rfl dX10_bridge_91
    have h := ite_f h qx_240
    by_cases qx_244 : x2 = (4 : Int32)
    · have h := ite_t h qx_244
      refine B_tabIn (tgt := 92) (off := 77) (4 : Int32) qx_244 dX10_bridge_15 (by decide) (by decide) (by decide) (by decide) ?_
      refine G_aload_n (pc2 := 93) 0 rfl dX10_bridge_92 rfl rfl ?_
      refine T_0_1 (pc2 := 96) kw_401 dX10_bridge_93 rfl ?_
      refine G_iload_n (pc2 := 97) 1 rfl dX10_bridge_96 rfl rfl ?_
      obtain ⟨c_243, hc_243, h⟩ := ob_e h
      refine B_callV (pc2 := 100) si_X10_178 (c_X1_keeperAt_12 hc_243) (qo_12 _ _ _ _) rfl rfl rfl (st := []) (stq := [.int c_243]) rfl (by decide) (by decide) (Nat.le_of_ble_eq_true rfl) mkW_ll dX10_bridge_97 rfl rfl ?_ ⟨rfl, rfl⟩
      have ha := Option.some.inj h
      subst ha
      exact G_iret rfl dX10_bridge_100
    have h := ite_f h qx_244
    by_cases qx_254 : x2 = (5 : Int32)
    · have h := ite_t h qx_254
      refine B_tabIn (tgt := 101) (off := 86) (5 : Int32) qx_254 dX10_bridge_15 (by decide) (by decide) (by decide) (by decide) ?_
      refine G_aload_n (pc2 := 102) 0 rfl dX10_bridge_101 rfl rfl ?_
      refine T_0_1 (pc2 := 105) kw_401 dX10_bridge_102 rfl ?_
      refine G_iload_n (pc2 := 106) 1 rfl dX10_bridge_105 rfl rfl ?_
      obtain ⟨c_253, hc_253, h⟩ := ob_e h
      refine B_callV (pc2 := 109) si_X10_182 (c_X1_timeAt_12 hc_253) (qo_12 _ _ _ _) rfl rfl rfl (st := []) (stq := [.int c_253]) rfl (by decide) (by decide) (Nat.le_of_ble_eq_true rfl) mkW_ll dX10_bridge_106 rfl rfl ?_ ⟨rfl, rfl⟩
      have ha := Option.some.inj h
      subst ha
      exact G_iret rfl dX10_bridge_109
    have h := ite_f h qx_254
    refine G_tableOut (tgt := 110) dX10_bridge_15 (tab_out _ 0 5 (by decide) (fun j q1 q2 => by match j, q1, q2 with | 0, _, _ => exact qx_237 | 1, _, _ => exact qx_238 | 2, _, _ => exact qx_239 | 3, _, _ => exact qx_240 | 4, _, _ => exact qx_244 | 5, _, _ => exact qx_254 | (j + 6), _, q => exact absurd q (by omega))) (by decide) ?_
    refine G_ldc (pc2 := 112) kw_435 dX10_bridge_110 rfl ?_
    have ha := Option.some.inj h
    subst ha
    exact G_iret rfl dX10_bridge_112
  · refine G_ldc (pc2 := 13) kw_605 dX10_bridge_11 rfl ?_
    have ha := Option.some.inj h
    subst ha
    exact G_iret rfl dX10_bridge_13)
def f_X7_hasKeeper_13 (x1 : Int32) (I : WI) (F : WF) : Option (Int32) :=
  if x1 < 0 then (some (0 : Int32))
  else (if (I 50) ≤ x1 then (some (0 : Int32))
  else (some (1 : Int32)))
set_option maxRecDepth 100000 in
set_option maxHeartbeats 4000000 in
theorem c_X7_hasKeeper_13 {x1 : Int32} {I : WI} {F : WF} {J : WI} {K : WF} {a : Int32} (h : f_X7_hasKeeper_13 x1 I F = some a) : CT md_X7_hasKeeper yX7_hasKeeper (rmD 1) [.ref 13, .int x1] (mkW I F J K) (some (.int a)) (mkW I F J K) := CT_of pn_X7 ⟨rfl, rfl⟩ (Nat.le_of_ble_eq_true rfl) (fun X => by
  show GG X md_X7_hasKeeper (rmD 1) _ 0 0 0 [(0, .ref 13), (1, .int x1)] [] (mkW I F J K)
  unfold f_X7_hasKeeper_13 at h
  refine G_iload_n (pc2 := 1) 1 rfl dX7_hasKeeper_0 rfl rfl ?_
  refine B_if_lt (tgt := 16) (pc2 := 4) h dX7_hasKeeper_1 (by decide) rfl (fun _ h => ?_) (fun _ h => ?_)
  · refine G_iconst (pc2 := 17) dX7_hasKeeper_16 ic_0 rfl ?_
    have ha := Option.some.inj h
    subst ha
    exact G_zret (v := (0 : Int32)) rfl (by decide) dX7_hasKeeper_17
  · refine G_iload_n (pc2 := 5) 1 rfl dX7_hasKeeper_4 rfl rfl ?_
    refine G_aload_n (pc2 := 6) 0 rfl dX7_hasKeeper_5 rfl rfl ?_
    refine T_13_2 (pc2 := 9) kw_107 dX7_hasKeeper_6 rfl ?_
    refine B_icmp_ge (tgt := 16) (pc2 := 12) h dX7_hasKeeper_9 (by decide) rfl (fun _ h => ?_) (fun _ h => ?_)
    · refine G_iconst (pc2 := 17) dX7_hasKeeper_16 ic_0 rfl ?_
      have ha := Option.some.inj h
      subst ha
      exact G_zret (v := (0 : Int32)) rfl (by decide) dX7_hasKeeper_17
    · refine G_iconst (pc2 := 13) dX7_hasKeeper_12 ic_1 rfl ?_
      refine G_goto (tgt := 17) dX7_hasKeeper_13 (by decide) ?_
      have ha := Option.some.inj h
      subst ha
      exact G_zret (v := (1 : Int32)) rfl (by decide) dX7_hasKeeper_17)
def f_X10_keeper (x1 : Int32) (x2 : Int32) (I : WI) (F : WF) : Option (Int32) :=
  Option.bind (f_X7_hasKeeper_13 x1 I F) fun c_255 =>
  if c_255 = 0 then (some (-1000000001 : Int32))
  else (if x2 = (0 : Int32) then (ixG x1 9 (
  some (F 165 x1.toNatClampNeg)))
  else if x2 = (1 : Int32) then (ixG x1 9 (
  some (F 0 x1.toNatClampNeg)))
  else if x2 = (2 : Int32) then (ixG x1 9 (
  some (F 1 x1.toNatClampNeg)))
  else if x2 = (3 : Int32) then (ixG x1 9 (
  some (F 2 x1.toNatClampNeg)))
  else if x2 = (4 : Int32) then (Option.bind (f_X1_timeOf_12 x1 I F) fun c_260 =>
  some c_260)
  else some (-1000000002 : Int32))
set_option maxRecDepth 100000 in
set_option maxHeartbeats 4000000 in
theorem c_X10_keeper {x1 : Int32} {x2 : Int32} {I : WI} {F : WF} {J : WI} {K : WF} {a : Int32} (h : f_X10_keeper x1 x2 I F = some a) : CT md_X10_keeper yX10_keeper (rmD 3) [.ref 0, .int x1, .int x2] (mkW I F J K) (some (.int a)) (mkW I F J K) := CT_of pn_X10 ⟨rfl, rfl⟩ (Nat.le_of_ble_eq_true rfl) (fun X => by
  show GG X md_X10_keeper (rmD 3) _ 0 0 0 [(0, .ref 0), (1, .int x1), (2, .int x2)] [] (mkW I F J K)
  unfold f_X10_keeper at h
  refine G_aload_n (pc2 := 1) 0 rfl dX10_keeper_0 rfl rfl ?_
  refine T_0_2 (pc2 := 4) kw_402 dX10_keeper_1 rfl ?_
  refine G_iload_n (pc2 := 5) 1 rfl dX10_keeper_4 rfl rfl ?_
  obtain ⟨c_255, hc_255, h⟩ := ob_e h
  refine B_callV (pc2 := 8) si_X10_185 (c_X7_hasKeeper_13 hc_255) (qo_13 _ _ _ _) rfl rfl rfl (st := []) (stq := [.int c_255]) rfl (by decide) (by decide) (Nat.le_of_ble_eq_true rfl) mkW_ll dX10_keeper_5 rfl rfl ?_ ⟨rfl, rfl⟩
  refine B_if_ne (tgt := 14) (pc2 := 11) h dX10_keeper_8 (by decide) rfl (fun _ h => ?_) (fun _ h => ?_)
  · refine G_iload_n (pc2 := 15) 2 rfl dX10_keeper_14 rfl rfl ?_
    by_cases qx_256 : x2 = (0 : Int32)
    · have h := ite_t h qx_256
      refine B_tabIn (tgt := 48) (off := 33) (0 : Int32) qx_256 dX10_keeper_15 (by decide) (by decide) (by decide) (by decide) ?_
      refine G_aload_n (pc2 := 49) 0 rfl dX10_keeper_48 rfl rfl ?_
      refine T_0_2 (pc2 := 52) kw_402 dX10_keeper_49 rfl ?_
      refine T_13_8 (pc2 := 55) kw_133 dX10_keeper_52 rfl ?_
      refine G_iload_n (pc2 := 56) 1 rfl dX10_keeper_55 rfl rfl ?_
      refine AC (pc2 := 57) (fa_18 _ _ _ _) h dX10_keeper_56 rfl (fun h => ?_)
      have ha := Option.some.inj h
      subst ha
      exact G_iret rfl dX10_keeper_57
    have h := ite_f h qx_256
    by_cases qx_257 : x2 = (1 : Int32)
    · have h := ite_t h qx_257
      refine B_tabIn (tgt := 58) (off := 43) (1 : Int32) qx_257 dX10_keeper_15 (by decide) (by decide) (by decide) (by decide) ?_
      refine G_aload_n (pc2 := 59) 0 rfl dX10_keeper_58 rfl rfl ?_
      refine T_0_3 (pc2 := 62) kw_403 dX10_keeper_59 rfl ?_
      refine T_22_2 (pc2 := 65) kw_214 dX10_keeper_62 rfl ?_
      refine G_iload_n (pc2 := 66) 1 rfl dX10_keeper_65 rfl rfl ?_
      refine AC (pc2 := 67) (fa_23 _ _ _ _) h dX10_keeper_66 rfl (fun h => ?_)
      have ha := Option.some.inj h
      subst ha
      exact G_iret rfl dX10_keeper_67
    have h := ite_f h qx_257
    by_cases qx_258 : x2 = (2 : Int32)
    · have h := ite_t h qx_258
      refine B_tabIn (tgt := 68) (off := 53) (2 : Int32) qx_258 dX10_keeper_15 (by decide) (by decide) (by decide) (by decide) ?_
      refine G_aload_n (pc2 := 69) 0 rfl dX10_keeper_68 rfl rfl ?_
      refine T_0_3 (pc2 := 72) kw_403 dX10_keeper_69 rfl ?_
      refine T_22_3 (pc2 := 75) kw_217 dX10_keeper_72 rfl ?_
      refine G_iload_n (pc2 := 76) 1 rfl dX10_keeper_75 rfl rfl ?_
      refine AC (pc2 := 77) (fa_24 _ _ _ _) h dX10_keeper_76 rfl (fun h => ?_)
      have ha := Option.some.inj h
      subst ha
      exact G_iret rfl dX10_keeper_77
    have h := ite_f h qx_258
    by_cases qx_259 : x2 = (3 : Int32)
    · have h := ite_t h qx_259
      refine B_tabIn (tgt := 78) (off := 63) (3 : Int32) qx_259 dX10_keeper_15 (by decide) (by decide) (by decide) (by decide) ?_
      refine G_aload_n (pc2 := 79) 0 rfl dX10_keeper_78 rfl rfl ?_
      refine T_0_3 (pc2 := 82) kw_403 dX10_keeper_79 rfl ?_
      refine T_22_4 (pc2 := 85) kw_220 dX10_keeper_82 rfl ?_
      refine G_iload_n (pc2 := 86) 1 rfl dX10_keeper_85 rfl rfl ?_
      refine AC (pc2 := 87) (fa_25 _ _ _ _) h dX10_keeper_86 rfl (fun h => ?_)
      have ha := Option.some.inj h
      subst ha
      exact G_iret rfl dX10_keeper_87
    have h := ite_f h qx_259
    by_cases qx_261 : x2 = (4 : Int32)
    · have h := ite_t h qx_261
      refine B_tabIn (tgt := 88) (off := 73) (4 : Int32) qx_261 dX10_keeper_15 (by decide) (by decide) (by decide) (by decide) ?_
      refine G_aload_n (pc2 := 89) 0 rfl dX10_keeper_88 rfl rfl ?_
      refine T_0_1 (pc2 := 92) kw_401 dX10_keeper_89 rfl ?_
      refine G_iload_n (pc2 := 93) 1 rfl dX10_keeper_92 rfl rfl ?_
      obtain ⟨c_260, hc_260, h⟩ := ob_e h
      refine B_callV (pc2 := 96) si_X10_200 (c_X1_timeOf_12 hc_260) (qo_12 _ _ _ _) rfl rfl rfl (st := []) (stq := [.int c_260]) rfl (by decide) (by decide) (Nat.le_of_ble_eq_true rfl) mkW_ll dX10_keeper_93 rfl rfl ?_ ⟨rfl, rfl⟩
      have ha := Option.some.inj h
      subst ha
      exact G_iret rfl dX10_keeper_96
    have h := ite_f h qx_261
    refine G_tableOut (tgt := 97) dX10_keeper_15 (tab_out _ 0 4 (by decide) (fun j q1 q2 => by match j, q1, q2 with | 0, _, _ => exact qx_256 | 1, _, _ => exact qx_257 | 2, _, _ => exact qx_258 | 3, _, _ => exact qx_259 | 4, _, _ => exact qx_261 | (j + 5), _, q => exact absurd q (by omega))) (by decide) ?_
    refine G_ldc (pc2 := 99) kw_435 dX10_keeper_97 rfl ?_
    have ha := Option.some.inj h
    subst ha
    exact G_iret rfl dX10_keeper_99
  · refine G_ldc (pc2 := 13) kw_605 dX10_keeper_11 rfl ?_
    have ha := Option.some.inj h
    subst ha
    exact G_iret rfl dX10_keeper_13)
def f_X7_hasJumper_13 (x1 : Int32) (I : WI) (F : WF) : Option (Int32) :=
  if x1 < 0 then (some (0 : Int32))
  else (if (I 51) ≤ x1 then (some (0 : Int32))
  else (some (1 : Int32)))
set_option maxRecDepth 100000 in
set_option maxHeartbeats 4000000 in
theorem c_X7_hasJumper_13 {x1 : Int32} {I : WI} {F : WF} {J : WI} {K : WF} {a : Int32} (h : f_X7_hasJumper_13 x1 I F = some a) : CT md_X7_hasJumper yX7_hasJumper (rmD 1) [.ref 13, .int x1] (mkW I F J K) (some (.int a)) (mkW I F J K) := CT_of pn_X7 ⟨rfl, rfl⟩ (Nat.le_of_ble_eq_true rfl) (fun X => by
  show GG X md_X7_hasJumper (rmD 1) _ 0 0 0 [(0, .ref 13), (1, .int x1)] [] (mkW I F J K)
  unfold f_X7_hasJumper_13 at h
  refine G_iload_n (pc2 := 1) 1 rfl dX7_hasJumper_0 rfl rfl ?_
  refine B_if_lt (tgt := 16) (pc2 := 4) h dX7_hasJumper_1 (by decide) rfl (fun _ h => ?_) (fun _ h => ?_)
  · refine G_iconst (pc2 := 17) dX7_hasJumper_16 ic_0 rfl ?_
    have ha := Option.some.inj h
    subst ha
    exact G_zret (v := (0 : Int32)) rfl (by decide) dX7_hasJumper_17
  · refine G_iload_n (pc2 := 5) 1 rfl dX7_hasJumper_4 rfl rfl ?_
    refine G_aload_n (pc2 := 6) 0 rfl dX7_hasJumper_5 rfl rfl ?_
    refine T_13_3 (pc2 := 9) kw_113 dX7_hasJumper_6 rfl ?_
    refine B_icmp_ge (tgt := 16) (pc2 := 12) h dX7_hasJumper_9 (by decide) rfl (fun _ h => ?_) (fun _ h => ?_)
    · refine G_iconst (pc2 := 17) dX7_hasJumper_16 ic_0 rfl ?_
      have ha := Option.some.inj h
      subst ha
      exact G_zret (v := (0 : Int32)) rfl (by decide) dX7_hasJumper_17
    · refine G_iconst (pc2 := 13) dX7_hasJumper_12 ic_1 rfl ?_
      refine G_goto (tgt := 17) dX7_hasJumper_13 (by decide) ?_
      have ha := Option.some.inj h
      subst ha
      exact G_zret (v := (1 : Int32)) rfl (by decide) dX7_hasJumper_17)
def f_X1_flightOver_12 (x1 : Int32) (x2 : Int32) (I : WI) (F : WF) : Option (Int32) :=
  ixG x2 9 (
  bnd (F 163 x2.toNatClampNeg) fun x3_273 =>
  ixG x1 6 (
  bnd (F 4 x1.toNatClampNeg) fun x4_274 =>
  ixG x1 6 (
  if (F 167 x1.toNatClampNeg) = (1 : Int32) then (some (if (0 : Int32) < (x3_273 - x4_274) then (x3_273 - x4_274) else (0 : Int32)))
  else if (F 167 x1.toNatClampNeg) = (2 : Int32) then (some (if (0 : Int32) < ((x3_273 - (x4_274 / (2 : Int32))) - ((I 0) - (I 0) / (2 : Int32) * (2 : Int32))) then ((x3_273 - (x4_274 / (2 : Int32))) - ((I 0) - (I 0) / (2 : Int32) * (2 : Int32))) else (0 : Int32)))
  else if (F 167 x1.toNatClampNeg) = (3 : Int32) then (some (x3_273 / (2 : Int32)))
  else some x3_273)))
set_option maxRecDepth 100000 in
set_option maxHeartbeats 4000000 in
theorem c_X1_flightOver_12 {x1 : Int32} {x2 : Int32} {I : WI} {F : WF} {J : WI} {K : WF} {a : Int32} (h : f_X1_flightOver_12 x1 x2 I F = some a) : CT md_X1_flightOver yX1_flightOver (rmD 1) [.ref 12, .int x1, .int x2] (mkW I F J K) (some (.int a)) (mkW I F J K) := CT_of pn_X1 ⟨rfl, rfl⟩ (Nat.le_of_ble_eq_true rfl) (fun X => by
  show GG X md_X1_flightOver (rmD 1) _ 0 0 0 [(0, .ref 12), (1, .int x1), (2, .int x2)] [] (mkW I F J K)
  unfold f_X1_flightOver_12 at h
  refine G_aload_n (pc2 := 1) 0 rfl dX1_flightOver_0 rfl rfl ?_
  refine T_12_0 (pc2 := 4) kw_256 dX1_flightOver_1 rfl ?_
  refine T_13_6 (pc2 := 7) kw_125 dX1_flightOver_4 rfl ?_
  refine G_iload_n (pc2 := 8) 2 rfl dX1_flightOver_7 rfl rfl ?_
  refine AC (pc2 := 9) (fa_16 _ _ _ _) h dX1_flightOver_8 rfl (fun h => ?_)
  refine B_istore_n (pc2 := 10) (fun x3_273 => [(3, .int x3_273), (0, .ref 12), (1, .int x1), (2, .int x2)]) h dX1_flightOver_9 rfl (by decide) (fun _ => rfl) rfl (fun x3_273 h => ?_)
  refine G_aload_n (pc2 := 11) 1 rfl dX1_flightOver_10 rfl rfl ?_
  refine T_12_1 (pc2 := 14) kw_259 dX1_flightOver_11 rfl ?_
  refine T_22_6 (pc2 := 17) kw_226 dX1_flightOver_14 rfl ?_
  refine G_iload_n (pc2 := 18) 2 rfl dX1_flightOver_17 rfl rfl ?_
  refine AC (pc2 := 19) (fa_27 _ _ _ _) h dX1_flightOver_18 rfl (fun h => ?_)
  refine B_istore (pc2 := 21) (fun x4_274 => [(4, .int x4_274), (3, .int x3_273), (0, .ref 12), (1, .int x1), (2, .int x2)]) h dX1_flightOver_19 (by decide) (fun _ => rfl) rfl (fun x4_274 h => ?_)
  refine G_aload_n (pc2 := 22) 2 rfl dX1_flightOver_21 rfl rfl ?_
  refine T_12_0 (pc2 := 25) kw_256 dX1_flightOver_22 rfl ?_
  refine T_13_10 (pc2 := 28) kw_137 dX1_flightOver_25 rfl ?_
  refine G_iload_n (pc2 := 29) 3 rfl dX1_flightOver_28 rfl rfl ?_
  refine AC (pc2 := 30) (fa_20 _ _ _ _) h dX1_flightOver_29 rfl (fun h => ?_)
  by_cases qx_275 : (F 167 x1.toNatClampNeg) = (1 : Int32)
  · have h := ite_t h qx_275
    refine B_tabIn (tgt := 56) (off := 26) (1 : Int32) qx_275 dX1_flightOver_30 (by decide) (by decide) (by decide) (by decide) ?_
    refine G_iconst (pc2 := 57) dX1_flightOver_56 ic_0 rfl ?_
    refine G_iload_n (pc2 := 58) 1 rfl dX1_flightOver_57 rfl rfl ?_
    refine G_iload (pc2 := 60) 0 rfl dX1_flightOver_58 rfl ?_
    refine G_isub (pc2 := 61) dX1_flightOver_60 rfl ?_
    refine G_max (pc2 := 64) kw_652 ⟨by decide, by decide, Nat.le_refl _, Nat.le_refl _⟩ (Nat.le_of_ble_eq_true rfl) dX1_flightOver_61 rfl ?_
    have ha := Option.some.inj h
    subst ha
    exact G_iret rfl dX1_flightOver_64
  have h := ite_f h qx_275
  by_cases qx_276 : (F 167 x1.toNatClampNeg) = (2 : Int32)
  · have h := ite_t h qx_276
    refine B_tabIn (tgt := 65) (off := 35) (2 : Int32) qx_276 dX1_flightOver_30 (by decide) (by decide) (by decide) (by decide) ?_
    refine G_iconst (pc2 := 66) dX1_flightOver_65 ic_0 rfl ?_
    refine G_iload_n (pc2 := 67) 1 rfl dX1_flightOver_66 rfl rfl ?_
    refine G_iload (pc2 := 69) 0 rfl dX1_flightOver_67 rfl ?_
    refine G_iconst (pc2 := 70) dX1_flightOver_69 ic_2 rfl ?_
    refine G_idiv (pc2 := 71) dX1_flightOver_70 (by decide) rfl ?_
    refine G_isub (pc2 := 72) dX1_flightOver_71 rfl ?_
    refine G_aload_n (pc2 := 73) 2 rfl dX1_flightOver_72 rfl rfl ?_
    refine T_12_1 (pc2 := 76) kw_259 dX1_flightOver_73 rfl ?_
    refine T_22_0 (pc2 := 79) kw_208 dX1_flightOver_76 rfl ?_
    refine G_iconst (pc2 := 80) dX1_flightOver_79 ic_2 rfl ?_
    refine G_irem (pc2 := 81) dX1_flightOver_80 (by decide) rfl ?_
    refine G_isub (pc2 := 82) dX1_flightOver_81 rfl ?_
    refine G_max (pc2 := 85) kw_652 ⟨by decide, by decide, Nat.le_refl _, Nat.le_refl _⟩ (Nat.le_of_ble_eq_true rfl) dX1_flightOver_82 rfl ?_
    have ha := Option.some.inj h
    subst ha
    exact G_iret rfl dX1_flightOver_85
  have h := ite_f h qx_276
  by_cases qx_277 : (F 167 x1.toNatClampNeg) = (3 : Int32)
  · have h := ite_t h qx_277
    refine B_tabIn (tgt := 86) (off := 56) (3 : Int32) qx_277 dX1_flightOver_30 (by decide) (by decide) (by decide) (by decide) ?_
    refine G_iload_n (pc2 := 87) 1 rfl dX1_flightOver_86 rfl rfl ?_
    refine G_iconst (pc2 := 88) dX1_flightOver_87 ic_2 rfl ?_
    refine G_idiv (pc2 := 89) dX1_flightOver_88 (by decide) rfl ?_
    have ha := Option.some.inj h
    subst ha
    exact G_iret rfl dX1_flightOver_89
  have h := ite_f h qx_277
  refine G_tableOut (tgt := 90) dX1_flightOver_30 (tab_out _ 1 3 (by decide) (fun j q1 q2 => by match j, q1, q2 with | 0, q, _ => exact absurd q (by decide) | 1, _, _ => exact qx_275 | 2, _, _ => exact qx_276 | 3, _, _ => exact qx_277 | (j + 4), _, q => exact absurd q (by omega))) (by decide) ?_
  refine G_iload_n (pc2 := 91) 1 rfl dX1_flightOver_90 rfl rfl ?_
  have ha := Option.some.inj h
  subst ha
  exact G_iret rfl dX1_flightOver_91)
def f_X1_comesOver_12 (x1 : Int32) (x2 : Int32) (I : WI) (F : WF) : Option (Int32) :=
  Option.bind (f_X1_keeperAt_12 x2 I F) fun c_270 =>
  bnd c_270 fun x3_271 =>
  if x3_271 = (-1 : Int32) then (some (0 : Int32))
  else (Option.bind (f_X1_timeOf_12 x3_271 I F) fun c_272 =>
  Option.bind (f_X1_flightOver_12 x1 x2 I F) fun c_278 =>
  if c_278 < c_272 then (some (0 : Int32))
  else (some (1 : Int32)))
set_option maxRecDepth 100000 in
set_option maxHeartbeats 4000000 in
theorem c_X1_comesOver_12 {x1 : Int32} {x2 : Int32} {I : WI} {F : WF} {J : WI} {K : WF} {a : Int32} (h : f_X1_comesOver_12 x1 x2 I F = some a) : CT md_X1_comesOver yX1_comesOver (rmD 3) [.ref 12, .int x1, .int x2] (mkW I F J K) (some (.int a)) (mkW I F J K) := CT_of pn_X1 ⟨rfl, rfl⟩ (Nat.le_of_ble_eq_true rfl) (fun X => by
  show GG X md_X1_comesOver (rmD 3) _ 0 0 0 [(0, .ref 12), (1, .int x1), (2, .int x2)] [] (mkW I F J K)
  unfold f_X1_comesOver_12 at h
  refine G_aload_n (pc2 := 1) 0 rfl dX1_comesOver_0 rfl rfl ?_
  refine G_iload_n (pc2 := 2) 2 rfl dX1_comesOver_1 rfl rfl ?_
  obtain ⟨c_270, hc_270, h⟩ := ob_e h
  refine B_callV (pc2 := 5) si_X1_63 (c_X1_keeperAt_12 hc_270) (qo_12 _ _ _ _) rfl rfl rfl (st := []) (stq := [.int c_270]) rfl (by decide) (by decide) (Nat.le_of_ble_eq_true rfl) mkW_ll dX1_comesOver_2 rfl rfl ?_ ⟨rfl, rfl⟩
  refine B_istore_n (pc2 := 6) (fun x3_271 => [(3, .int x3_271), (0, .ref 12), (1, .int x1), (2, .int x2)]) h dX1_comesOver_5 rfl (by decide) (fun _ => rfl) rfl (fun x3_271 h => ?_)
  refine G_iload_n (pc2 := 7) 0 rfl dX1_comesOver_6 rfl rfl ?_
  refine G_iconst (pc2 := 8) dX1_comesOver_7 ic_m1 rfl ?_
  refine B_icmp_eq (tgt := 29) (pc2 := 11) h dX1_comesOver_8 (by decide) rfl (fun _ h => ?_) (fun _ h => ?_)
  · refine G_iconst (pc2 := 30) dX1_comesOver_29 ic_0 rfl ?_
    have ha := Option.some.inj h
    subst ha
    exact G_zret (v := (0 : Int32)) rfl (by decide) dX1_comesOver_30
  · refine G_aload_n (pc2 := 12) 1 rfl dX1_comesOver_11 rfl rfl ?_
    refine G_iload_n (pc2 := 13) 0 rfl dX1_comesOver_12 rfl rfl ?_
    obtain ⟨c_272, hc_272, h⟩ := ob_e h
    refine B_callV (pc2 := 16) si_X1_67 (c_X1_timeOf_12 hc_272) (qo_12 _ _ _ _) rfl rfl rfl (st := []) (stq := [.int c_272]) rfl (by decide) (by decide) (Nat.le_of_ble_eq_true rfl) mkW_ll dX1_comesOver_13 rfl rfl ?_ ⟨rfl, rfl⟩
    refine G_aload_n (pc2 := 17) 1 rfl dX1_comesOver_16 rfl rfl ?_
    refine G_iload_n (pc2 := 18) 2 rfl dX1_comesOver_17 rfl rfl ?_
    refine G_iload_n (pc2 := 19) 3 rfl dX1_comesOver_18 rfl rfl ?_
    obtain ⟨c_278, hc_278, h⟩ := ob_e h
    refine B_callV (pc2 := 22) si_X1_70 (c_X1_flightOver_12 hc_278) (qo_12 _ _ _ _) rfl rfl rfl (st := [.int c_272]) (stq := [.int c_278, .int c_272]) rfl (by decide) (by decide) (Nat.le_of_ble_eq_true rfl) mkW_ll dX1_comesOver_19 rfl rfl ?_ ⟨rfl, rfl⟩
    refine B_icmp_gt (tgt := 29) (pc2 := 25) h dX1_comesOver_22 (by decide) rfl (fun _ h => ?_) (fun _ h => ?_)
    · refine G_iconst (pc2 := 30) dX1_comesOver_29 ic_0 rfl ?_
      have ha := Option.some.inj h
      subst ha
      exact G_zret (v := (0 : Int32)) rfl (by decide) dX1_comesOver_30
    · refine G_iconst (pc2 := 26) dX1_comesOver_25 ic_1 rfl ?_
      refine G_goto (tgt := 30) dX1_comesOver_26 (by decide) ?_
      have ha := Option.some.inj h
      subst ha
      exact G_zret (v := (1 : Int32)) rfl (by decide) dX1_comesOver_30)
def L_X1_dares_12_4 (k : Int32 → Option (Int32)) (x1 : Int32) (I : WI) (F : WF) : Nat → Int32 → Int32 → Option (Int32)
  | 0, _, _ => none
  | n + 1, x2, x3 =>
  if (I 49) ≤ x3 then (k x2)
  else (Option.bind (f_X1_comesOver_12 x1 x3 I F) fun c_279 =>
  bnd (fun (x2_281 : Int32) => bnd (x3 + (1 : Int32)) fun x3_282 =>
  L_X1_dares_12_4 k x1 I F n x2_281 x3_282) fun j30_280 =>
  if c_279 = 0 then (j30_280 x2)
  else (bnd (x2 ||| ((1 : Int32) <<< (x3 &&& 31))) fun x2_283 =>
  j30_280 x2_283))
def f_X1_dares_12 (x1 : Int32) (I : WI) (F : WF) : Option (Int32) :=
  bnd (0 : Int32) fun x2_268 =>
  bnd (0 : Int32) fun x3_269 =>
  L_X1_dares_12_4 (fun x2_284 => some x2_284) x1 I F FU x2_268 x3_269
set_option maxRecDepth 100000 in
set_option maxHeartbeats 4000000 in
theorem g_L_X1_dares_12_4 {X : XT} {x1 : Int32} {I : WI} {F : WF} {J : WI} {K : WF} {a : Int32} {k : Int32 → Option (Int32)} (hk : ∀ (e2 : Int32), (k e2 = some a → GG X md_X1_dares (rmD 4) (gv_Z X (rmD 4).cells (rmD 4).slots (some (.int a)) (mkW I F J K)) 0 0 36 [(2, .int e2)] [] (mkW I F J K))) : ∀ (n : Nat) (x2 : Int32) (x3 : Int32), L_X1_dares_12_4 k x1 I F n x2 x3 = some a → GG X md_X1_dares (rmD 4) (gv_Z X (rmD 4).cells (rmD 4).slots (some (.int a)) (mkW I F J K)) 0 0 4 [(0, .ref 12), (1, .int x1), (2, .int x2), (3, .int x3)] [] (mkW I F J K) := by
  intro n
  induction n with
  | zero =>
    intro x2 x3 h
    rw [L_X1_dares_12_4] at h
    cases h
  | succ n ih =>
    intro x2 x3 h
    rw [L_X1_dares_12_4] at h
    refine G_iload_n (pc2 := 5) 3 rfl dX1_dares_4 rfl rfl ?_
    refine G_aload_n (pc2 := 6) 0 rfl dX1_dares_5 rfl rfl ?_
    refine T_12_0 (pc2 := 9) kw_256 dX1_dares_6 rfl ?_
    refine T_13_1 (pc2 := 12) kw_106 dX1_dares_9 rfl ?_
    refine B_icmp_ge (tgt := 36) (pc2 := 15) h dX1_dares_12 (by decide) rfl (fun _ h => ?_) (fun _ h => ?_)
    · refine G_sub (ls' := [(2, .int x2)]) [2] rfl ?_
      exact hk x2 h
    · refine G_aload_n (pc2 := 16) 0 rfl dX1_dares_15 rfl rfl ?_
      refine G_iload_n (pc2 := 17) 1 rfl dX1_dares_16 rfl rfl ?_
      refine G_iload_n (pc2 := 18) 3 rfl dX1_dares_17 rfl rfl ?_
      obtain ⟨c_279, hc_279, h⟩ := ob_e h
      refine B_callV (pc2 := 21) si_X1_76 (c_X1_comesOver_12 hc_279) (qo_12 _ _ _ _) rfl rfl rfl (st := []) (stq := [.int c_279]) rfl (by decide) (by decide) (Nat.le_of_ble_eq_true rfl) mkW_ll dX1_dares_18 rfl rfl ?_ ⟨rfl, rfl⟩
      refine jn_e (Gj := True) (fun (j : Int32 → Option (Int32)) => ∀ (x2_281 : Int32), j x2_281 = some a → GG X md_X1_dares (rmD 4) (gv_Z X (rmD 4).cells (rmD 4).slots (some (.int a)) (mkW I F J K)) 0 0 30 [(0, .ref 12), (1, .int x1), (2, .int x2_281), (3, .int x3)] [] (mkW I F J K)) h (fun x2_281 h => ?_) (fun j30_280 hj30_280 h => ?_)
      · refine B_iinc (pc2 := 33) 3 (fun x3_282 => [(3, .int x3_282), (0, .ref 12), (1, .int x1), (2, .int x2_281)]) h rfl dX1_dares_30 ic_1 (by decide) (fun _ => rfl) rfl (fun x3_282 h => ?_)
        refine G_goto (tgt := 4) dX1_dares_33 (by decide) ?_
        refine G_sub (ls' := [(0, .ref 12), (1, .int x1), (2, .int x2_281), (3, .int x3_282)]) [1, 2, 3, 0] rfl ?_
        exact ih x2_281 x3_282 h
      refine B_if_eq (tgt := 30) (pc2 := 24) h dX1_dares_21 (by decide) rfl (fun _ h => ?_) (fun _ h => ?_)
      · exact hj30_280 x2 h
      · refine G_iload_n (pc2 := 25) 2 rfl dX1_dares_24 rfl rfl ?_
        refine G_iconst (pc2 := 26) dX1_dares_25 ic_1 rfl ?_
        refine G_iload_n (pc2 := 27) 3 rfl dX1_dares_26 rfl rfl ?_
        refine G_ishl (pc2 := 28) dX1_dares_27 rfl ?_
        refine G_ior (pc2 := 29) dX1_dares_28 rfl ?_
        refine B_istore_n (pc2 := 30) (fun x2_283 => [(2, .int x2_283), (0, .ref 12), (1, .int x1), (3, .int x3)]) h dX1_dares_29 rfl (by decide) (fun _ => rfl) rfl (fun x2_283 h => ?_)
        refine G_sub (ls' := [(0, .ref 12), (1, .int x1), (2, .int x2_283), (3, .int x3)]) [1, 2, 0, 3] rfl ?_
        exact hj30_280 x2_283 h
set_option maxRecDepth 100000 in
set_option maxHeartbeats 4000000 in
theorem c_X1_dares_12 {x1 : Int32} {I : WI} {F : WF} {J : WI} {K : WF} {a : Int32} (h : f_X1_dares_12 x1 I F = some a) : CT md_X1_dares yX1_dares (rmD 4) [.ref 12, .int x1] (mkW I F J K) (some (.int a)) (mkW I F J K) := CT_of pn_X1 ⟨rfl, rfl⟩ (Nat.le_of_ble_eq_true rfl) (fun X => by
  show GG X md_X1_dares (rmD 4) _ 0 0 0 [(0, .ref 12), (1, .int x1)] [] (mkW I F J K)
  unfold f_X1_dares_12 at h
  refine G_iconst (pc2 := 1) dX1_dares_0 ic_0 rfl ?_
  refine B_istore_n (pc2 := 2) (fun x2_268 => [(2, .int x2_268), (0, .ref 12), (1, .int x1)]) h dX1_dares_1 rfl (by decide) (fun _ => rfl) rfl (fun x2_268 h => ?_)
  refine G_iconst (pc2 := 3) dX1_dares_2 ic_0 rfl ?_
  refine B_istore_n (pc2 := 4) (fun x3_269 => [(3, .int x3_269), (2, .int x2_268), (0, .ref 12), (1, .int x1)]) h dX1_dares_3 rfl (by decide) (fun _ => rfl) rfl (fun x3_269 h => ?_)
  refine G_sub (ls' := [(0, .ref 12), (1, .int x1), (2, .int x2_268), (3, .int x3_269)]) [2, 3, 1, 0] rfl ?_
  refine g_L_X1_dares_12_4 (fun x2_284 h => ?_) FU x2_268 x3_269 h
  refine G_iload_n (pc2 := 37) 0 rfl dX1_dares_36 rfl rfl ?_
  have ha := Option.some.inj h
  subst ha
  exact G_iret rfl dX1_dares_37)
def f_X10_jumper (x1 : Int32) (x2 : Int32) (I : WI) (F : WF) : Option (Int32) :=
  Option.bind (f_X7_hasJumper_13 x1 I F) fun c_262 =>
  if c_262 = 0 then (some (-1000000001 : Int32))
  else (if x2 = (0 : Int32) then (ixG x1 6 (
  some (F 167 x1.toNatClampNeg)))
  else if x2 = (1 : Int32) then (ixG x1 6 (
  some (F 3 x1.toNatClampNeg)))
  else if x2 = (2 : Int32) then (ixG x1 6 (
  some (F 4 x1.toNatClampNeg)))
  else if x2 = (3 : Int32) then (ixG x1 6 (
  some (F 5 x1.toNatClampNeg)))
  else if x2 = (4 : Int32) then (ixG x1 6 (
  some (F 6 x1.toNatClampNeg)))
  else if x2 = (5 : Int32) then (Option.bind (f_X1_dares_12 x1 I F) fun c_285 =>
  some c_285)
  else some (-1000000002 : Int32))
set_option maxRecDepth 100000 in
set_option maxHeartbeats 4000000 in
theorem c_X10_jumper {x1 : Int32} {x2 : Int32} {I : WI} {F : WF} {J : WI} {K : WF} {a : Int32} (h : f_X10_jumper x1 x2 I F = some a) : CT md_X10_jumper yX10_jumper (rmD 5) [.ref 0, .int x1, .int x2] (mkW I F J K) (some (.int a)) (mkW I F J K) := CT_of pn_X10 ⟨rfl, rfl⟩ (Nat.le_of_ble_eq_true rfl) (fun X => by
  show GG X md_X10_jumper (rmD 5) _ 0 0 0 [(0, .ref 0), (1, .int x1), (2, .int x2)] [] (mkW I F J K)
  unfold f_X10_jumper at h
  refine G_aload_n (pc2 := 1) 0 rfl dX10_jumper_0 rfl rfl ?_
  refine T_0_2 (pc2 := 4) kw_402 dX10_jumper_1 rfl ?_
  refine G_iload_n (pc2 := 5) 1 rfl dX10_jumper_4 rfl rfl ?_
  obtain ⟨c_262, hc_262, h⟩ := ob_e h
  refine B_callV (pc2 := 8) si_X10_203 (c_X7_hasJumper_13 hc_262) (qo_13 _ _ _ _) rfl rfl rfl (st := []) (stq := [.int c_262]) rfl (by decide) (by decide) (Nat.le_of_ble_eq_true rfl) mkW_ll dX10_jumper_5 rfl rfl ?_ ⟨rfl, rfl⟩
  refine B_if_ne (tgt := 14) (pc2 := 11) h dX10_jumper_8 (by decide) rfl (fun _ h => ?_) (fun _ h => ?_)
  · refine G_iload_n (pc2 := 15) 2 rfl dX10_jumper_14 rfl rfl ?_
    by_cases qx_263 : x2 = (0 : Int32)
    · have h := ite_t h qx_263
      refine B_tabIn (tgt := 52) (off := 37) (0 : Int32) qx_263 dX10_jumper_15 (by decide) (by decide) (by decide) (by decide) ?_
      refine G_aload_n (pc2 := 53) 0 rfl dX10_jumper_52 rfl rfl ?_
      refine T_0_2 (pc2 := 56) kw_402 dX10_jumper_53 rfl ?_
      refine T_13_10 (pc2 := 59) kw_138 dX10_jumper_56 rfl ?_
      refine G_iload_n (pc2 := 60) 1 rfl dX10_jumper_59 rfl rfl ?_
      refine AC (pc2 := 61) (fa_20 _ _ _ _) h dX10_jumper_60 rfl (fun h => ?_)
      have ha := Option.some.inj h
      subst ha
      exact G_iret rfl dX10_jumper_61
    have h := ite_f h qx_263
    by_cases qx_264 : x2 = (1 : Int32)
    · have h := ite_t h qx_264
      refine B_tabIn (tgt := 62) (off := 47) (1 : Int32) qx_264 dX10_jumper_15 (by decide) (by decide) (by decide) (by decide) ?_
      refine G_aload_n (pc2 := 63) 0 rfl dX10_jumper_62 rfl rfl ?_
      refine T_0_3 (pc2 := 66) kw_403 dX10_jumper_63 rfl ?_
      refine T_22_5 (pc2 := 69) kw_223 dX10_jumper_66 rfl ?_
      refine G_iload_n (pc2 := 70) 1 rfl dX10_jumper_69 rfl rfl ?_
      refine AC (pc2 := 71) (fa_26 _ _ _ _) h dX10_jumper_70 rfl (fun h => ?_)
      have ha := Option.some.inj h
      subst ha
      exact G_iret rfl dX10_jumper_71
    have h := ite_f h qx_264
    by_cases qx_265 : x2 = (2 : Int32)
    · have h := ite_t h qx_265
      refine B_tabIn (tgt := 72) (off := 57) (2 : Int32) qx_265 dX10_jumper_15 (by decide) (by decide) (by decide) (by decide) ?_
      refine G_aload_n (pc2 := 73) 0 rfl dX10_jumper_72 rfl rfl ?_
      refine T_0_3 (pc2 := 76) kw_403 dX10_jumper_73 rfl ?_
      refine T_22_6 (pc2 := 79) kw_227 dX10_jumper_76 rfl ?_
      refine G_iload_n (pc2 := 80) 1 rfl dX10_jumper_79 rfl rfl ?_
      refine AC (pc2 := 81) (fa_27 _ _ _ _) h dX10_jumper_80 rfl (fun h => ?_)
      have ha := Option.some.inj h
      subst ha
      exact G_iret rfl dX10_jumper_81
    have h := ite_f h qx_265
    by_cases qx_266 : x2 = (3 : Int32)
    · have h := ite_t h qx_266
      refine B_tabIn (tgt := 82) (off := 67) (3 : Int32) qx_266 dX10_jumper_15 (by decide) (by decide) (by decide) (by decide) ?_
      refine G_aload_n (pc2 := 83) 0 rfl dX10_jumper_82 rfl rfl ?_
      refine T_0_3 (pc2 := 86) kw_403 dX10_jumper_83 rfl ?_
      refine T_22_7 (pc2 := 89) kw_229 dX10_jumper_86 rfl ?_
      refine G_iload_n (pc2 := 90) 1 rfl dX10_jumper_89 rfl rfl ?_
      refine AC (pc2 := 91) (fa_28 _ _ _ _) h dX10_jumper_90 rfl (fun h => ?_)
      have ha := Option.some.inj h
      subst ha
      exact G_iret rfl dX10_jumper_91
    have h := ite_f h qx_266
    by_cases qx_267 : x2 = (4 : Int32)
    · have h := ite_t h qx_267
      refine B_tabIn (tgt := 92) (off := 77) (4 : Int32) qx_267 dX10_jumper_15 (by decide) (by decide) (by decide) (by decide) ?_
      refine G_aload_n (pc2 := 93) 0 rfl dX10_jumper_92 rfl rfl ?_
      refine T_0_3 (pc2 := 96) kw_403 dX10_jumper_93 rfl ?_
      refine T_22_8 (pc2 := 99) kw_232 dX10_jumper_96 rfl ?_
      refine G_iload_n (pc2 := 100) 1 rfl dX10_jumper_99 rfl rfl ?_
      refine AC (pc2 := 101) (fa_29 _ _ _ _) h dX10_jumper_100 rfl (fun h => ?_)
      have ha := Option.some.inj h
      subst ha
      exact G_iret rfl dX10_jumper_101
    have h := ite_f h qx_267
    by_cases qx_286 : x2 = (5 : Int32)
    · have h := ite_t h qx_286
      refine B_tabIn (tgt := 102) (off := 87) (5 : Int32) qx_286 dX10_jumper_15 (by decide) (by decide) (by decide) (by decide) ?_
      refine G_aload_n (pc2 := 103) 0 rfl dX10_jumper_102 rfl rfl ?_
      refine T_0_1 (pc2 := 106) kw_401 dX10_jumper_103 rfl ?_
      refine G_iload_n (pc2 := 107) 1 rfl dX10_jumper_106 rfl rfl ?_
      obtain ⟨c_285, hc_285, h⟩ := ob_e h
      refine B_callV (pc2 := 110) si_X10_221 (c_X1_dares_12 hc_285) (qo_12 _ _ _ _) rfl rfl rfl (st := []) (stq := [.int c_285]) rfl (by decide) (by decide) (Nat.le_of_ble_eq_true rfl) mkW_ll dX10_jumper_107 rfl rfl ?_ ⟨rfl, rfl⟩
      have ha := Option.some.inj h
      subst ha
      exact G_iret rfl dX10_jumper_110
    have h := ite_f h qx_286
    refine G_tableOut (tgt := 111) dX10_jumper_15 (tab_out _ 0 5 (by decide) (fun j q1 q2 => by match j, q1, q2 with | 0, _, _ => exact qx_263 | 1, _, _ => exact qx_264 | 2, _, _ => exact qx_265 | 3, _, _ => exact qx_266 | 4, _, _ => exact qx_267 | 5, _, _ => exact qx_286 | (j + 6), _, q => exact absurd q (by omega))) (by decide) ?_
    refine G_ldc (pc2 := 113) kw_435 dX10_jumper_111 rfl ?_
    have ha := Option.some.inj h
    subst ha
    exact G_iret rfl dX10_jumper_113
  · refine G_ldc (pc2 := 13) kw_605 dX10_jumper_11 rfl ?_
    have ha := Option.some.inj h
    subst ha
    exact G_iret rfl dX10_jumper_13)
def f_X10_flight (x1 : Int32) (x2 : Int32) (I : WI) (F : WF) : Option (Int32) :=
  Option.bind (f_X7_hasJumper_13 x1 I F) fun c_287 =>
  if c_287 = 0 then (some (-1000000001 : Int32))
  else (Option.bind (f_X7_hasBridge_13 x2 I F) fun c_288 =>
  if c_288 = 0 then (some (-1000000001 : Int32))
  else (Option.bind (f_X1_flightOver_12 x1 x2 I F) fun c_289 =>
  some c_289))
set_option maxRecDepth 100000 in
set_option maxHeartbeats 4000000 in
theorem c_X10_flight {x1 : Int32} {x2 : Int32} {I : WI} {F : WF} {J : WI} {K : WF} {a : Int32} (h : f_X10_flight x1 x2 I F = some a) : CT md_X10_flight yX10_flight (rmD 2) [.ref 0, .int x1, .int x2] (mkW I F J K) (some (.int a)) (mkW I F J K) := CT_of pn_X10 ⟨rfl, rfl⟩ (Nat.le_of_ble_eq_true rfl) (fun X => by
  show GG X md_X10_flight (rmD 2) _ 0 0 0 [(0, .ref 0), (1, .int x1), (2, .int x2)] [] (mkW I F J K)
  unfold f_X10_flight at h
  refine G_aload_n (pc2 := 1) 0 rfl dX10_flight_0 rfl rfl ?_
  refine T_0_2 (pc2 := 4) kw_402 dX10_flight_1 rfl ?_
  refine G_iload_n (pc2 := 5) 1 rfl dX10_flight_4 rfl rfl ?_
  obtain ⟨c_287, hc_287, h⟩ := ob_e h
  refine B_callV (pc2 := 8) si_X10_203 (c_X7_hasJumper_13 hc_287) (qo_13 _ _ _ _) rfl rfl rfl (st := []) (stq := [.int c_287]) rfl (by decide) (by decide) (Nat.le_of_ble_eq_true rfl) mkW_ll dX10_flight_5 rfl rfl ?_ ⟨rfl, rfl⟩
  refine B_if_eq (tgt := 22) (pc2 := 11) h dX10_flight_8 (by decide) rfl (fun _ h => ?_) (fun _ h => ?_)
  · refine G_ldc (pc2 := 24) kw_605 dX10_flight_22 rfl ?_
    have ha := Option.some.inj h
    subst ha
    exact G_iret rfl dX10_flight_24
  · refine G_aload_n (pc2 := 12) 0 rfl dX10_flight_11 rfl rfl ?_
    refine T_0_2 (pc2 := 15) kw_402 dX10_flight_12 rfl ?_
    refine G_iload_n (pc2 := 16) 2 rfl dX10_flight_15 rfl rfl ?_
    obtain ⟨c_288, hc_288, h⟩ := ob_e h
    refine B_callV (pc2 := 19) si_X10_160 (c_X7_hasBridge_13 hc_288) (qo_13 _ _ _ _) rfl rfl rfl (st := []) (stq := [.int c_288]) rfl (by decide) (by decide) (Nat.le_of_ble_eq_true rfl) mkW_ll dX10_flight_16 rfl rfl ?_ ⟨rfl, rfl⟩
    refine B_if_ne (tgt := 25) (pc2 := 22) h dX10_flight_19 (by decide) rfl (fun _ h => ?_) (fun _ h => ?_)
    · refine G_aload_n (pc2 := 26) 0 rfl dX10_flight_25 rfl rfl ?_
      refine T_0_1 (pc2 := 29) kw_401 dX10_flight_26 rfl ?_
      refine G_iload_n (pc2 := 30) 1 rfl dX10_flight_29 rfl rfl ?_
      refine G_iload_n (pc2 := 31) 2 rfl dX10_flight_30 rfl rfl ?_
      obtain ⟨c_289, hc_289, h⟩ := ob_e h
      refine B_callV (pc2 := 34) si_X10_224 (c_X1_flightOver_12 hc_289) (qo_12 _ _ _ _) rfl rfl rfl (st := []) (stq := [.int c_289]) rfl (by decide) (by decide) (Nat.le_of_ble_eq_true rfl) mkW_ll dX10_flight_31 rfl rfl ?_ ⟨rfl, rfl⟩
      have ha := Option.some.inj h
      subst ha
      exact G_iret rfl dX10_flight_34
    · refine G_ldc (pc2 := 24) kw_605 dX10_flight_22 rfl ?_
      have ha := Option.some.inj h
      subst ha
      exact G_iret rfl dX10_flight_24)
def f_X6_rollEntry_22 (x1 : Int32) (x2 : Int32) (I : WI) (F : WF) : Option (Int32) :=
  if x1 < 0 then (some (-1 : Int32))
  else (if x1 < (I 1) then (ixG x1 20 (
  bnd (F 7 x1.toNatClampNeg) fun x3_290 =>
  if x2 = (0 : Int32) then (some (x3_290 >>> ((8 : Int32) &&& 31)))
  else if x2 = (1 : Int32) then (some ((x3_290 >>> ((5 : Int32) &&& 31)) &&& (7 : Int32)))
  else if x2 = (2 : Int32) then (some ((x3_290 >>> ((1 : Int32) &&& 31)) &&& (15 : Int32)))
  else some (x3_290 &&& (1 : Int32))))
  else (some (-1 : Int32)))
set_option maxRecDepth 100000 in
set_option maxHeartbeats 4000000 in
theorem c_X6_rollEntry_22 {x1 : Int32} {x2 : Int32} {I : WI} {F : WF} {J : WI} {K : WF} {a : Int32} (h : f_X6_rollEntry_22 x1 x2 I F = some a) : CT md_X6_rollEntry yX6_rollEntry (rmD 1) [.ref 22, .int x1, .int x2] (mkW I F J K) (some (.int a)) (mkW I F J K) := CT_of pn_X6 ⟨rfl, rfl⟩ (Nat.le_of_ble_eq_true rfl) (fun X => by
  show GG X md_X6_rollEntry (rmD 1) _ 0 0 0 [(0, .ref 22), (1, .int x1), (2, .int x2)] [] (mkW I F J K)
  unfold f_X6_rollEntry_22 at h
  refine G_iload_n (pc2 := 1) 1 rfl dX6_rollEntry_0 rfl rfl ?_
  refine B_if_lt (tgt := 12) (pc2 := 4) h dX6_rollEntry_1 (by decide) rfl (fun _ h => ?_) (fun _ h => ?_)
  · refine G_iconst (pc2 := 13) dX6_rollEntry_12 ic_m1 rfl ?_
    have ha := Option.some.inj h
    subst ha
    exact G_iret rfl dX6_rollEntry_13
  · refine G_iload_n (pc2 := 5) 1 rfl dX6_rollEntry_4 rfl rfl ?_
    refine G_aload_n (pc2 := 6) 0 rfl dX6_rollEntry_5 rfl rfl ?_
    refine T_22_1 (pc2 := 9) kw_210 dX6_rollEntry_6 rfl ?_
    refine B_icmp_lt (tgt := 14) (pc2 := 12) h dX6_rollEntry_9 (by decide) rfl (fun _ h => ?_) (fun _ h => ?_)
    · refine G_aload_n (pc2 := 15) 0 rfl dX6_rollEntry_14 rfl rfl ?_
      refine T_22_9 (pc2 := 18) kw_234 dX6_rollEntry_15 rfl ?_
      refine G_iload_n (pc2 := 19) 1 rfl dX6_rollEntry_18 rfl rfl ?_
      refine AC (pc2 := 20) (fa_30 _ _ _ _) h dX6_rollEntry_19 rfl (fun h => ?_)
      refine B_istore_n (pc2 := 21) (fun x3_290 => [(3, .int x3_290), (0, .ref 22), (1, .int x1), (2, .int x2)]) h dX6_rollEntry_20 rfl (by decide) (fun _ => rfl) rfl (fun x3_290 h => ?_)
      refine G_iload_n (pc2 := 22) 3 rfl dX6_rollEntry_21 rfl rfl ?_
      by_cases qx_291 : x2 = (0 : Int32)
      · have h := ite_t h qx_291
        refine B_tabIn (tgt := 48) (off := 26) (0 : Int32) qx_291 dX6_rollEntry_22 (by decide) (by decide) (by decide) (by decide) ?_
        refine G_iload_n (pc2 := 49) 0 rfl dX6_rollEntry_48 rfl rfl ?_
        refine G_bipush (pc2 := 51) dX6_rollEntry_49 ib_8 rfl ?_
        refine G_ishr (pc2 := 52) dX6_rollEntry_51 rfl ?_
        have ha := Option.some.inj h
        subst ha
        exact G_iret rfl dX6_rollEntry_52
      have h := ite_f h qx_291
      by_cases qx_292 : x2 = (1 : Int32)
      · have h := ite_t h qx_292
        refine B_tabIn (tgt := 53) (off := 31) (1 : Int32) qx_292 dX6_rollEntry_22 (by decide) (by decide) (by decide) (by decide) ?_
        refine G_iload_n (pc2 := 54) 0 rfl dX6_rollEntry_53 rfl rfl ?_
        refine G_iconst (pc2 := 55) dX6_rollEntry_54 ic_5 rfl ?_
        refine G_ishr (pc2 := 56) dX6_rollEntry_55 rfl ?_
        refine G_bipush (pc2 := 58) dX6_rollEntry_56 ib_7 rfl ?_
        refine G_iand (pc2 := 59) dX6_rollEntry_58 rfl ?_
        have ha := Option.some.inj h
        subst ha
        exact G_iret rfl dX6_rollEntry_59
      have h := ite_f h qx_292
      by_cases qx_293 : x2 = (2 : Int32)
      · have h := ite_t h qx_293
        refine B_tabIn (tgt := 60) (off := 38) (2 : Int32) qx_293 dX6_rollEntry_22 (by decide) (by decide) (by decide) (by decide) ?_
        refine G_iload_n (pc2 := 61) 0 rfl dX6_rollEntry_60 rfl rfl ?_
        refine G_iconst (pc2 := 62) dX6_rollEntry_61 ic_1 rfl ?_
        refine G_ishr (pc2 := 63) dX6_rollEntry_62 rfl ?_
        refine G_bipush (pc2 := 65) dX6_rollEntry_63 ib_15 rfl ?_
        refine G_iand (pc2 := 66) dX6_rollEntry_65 rfl ?_
        have ha := Option.some.inj h
        subst ha
        exact G_iret rfl dX6_rollEntry_66
      have h := ite_f h qx_293
      refine G_tableOut (tgt := 67) dX6_rollEntry_22 (tab_out _ 0 2 (by decide) (fun j q1 q2 => by match j, q1, q2 with | 0, _, _ => exact qx_291 | 1, _, _ => exact qx_292 | 2, _, _ => exact qx_293 | (j + 3), _, q => exact absurd q (by omega))) (by decide) ?_
      refine G_iload_n (pc2 := 68) 0 rfl dX6_rollEntry_67 rfl rfl ?_
      refine G_iconst (pc2 := 69) dX6_rollEntry_68 ic_1 rfl ?_
      refine G_iand (pc2 := 70) dX6_rollEntry_69 rfl ?_
      have ha := Option.some.inj h
      subst ha
      exact G_iret rfl dX6_rollEntry_70
    · refine G_iconst (pc2 := 13) dX6_rollEntry_12 ic_m1 rfl ?_
      have ha := Option.some.inj h
      subst ha
      exact G_iret rfl dX6_rollEntry_13)
def f_X10_roll (x1 : Int32) (x2 : Int32) (I : WI) (F : WF) : Option (Int32) :=
  if x2 < 0 then (some (-1000000002 : Int32))
  else (if x2 ≤ (3 : Int32) then (Option.bind (f_X6_rollEntry_22 x1 x2 I F) fun c_294 =>
  some c_294)
  else (some (-1000000002 : Int32)))
set_option maxRecDepth 100000 in
set_option maxHeartbeats 4000000 in
theorem c_X10_roll {x1 : Int32} {x2 : Int32} {I : WI} {F : WF} {J : WI} {K : WF} {a : Int32} (h : f_X10_roll x1 x2 I F = some a) : CT md_X10_roll yX10_roll (rmD 2) [.ref 0, .int x1, .int x2] (mkW I F J K) (some (.int a)) (mkW I F J K) := CT_of pn_X10 ⟨rfl, rfl⟩ (Nat.le_of_ble_eq_true rfl) (fun X => by
  show GG X md_X10_roll (rmD 2) _ 0 0 0 [(0, .ref 0), (1, .int x1), (2, .int x2)] [] (mkW I F J K)
  unfold f_X10_roll at h
  refine G_iload_n (pc2 := 1) 2 rfl dX10_roll_0 rfl rfl ?_
  refine B_if_lt (tgt := 9) (pc2 := 4) h dX10_roll_1 (by decide) rfl (fun _ h => ?_) (fun _ h => ?_)
  · refine G_ldc (pc2 := 11) kw_435 dX10_roll_9 rfl ?_
    have ha := Option.some.inj h
    subst ha
    exact G_iret rfl dX10_roll_11
  · refine G_iload_n (pc2 := 5) 2 rfl dX10_roll_4 rfl rfl ?_
    refine G_iconst (pc2 := 6) dX10_roll_5 ic_3 rfl ?_
    refine B_icmp_le (tgt := 12) (pc2 := 9) h dX10_roll_6 (by decide) rfl (fun _ h => ?_) (fun _ h => ?_)
    · refine G_aload_n (pc2 := 13) 0 rfl dX10_roll_12 rfl rfl ?_
      refine T_0_3 (pc2 := 16) kw_403 dX10_roll_13 rfl ?_
      refine G_iload_n (pc2 := 17) 1 rfl dX10_roll_16 rfl rfl ?_
      refine G_iload_n (pc2 := 18) 2 rfl dX10_roll_17 rfl rfl ?_
      obtain ⟨c_294, hc_294, h⟩ := ob_e h
      refine B_callV (pc2 := 21) si_X10_228 (c_X6_rollEntry_22 hc_294) (qo_22 _ _ _ _) rfl rfl rfl (st := []) (stq := [.int c_294]) rfl (by decide) (by decide) (Nat.le_of_ble_eq_true rfl) mkW_ll dX10_roll_18 rfl rfl ?_ ⟨rfl, rfl⟩
      have ha := Option.some.inj h
      subst ha
      exact G_iret rfl dX10_roll_21
    · refine G_ldc (pc2 := 11) kw_435 dX10_roll_9 rfl ?_
      have ha := Option.some.inj h
      subst ha
      exact G_iret rfl dX10_roll_11)
def f_X7_touches_13 (x1 : Int32) (x2 : Int32) (I : WI) (F : WF) : Option (Int32) :=
  ixG x1 9 (
  if (F 161 x1.toNatClampNeg) = x2 then (some (1 : Int32))
  else (ixG x1 9 (
  if (F 162 x1.toNatClampNeg) = x2 then (some (1 : Int32))
  else (some (0 : Int32)))))
set_option maxRecDepth 100000 in
set_option maxHeartbeats 4000000 in
theorem c_X7_touches_13 {x1 : Int32} {x2 : Int32} {I : WI} {F : WF} {J : WI} {K : WF} {a : Int32} (h : f_X7_touches_13 x1 x2 I F = some a) : CT md_X7_touches yX7_touches (rmD 1) [.ref 13, .int x1, .int x2] (mkW I F J K) (some (.int a)) (mkW I F J K) := CT_of pn_X7 ⟨rfl, rfl⟩ (Nat.le_of_ble_eq_true rfl) (fun X => by
  show GG X md_X7_touches (rmD 1) _ 0 0 0 [(0, .ref 13), (1, .int x1), (2, .int x2)] [] (mkW I F J K)
  unfold f_X7_touches_13 at h
  refine G_aload_n (pc2 := 1) 0 rfl dX7_touches_0 rfl rfl ?_
  refine T_13_4 (pc2 := 4) kw_118 dX7_touches_1 rfl ?_
  refine G_iload_n (pc2 := 5) 1 rfl dX7_touches_4 rfl rfl ?_
  refine AC (pc2 := 6) (fa_14 _ _ _ _) h dX7_touches_5 rfl (fun h => ?_)
  refine G_iload_n (pc2 := 7) 2 rfl dX7_touches_6 rfl rfl ?_
  refine B_icmp_eq (tgt := 20) (pc2 := 10) h dX7_touches_7 (by decide) rfl (fun _ h => ?_) (fun _ h => ?_)
  · refine G_iconst (pc2 := 21) dX7_touches_20 ic_1 rfl ?_
    refine G_goto (tgt := 25) dX7_touches_21 (by decide) ?_
    have ha := Option.some.inj h
    subst ha
    exact G_zret (v := (1 : Int32)) rfl (by decide) dX7_touches_25
  · refine G_aload_n (pc2 := 11) 0 rfl dX7_touches_10 rfl rfl ?_
    refine T_13_5 (pc2 := 14) kw_121 dX7_touches_11 rfl ?_
    refine G_iload_n (pc2 := 15) 1 rfl dX7_touches_14 rfl rfl ?_
    refine AC (pc2 := 16) (fa_15 _ _ _ _) h dX7_touches_15 rfl (fun h => ?_)
    refine G_iload_n (pc2 := 17) 2 rfl dX7_touches_16 rfl rfl ?_
    refine B_icmp_ne (tgt := 24) (pc2 := 20) h dX7_touches_17 (by decide) rfl (fun _ h => ?_) (fun _ h => ?_)
    · refine G_iconst (pc2 := 25) dX7_touches_24 ic_0 rfl ?_
      have ha := Option.some.inj h
      subst ha
      exact G_zret (v := (0 : Int32)) rfl (by decide) dX7_touches_25
    · refine G_iconst (pc2 := 21) dX7_touches_20 ic_1 rfl ?_
      refine G_goto (tgt := 25) dX7_touches_21 (by decide) ?_
      have ha := Option.some.inj h
      subst ha
      exact G_zret (v := (1 : Int32)) rfl (by decide) dX7_touches_25)
def f_X6_copyFrom_44_22 (I : WI) (F : WF) : Option (WI × WF) :=
  bnd (upd I 2 (I 0)) fun I_298 =>
  bnd (upd I_298 3 (I_298 1)) fun I_299 =>
  bnd (uF F 8 (va_cpy (F 0) (F 8) 0 0 9)) fun F_300 =>
  bnd (uF F_300 9 (va_cpy (F_300 1) (F_300 9) 0 0 9)) fun F_301 =>
  bnd (uF F_301 10 (va_cpy (F_301 2) (F_301 10) 0 0 9)) fun F_302 =>
  bnd (uF F_302 11 (va_cpy (F_302 3) (F_302 11) 0 0 6)) fun F_303 =>
  bnd (uF F_303 12 (va_cpy (F_303 4) (F_303 12) 0 0 6)) fun F_304 =>
  bnd (uF F_304 13 (va_cpy (F_304 5) (F_304 13) 0 0 6)) fun F_305 =>
  bnd (uF F_305 14 (va_cpy (F_305 6) (F_305 14) 0 0 6)) fun F_306 =>
  bnd (uF F_306 15 (va_cpy (F_306 7) (F_306 15) 0 0 20)) fun F_307 =>
  some (I_299, F_307)
set_option maxRecDepth 100000 in
set_option maxHeartbeats 4000000 in
theorem c_X6_copyFrom_44_22 {I : WI} {F : WF} {J : WI} {K : WF} {a : WI × WF} (h : f_X6_copyFrom_44_22  I F = some a) : CT md_X6_copyFrom yX6_copyFrom (rmD 1) [.ref 44, .ref 22] (mkW I F J K) none (mkW a.1 a.2 J K) := CT_of pn_X6 ⟨rfl, rfl⟩ (Nat.le_of_ble_eq_true rfl) (fun X => by
  show GG X md_X6_copyFrom (rmD 1) _ 0 0 0 [(0, .ref 44), (1, .ref 22)] [] (mkW I F J K)
  unfold f_X6_copyFrom_44_22 at h
  refine G_aload_n (pc2 := 1) 0 rfl dX6_copyFrom_0 rfl rfl ?_
  refine G_aload_n (pc2 := 2) 1 rfl dX6_copyFrom_1 rfl rfl ?_
  refine T_22_0 (pc2 := 5) kw_207 dX6_copyFrom_2 rfl ?_
  refine P_44_0 (pc2 := 8) h kw_207 dX6_copyFrom_5 rfl (fun I_298 h => ?_)
  refine G_aload_n (pc2 := 9) 0 rfl dX6_copyFrom_8 rfl rfl ?_
  refine G_aload_n (pc2 := 10) 1 rfl dX6_copyFrom_9 rfl rfl ?_
  refine T_22_1 (pc2 := 13) kw_210 dX6_copyFrom_10 rfl ?_
  refine P_44_1 (pc2 := 16) h kw_210 dX6_copyFrom_13 rfl (fun I_299 h => ?_)
  refine G_aload_n (pc2 := 17) 1 rfl dX6_copyFrom_16 rfl rfl ?_
  refine T_22_2 (pc2 := 20) kw_212 dX6_copyFrom_17 rfl ?_
  refine G_iconst (pc2 := 21) dX6_copyFrom_20 ic_0 rfl ?_
  refine G_aload_n (pc2 := 22) 0 rfl dX6_copyFrom_21 rfl rfl ?_
  refine T_44_2 (pc2 := 25) kw_212 dX6_copyFrom_22 rfl ?_
  refine G_iconst (pc2 := 26) dX6_copyFrom_25 ic_0 rfl ?_
  refine G_bipush (pc2 := 28) dX6_copyFrom_26 ib_9 rfl ?_
  refine YC (pc2 := 31) (fa_23 _ _ _ _) (fa_45 _ _ _ _) h kw_680 (by decide) cl_9 ⟨by decide, by decide⟩ (Nat.le_of_ble_eq_true rfl) dX6_copyFrom_28 rfl (fun F_300 h => ?_)
  refine G_aload_n (pc2 := 32) 1 rfl dX6_copyFrom_31 rfl rfl ?_
  refine T_22_3 (pc2 := 35) kw_215 dX6_copyFrom_32 rfl ?_
  refine G_iconst (pc2 := 36) dX6_copyFrom_35 ic_0 rfl ?_
  refine G_aload_n (pc2 := 37) 0 rfl dX6_copyFrom_36 rfl rfl ?_
  refine T_44_3 (pc2 := 40) kw_215 dX6_copyFrom_37 rfl ?_
  refine G_iconst (pc2 := 41) dX6_copyFrom_40 ic_0 rfl ?_
  refine G_bipush (pc2 := 43) dX6_copyFrom_41 ib_9 rfl ?_
  refine YC (pc2 := 46) (fa_24 _ _ _ _) (fa_46 _ _ _ _) h kw_680 (by decide) cl_9 ⟨by decide, by decide⟩ (Nat.le_of_ble_eq_true rfl) dX6_copyFrom_43 rfl (fun F_301 h => ?_)
  refine G_aload_n (pc2 := 47) 1 rfl dX6_copyFrom_46 rfl rfl ?_
  refine T_22_4 (pc2 := 50) kw_218 dX6_copyFrom_47 rfl ?_
  refine G_iconst (pc2 := 51) dX6_copyFrom_50 ic_0 rfl ?_
  refine G_aload_n (pc2 := 52) 0 rfl dX6_copyFrom_51 rfl rfl ?_
  refine T_44_4 (pc2 := 55) kw_218 dX6_copyFrom_52 rfl ?_
  refine G_iconst (pc2 := 56) dX6_copyFrom_55 ic_0 rfl ?_
  refine G_bipush (pc2 := 58) dX6_copyFrom_56 ib_9 rfl ?_
  refine YC (pc2 := 61) (fa_25 _ _ _ _) (fa_47 _ _ _ _) h kw_680 (by decide) cl_9 ⟨by decide, by decide⟩ (Nat.le_of_ble_eq_true rfl) dX6_copyFrom_58 rfl (fun F_302 h => ?_)
  refine G_aload_n (pc2 := 62) 1 rfl dX6_copyFrom_61 rfl rfl ?_
  refine T_22_5 (pc2 := 65) kw_221 dX6_copyFrom_62 rfl ?_
  refine G_iconst (pc2 := 66) dX6_copyFrom_65 ic_0 rfl ?_
  refine G_aload_n (pc2 := 67) 0 rfl dX6_copyFrom_66 rfl rfl ?_
  refine T_44_5 (pc2 := 70) kw_221 dX6_copyFrom_67 rfl ?_
  refine G_iconst (pc2 := 71) dX6_copyFrom_70 ic_0 rfl ?_
  refine G_bipush (pc2 := 73) dX6_copyFrom_71 ib_6 rfl ?_
  refine YC (pc2 := 76) (fa_26 _ _ _ _) (fa_48 _ _ _ _) h kw_680 (by decide) cl_6 ⟨by decide, by decide⟩ (Nat.le_of_ble_eq_true rfl) dX6_copyFrom_73 rfl (fun F_303 h => ?_)
  refine G_aload_n (pc2 := 77) 1 rfl dX6_copyFrom_76 rfl rfl ?_
  refine T_22_6 (pc2 := 80) kw_225 dX6_copyFrom_77 rfl ?_
  refine G_iconst (pc2 := 81) dX6_copyFrom_80 ic_0 rfl ?_
  refine G_aload_n (pc2 := 82) 0 rfl dX6_copyFrom_81 rfl rfl ?_
  refine T_44_6 (pc2 := 85) kw_225 dX6_copyFrom_82 rfl ?_
  refine G_iconst (pc2 := 86) dX6_copyFrom_85 ic_0 rfl ?_
  refine G_bipush (pc2 := 88) dX6_copyFrom_86 ib_6 rfl ?_
  refine YC (pc2 := 91) (fa_27 _ _ _ _) (fa_49 _ _ _ _) h kw_680 (by decide) cl_6 ⟨by decide, by decide⟩ (Nat.le_of_ble_eq_true rfl) dX6_copyFrom_88 rfl (fun F_304 h => ?_)
  refine G_aload_n (pc2 := 92) 1 rfl dX6_copyFrom_91 rfl rfl ?_
  refine T_22_7 (pc2 := 95) kw_228 dX6_copyFrom_92 rfl ?_
  refine G_iconst (pc2 := 96) dX6_copyFrom_95 ic_0 rfl ?_
  refine G_aload_n (pc2 := 97) 0 rfl dX6_copyFrom_96 rfl rfl ?_
  refine T_44_7 (pc2 := 100) kw_228 dX6_copyFrom_97 rfl ?_
  refine G_iconst (pc2 := 101) dX6_copyFrom_100 ic_0 rfl ?_
  refine G_bipush (pc2 := 103) dX6_copyFrom_101 ib_6 rfl ?_
  refine YC (pc2 := 106) (fa_28 _ _ _ _) (fa_50 _ _ _ _) h kw_680 (by decide) cl_6 ⟨by decide, by decide⟩ (Nat.le_of_ble_eq_true rfl) dX6_copyFrom_103 rfl (fun F_305 h => ?_)
  refine G_aload_n (pc2 := 107) 1 rfl dX6_copyFrom_106 rfl rfl ?_
  refine T_22_8 (pc2 := 110) kw_231 dX6_copyFrom_107 rfl ?_
  refine G_iconst (pc2 := 111) dX6_copyFrom_110 ic_0 rfl ?_
  refine G_aload_n (pc2 := 112) 0 rfl dX6_copyFrom_111 rfl rfl ?_
  refine T_44_8 (pc2 := 115) kw_231 dX6_copyFrom_112 rfl ?_
  refine G_iconst (pc2 := 116) dX6_copyFrom_115 ic_0 rfl ?_
  refine G_bipush (pc2 := 118) dX6_copyFrom_116 ib_6 rfl ?_
  refine YC (pc2 := 121) (fa_29 _ _ _ _) (fa_51 _ _ _ _) h kw_680 (by decide) cl_6 ⟨by decide, by decide⟩ (Nat.le_of_ble_eq_true rfl) dX6_copyFrom_118 rfl (fun F_306 h => ?_)
  refine G_aload_n (pc2 := 122) 1 rfl dX6_copyFrom_121 rfl rfl ?_
  refine T_22_9 (pc2 := 125) kw_234 dX6_copyFrom_122 rfl ?_
  refine G_iconst (pc2 := 126) dX6_copyFrom_125 ic_0 rfl ?_
  refine G_aload_n (pc2 := 127) 0 rfl dX6_copyFrom_126 rfl rfl ?_
  refine T_44_9 (pc2 := 130) kw_234 dX6_copyFrom_127 rfl ?_
  refine G_iconst (pc2 := 131) dX6_copyFrom_130 ic_0 rfl ?_
  refine G_bipush (pc2 := 133) dX6_copyFrom_131 ib_20 rfl ?_
  refine YC (pc2 := 136) (fa_30 _ _ _ _) (fa_52 _ _ _ _) h kw_680 (by decide) cl_20 ⟨by decide, by decide⟩ (Nat.le_of_ble_eq_true rfl) dX6_copyFrom_133 rfl (fun F_307 h => ?_)
  have ha := Option.some.inj h
  subst ha
  exact G_vret rfl dX6_copyFrom_136)
def f_X6_copyFrom_53_22 (I : WI) (F : WF) : Option (WI × WF) :=
  bnd (upd I 4 (I 0)) fun I_312 =>
  bnd (upd I_312 5 (I_312 1)) fun I_313 =>
  bnd (uF F 16 (va_cpy (F 0) (F 16) 0 0 9)) fun F_314 =>
  bnd (uF F_314 17 (va_cpy (F_314 1) (F_314 17) 0 0 9)) fun F_315 =>
  bnd (uF F_315 18 (va_cpy (F_315 2) (F_315 18) 0 0 9)) fun F_316 =>
  bnd (uF F_316 19 (va_cpy (F_316 3) (F_316 19) 0 0 6)) fun F_317 =>
  bnd (uF F_317 20 (va_cpy (F_317 4) (F_317 20) 0 0 6)) fun F_318 =>
  bnd (uF F_318 21 (va_cpy (F_318 5) (F_318 21) 0 0 6)) fun F_319 =>
  bnd (uF F_319 22 (va_cpy (F_319 6) (F_319 22) 0 0 6)) fun F_320 =>
  bnd (uF F_320 23 (va_cpy (F_320 7) (F_320 23) 0 0 20)) fun F_321 =>
  some (I_313, F_321)
set_option maxRecDepth 100000 in
set_option maxHeartbeats 4000000 in
theorem c_X6_copyFrom_53_22 {I : WI} {F : WF} {J : WI} {K : WF} {a : WI × WF} (h : f_X6_copyFrom_53_22  I F = some a) : CT md_X6_copyFrom yX6_copyFrom (rmD 1) [.ref 53, .ref 22] (mkW I F J K) none (mkW a.1 a.2 J K) := CT_of pn_X6 ⟨rfl, rfl⟩ (Nat.le_of_ble_eq_true rfl) (fun X => by
  show GG X md_X6_copyFrom (rmD 1) _ 0 0 0 [(0, .ref 53), (1, .ref 22)] [] (mkW I F J K)
  unfold f_X6_copyFrom_53_22 at h
  refine G_aload_n (pc2 := 1) 0 rfl dX6_copyFrom_0 rfl rfl ?_
  refine G_aload_n (pc2 := 2) 1 rfl dX6_copyFrom_1 rfl rfl ?_
  refine T_22_0 (pc2 := 5) kw_207 dX6_copyFrom_2 rfl ?_
  refine P_53_0 (pc2 := 8) h kw_207 dX6_copyFrom_5 rfl (fun I_312 h => ?_)
  refine G_aload_n (pc2 := 9) 0 rfl dX6_copyFrom_8 rfl rfl ?_
  refine G_aload_n (pc2 := 10) 1 rfl dX6_copyFrom_9 rfl rfl ?_
  refine T_22_1 (pc2 := 13) kw_210 dX6_copyFrom_10 rfl ?_
  refine P_53_1 (pc2 := 16) h kw_210 dX6_copyFrom_13 rfl (fun I_313 h => ?_)
  refine G_aload_n (pc2 := 17) 1 rfl dX6_copyFrom_16 rfl rfl ?_
  refine T_22_2 (pc2 := 20) kw_212 dX6_copyFrom_17 rfl ?_
  refine G_iconst (pc2 := 21) dX6_copyFrom_20 ic_0 rfl ?_
  refine G_aload_n (pc2 := 22) 0 rfl dX6_copyFrom_21 rfl rfl ?_
  refine T_53_2 (pc2 := 25) kw_212 dX6_copyFrom_22 rfl ?_
  refine G_iconst (pc2 := 26) dX6_copyFrom_25 ic_0 rfl ?_
  refine G_bipush (pc2 := 28) dX6_copyFrom_26 ib_9 rfl ?_
  refine YC (pc2 := 31) (fa_23 _ _ _ _) (fa_54 _ _ _ _) h kw_680 (by decide) cl_9 ⟨by decide, by decide⟩ (Nat.le_of_ble_eq_true rfl) dX6_copyFrom_28 rfl (fun F_314 h => ?_)
  refine G_aload_n (pc2 := 32) 1 rfl dX6_copyFrom_31 rfl rfl ?_
  refine T_22_3 (pc2 := 35) kw_215 dX6_copyFrom_32 rfl ?_
  refine G_iconst (pc2 := 36) dX6_copyFrom_35 ic_0 rfl ?_
  refine G_aload_n (pc2 := 37) 0 rfl dX6_copyFrom_36 rfl rfl ?_
  refine T_53_3 (pc2 := 40) kw_215 dX6_copyFrom_37 rfl ?_
  refine G_iconst (pc2 := 41) dX6_copyFrom_40 ic_0 rfl ?_
  refine G_bipush (pc2 := 43) dX6_copyFrom_41 ib_9 rfl ?_
  refine YC (pc2 := 46) (fa_24 _ _ _ _) (fa_55 _ _ _ _) h kw_680 (by decide) cl_9 ⟨by decide, by decide⟩ (Nat.le_of_ble_eq_true rfl) dX6_copyFrom_43 rfl (fun F_315 h => ?_)
  refine G_aload_n (pc2 := 47) 1 rfl dX6_copyFrom_46 rfl rfl ?_
  refine T_22_4 (pc2 := 50) kw_218 dX6_copyFrom_47 rfl ?_
  refine G_iconst (pc2 := 51) dX6_copyFrom_50 ic_0 rfl ?_
  refine G_aload_n (pc2 := 52) 0 rfl dX6_copyFrom_51 rfl rfl ?_
  refine T_53_4 (pc2 := 55) kw_218 dX6_copyFrom_52 rfl ?_
  refine G_iconst (pc2 := 56) dX6_copyFrom_55 ic_0 rfl ?_
  refine G_bipush (pc2 := 58) dX6_copyFrom_56 ib_9 rfl ?_
  refine YC (pc2 := 61) (fa_25 _ _ _ _) (fa_56 _ _ _ _) h kw_680 (by decide) cl_9 ⟨by decide, by decide⟩ (Nat.le_of_ble_eq_true rfl) dX6_copyFrom_58 rfl (fun F_316 h => ?_)
  refine G_aload_n (pc2 := 62) 1 rfl dX6_copyFrom_61 rfl rfl ?_
  refine T_22_5 (pc2 := 65) kw_221 dX6_copyFrom_62 rfl ?_
  refine G_iconst (pc2 := 66) dX6_copyFrom_65 ic_0 rfl ?_
  refine G_aload_n (pc2 := 67) 0 rfl dX6_copyFrom_66 rfl rfl ?_
  refine T_53_5 (pc2 := 70) kw_221 dX6_copyFrom_67 rfl ?_
  refine G_iconst (pc2 := 71) dX6_copyFrom_70 ic_0 rfl ?_
  refine G_bipush (pc2 := 73) dX6_copyFrom_71 ib_6 rfl ?_
  refine YC (pc2 := 76) (fa_26 _ _ _ _) (fa_57 _ _ _ _) h kw_680 (by decide) cl_6 ⟨by decide, by decide⟩ (Nat.le_of_ble_eq_true rfl) dX6_copyFrom_73 rfl (fun F_317 h => ?_)
  refine G_aload_n (pc2 := 77) 1 rfl dX6_copyFrom_76 rfl rfl ?_
  refine T_22_6 (pc2 := 80) kw_225 dX6_copyFrom_77 rfl ?_
  refine G_iconst (pc2 := 81) dX6_copyFrom_80 ic_0 rfl ?_
  refine G_aload_n (pc2 := 82) 0 rfl dX6_copyFrom_81 rfl rfl ?_
  refine T_53_6 (pc2 := 85) kw_225 dX6_copyFrom_82 rfl ?_
  refine G_iconst (pc2 := 86) dX6_copyFrom_85 ic_0 rfl ?_
  refine G_bipush (pc2 := 88) dX6_copyFrom_86 ib_6 rfl ?_
  refine YC (pc2 := 91) (fa_27 _ _ _ _) (fa_58 _ _ _ _) h kw_680 (by decide) cl_6 ⟨by decide, by decide⟩ (Nat.le_of_ble_eq_true rfl) dX6_copyFrom_88 rfl (fun F_318 h => ?_)
  refine G_aload_n (pc2 := 92) 1 rfl dX6_copyFrom_91 rfl rfl ?_
  refine T_22_7 (pc2 := 95) kw_228 dX6_copyFrom_92 rfl ?_
  refine G_iconst (pc2 := 96) dX6_copyFrom_95 ic_0 rfl ?_
  refine G_aload_n (pc2 := 97) 0 rfl dX6_copyFrom_96 rfl rfl ?_
  refine T_53_7 (pc2 := 100) kw_228 dX6_copyFrom_97 rfl ?_
  refine G_iconst (pc2 := 101) dX6_copyFrom_100 ic_0 rfl ?_
  refine G_bipush (pc2 := 103) dX6_copyFrom_101 ib_6 rfl ?_
  refine YC (pc2 := 106) (fa_28 _ _ _ _) (fa_59 _ _ _ _) h kw_680 (by decide) cl_6 ⟨by decide, by decide⟩ (Nat.le_of_ble_eq_true rfl) dX6_copyFrom_103 rfl (fun F_319 h => ?_)
  refine G_aload_n (pc2 := 107) 1 rfl dX6_copyFrom_106 rfl rfl ?_
  refine T_22_8 (pc2 := 110) kw_231 dX6_copyFrom_107 rfl ?_
  refine G_iconst (pc2 := 111) dX6_copyFrom_110 ic_0 rfl ?_
  refine G_aload_n (pc2 := 112) 0 rfl dX6_copyFrom_111 rfl rfl ?_
  refine T_53_8 (pc2 := 115) kw_231 dX6_copyFrom_112 rfl ?_
  refine G_iconst (pc2 := 116) dX6_copyFrom_115 ic_0 rfl ?_
  refine G_bipush (pc2 := 118) dX6_copyFrom_116 ib_6 rfl ?_
  refine YC (pc2 := 121) (fa_29 _ _ _ _) (fa_60 _ _ _ _) h kw_680 (by decide) cl_6 ⟨by decide, by decide⟩ (Nat.le_of_ble_eq_true rfl) dX6_copyFrom_118 rfl (fun F_320 h => ?_)
  refine G_aload_n (pc2 := 122) 1 rfl dX6_copyFrom_121 rfl rfl ?_
  refine T_22_9 (pc2 := 125) kw_234 dX6_copyFrom_122 rfl ?_
  refine G_iconst (pc2 := 126) dX6_copyFrom_125 ic_0 rfl ?_
  refine G_aload_n (pc2 := 127) 0 rfl dX6_copyFrom_126 rfl rfl ?_
  refine T_53_9 (pc2 := 130) kw_234 dX6_copyFrom_127 rfl ?_
  refine G_iconst (pc2 := 131) dX6_copyFrom_130 ic_0 rfl ?_
  refine G_bipush (pc2 := 133) dX6_copyFrom_131 ib_20 rfl ?_
  refine YC (pc2 := 136) (fa_30 _ _ _ _) (fa_61 _ _ _ _) h kw_680 (by decide) cl_20 ⟨by decide, by decide⟩ (Nat.le_of_ble_eq_true rfl) dX6_copyFrom_133 rfl (fun F_321 h => ?_)
  have ha := Option.some.inj h
  subst ha
  exact G_vret rfl dX6_copyFrom_136)
def f_X6_copyFrom_62_22 (I : WI) (F : WF) : Option (WI × WF) :=
  bnd (upd I 6 (I 0)) fun I_326 =>
  bnd (upd I_326 7 (I_326 1)) fun I_327 =>
  bnd (uF F 24 (va_cpy (F 0) (F 24) 0 0 9)) fun F_328 =>
  bnd (uF F_328 25 (va_cpy (F_328 1) (F_328 25) 0 0 9)) fun F_329 =>
  bnd (uF F_329 26 (va_cpy (F_329 2) (F_329 26) 0 0 9)) fun F_330 =>
  bnd (uF F_330 27 (va_cpy (F_330 3) (F_330 27) 0 0 6)) fun F_331 =>
  bnd (uF F_331 28 (va_cpy (F_331 4) (F_331 28) 0 0 6)) fun F_332 =>
  bnd (uF F_332 29 (va_cpy (F_332 5) (F_332 29) 0 0 6)) fun F_333 =>
  bnd (uF F_333 30 (va_cpy (F_333 6) (F_333 30) 0 0 6)) fun F_334 =>
  bnd (uF F_334 31 (va_cpy (F_334 7) (F_334 31) 0 0 20)) fun F_335 =>
  some (I_327, F_335)
set_option maxRecDepth 100000 in
set_option maxHeartbeats 4000000 in
theorem c_X6_copyFrom_62_22 {I : WI} {F : WF} {J : WI} {K : WF} {a : WI × WF} (h : f_X6_copyFrom_62_22  I F = some a) : CT md_X6_copyFrom yX6_copyFrom (rmD 1) [.ref 62, .ref 22] (mkW I F J K) none (mkW a.1 a.2 J K) := CT_of pn_X6 ⟨rfl, rfl⟩ (Nat.le_of_ble_eq_true rfl) (fun X => by
  show GG X md_X6_copyFrom (rmD 1) _ 0 0 0 [(0, .ref 62), (1, .ref 22)] [] (mkW I F J K)
  unfold f_X6_copyFrom_62_22 at h
  refine G_aload_n (pc2 := 1) 0 rfl dX6_copyFrom_0 rfl rfl ?_
  refine G_aload_n (pc2 := 2) 1 rfl dX6_copyFrom_1 rfl rfl ?_
  refine T_22_0 (pc2 := 5) kw_207 dX6_copyFrom_2 rfl ?_
  refine P_62_0 (pc2 := 8) h kw_207 dX6_copyFrom_5 rfl (fun I_326 h => ?_)
  refine G_aload_n (pc2 := 9) 0 rfl dX6_copyFrom_8 rfl rfl ?_
  refine G_aload_n (pc2 := 10) 1 rfl dX6_copyFrom_9 rfl rfl ?_
  refine T_22_1 (pc2 := 13) kw_210 dX6_copyFrom_10 rfl ?_
  refine P_62_1 (pc2 := 16) h kw_210 dX6_copyFrom_13 rfl (fun I_327 h => ?_)
  refine G_aload_n (pc2 := 17) 1 rfl dX6_copyFrom_16 rfl rfl ?_
  refine T_22_2 (pc2 := 20) kw_212 dX6_copyFrom_17 rfl ?_
  refine G_iconst (pc2 := 21) dX6_copyFrom_20 ic_0 rfl ?_
  refine G_aload_n (pc2 := 22) 0 rfl dX6_copyFrom_21 rfl rfl ?_
  refine T_62_2 (pc2 := 25) kw_212 dX6_copyFrom_22 rfl ?_
  refine G_iconst (pc2 := 26) dX6_copyFrom_25 ic_0 rfl ?_
  refine G_bipush (pc2 := 28) dX6_copyFrom_26 ib_9 rfl ?_
  refine YC (pc2 := 31) (fa_23 _ _ _ _) (fa_63 _ _ _ _) h kw_680 (by decide) cl_9 ⟨by decide, by decide⟩ (Nat.le_of_ble_eq_true rfl) dX6_copyFrom_28 rfl (fun F_328 h => ?_)
  refine G_aload_n (pc2 := 32) 1 rfl dX6_copyFrom_31 rfl rfl ?_
  refine T_22_3 (pc2 := 35) kw_215 dX6_copyFrom_32 rfl ?_
  refine G_iconst (pc2 := 36) dX6_copyFrom_35 ic_0 rfl ?_
  refine G_aload_n (pc2 := 37) 0 rfl dX6_copyFrom_36 rfl rfl ?_
  refine T_62_3 (pc2 := 40) kw_215 dX6_copyFrom_37 rfl ?_
  refine G_iconst (pc2 := 41) dX6_copyFrom_40 ic_0 rfl ?_
  refine G_bipush (pc2 := 43) dX6_copyFrom_41 ib_9 rfl ?_
  refine YC (pc2 := 46) (fa_24 _ _ _ _) (fa_64 _ _ _ _) h kw_680 (by decide) cl_9 ⟨by decide, by decide⟩ (Nat.le_of_ble_eq_true rfl) dX6_copyFrom_43 rfl (fun F_329 h => ?_)
  refine G_aload_n (pc2 := 47) 1 rfl dX6_copyFrom_46 rfl rfl ?_
  refine T_22_4 (pc2 := 50) kw_218 dX6_copyFrom_47 rfl ?_
  refine G_iconst (pc2 := 51) dX6_copyFrom_50 ic_0 rfl ?_
  refine G_aload_n (pc2 := 52) 0 rfl dX6_copyFrom_51 rfl rfl ?_
  refine T_62_4 (pc2 := 55) kw_218 dX6_copyFrom_52 rfl ?_
  refine G_iconst (pc2 := 56) dX6_copyFrom_55 ic_0 rfl ?_
  refine G_bipush (pc2 := 58) dX6_copyFrom_56 ib_9 rfl ?_
  refine YC (pc2 := 61) (fa_25 _ _ _ _) (fa_65 _ _ _ _) h kw_680 (by decide) cl_9 ⟨by decide, by decide⟩ (Nat.le_of_ble_eq_true rfl) dX6_copyFrom_58 rfl (fun F_330 h => ?_)
  refine G_aload_n (pc2 := 62) 1 rfl dX6_copyFrom_61 rfl rfl ?_
  refine T_22_5 (pc2 := 65) kw_221 dX6_copyFrom_62 rfl ?_
  refine G_iconst (pc2 := 66) dX6_copyFrom_65 ic_0 rfl ?_
  refine G_aload_n (pc2 := 67) 0 rfl dX6_copyFrom_66 rfl rfl ?_
  refine T_62_5 (pc2 := 70) kw_221 dX6_copyFrom_67 rfl ?_
  refine G_iconst (pc2 := 71) dX6_copyFrom_70 ic_0 rfl ?_
  refine G_bipush (pc2 := 73) dX6_copyFrom_71 ib_6 rfl ?_
  refine YC (pc2 := 76) (fa_26 _ _ _ _) (fa_66 _ _ _ _) h kw_680 (by decide) cl_6 ⟨by decide, by decide⟩ (Nat.le_of_ble_eq_true rfl) dX6_copyFrom_73 rfl (fun F_331 h => ?_)
  refine G_aload_n (pc2 := 77) 1 rfl dX6_copyFrom_76 rfl rfl ?_
  refine T_22_6 (pc2 := 80) kw_225 dX6_copyFrom_77 rfl ?_
  refine G_iconst (pc2 := 81) dX6_copyFrom_80 ic_0 rfl ?_
  refine G_aload_n (pc2 := 82) 0 rfl dX6_copyFrom_81 rfl rfl ?_
  refine T_62_6 (pc2 := 85) kw_225 dX6_copyFrom_82 rfl ?_
  refine G_iconst (pc2 := 86) dX6_copyFrom_85 ic_0 rfl ?_
  refine G_bipush (pc2 := 88) dX6_copyFrom_86 ib_6 rfl ?_
  refine YC (pc2 := 91) (fa_27 _ _ _ _) (fa_67 _ _ _ _) h kw_680 (by decide) cl_6 ⟨by decide, by decide⟩ (Nat.le_of_ble_eq_true rfl) dX6_copyFrom_88 rfl (fun F_332 h => ?_)
  refine G_aload_n (pc2 := 92) 1 rfl dX6_copyFrom_91 rfl rfl ?_
  refine T_22_7 (pc2 := 95) kw_228 dX6_copyFrom_92 rfl ?_
  refine G_iconst (pc2 := 96) dX6_copyFrom_95 ic_0 rfl ?_
  refine G_aload_n (pc2 := 97) 0 rfl dX6_copyFrom_96 rfl rfl ?_
  refine T_62_7 (pc2 := 100) kw_228 dX6_copyFrom_97 rfl ?_
  refine G_iconst (pc2 := 101) dX6_copyFrom_100 ic_0 rfl ?_
  refine G_bipush (pc2 := 103) dX6_copyFrom_101 ib_6 rfl ?_
  refine YC (pc2 := 106) (fa_28 _ _ _ _) (fa_68 _ _ _ _) h kw_680 (by decide) cl_6 ⟨by decide, by decide⟩ (Nat.le_of_ble_eq_true rfl) dX6_copyFrom_103 rfl (fun F_333 h => ?_)
  refine G_aload_n (pc2 := 107) 1 rfl dX6_copyFrom_106 rfl rfl ?_
  refine T_22_8 (pc2 := 110) kw_231 dX6_copyFrom_107 rfl ?_
  refine G_iconst (pc2 := 111) dX6_copyFrom_110 ic_0 rfl ?_
  refine G_aload_n (pc2 := 112) 0 rfl dX6_copyFrom_111 rfl rfl ?_
  refine T_62_8 (pc2 := 115) kw_231 dX6_copyFrom_112 rfl ?_
  refine G_iconst (pc2 := 116) dX6_copyFrom_115 ic_0 rfl ?_
  refine G_bipush (pc2 := 118) dX6_copyFrom_116 ib_6 rfl ?_
  refine YC (pc2 := 121) (fa_29 _ _ _ _) (fa_69 _ _ _ _) h kw_680 (by decide) cl_6 ⟨by decide, by decide⟩ (Nat.le_of_ble_eq_true rfl) dX6_copyFrom_118 rfl (fun F_334 h => ?_)
  refine G_aload_n (pc2 := 122) 1 rfl dX6_copyFrom_121 rfl rfl ?_
  refine T_22_9 (pc2 := 125) kw_234 dX6_copyFrom_122 rfl ?_
  refine G_iconst (pc2 := 126) dX6_copyFrom_125 ic_0 rfl ?_
  refine G_aload_n (pc2 := 127) 0 rfl dX6_copyFrom_126 rfl rfl ?_
  refine T_62_9 (pc2 := 130) kw_234 dX6_copyFrom_127 rfl ?_
  refine G_iconst (pc2 := 131) dX6_copyFrom_130 ic_0 rfl ?_
  refine G_bipush (pc2 := 133) dX6_copyFrom_131 ib_20 rfl ?_
  refine YC (pc2 := 136) (fa_30 _ _ _ _) (fa_70 _ _ _ _) h kw_680 (by decide) cl_20 ⟨by decide, by decide⟩ (Nat.le_of_ble_eq_true rfl) dX6_copyFrom_133 rfl (fun F_335 h => ?_)
  have ha := Option.some.inj h
  subst ha
  exact G_vret rfl dX6_copyFrom_136)
def f_X6_copyFrom_71_22 (I : WI) (F : WF) : Option (WI × WF) :=
  bnd (upd I 8 (I 0)) fun I_340 =>
  bnd (upd I_340 9 (I_340 1)) fun I_341 =>
  bnd (uF F 32 (va_cpy (F 0) (F 32) 0 0 9)) fun F_342 =>
  bnd (uF F_342 33 (va_cpy (F_342 1) (F_342 33) 0 0 9)) fun F_343 =>
  bnd (uF F_343 34 (va_cpy (F_343 2) (F_343 34) 0 0 9)) fun F_344 =>
  bnd (uF F_344 35 (va_cpy (F_344 3) (F_344 35) 0 0 6)) fun F_345 =>
  bnd (uF F_345 36 (va_cpy (F_345 4) (F_345 36) 0 0 6)) fun F_346 =>
  bnd (uF F_346 37 (va_cpy (F_346 5) (F_346 37) 0 0 6)) fun F_347 =>
  bnd (uF F_347 38 (va_cpy (F_347 6) (F_347 38) 0 0 6)) fun F_348 =>
  bnd (uF F_348 39 (va_cpy (F_348 7) (F_348 39) 0 0 20)) fun F_349 =>
  some (I_341, F_349)
set_option maxRecDepth 100000 in
set_option maxHeartbeats 4000000 in
theorem c_X6_copyFrom_71_22 {I : WI} {F : WF} {J : WI} {K : WF} {a : WI × WF} (h : f_X6_copyFrom_71_22  I F = some a) : CT md_X6_copyFrom yX6_copyFrom (rmD 1) [.ref 71, .ref 22] (mkW I F J K) none (mkW a.1 a.2 J K) := CT_of pn_X6 ⟨rfl, rfl⟩ (Nat.le_of_ble_eq_true rfl) (fun X => by
  show GG X md_X6_copyFrom (rmD 1) _ 0 0 0 [(0, .ref 71), (1, .ref 22)] [] (mkW I F J K)
  unfold f_X6_copyFrom_71_22 at h
  refine G_aload_n (pc2 := 1) 0 rfl dX6_copyFrom_0 rfl rfl ?_
  refine G_aload_n (pc2 := 2) 1 rfl dX6_copyFrom_1 rfl rfl ?_
  refine T_22_0 (pc2 := 5) kw_207 dX6_copyFrom_2 rfl ?_
  refine P_71_0 (pc2 := 8) h kw_207 dX6_copyFrom_5 rfl (fun I_340 h => ?_)
  refine G_aload_n (pc2 := 9) 0 rfl dX6_copyFrom_8 rfl rfl ?_
  refine G_aload_n (pc2 := 10) 1 rfl dX6_copyFrom_9 rfl rfl ?_
  refine T_22_1 (pc2 := 13) kw_210 dX6_copyFrom_10 rfl ?_
  refine P_71_1 (pc2 := 16) h kw_210 dX6_copyFrom_13 rfl (fun I_341 h => ?_)
  refine G_aload_n (pc2 := 17) 1 rfl dX6_copyFrom_16 rfl rfl ?_
  refine T_22_2 (pc2 := 20) kw_212 dX6_copyFrom_17 rfl ?_
  refine G_iconst (pc2 := 21) dX6_copyFrom_20 ic_0 rfl ?_
  refine G_aload_n (pc2 := 22) 0 rfl dX6_copyFrom_21 rfl rfl ?_
  refine T_71_2 (pc2 := 25) kw_212 dX6_copyFrom_22 rfl ?_
  refine G_iconst (pc2 := 26) dX6_copyFrom_25 ic_0 rfl ?_
  refine G_bipush (pc2 := 28) dX6_copyFrom_26 ib_9 rfl ?_
  refine YC (pc2 := 31) (fa_23 _ _ _ _) (fa_72 _ _ _ _) h kw_680 (by decide) cl_9 ⟨by decide, by decide⟩ (Nat.le_of_ble_eq_true rfl) dX6_copyFrom_28 rfl (fun F_342 h => ?_)
  refine G_aload_n (pc2 := 32) 1 rfl dX6_copyFrom_31 rfl rfl ?_
  refine T_22_3 (pc2 := 35) kw_215 dX6_copyFrom_32 rfl ?_
  refine G_iconst (pc2 := 36) dX6_copyFrom_35 ic_0 rfl ?_
  refine G_aload_n (pc2 := 37) 0 rfl dX6_copyFrom_36 rfl rfl ?_
  refine T_71_3 (pc2 := 40) kw_215 dX6_copyFrom_37 rfl ?_
  refine G_iconst (pc2 := 41) dX6_copyFrom_40 ic_0 rfl ?_
  refine G_bipush (pc2 := 43) dX6_copyFrom_41 ib_9 rfl ?_
  refine YC (pc2 := 46) (fa_24 _ _ _ _) (fa_73 _ _ _ _) h kw_680 (by decide) cl_9 ⟨by decide, by decide⟩ (Nat.le_of_ble_eq_true rfl) dX6_copyFrom_43 rfl (fun F_343 h => ?_)
  refine G_aload_n (pc2 := 47) 1 rfl dX6_copyFrom_46 rfl rfl ?_
  refine T_22_4 (pc2 := 50) kw_218 dX6_copyFrom_47 rfl ?_
  refine G_iconst (pc2 := 51) dX6_copyFrom_50 ic_0 rfl ?_
  refine G_aload_n (pc2 := 52) 0 rfl dX6_copyFrom_51 rfl rfl ?_
  refine T_71_4 (pc2 := 55) kw_218 dX6_copyFrom_52 rfl ?_
  refine G_iconst (pc2 := 56) dX6_copyFrom_55 ic_0 rfl ?_
  refine G_bipush (pc2 := 58) dX6_copyFrom_56 ib_9 rfl ?_
  refine YC (pc2 := 61) (fa_25 _ _ _ _) (fa_74 _ _ _ _) h kw_680 (by decide) cl_9 ⟨by decide, by decide⟩ (Nat.le_of_ble_eq_true rfl) dX6_copyFrom_58 rfl (fun F_344 h => ?_)
  refine G_aload_n (pc2 := 62) 1 rfl dX6_copyFrom_61 rfl rfl ?_
  refine T_22_5 (pc2 := 65) kw_221 dX6_copyFrom_62 rfl ?_
  refine G_iconst (pc2 := 66) dX6_copyFrom_65 ic_0 rfl ?_
  refine G_aload_n (pc2 := 67) 0 rfl dX6_copyFrom_66 rfl rfl ?_
  refine T_71_5 (pc2 := 70) kw_221 dX6_copyFrom_67 rfl ?_
  refine G_iconst (pc2 := 71) dX6_copyFrom_70 ic_0 rfl ?_
  refine G_bipush (pc2 := 73) dX6_copyFrom_71 ib_6 rfl ?_
  refine YC (pc2 := 76) (fa_26 _ _ _ _) (fa_75 _ _ _ _) h kw_680 (by decide) cl_6 ⟨by decide, by decide⟩ (Nat.le_of_ble_eq_true rfl) dX6_copyFrom_73 rfl (fun F_345 h => ?_)
  refine G_aload_n (pc2 := 77) 1 rfl dX6_copyFrom_76 rfl rfl ?_
  refine T_22_6 (pc2 := 80) kw_225 dX6_copyFrom_77 rfl ?_
  refine G_iconst (pc2 := 81) dX6_copyFrom_80 ic_0 rfl ?_
  refine G_aload_n (pc2 := 82) 0 rfl dX6_copyFrom_81 rfl rfl ?_
  refine T_71_6 (pc2 := 85) kw_225 dX6_copyFrom_82 rfl ?_
  refine G_iconst (pc2 := 86) dX6_copyFrom_85 ic_0 rfl ?_
  refine G_bipush (pc2 := 88) dX6_copyFrom_86 ib_6 rfl ?_
  refine YC (pc2 := 91) (fa_27 _ _ _ _) (fa_76 _ _ _ _) h kw_680 (by decide) cl_6 ⟨by decide, by decide⟩ (Nat.le_of_ble_eq_true rfl) dX6_copyFrom_88 rfl (fun F_346 h => ?_)
  refine G_aload_n (pc2 := 92) 1 rfl dX6_copyFrom_91 rfl rfl ?_
  refine T_22_7 (pc2 := 95) kw_228 dX6_copyFrom_92 rfl ?_
  refine G_iconst (pc2 := 96) dX6_copyFrom_95 ic_0 rfl ?_
  refine G_aload_n (pc2 := 97) 0 rfl dX6_copyFrom_96 rfl rfl ?_
  refine T_71_7 (pc2 := 100) kw_228 dX6_copyFrom_97 rfl ?_
  refine G_iconst (pc2 := 101) dX6_copyFrom_100 ic_0 rfl ?_
  refine G_bipush (pc2 := 103) dX6_copyFrom_101 ib_6 rfl ?_
  refine YC (pc2 := 106) (fa_28 _ _ _ _) (fa_77 _ _ _ _) h kw_680 (by decide) cl_6 ⟨by decide, by decide⟩ (Nat.le_of_ble_eq_true rfl) dX6_copyFrom_103 rfl (fun F_347 h => ?_)
  refine G_aload_n (pc2 := 107) 1 rfl dX6_copyFrom_106 rfl rfl ?_
  refine T_22_8 (pc2 := 110) kw_231 dX6_copyFrom_107 rfl ?_
  refine G_iconst (pc2 := 111) dX6_copyFrom_110 ic_0 rfl ?_
  refine G_aload_n (pc2 := 112) 0 rfl dX6_copyFrom_111 rfl rfl ?_
  refine T_71_8 (pc2 := 115) kw_231 dX6_copyFrom_112 rfl ?_
  refine G_iconst (pc2 := 116) dX6_copyFrom_115 ic_0 rfl ?_
  refine G_bipush (pc2 := 118) dX6_copyFrom_116 ib_6 rfl ?_
  refine YC (pc2 := 121) (fa_29 _ _ _ _) (fa_78 _ _ _ _) h kw_680 (by decide) cl_6 ⟨by decide, by decide⟩ (Nat.le_of_ble_eq_true rfl) dX6_copyFrom_118 rfl (fun F_348 h => ?_)
  refine G_aload_n (pc2 := 122) 1 rfl dX6_copyFrom_121 rfl rfl ?_
  refine T_22_9 (pc2 := 125) kw_234 dX6_copyFrom_122 rfl ?_
  refine G_iconst (pc2 := 126) dX6_copyFrom_125 ic_0 rfl ?_
  refine G_aload_n (pc2 := 127) 0 rfl dX6_copyFrom_126 rfl rfl ?_
  refine T_71_9 (pc2 := 130) kw_234 dX6_copyFrom_127 rfl ?_
  refine G_iconst (pc2 := 131) dX6_copyFrom_130 ic_0 rfl ?_
  refine G_bipush (pc2 := 133) dX6_copyFrom_131 ib_20 rfl ?_
  refine YC (pc2 := 136) (fa_30 _ _ _ _) (fa_79 _ _ _ _) h kw_680 (by decide) cl_20 ⟨by decide, by decide⟩ (Nat.le_of_ble_eq_true rfl) dX6_copyFrom_133 rfl (fun F_349 h => ?_)
  have ha := Option.some.inj h
  subst ha
  exact G_vret rfl dX6_copyFrom_136)
def f_X6_copyFrom_80_22 (I : WI) (F : WF) : Option (WI × WF) :=
  bnd (upd I 10 (I 0)) fun I_354 =>
  bnd (upd I_354 11 (I_354 1)) fun I_355 =>
  bnd (uF F 40 (va_cpy (F 0) (F 40) 0 0 9)) fun F_356 =>
  bnd (uF F_356 41 (va_cpy (F_356 1) (F_356 41) 0 0 9)) fun F_357 =>
  bnd (uF F_357 42 (va_cpy (F_357 2) (F_357 42) 0 0 9)) fun F_358 =>
  bnd (uF F_358 43 (va_cpy (F_358 3) (F_358 43) 0 0 6)) fun F_359 =>
  bnd (uF F_359 44 (va_cpy (F_359 4) (F_359 44) 0 0 6)) fun F_360 =>
  bnd (uF F_360 45 (va_cpy (F_360 5) (F_360 45) 0 0 6)) fun F_361 =>
  bnd (uF F_361 46 (va_cpy (F_361 6) (F_361 46) 0 0 6)) fun F_362 =>
  bnd (uF F_362 47 (va_cpy (F_362 7) (F_362 47) 0 0 20)) fun F_363 =>
  some (I_355, F_363)
set_option maxRecDepth 100000 in
set_option maxHeartbeats 4000000 in
theorem c_X6_copyFrom_80_22 {I : WI} {F : WF} {J : WI} {K : WF} {a : WI × WF} (h : f_X6_copyFrom_80_22  I F = some a) : CT md_X6_copyFrom yX6_copyFrom (rmD 1) [.ref 80, .ref 22] (mkW I F J K) none (mkW a.1 a.2 J K) := CT_of pn_X6 ⟨rfl, rfl⟩ (Nat.le_of_ble_eq_true rfl) (fun X => by
  show GG X md_X6_copyFrom (rmD 1) _ 0 0 0 [(0, .ref 80), (1, .ref 22)] [] (mkW I F J K)
  unfold f_X6_copyFrom_80_22 at h
  refine G_aload_n (pc2 := 1) 0 rfl dX6_copyFrom_0 rfl rfl ?_
  refine G_aload_n (pc2 := 2) 1 rfl dX6_copyFrom_1 rfl rfl ?_
  refine T_22_0 (pc2 := 5) kw_207 dX6_copyFrom_2 rfl ?_
  refine P_80_0 (pc2 := 8) h kw_207 dX6_copyFrom_5 rfl (fun I_354 h => ?_)
  refine G_aload_n (pc2 := 9) 0 rfl dX6_copyFrom_8 rfl rfl ?_
  refine G_aload_n (pc2 := 10) 1 rfl dX6_copyFrom_9 rfl rfl ?_
  refine T_22_1 (pc2 := 13) kw_210 dX6_copyFrom_10 rfl ?_
  refine P_80_1 (pc2 := 16) h kw_210 dX6_copyFrom_13 rfl (fun I_355 h => ?_)
  refine G_aload_n (pc2 := 17) 1 rfl dX6_copyFrom_16 rfl rfl ?_
  refine T_22_2 (pc2 := 20) kw_212 dX6_copyFrom_17 rfl ?_
  refine G_iconst (pc2 := 21) dX6_copyFrom_20 ic_0 rfl ?_
  refine G_aload_n (pc2 := 22) 0 rfl dX6_copyFrom_21 rfl rfl ?_
  refine T_80_2 (pc2 := 25) kw_212 dX6_copyFrom_22 rfl ?_
  refine G_iconst (pc2 := 26) dX6_copyFrom_25 ic_0 rfl ?_
  refine G_bipush (pc2 := 28) dX6_copyFrom_26 ib_9 rfl ?_
  refine YC (pc2 := 31) (fa_23 _ _ _ _) (fa_81 _ _ _ _) h kw_680 (by decide) cl_9 ⟨by decide, by decide⟩ (Nat.le_of_ble_eq_true rfl) dX6_copyFrom_28 rfl (fun F_356 h => ?_)
  refine G_aload_n (pc2 := 32) 1 rfl dX6_copyFrom_31 rfl rfl ?_
  refine T_22_3 (pc2 := 35) kw_215 dX6_copyFrom_32 rfl ?_
  refine G_iconst (pc2 := 36) dX6_copyFrom_35 ic_0 rfl ?_
  refine G_aload_n (pc2 := 37) 0 rfl dX6_copyFrom_36 rfl rfl ?_
  refine T_80_3 (pc2 := 40) kw_215 dX6_copyFrom_37 rfl ?_
  refine G_iconst (pc2 := 41) dX6_copyFrom_40 ic_0 rfl ?_
  refine G_bipush (pc2 := 43) dX6_copyFrom_41 ib_9 rfl ?_
  refine YC (pc2 := 46) (fa_24 _ _ _ _) (fa_82 _ _ _ _) h kw_680 (by decide) cl_9 ⟨by decide, by decide⟩ (Nat.le_of_ble_eq_true rfl) dX6_copyFrom_43 rfl (fun F_357 h => ?_)
  refine G_aload_n (pc2 := 47) 1 rfl dX6_copyFrom_46 rfl rfl ?_
  refine T_22_4 (pc2 := 50) kw_218 dX6_copyFrom_47 rfl ?_
  refine G_iconst (pc2 := 51) dX6_copyFrom_50 ic_0 rfl ?_
  refine G_aload_n (pc2 := 52) 0 rfl dX6_copyFrom_51 rfl rfl ?_
  refine T_80_4 (pc2 := 55) kw_218 dX6_copyFrom_52 rfl ?_
  refine G_iconst (pc2 := 56) dX6_copyFrom_55 ic_0 rfl ?_
  refine G_bipush (pc2 := 58) dX6_copyFrom_56 ib_9 rfl ?_
  refine YC (pc2 := 61) (fa_25 _ _ _ _) (fa_83 _ _ _ _) h kw_680 (by decide) cl_9 ⟨by decide, by decide⟩ (Nat.le_of_ble_eq_true rfl) dX6_copyFrom_58 rfl (fun F_358 h => ?_)
  refine G_aload_n (pc2 := 62) 1 rfl dX6_copyFrom_61 rfl rfl ?_
  refine T_22_5 (pc2 := 65) kw_221 dX6_copyFrom_62 rfl ?_
  refine G_iconst (pc2 := 66) dX6_copyFrom_65 ic_0 rfl ?_
  refine G_aload_n (pc2 := 67) 0 rfl dX6_copyFrom_66 rfl rfl ?_
  refine T_80_5 (pc2 := 70) kw_221 dX6_copyFrom_67 rfl ?_
  refine G_iconst (pc2 := 71) dX6_copyFrom_70 ic_0 rfl ?_
  refine G_bipush (pc2 := 73) dX6_copyFrom_71 ib_6 rfl ?_
  refine YC (pc2 := 76) (fa_26 _ _ _ _) (fa_84 _ _ _ _) h kw_680 (by decide) cl_6 ⟨by decide, by decide⟩ (Nat.le_of_ble_eq_true rfl) dX6_copyFrom_73 rfl (fun F_359 h => ?_)
  refine G_aload_n (pc2 := 77) 1 rfl dX6_copyFrom_76 rfl rfl ?_
  refine T_22_6 (pc2 := 80) kw_225 dX6_copyFrom_77 rfl ?_
  refine G_iconst (pc2 := 81) dX6_copyFrom_80 ic_0 rfl ?_
  refine G_aload_n (pc2 := 82) 0 rfl dX6_copyFrom_81 rfl rfl ?_
  refine T_80_6 (pc2 := 85) kw_225 dX6_copyFrom_82 rfl ?_
  refine G_iconst (pc2 := 86) dX6_copyFrom_85 ic_0 rfl ?_
  refine G_bipush (pc2 := 88) dX6_copyFrom_86 ib_6 rfl ?_
  refine YC (pc2 := 91) (fa_27 _ _ _ _) (fa_85 _ _ _ _) h kw_680 (by decide) cl_6 ⟨by decide, by decide⟩ (Nat.le_of_ble_eq_true rfl) dX6_copyFrom_88 rfl (fun F_360 h => ?_)
  refine G_aload_n (pc2 := 92) 1 rfl dX6_copyFrom_91 rfl rfl ?_
  refine T_22_7 (pc2 := 95) kw_228 dX6_copyFrom_92 rfl ?_
  refine G_iconst (pc2 := 96) dX6_copyFrom_95 ic_0 rfl ?_
  refine G_aload_n (pc2 := 97) 0 rfl dX6_copyFrom_96 rfl rfl ?_
  refine T_80_7 (pc2 := 100) kw_228 dX6_copyFrom_97 rfl ?_
  refine G_iconst (pc2 := 101) dX6_copyFrom_100 ic_0 rfl ?_
  refine G_bipush (pc2 := 103) dX6_copyFrom_101 ib_6 rfl ?_
  refine YC (pc2 := 106) (fa_28 _ _ _ _) (fa_86 _ _ _ _) h kw_680 (by decide) cl_6 ⟨by decide, by decide⟩ (Nat.le_of_ble_eq_true rfl) dX6_copyFrom_103 rfl (fun F_361 h => ?_)
  refine G_aload_n (pc2 := 107) 1 rfl dX6_copyFrom_106 rfl rfl ?_
  refine T_22_8 (pc2 := 110) kw_231 dX6_copyFrom_107 rfl ?_
  refine G_iconst (pc2 := 111) dX6_copyFrom_110 ic_0 rfl ?_
  refine G_aload_n (pc2 := 112) 0 rfl dX6_copyFrom_111 rfl rfl ?_
  refine T_80_8 (pc2 := 115) kw_231 dX6_copyFrom_112 rfl ?_
  refine G_iconst (pc2 := 116) dX6_copyFrom_115 ic_0 rfl ?_
  refine G_bipush (pc2 := 118) dX6_copyFrom_116 ib_6 rfl ?_
  refine YC (pc2 := 121) (fa_29 _ _ _ _) (fa_87 _ _ _ _) h kw_680 (by decide) cl_6 ⟨by decide, by decide⟩ (Nat.le_of_ble_eq_true rfl) dX6_copyFrom_118 rfl (fun F_362 h => ?_)
  refine G_aload_n (pc2 := 122) 1 rfl dX6_copyFrom_121 rfl rfl ?_
  refine T_22_9 (pc2 := 125) kw_234 dX6_copyFrom_122 rfl ?_
  refine G_iconst (pc2 := 126) dX6_copyFrom_125 ic_0 rfl ?_
  refine G_aload_n (pc2 := 127) 0 rfl dX6_copyFrom_126 rfl rfl ?_
  refine T_80_9 (pc2 := 130) kw_234 dX6_copyFrom_127 rfl ?_
  refine G_iconst (pc2 := 131) dX6_copyFrom_130 ic_0 rfl ?_
  refine G_bipush (pc2 := 133) dX6_copyFrom_131 ib_20 rfl ?_
  refine YC (pc2 := 136) (fa_30 _ _ _ _) (fa_88 _ _ _ _) h kw_680 (by decide) cl_20 ⟨by decide, by decide⟩ (Nat.le_of_ble_eq_true rfl) dX6_copyFrom_133 rfl (fun F_363 h => ?_)
  have ha := Option.some.inj h
  subst ha
  exact G_vret rfl dX6_copyFrom_136)
def f_X6_copyFrom_89_22 (I : WI) (F : WF) : Option (WI × WF) :=
  bnd (upd I 12 (I 0)) fun I_368 =>
  bnd (upd I_368 13 (I_368 1)) fun I_369 =>
  bnd (uF F 48 (va_cpy (F 0) (F 48) 0 0 9)) fun F_370 =>
  bnd (uF F_370 49 (va_cpy (F_370 1) (F_370 49) 0 0 9)) fun F_371 =>
  bnd (uF F_371 50 (va_cpy (F_371 2) (F_371 50) 0 0 9)) fun F_372 =>
  bnd (uF F_372 51 (va_cpy (F_372 3) (F_372 51) 0 0 6)) fun F_373 =>
  bnd (uF F_373 52 (va_cpy (F_373 4) (F_373 52) 0 0 6)) fun F_374 =>
  bnd (uF F_374 53 (va_cpy (F_374 5) (F_374 53) 0 0 6)) fun F_375 =>
  bnd (uF F_375 54 (va_cpy (F_375 6) (F_375 54) 0 0 6)) fun F_376 =>
  bnd (uF F_376 55 (va_cpy (F_376 7) (F_376 55) 0 0 20)) fun F_377 =>
  some (I_369, F_377)
set_option maxRecDepth 100000 in
set_option maxHeartbeats 4000000 in
theorem c_X6_copyFrom_89_22 {I : WI} {F : WF} {J : WI} {K : WF} {a : WI × WF} (h : f_X6_copyFrom_89_22  I F = some a) : CT md_X6_copyFrom yX6_copyFrom (rmD 1) [.ref 89, .ref 22] (mkW I F J K) none (mkW a.1 a.2 J K) := CT_of pn_X6 ⟨rfl, rfl⟩ (Nat.le_of_ble_eq_true rfl) (fun X => by
  show GG X md_X6_copyFrom (rmD 1) _ 0 0 0 [(0, .ref 89), (1, .ref 22)] [] (mkW I F J K)
  unfold f_X6_copyFrom_89_22 at h
  refine G_aload_n (pc2 := 1) 0 rfl dX6_copyFrom_0 rfl rfl ?_
  refine G_aload_n (pc2 := 2) 1 rfl dX6_copyFrom_1 rfl rfl ?_
  refine T_22_0 (pc2 := 5) kw_207 dX6_copyFrom_2 rfl ?_
  refine P_89_0 (pc2 := 8) h kw_207 dX6_copyFrom_5 rfl (fun I_368 h => ?_)
  refine G_aload_n (pc2 := 9) 0 rfl dX6_copyFrom_8 rfl rfl ?_
  refine G_aload_n (pc2 := 10) 1 rfl dX6_copyFrom_9 rfl rfl ?_
  refine T_22_1 (pc2 := 13) kw_210 dX6_copyFrom_10 rfl ?_
  refine P_89_1 (pc2 := 16) h kw_210 dX6_copyFrom_13 rfl (fun I_369 h => ?_)
  refine G_aload_n (pc2 := 17) 1 rfl dX6_copyFrom_16 rfl rfl ?_
  refine T_22_2 (pc2 := 20) kw_212 dX6_copyFrom_17 rfl ?_
  refine G_iconst (pc2 := 21) dX6_copyFrom_20 ic_0 rfl ?_
  refine G_aload_n (pc2 := 22) 0 rfl dX6_copyFrom_21 rfl rfl ?_
  refine T_89_2 (pc2 := 25) kw_212 dX6_copyFrom_22 rfl ?_
  refine G_iconst (pc2 := 26) dX6_copyFrom_25 ic_0 rfl ?_
  refine G_bipush (pc2 := 28) dX6_copyFrom_26 ib_9 rfl ?_
  refine YC (pc2 := 31) (fa_23 _ _ _ _) (fa_90 _ _ _ _) h kw_680 (by decide) cl_9 ⟨by decide, by decide⟩ (Nat.le_of_ble_eq_true rfl) dX6_copyFrom_28 rfl (fun F_370 h => ?_)
  refine G_aload_n (pc2 := 32) 1 rfl dX6_copyFrom_31 rfl rfl ?_
  refine T_22_3 (pc2 := 35) kw_215 dX6_copyFrom_32 rfl ?_
  refine G_iconst (pc2 := 36) dX6_copyFrom_35 ic_0 rfl ?_
  refine G_aload_n (pc2 := 37) 0 rfl dX6_copyFrom_36 rfl rfl ?_
  refine T_89_3 (pc2 := 40) kw_215 dX6_copyFrom_37 rfl ?_
  refine G_iconst (pc2 := 41) dX6_copyFrom_40 ic_0 rfl ?_
  refine G_bipush (pc2 := 43) dX6_copyFrom_41 ib_9 rfl ?_
  refine YC (pc2 := 46) (fa_24 _ _ _ _) (fa_91 _ _ _ _) h kw_680 (by decide) cl_9 ⟨by decide, by decide⟩ (Nat.le_of_ble_eq_true rfl) dX6_copyFrom_43 rfl (fun F_371 h => ?_)
  refine G_aload_n (pc2 := 47) 1 rfl dX6_copyFrom_46 rfl rfl ?_
  refine T_22_4 (pc2 := 50) kw_218 dX6_copyFrom_47 rfl ?_
  refine G_iconst (pc2 := 51) dX6_copyFrom_50 ic_0 rfl ?_
  refine G_aload_n (pc2 := 52) 0 rfl dX6_copyFrom_51 rfl rfl ?_
  refine T_89_4 (pc2 := 55) kw_218 dX6_copyFrom_52 rfl ?_
  refine G_iconst (pc2 := 56) dX6_copyFrom_55 ic_0 rfl ?_
  refine G_bipush (pc2 := 58) dX6_copyFrom_56 ib_9 rfl ?_
  refine YC (pc2 := 61) (fa_25 _ _ _ _) (fa_92 _ _ _ _) h kw_680 (by decide) cl_9 ⟨by decide, by decide⟩ (Nat.le_of_ble_eq_true rfl) dX6_copyFrom_58 rfl (fun F_372 h => ?_)
  refine G_aload_n (pc2 := 62) 1 rfl dX6_copyFrom_61 rfl rfl ?_
  refine T_22_5 (pc2 := 65) kw_221 dX6_copyFrom_62 rfl ?_
  refine G_iconst (pc2 := 66) dX6_copyFrom_65 ic_0 rfl ?_
  refine G_aload_n (pc2 := 67) 0 rfl dX6_copyFrom_66 rfl rfl ?_
  refine T_89_5 (pc2 := 70) kw_221 dX6_copyFrom_67 rfl ?_
  refine G_iconst (pc2 := 71) dX6_copyFrom_70 ic_0 rfl ?_
  refine G_bipush (pc2 := 73) dX6_copyFrom_71 ib_6 rfl ?_
  refine YC (pc2 := 76) (fa_26 _ _ _ _) (fa_93 _ _ _ _) h kw_680 (by decide) cl_6 ⟨by decide, by decide⟩ (Nat.le_of_ble_eq_true rfl) dX6_copyFrom_73 rfl (fun F_373 h => ?_)
  refine G_aload_n (pc2 := 77) 1 rfl dX6_copyFrom_76 rfl rfl ?_
  refine T_22_6 (pc2 := 80) kw_225 dX6_copyFrom_77 rfl ?_
  refine G_iconst (pc2 := 81) dX6_copyFrom_80 ic_0 rfl ?_
  refine G_aload_n (pc2 := 82) 0 rfl dX6_copyFrom_81 rfl rfl ?_
  refine T_89_6 (pc2 := 85) kw_225 dX6_copyFrom_82 rfl ?_
  refine G_iconst (pc2 := 86) dX6_copyFrom_85 ic_0 rfl ?_
  refine G_bipush (pc2 := 88) dX6_copyFrom_86 ib_6 rfl ?_
  refine YC (pc2 := 91) (fa_27 _ _ _ _) (fa_94 _ _ _ _) h kw_680 (by decide) cl_6 ⟨by decide, by decide⟩ (Nat.le_of_ble_eq_true rfl) dX6_copyFrom_88 rfl (fun F_374 h => ?_)
  refine G_aload_n (pc2 := 92) 1 rfl dX6_copyFrom_91 rfl rfl ?_
  refine T_22_7 (pc2 := 95) kw_228 dX6_copyFrom_92 rfl ?_
  refine G_iconst (pc2 := 96) dX6_copyFrom_95 ic_0 rfl ?_
  refine G_aload_n (pc2 := 97) 0 rfl dX6_copyFrom_96 rfl rfl ?_
  refine T_89_7 (pc2 := 100) kw_228 dX6_copyFrom_97 rfl ?_
  refine G_iconst (pc2 := 101) dX6_copyFrom_100 ic_0 rfl ?_
  refine G_bipush (pc2 := 103) dX6_copyFrom_101 ib_6 rfl ?_
  refine YC (pc2 := 106) (fa_28 _ _ _ _) (fa_95 _ _ _ _) h kw_680 (by decide) cl_6 ⟨by decide, by decide⟩ (Nat.le_of_ble_eq_true rfl) dX6_copyFrom_103 rfl (fun F_375 h => ?_)
  refine G_aload_n (pc2 := 107) 1 rfl dX6_copyFrom_106 rfl rfl ?_
  refine T_22_8 (pc2 := 110) kw_231 dX6_copyFrom_107 rfl ?_
  refine G_iconst (pc2 := 111) dX6_copyFrom_110 ic_0 rfl ?_
  refine G_aload_n (pc2 := 112) 0 rfl dX6_copyFrom_111 rfl rfl ?_
  refine T_89_8 (pc2 := 115) kw_231 dX6_copyFrom_112 rfl ?_
  refine G_iconst (pc2 := 116) dX6_copyFrom_115 ic_0 rfl ?_
  refine G_bipush (pc2 := 118) dX6_copyFrom_116 ib_6 rfl ?_
  refine YC (pc2 := 121) (fa_29 _ _ _ _) (fa_96 _ _ _ _) h kw_680 (by decide) cl_6 ⟨by decide, by decide⟩ (Nat.le_of_ble_eq_true rfl) dX6_copyFrom_118 rfl (fun F_376 h => ?_)
  refine G_aload_n (pc2 := 122) 1 rfl dX6_copyFrom_121 rfl rfl ?_
  refine T_22_9 (pc2 := 125) kw_234 dX6_copyFrom_122 rfl ?_
  refine G_iconst (pc2 := 126) dX6_copyFrom_125 ic_0 rfl ?_
  refine G_aload_n (pc2 := 127) 0 rfl dX6_copyFrom_126 rfl rfl ?_
  refine T_89_9 (pc2 := 130) kw_234 dX6_copyFrom_127 rfl ?_
  refine G_iconst (pc2 := 131) dX6_copyFrom_130 ic_0 rfl ?_
  refine G_bipush (pc2 := 133) dX6_copyFrom_131 ib_20 rfl ?_
  refine YC (pc2 := 136) (fa_30 _ _ _ _) (fa_97 _ _ _ _) h kw_680 (by decide) cl_20 ⟨by decide, by decide⟩ (Nat.le_of_ble_eq_true rfl) dX6_copyFrom_133 rfl (fun F_377 h => ?_)
  have ha := Option.some.inj h
  subst ha
  exact G_vret rfl dX6_copyFrom_136)
def f_X6_copyFrom_98_22 (I : WI) (F : WF) : Option (WI × WF) :=
  bnd (upd I 14 (I 0)) fun I_382 =>
  bnd (upd I_382 15 (I_382 1)) fun I_383 =>
  bnd (uF F 56 (va_cpy (F 0) (F 56) 0 0 9)) fun F_384 =>
  bnd (uF F_384 57 (va_cpy (F_384 1) (F_384 57) 0 0 9)) fun F_385 =>
  bnd (uF F_385 58 (va_cpy (F_385 2) (F_385 58) 0 0 9)) fun F_386 =>
  bnd (uF F_386 59 (va_cpy (F_386 3) (F_386 59) 0 0 6)) fun F_387 =>
  bnd (uF F_387 60 (va_cpy (F_387 4) (F_387 60) 0 0 6)) fun F_388 =>
  bnd (uF F_388 61 (va_cpy (F_388 5) (F_388 61) 0 0 6)) fun F_389 =>
  bnd (uF F_389 62 (va_cpy (F_389 6) (F_389 62) 0 0 6)) fun F_390 =>
  bnd (uF F_390 63 (va_cpy (F_390 7) (F_390 63) 0 0 20)) fun F_391 =>
  some (I_383, F_391)
set_option maxRecDepth 100000 in
set_option maxHeartbeats 4000000 in
theorem c_X6_copyFrom_98_22 {I : WI} {F : WF} {J : WI} {K : WF} {a : WI × WF} (h : f_X6_copyFrom_98_22  I F = some a) : CT md_X6_copyFrom yX6_copyFrom (rmD 1) [.ref 98, .ref 22] (mkW I F J K) none (mkW a.1 a.2 J K) := CT_of pn_X6 ⟨rfl, rfl⟩ (Nat.le_of_ble_eq_true rfl) (fun X => by
  show GG X md_X6_copyFrom (rmD 1) _ 0 0 0 [(0, .ref 98), (1, .ref 22)] [] (mkW I F J K)
  unfold f_X6_copyFrom_98_22 at h
  refine G_aload_n (pc2 := 1) 0 rfl dX6_copyFrom_0 rfl rfl ?_
  refine G_aload_n (pc2 := 2) 1 rfl dX6_copyFrom_1 rfl rfl ?_
  refine T_22_0 (pc2 := 5) kw_207 dX6_copyFrom_2 rfl ?_
  refine P_98_0 (pc2 := 8) h kw_207 dX6_copyFrom_5 rfl (fun I_382 h => ?_)
  refine G_aload_n (pc2 := 9) 0 rfl dX6_copyFrom_8 rfl rfl ?_
  refine G_aload_n (pc2 := 10) 1 rfl dX6_copyFrom_9 rfl rfl ?_
  refine T_22_1 (pc2 := 13) kw_210 dX6_copyFrom_10 rfl ?_
  refine P_98_1 (pc2 := 16) h kw_210 dX6_copyFrom_13 rfl (fun I_383 h => ?_)
  refine G_aload_n (pc2 := 17) 1 rfl dX6_copyFrom_16 rfl rfl ?_
  refine T_22_2 (pc2 := 20) kw_212 dX6_copyFrom_17 rfl ?_
  refine G_iconst (pc2 := 21) dX6_copyFrom_20 ic_0 rfl ?_
  refine G_aload_n (pc2 := 22) 0 rfl dX6_copyFrom_21 rfl rfl ?_
  refine T_98_2 (pc2 := 25) kw_212 dX6_copyFrom_22 rfl ?_
  refine G_iconst (pc2 := 26) dX6_copyFrom_25 ic_0 rfl ?_
  refine G_bipush (pc2 := 28) dX6_copyFrom_26 ib_9 rfl ?_
  refine YC (pc2 := 31) (fa_23 _ _ _ _) (fa_99 _ _ _ _) h kw_680 (by decide) cl_9 ⟨by decide, by decide⟩ (Nat.le_of_ble_eq_true rfl) dX6_copyFrom_28 rfl (fun F_384 h => ?_)
  refine G_aload_n (pc2 := 32) 1 rfl dX6_copyFrom_31 rfl rfl ?_
  refine T_22_3 (pc2 := 35) kw_215 dX6_copyFrom_32 rfl ?_
  refine G_iconst (pc2 := 36) dX6_copyFrom_35 ic_0 rfl ?_
  refine G_aload_n (pc2 := 37) 0 rfl dX6_copyFrom_36 rfl rfl ?_
  refine T_98_3 (pc2 := 40) kw_215 dX6_copyFrom_37 rfl ?_
  refine G_iconst (pc2 := 41) dX6_copyFrom_40 ic_0 rfl ?_
  refine G_bipush (pc2 := 43) dX6_copyFrom_41 ib_9 rfl ?_
  refine YC (pc2 := 46) (fa_24 _ _ _ _) (fa_100 _ _ _ _) h kw_680 (by decide) cl_9 ⟨by decide, by decide⟩ (Nat.le_of_ble_eq_true rfl) dX6_copyFrom_43 rfl (fun F_385 h => ?_)
  refine G_aload_n (pc2 := 47) 1 rfl dX6_copyFrom_46 rfl rfl ?_
  refine T_22_4 (pc2 := 50) kw_218 dX6_copyFrom_47 rfl ?_
  refine G_iconst (pc2 := 51) dX6_copyFrom_50 ic_0 rfl ?_
  refine G_aload_n (pc2 := 52) 0 rfl dX6_copyFrom_51 rfl rfl ?_
  refine T_98_4 (pc2 := 55) kw_218 dX6_copyFrom_52 rfl ?_
  refine G_iconst (pc2 := 56) dX6_copyFrom_55 ic_0 rfl ?_
  refine G_bipush (pc2 := 58) dX6_copyFrom_56 ib_9 rfl ?_
  refine YC (pc2 := 61) (fa_25 _ _ _ _) (fa_101 _ _ _ _) h kw_680 (by decide) cl_9 ⟨by decide, by decide⟩ (Nat.le_of_ble_eq_true rfl) dX6_copyFrom_58 rfl (fun F_386 h => ?_)
  refine G_aload_n (pc2 := 62) 1 rfl dX6_copyFrom_61 rfl rfl ?_
  refine T_22_5 (pc2 := 65) kw_221 dX6_copyFrom_62 rfl ?_
  refine G_iconst (pc2 := 66) dX6_copyFrom_65 ic_0 rfl ?_
  refine G_aload_n (pc2 := 67) 0 rfl dX6_copyFrom_66 rfl rfl ?_
  refine T_98_5 (pc2 := 70) kw_221 dX6_copyFrom_67 rfl ?_
  refine G_iconst (pc2 := 71) dX6_copyFrom_70 ic_0 rfl ?_
  refine G_bipush (pc2 := 73) dX6_copyFrom_71 ib_6 rfl ?_
  refine YC (pc2 := 76) (fa_26 _ _ _ _) (fa_102 _ _ _ _) h kw_680 (by decide) cl_6 ⟨by decide, by decide⟩ (Nat.le_of_ble_eq_true rfl) dX6_copyFrom_73 rfl (fun F_387 h => ?_)
  refine G_aload_n (pc2 := 77) 1 rfl dX6_copyFrom_76 rfl rfl ?_
  refine T_22_6 (pc2 := 80) kw_225 dX6_copyFrom_77 rfl ?_
  refine G_iconst (pc2 := 81) dX6_copyFrom_80 ic_0 rfl ?_
  refine G_aload_n (pc2 := 82) 0 rfl dX6_copyFrom_81 rfl rfl ?_
  refine T_98_6 (pc2 := 85) kw_225 dX6_copyFrom_82 rfl ?_
  refine G_iconst (pc2 := 86) dX6_copyFrom_85 ic_0 rfl ?_
  refine G_bipush (pc2 := 88) dX6_copyFrom_86 ib_6 rfl ?_
  refine YC (pc2 := 91) (fa_27 _ _ _ _) (fa_103 _ _ _ _) h kw_680 (by decide) cl_6 ⟨by decide, by decide⟩ (Nat.le_of_ble_eq_true rfl) dX6_copyFrom_88 rfl (fun F_388 h => ?_)
  refine G_aload_n (pc2 := 92) 1 rfl dX6_copyFrom_91 rfl rfl ?_
  refine T_22_7 (pc2 := 95) kw_228 dX6_copyFrom_92 rfl ?_
  refine G_iconst (pc2 := 96) dX6_copyFrom_95 ic_0 rfl ?_
  refine G_aload_n (pc2 := 97) 0 rfl dX6_copyFrom_96 rfl rfl ?_
  refine T_98_7 (pc2 := 100) kw_228 dX6_copyFrom_97 rfl ?_
  refine G_iconst (pc2 := 101) dX6_copyFrom_100 ic_0 rfl ?_
  refine G_bipush (pc2 := 103) dX6_copyFrom_101 ib_6 rfl ?_
  refine YC (pc2 := 106) (fa_28 _ _ _ _) (fa_104 _ _ _ _) h kw_680 (by decide) cl_6 ⟨by decide, by decide⟩ (Nat.le_of_ble_eq_true rfl) dX6_copyFrom_103 rfl (fun F_389 h => ?_)
  refine G_aload_n (pc2 := 107) 1 rfl dX6_copyFrom_106 rfl rfl ?_
  refine T_22_8 (pc2 := 110) kw_231 dX6_copyFrom_107 rfl ?_
  refine G_iconst (pc2 := 111) dX6_copyFrom_110 ic_0 rfl ?_
  refine G_aload_n (pc2 := 112) 0 rfl dX6_copyFrom_111 rfl rfl ?_
  refine T_98_8 (pc2 := 115) kw_231 dX6_copyFrom_112 rfl ?_
  refine G_iconst (pc2 := 116) dX6_copyFrom_115 ic_0 rfl ?_
  refine G_bipush (pc2 := 118) dX6_copyFrom_116 ib_6 rfl ?_
  refine YC (pc2 := 121) (fa_29 _ _ _ _) (fa_105 _ _ _ _) h kw_680 (by decide) cl_6 ⟨by decide, by decide⟩ (Nat.le_of_ble_eq_true rfl) dX6_copyFrom_118 rfl (fun F_390 h => ?_)
  refine G_aload_n (pc2 := 122) 1 rfl dX6_copyFrom_121 rfl rfl ?_
  refine T_22_9 (pc2 := 125) kw_234 dX6_copyFrom_122 rfl ?_
  refine G_iconst (pc2 := 126) dX6_copyFrom_125 ic_0 rfl ?_
  refine G_aload_n (pc2 := 127) 0 rfl dX6_copyFrom_126 rfl rfl ?_
  refine T_98_9 (pc2 := 130) kw_234 dX6_copyFrom_127 rfl ?_
  refine G_iconst (pc2 := 131) dX6_copyFrom_130 ic_0 rfl ?_
  refine G_bipush (pc2 := 133) dX6_copyFrom_131 ib_20 rfl ?_
  refine YC (pc2 := 136) (fa_30 _ _ _ _) (fa_106 _ _ _ _) h kw_680 (by decide) cl_20 ⟨by decide, by decide⟩ (Nat.le_of_ble_eq_true rfl) dX6_copyFrom_133 rfl (fun F_391 h => ?_)
  have ha := Option.some.inj h
  subst ha
  exact G_vret rfl dX6_copyFrom_136)
def f_X6_copyFrom_107_22 (I : WI) (F : WF) : Option (WI × WF) :=
  bnd (upd I 16 (I 0)) fun I_396 =>
  bnd (upd I_396 17 (I_396 1)) fun I_397 =>
  bnd (uF F 64 (va_cpy (F 0) (F 64) 0 0 9)) fun F_398 =>
  bnd (uF F_398 65 (va_cpy (F_398 1) (F_398 65) 0 0 9)) fun F_399 =>
  bnd (uF F_399 66 (va_cpy (F_399 2) (F_399 66) 0 0 9)) fun F_400 =>
  bnd (uF F_400 67 (va_cpy (F_400 3) (F_400 67) 0 0 6)) fun F_401 =>
  bnd (uF F_401 68 (va_cpy (F_401 4) (F_401 68) 0 0 6)) fun F_402 =>
  bnd (uF F_402 69 (va_cpy (F_402 5) (F_402 69) 0 0 6)) fun F_403 =>
  bnd (uF F_403 70 (va_cpy (F_403 6) (F_403 70) 0 0 6)) fun F_404 =>
  bnd (uF F_404 71 (va_cpy (F_404 7) (F_404 71) 0 0 20)) fun F_405 =>
  some (I_397, F_405)
set_option maxRecDepth 100000 in
set_option maxHeartbeats 4000000 in
theorem c_X6_copyFrom_107_22 {I : WI} {F : WF} {J : WI} {K : WF} {a : WI × WF} (h : f_X6_copyFrom_107_22  I F = some a) : CT md_X6_copyFrom yX6_copyFrom (rmD 1) [.ref 107, .ref 22] (mkW I F J K) none (mkW a.1 a.2 J K) := CT_of pn_X6 ⟨rfl, rfl⟩ (Nat.le_of_ble_eq_true rfl) (fun X => by
  show GG X md_X6_copyFrom (rmD 1) _ 0 0 0 [(0, .ref 107), (1, .ref 22)] [] (mkW I F J K)
  unfold f_X6_copyFrom_107_22 at h
  refine G_aload_n (pc2 := 1) 0 rfl dX6_copyFrom_0 rfl rfl ?_
  refine G_aload_n (pc2 := 2) 1 rfl dX6_copyFrom_1 rfl rfl ?_
  refine T_22_0 (pc2 := 5) kw_207 dX6_copyFrom_2 rfl ?_
  refine P_107_0 (pc2 := 8) h kw_207 dX6_copyFrom_5 rfl (fun I_396 h => ?_)
  refine G_aload_n (pc2 := 9) 0 rfl dX6_copyFrom_8 rfl rfl ?_
  refine G_aload_n (pc2 := 10) 1 rfl dX6_copyFrom_9 rfl rfl ?_
  refine T_22_1 (pc2 := 13) kw_210 dX6_copyFrom_10 rfl ?_
  refine P_107_1 (pc2 := 16) h kw_210 dX6_copyFrom_13 rfl (fun I_397 h => ?_)
  refine G_aload_n (pc2 := 17) 1 rfl dX6_copyFrom_16 rfl rfl ?_
  refine T_22_2 (pc2 := 20) kw_212 dX6_copyFrom_17 rfl ?_
  refine G_iconst (pc2 := 21) dX6_copyFrom_20 ic_0 rfl ?_
  refine G_aload_n (pc2 := 22) 0 rfl dX6_copyFrom_21 rfl rfl ?_
  refine T_107_2 (pc2 := 25) kw_212 dX6_copyFrom_22 rfl ?_
  refine G_iconst (pc2 := 26) dX6_copyFrom_25 ic_0 rfl ?_
  refine G_bipush (pc2 := 28) dX6_copyFrom_26 ib_9 rfl ?_
  refine YC (pc2 := 31) (fa_23 _ _ _ _) (fa_108 _ _ _ _) h kw_680 (by decide) cl_9 ⟨by decide, by decide⟩ (Nat.le_of_ble_eq_true rfl) dX6_copyFrom_28 rfl (fun F_398 h => ?_)
  refine G_aload_n (pc2 := 32) 1 rfl dX6_copyFrom_31 rfl rfl ?_
  refine T_22_3 (pc2 := 35) kw_215 dX6_copyFrom_32 rfl ?_
  refine G_iconst (pc2 := 36) dX6_copyFrom_35 ic_0 rfl ?_
  refine G_aload_n (pc2 := 37) 0 rfl dX6_copyFrom_36 rfl rfl ?_
  refine T_107_3 (pc2 := 40) kw_215 dX6_copyFrom_37 rfl ?_
  refine G_iconst (pc2 := 41) dX6_copyFrom_40 ic_0 rfl ?_
  refine G_bipush (pc2 := 43) dX6_copyFrom_41 ib_9 rfl ?_
  refine YC (pc2 := 46) (fa_24 _ _ _ _) (fa_109 _ _ _ _) h kw_680 (by decide) cl_9 ⟨by decide, by decide⟩ (Nat.le_of_ble_eq_true rfl) dX6_copyFrom_43 rfl (fun F_399 h => ?_)
  refine G_aload_n (pc2 := 47) 1 rfl dX6_copyFrom_46 rfl rfl ?_
  refine T_22_4 (pc2 := 50) kw_218 dX6_copyFrom_47 rfl ?_
  refine G_iconst (pc2 := 51) dX6_copyFrom_50 ic_0 rfl ?_
  refine G_aload_n (pc2 := 52) 0 rfl dX6_copyFrom_51 rfl rfl ?_
  refine T_107_4 (pc2 := 55) kw_218 dX6_copyFrom_52 rfl ?_
  refine G_iconst (pc2 := 56) dX6_copyFrom_55 ic_0 rfl ?_
  refine G_bipush (pc2 := 58) dX6_copyFrom_56 ib_9 rfl ?_
  refine YC (pc2 := 61) (fa_25 _ _ _ _) (fa_110 _ _ _ _) h kw_680 (by decide) cl_9 ⟨by decide, by decide⟩ (Nat.le_of_ble_eq_true rfl) dX6_copyFrom_58 rfl (fun F_400 h => ?_)
  refine G_aload_n (pc2 := 62) 1 rfl dX6_copyFrom_61 rfl rfl ?_
  refine T_22_5 (pc2 := 65) kw_221 dX6_copyFrom_62 rfl ?_
  refine G_iconst (pc2 := 66) dX6_copyFrom_65 ic_0 rfl ?_
  refine G_aload_n (pc2 := 67) 0 rfl dX6_copyFrom_66 rfl rfl ?_
  refine T_107_5 (pc2 := 70) kw_221 dX6_copyFrom_67 rfl ?_
  refine G_iconst (pc2 := 71) dX6_copyFrom_70 ic_0 rfl ?_
  refine G_bipush (pc2 := 73) dX6_copyFrom_71 ib_6 rfl ?_
  refine YC (pc2 := 76) (fa_26 _ _ _ _) (fa_111 _ _ _ _) h kw_680 (by decide) cl_6 ⟨by decide, by decide⟩ (Nat.le_of_ble_eq_true rfl) dX6_copyFrom_73 rfl (fun F_401 h => ?_)
  refine G_aload_n (pc2 := 77) 1 rfl dX6_copyFrom_76 rfl rfl ?_
  refine T_22_6 (pc2 := 80) kw_225 dX6_copyFrom_77 rfl ?_
  refine G_iconst (pc2 := 81) dX6_copyFrom_80 ic_0 rfl ?_
  refine G_aload_n (pc2 := 82) 0 rfl dX6_copyFrom_81 rfl rfl ?_
  refine T_107_6 (pc2 := 85) kw_225 dX6_copyFrom_82 rfl ?_
  refine G_iconst (pc2 := 86) dX6_copyFrom_85 ic_0 rfl ?_
  refine G_bipush (pc2 := 88) dX6_copyFrom_86 ib_6 rfl ?_
  refine YC (pc2 := 91) (fa_27 _ _ _ _) (fa_112 _ _ _ _) h kw_680 (by decide) cl_6 ⟨by decide, by decide⟩ (Nat.le_of_ble_eq_true rfl) dX6_copyFrom_88 rfl (fun F_402 h => ?_)
  refine G_aload_n (pc2 := 92) 1 rfl dX6_copyFrom_91 rfl rfl ?_
  refine T_22_7 (pc2 := 95) kw_228 dX6_copyFrom_92 rfl ?_
  refine G_iconst (pc2 := 96) dX6_copyFrom_95 ic_0 rfl ?_
  refine G_aload_n (pc2 := 97) 0 rfl dX6_copyFrom_96 rfl rfl ?_
  refine T_107_7 (pc2 := 100) kw_228 dX6_copyFrom_97 rfl ?_
  refine G_iconst (pc2 := 101) dX6_copyFrom_100 ic_0 rfl ?_
  refine G_bipush (pc2 := 103) dX6_copyFrom_101 ib_6 rfl ?_
  refine YC (pc2 := 106) (fa_28 _ _ _ _) (fa_113 _ _ _ _) h kw_680 (by decide) cl_6 ⟨by decide, by decide⟩ (Nat.le_of_ble_eq_true rfl) dX6_copyFrom_103 rfl (fun F_403 h => ?_)
  refine G_aload_n (pc2 := 107) 1 rfl dX6_copyFrom_106 rfl rfl ?_
  refine T_22_8 (pc2 := 110) kw_231 dX6_copyFrom_107 rfl ?_
  refine G_iconst (pc2 := 111) dX6_copyFrom_110 ic_0 rfl ?_
  refine G_aload_n (pc2 := 112) 0 rfl dX6_copyFrom_111 rfl rfl ?_
  refine T_107_8 (pc2 := 115) kw_231 dX6_copyFrom_112 rfl ?_
  refine G_iconst (pc2 := 116) dX6_copyFrom_115 ic_0 rfl ?_
  refine G_bipush (pc2 := 118) dX6_copyFrom_116 ib_6 rfl ?_
  refine YC (pc2 := 121) (fa_29 _ _ _ _) (fa_114 _ _ _ _) h kw_680 (by decide) cl_6 ⟨by decide, by decide⟩ (Nat.le_of_ble_eq_true rfl) dX6_copyFrom_118 rfl (fun F_404 h => ?_)
  refine G_aload_n (pc2 := 122) 1 rfl dX6_copyFrom_121 rfl rfl ?_
  refine T_22_9 (pc2 := 125) kw_234 dX6_copyFrom_122 rfl ?_
  refine G_iconst (pc2 := 126) dX6_copyFrom_125 ic_0 rfl ?_
  refine G_aload_n (pc2 := 127) 0 rfl dX6_copyFrom_126 rfl rfl ?_
  refine T_107_9 (pc2 := 130) kw_234 dX6_copyFrom_127 rfl ?_
  refine G_iconst (pc2 := 131) dX6_copyFrom_130 ic_0 rfl ?_
  refine G_bipush (pc2 := 133) dX6_copyFrom_131 ib_20 rfl ?_
  refine YC (pc2 := 136) (fa_30 _ _ _ _) (fa_115 _ _ _ _) h kw_680 (by decide) cl_20 ⟨by decide, by decide⟩ (Nat.le_of_ble_eq_true rfl) dX6_copyFrom_133 rfl (fun F_405 h => ?_)
  have ha := Option.some.inj h
  subst ha
  exact G_vret rfl dX6_copyFrom_136)
def f_X6_copyFrom_116_22 (I : WI) (F : WF) : Option (WI × WF) :=
  bnd (upd I 18 (I 0)) fun I_410 =>
  bnd (upd I_410 19 (I_410 1)) fun I_411 =>
  bnd (uF F 72 (va_cpy (F 0) (F 72) 0 0 9)) fun F_412 =>
  bnd (uF F_412 73 (va_cpy (F_412 1) (F_412 73) 0 0 9)) fun F_413 =>
  bnd (uF F_413 74 (va_cpy (F_413 2) (F_413 74) 0 0 9)) fun F_414 =>
  bnd (uF F_414 75 (va_cpy (F_414 3) (F_414 75) 0 0 6)) fun F_415 =>
  bnd (uF F_415 76 (va_cpy (F_415 4) (F_415 76) 0 0 6)) fun F_416 =>
  bnd (uF F_416 77 (va_cpy (F_416 5) (F_416 77) 0 0 6)) fun F_417 =>
  bnd (uF F_417 78 (va_cpy (F_417 6) (F_417 78) 0 0 6)) fun F_418 =>
  bnd (uF F_418 79 (va_cpy (F_418 7) (F_418 79) 0 0 20)) fun F_419 =>
  some (I_411, F_419)
set_option maxRecDepth 100000 in
set_option maxHeartbeats 4000000 in
theorem c_X6_copyFrom_116_22 {I : WI} {F : WF} {J : WI} {K : WF} {a : WI × WF} (h : f_X6_copyFrom_116_22  I F = some a) : CT md_X6_copyFrom yX6_copyFrom (rmD 1) [.ref 116, .ref 22] (mkW I F J K) none (mkW a.1 a.2 J K) := CT_of pn_X6 ⟨rfl, rfl⟩ (Nat.le_of_ble_eq_true rfl) (fun X => by
  show GG X md_X6_copyFrom (rmD 1) _ 0 0 0 [(0, .ref 116), (1, .ref 22)] [] (mkW I F J K)
  unfold f_X6_copyFrom_116_22 at h
  refine G_aload_n (pc2 := 1) 0 rfl dX6_copyFrom_0 rfl rfl ?_
  refine G_aload_n (pc2 := 2) 1 rfl dX6_copyFrom_1 rfl rfl ?_
  refine T_22_0 (pc2 := 5) kw_207 dX6_copyFrom_2 rfl ?_
  refine P_116_0 (pc2 := 8) h kw_207 dX6_copyFrom_5 rfl (fun I_410 h => ?_)
  refine G_aload_n (pc2 := 9) 0 rfl dX6_copyFrom_8 rfl rfl ?_
  refine G_aload_n (pc2 := 10) 1 rfl dX6_copyFrom_9 rfl rfl ?_
  refine T_22_1 (pc2 := 13) kw_210 dX6_copyFrom_10 rfl ?_
  refine P_116_1 (pc2 := 16) h kw_210 dX6_copyFrom_13 rfl (fun I_411 h => ?_)
  refine G_aload_n (pc2 := 17) 1 rfl dX6_copyFrom_16 rfl rfl ?_
  refine T_22_2 (pc2 := 20) kw_212 dX6_copyFrom_17 rfl ?_
  refine G_iconst (pc2 := 21) dX6_copyFrom_20 ic_0 rfl ?_
  refine G_aload_n (pc2 := 22) 0 rfl dX6_copyFrom_21 rfl rfl ?_
  refine T_116_2 (pc2 := 25) kw_212 dX6_copyFrom_22 rfl ?_
  refine G_iconst (pc2 := 26) dX6_copyFrom_25 ic_0 rfl ?_
  refine G_bipush (pc2 := 28) dX6_copyFrom_26 ib_9 rfl ?_
  refine YC (pc2 := 31) (fa_23 _ _ _ _) (fa_117 _ _ _ _) h kw_680 (by decide) cl_9 ⟨by decide, by decide⟩ (Nat.le_of_ble_eq_true rfl) dX6_copyFrom_28 rfl (fun F_412 h => ?_)
  refine G_aload_n (pc2 := 32) 1 rfl dX6_copyFrom_31 rfl rfl ?_
  refine T_22_3 (pc2 := 35) kw_215 dX6_copyFrom_32 rfl ?_
  refine G_iconst (pc2 := 36) dX6_copyFrom_35 ic_0 rfl ?_
  refine G_aload_n (pc2 := 37) 0 rfl dX6_copyFrom_36 rfl rfl ?_
  refine T_116_3 (pc2 := 40) kw_215 dX6_copyFrom_37 rfl ?_
  refine G_iconst (pc2 := 41) dX6_copyFrom_40 ic_0 rfl ?_
  refine G_bipush (pc2 := 43) dX6_copyFrom_41 ib_9 rfl ?_
  refine YC (pc2 := 46) (fa_24 _ _ _ _) (fa_118 _ _ _ _) h kw_680 (by decide) cl_9 ⟨by decide, by decide⟩ (Nat.le_of_ble_eq_true rfl) dX6_copyFrom_43 rfl (fun F_413 h => ?_)
  refine G_aload_n (pc2 := 47) 1 rfl dX6_copyFrom_46 rfl rfl ?_
  refine T_22_4 (pc2 := 50) kw_218 dX6_copyFrom_47 rfl ?_
  refine G_iconst (pc2 := 51) dX6_copyFrom_50 ic_0 rfl ?_
  refine G_aload_n (pc2 := 52) 0 rfl dX6_copyFrom_51 rfl rfl ?_
  refine T_116_4 (pc2 := 55) kw_218 dX6_copyFrom_52 rfl ?_
  refine G_iconst (pc2 := 56) dX6_copyFrom_55 ic_0 rfl ?_
  refine G_bipush (pc2 := 58) dX6_copyFrom_56 ib_9 rfl ?_
  refine YC (pc2 := 61) (fa_25 _ _ _ _) (fa_119 _ _ _ _) h kw_680 (by decide) cl_9 ⟨by decide, by decide⟩ (Nat.le_of_ble_eq_true rfl) dX6_copyFrom_58 rfl (fun F_414 h => ?_)
  refine G_aload_n (pc2 := 62) 1 rfl dX6_copyFrom_61 rfl rfl ?_
  refine T_22_5 (pc2 := 65) kw_221 dX6_copyFrom_62 rfl ?_
  refine G_iconst (pc2 := 66) dX6_copyFrom_65 ic_0 rfl ?_
  refine G_aload_n (pc2 := 67) 0 rfl dX6_copyFrom_66 rfl rfl ?_
  refine T_116_5 (pc2 := 70) kw_221 dX6_copyFrom_67 rfl ?_
  refine G_iconst (pc2 := 71) dX6_copyFrom_70 ic_0 rfl ?_
  refine G_bipush (pc2 := 73) dX6_copyFrom_71 ib_6 rfl ?_
  refine YC (pc2 := 76) (fa_26 _ _ _ _) (fa_120 _ _ _ _) h kw_680 (by decide) cl_6 ⟨by decide, by decide⟩ (Nat.le_of_ble_eq_true rfl) dX6_copyFrom_73 rfl (fun F_415 h => ?_)
  refine G_aload_n (pc2 := 77) 1 rfl dX6_copyFrom_76 rfl rfl ?_
  refine T_22_6 (pc2 := 80) kw_225 dX6_copyFrom_77 rfl ?_
  refine G_iconst (pc2 := 81) dX6_copyFrom_80 ic_0 rfl ?_
  refine G_aload_n (pc2 := 82) 0 rfl dX6_copyFrom_81 rfl rfl ?_
  refine T_116_6 (pc2 := 85) kw_225 dX6_copyFrom_82 rfl ?_
  refine G_iconst (pc2 := 86) dX6_copyFrom_85 ic_0 rfl ?_
  refine G_bipush (pc2 := 88) dX6_copyFrom_86 ib_6 rfl ?_
  refine YC (pc2 := 91) (fa_27 _ _ _ _) (fa_121 _ _ _ _) h kw_680 (by decide) cl_6 ⟨by decide, by decide⟩ (Nat.le_of_ble_eq_true rfl) dX6_copyFrom_88 rfl (fun F_416 h => ?_)
  refine G_aload_n (pc2 := 92) 1 rfl dX6_copyFrom_91 rfl rfl ?_
  refine T_22_7 (pc2 := 95) kw_228 dX6_copyFrom_92 rfl ?_
  refine G_iconst (pc2 := 96) dX6_copyFrom_95 ic_0 rfl ?_
  refine G_aload_n (pc2 := 97) 0 rfl dX6_copyFrom_96 rfl rfl ?_
  refine T_116_7 (pc2 := 100) kw_228 dX6_copyFrom_97 rfl ?_
  refine G_iconst (pc2 := 101) dX6_copyFrom_100 ic_0 rfl ?_
  refine G_bipush (pc2 := 103) dX6_copyFrom_101 ib_6 rfl ?_
  refine YC (pc2 := 106) (fa_28 _ _ _ _) (fa_122 _ _ _ _) h kw_680 (by decide) cl_6 ⟨by decide, by decide⟩ (Nat.le_of_ble_eq_true rfl) dX6_copyFrom_103 rfl (fun F_417 h => ?_)
  refine G_aload_n (pc2 := 107) 1 rfl dX6_copyFrom_106 rfl rfl ?_
  refine T_22_8 (pc2 := 110) kw_231 dX6_copyFrom_107 rfl ?_
  refine G_iconst (pc2 := 111) dX6_copyFrom_110 ic_0 rfl ?_
  refine G_aload_n (pc2 := 112) 0 rfl dX6_copyFrom_111 rfl rfl ?_
  refine T_116_8 (pc2 := 115) kw_231 dX6_copyFrom_112 rfl ?_
  refine G_iconst (pc2 := 116) dX6_copyFrom_115 ic_0 rfl ?_
  refine G_bipush (pc2 := 118) dX6_copyFrom_116 ib_6 rfl ?_
  refine YC (pc2 := 121) (fa_29 _ _ _ _) (fa_123 _ _ _ _) h kw_680 (by decide) cl_6 ⟨by decide, by decide⟩ (Nat.le_of_ble_eq_true rfl) dX6_copyFrom_118 rfl (fun F_418 h => ?_)
  refine G_aload_n (pc2 := 122) 1 rfl dX6_copyFrom_121 rfl rfl ?_
  refine T_22_9 (pc2 := 125) kw_234 dX6_copyFrom_122 rfl ?_
  refine G_iconst (pc2 := 126) dX6_copyFrom_125 ic_0 rfl ?_
  refine G_aload_n (pc2 := 127) 0 rfl dX6_copyFrom_126 rfl rfl ?_
  refine T_116_9 (pc2 := 130) kw_234 dX6_copyFrom_127 rfl ?_
  refine G_iconst (pc2 := 131) dX6_copyFrom_130 ic_0 rfl ?_
  refine G_bipush (pc2 := 133) dX6_copyFrom_131 ib_20 rfl ?_
  refine YC (pc2 := 136) (fa_30 _ _ _ _) (fa_124 _ _ _ _) h kw_680 (by decide) cl_20 ⟨by decide, by decide⟩ (Nat.le_of_ble_eq_true rfl) dX6_copyFrom_133 rfl (fun F_419 h => ?_)
  have ha := Option.some.inj h
  subst ha
  exact G_vret rfl dX6_copyFrom_136)
end
