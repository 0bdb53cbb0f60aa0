noncomputable section
def L_X11_bottles_4 (k : Int32 → WF → Option (Int32 × WF))  (I : WI) : Nat → Int32 → Int32 → WF → Option (Int32 × WF)
  | 0, _, _, _ => none
  | n + 1, x1, x2, F =>
  if (F 2 1) ≤ x2 then (k x1 F)
  else (ixG ((4 : Int32) + x2) 70 (
  ixG ((13 : Int32) + x2) 70 (
  Option.bind (f_X11_allBridges I F) fun c_1258 =>
  Option.bind (f_X11_isWay (F 2 ((4 : Int32) + x2).toNatClampNeg) (F 2 ((13 : Int32) + x2).toNatClampNeg) (c_1258 &&& (((1 : Int32) <<< (x2 &&& 31)) ^^^ (-1 : Int32))) I F) fun c_1260 =>
  bnd (fun (s_1262 : Int32) => bnd (x1 ||| s_1262) fun x1_1263 =>
  bnd (x2 + (1 : Int32)) fun x2_1264 =>
  L_X11_bottles_4 k I n x1_1263 x2_1264 c_1260.2) fun j56_1261 =>
  if c_1260.1 = 0 then (j56_1261 ((1 : Int32) <<< (x2 &&& 31)))
  else (j56_1261 (0 : Int32)))))
def f_X11_bottles (I : WI) (F : WF) : Option (Int32 × WF) :=
  bnd (0 : Int32) fun x1_1256 =>
  bnd (0 : Int32) fun x2_1257 =>
  L_X11_bottles_4 (fun x1_1265 F_1266 => some (x1_1265, F_1266)) I FU x1_1256 x2_1257 F
set_option maxRecDepth 100000 in
set_option maxHeartbeats 4000000 in
theorem g_L_X11_bottles_4 {X : XT} {I : WI} {J : WI} {K : WF} {a : Int32 × WF} {k : Int32 → WF → Option (Int32 × WF)} (hk : ∀ (e1 : Int32) (F' : WF), (k e1 F' = some a → GG X md_X11_bottles (rmD 4) (gv_Z X (rmD 4).cells (rmD 4).slots (some (.int a.1)) (mkW J K I a.2)) 0 0 64 [(1, .int e1)] [] (mkW J K I F'))) : ∀ (n : Nat) (x1 : Int32) (x2 : Int32) (F : WF), L_X11_bottles_4 k I n x1 x2 F = some a → GG X md_X11_bottles (rmD 4) (gv_Z X (rmD 4).cells (rmD 4).slots (some (.int a.1)) (mkW J K I a.2)) 0 0 4 [(0, .ref 209), (1, .int x1), (2, .int x2)] [] (mkW J K I F) := by
  intro n
  induction n with
  | zero =>
    intro x1 x2 F h
    rw [L_X11_bottles_4] at h
    cases h
  | succ n ih =>
    intro x1 x2 F h
    rw [L_X11_bottles_4] at h
    refine G_iload_n (pc2 := 5) 2 rfl dX11_bottles_4 rfl rfl ?_
    refine G_aload_n (pc2 := 6) 0 rfl dX11_bottles_5 rfl rfl ?_
    refine T_209_8 (pc2 := 9) kw_910 dX11_bottles_6 rfl ?_
    refine G_iconst (pc2 := 10) dX11_bottles_9 ic_1 rfl ?_
    refine AMc (pc2 := 11) (fa_212 _ _ _ _) cl_1 rfl dX11_bottles_10 rfl ?_
    refine B_icmp_ge (tgt := 64) (pc2 := 14) h dX11_bottles_11 (by decide) rfl (fun _ h => ?_) (fun _ h => ?_)
    · refine G_sub (ls' := [(1, .int x1)]) [1] rfl ?_
      exact hk x1 F h
    · refine G_iload_n (pc2 := 15) 1 rfl dX11_bottles_14 rfl rfl ?_
      refine G_aload_n (pc2 := 16) 0 rfl dX11_bottles_15 rfl rfl ?_
      refine G_aload_n (pc2 := 17) 0 rfl dX11_bottles_16 rfl rfl ?_
      refine T_209_8 (pc2 := 20) kw_910 dX11_bottles_17 rfl ?_
      refine G_iconst (pc2 := 21) dX11_bottles_20 ic_4 rfl ?_
      refine G_iload_n (pc2 := 22) 2 rfl dX11_bottles_21 rfl rfl ?_
      refine G_iadd (pc2 := 23) dX11_bottles_22 rfl ?_
      refine AM (pc2 := 24) (fa_212 _ _ _ _) h dX11_bottles_23 rfl (fun h => ?_)
      refine G_aload_n (pc2 := 25) 0 rfl dX11_bottles_24 rfl rfl ?_
      refine T_209_8 (pc2 := 28) kw_910 dX11_bottles_25 rfl ?_
      refine G_bipush (pc2 := 30) dX11_bottles_28 ib_13 rfl ?_
      refine G_iload_n (pc2 := 31) 2 rfl dX11_bottles_30 rfl rfl ?_
      refine G_iadd (pc2 := 32) dX11_bottles_31 rfl ?_
      refine AM (pc2 := 33) (fa_212 _ _ _ _) h dX11_bottles_32 rfl (fun h => ?_)
      refine G_aload_n (pc2 := 34) 0 rfl dX11_bottles_33 rfl rfl ?_
      obtain ⟨c_1258, hc_1258, h⟩ := ob_e h
      refine B_callV (pc2 := 37) si_X11_157 (c_X11_allBridges hc_1258) (qo_209 _ _ _ _) rfl rfl rfl (st := [.int (F 2 ((13 : Int32) + x2).toNatClampNeg), .int (F 2 ((4 : Int32) + x2).toNatClampNeg), .ref 209, .int x1]) (stq := [.int c_1258, .int (F 2 ((13 : Int32) + x2).toNatClampNeg), .int (F 2 ((4 : Int32) + x2).toNatClampNeg), .ref 209, .int x1]) rfl (by decide) (by decide) (Nat.le_of_ble_eq_true rfl) mkW_ll dX11_bottles_34 rfl rfl ?_ ⟨rfl, rfl⟩
      refine G_iconst (pc2 := 38) dX11_bottles_37 ic_1 rfl ?_
      refine G_iload_n (pc2 := 39) 2 rfl dX11_bottles_38 rfl rfl ?_
      refine G_ishl (pc2 := 40) dX11_bottles_39 rfl ?_
      refine G_iconst (pc2 := 41) dX11_bottles_40 ic_m1 rfl ?_
      refine G_ixor (pc2 := 42) dX11_bottles_41 rfl ?_
      refine G_iand (pc2 := 43) dX11_bottles_42 rfl ?_
      obtain ⟨c_1260, hc_1260, h⟩ := ob_e h
      refine B_callV (pc2 := 46) si_X11_161 (c_X11_isWay hc_1260) (qo_209 _ _ _ _) rfl rfl rfl (st := [.int x1]) (stq := [.int c_1260.1, .int x1]) rfl (by decide) (by decide) (Nat.le_of_ble_eq_true rfl) mkW_ll dX11_bottles_43 rfl rfl ?_ ⟨rfl, rfl⟩
      refine jn_e (Gj := True) (fun (j : Int32 → Option (Int32 × WF)) => ∀ (s_1262 : Int32), j s_1262 = some a → GG X md_X11_bottles (rmD 4) (gv_Z X (rmD 4).cells (rmD 4).slots (some (.int a.1)) (mkW J K I a.2)) 0 0 56 [(0, .ref 209), (2, .int x2)] [.int s_1262, .int x1] (mkW J K I c_1260.2)) h (fun s_1262 h => ?_) (fun j56_1261 hj56_1261 h => ?_)
      · refine G_ior (pc2 := 57) dX11_bottles_56 rfl ?_
        refine B_istore_n (pc2 := 58) (fun x1_1263 => [(1, .int x1_1263), (0, .ref 209), (2, .int x2)]) h dX11_bottles_57 rfl (by decide) (fun _ => rfl) rfl (fun x1_1263 h => ?_)
        refine B_iinc (pc2 := 61) 2 (fun x2_1264 => [(2, .int x2_1264), (1, .int x1_1263), (0, .ref 209)]) h rfl dX11_bottles_58 ic_1 (by decide) (fun _ => rfl) rfl (fun x2_1264 h => ?_)
        refine G_goto (tgt := 4) dX11_bottles_61 (by decide) ?_
        refine G_sub (ls' := [(0, .ref 209), (1, .int x1_1263), (2, .int x2_1264)]) [2, 1, 0] rfl ?_
        exact ih x1_1263 x2_1264 c_1260.2 h
      refine B_if_eq (tgt := 53) (pc2 := 49) h dX11_bottles_46 (by decide) rfl (fun _ h => ?_) (fun _ h => ?_)
      · refine G_iconst (pc2 := 54) dX11_bottles_53 ic_1 rfl ?_
        refine G_iload_n (pc2 := 55) 2 rfl dX11_bottles_54 rfl rfl ?_
        refine G_ishl (pc2 := 56) dX11_bottles_55 rfl ?_
        refine G_sub (ls' := [(0, .ref 209), (2, .int x2)]) [0, 2] rfl ?_
        exact hj56_1261 ((1 : Int32) <<< (x2 &&& 31)) h
      · refine G_iconst (pc2 := 50) dX11_bottles_49 ic_0 rfl ?_
        refine G_goto (tgt := 56) dX11_bottles_50 (by decide) ?_
        refine G_sub (ls' := [(0, .ref 209), (2, .int x2)]) [0, 2] rfl ?_
        exact hj56_1261 (0 : Int32) h
set_option maxRecDepth 100000 in
set_option maxHeartbeats 4000000 in
theorem c_X11_bottles {I : WI} {F : WF} {J : WI} {K : WF} {a : Int32 × WF} (h : f_X11_bottles  I F = some a) : CT md_X11_bottles yX11_bottles (rmD 4) [.ref 209] (mkW J K I F) (some (.int a.1)) (mkW J K I a.2) := CT_of pn_X11 ⟨rfl, rfl⟩ (Nat.le_of_ble_eq_true rfl) (fun X => by
  show GG X md_X11_bottles (rmD 4) _ 0 0 0 [(0, .ref 209)] [] (mkW J K I F)
  unfold f_X11_bottles at h
  refine G_iconst (pc2 := 1) dX11_bottles_0 ic_0 rfl ?_
  refine B_istore_n (pc2 := 2) (fun x1_1256 => [(1, .int x1_1256), (0, .ref 209)]) h dX11_bottles_1 rfl (by decide) (fun _ => rfl) rfl (fun x1_1256 h => ?_)
  refine G_iconst (pc2 := 3) dX11_bottles_2 ic_0 rfl ?_
  refine B_istore_n (pc2 := 4) (fun x2_1257 => [(2, .int x2_1257), (1, .int x1_1256), (0, .ref 209)]) h dX11_bottles_3 rfl (by decide) (fun _ => rfl) rfl (fun x2_1257 h => ?_)
  refine G_sub (ls' := [(0, .ref 209), (1, .int x1_1256), (2, .int x2_1257)]) [2, 1, 0] rfl ?_
  refine g_L_X11_bottles_4 (fun x1_1265 F_1266 h => ?_) FU x1_1256 x2_1257 F h
  refine G_iload_n (pc2 := 65) 0 rfl dX11_bottles_64 rfl rfl ?_
  have ha := Option.some.inj h
  subst ha
  exact G_iret rfl dX11_bottles_65)
def L_X11_keeperAt_4 (k : Int32 → Option (Int32)) (x1 : Int32) (I : WI) (F : WF) : Nat → Int32 → Int32 → Option (Int32)
  | 0, _, _ => none
  | n + 1, x2, x3 =>
  if (F 2 2) ≤ x3 then (k x2)
  else (ixG ((24 : Int32) + x3) 134 (
  bnd (fun (s_1273 : Int32) => bnd s_1273 fun x2_1274 =>
  bnd (x3 + (1 : Int32)) fun x3_1275 =>
  L_X11_keeperAt_4 k x1 I F n x2_1274 x3_1275) fun j32_1272 =>
  if (F 3 ((24 : Int32) + x3).toNatClampNeg) = x1 then (j32_1272 x3)
  else (j32_1272 x2)))
def f_X11_keeperAt (x1 : Int32) (I : WI) (F : WF) : Option (Int32) :=
  bnd (-1 : Int32) fun x2_1270 =>
  bnd (0 : Int32) fun x3_1271 =>
  L_X11_keeperAt_4 (fun x2_1276 => some x2_1276) x1 I F FU x2_1270 x3_1271
set_option maxRecDepth 100000 in
set_option maxHeartbeats 4000000 in
theorem g_L_X11_keeperAt_4 {X : XT} {x1 : Int32} {I : WI} {F : WF} {J : WI} {K : WF} {a : Int32} {k : Int32 → Option (Int32)} (hk : ∀ (e2 : Int32), (k e2 = some a → GG X md_X11_keeperAt (rmD 1) (gv_Z X (rmD 1).cells (rmD 1).slots (some (.int a)) (mkW J K I F)) 0 0 39 [(2, .int e2)] [] (mkW J K I F))) : ∀ (n : Nat) (x2 : Int32) (x3 : Int32), L_X11_keeperAt_4 k x1 I F n x2 x3 = some a → GG X md_X11_keeperAt (rmD 1) (gv_Z X (rmD 1).cells (rmD 1).slots (some (.int a)) (mkW J K I F)) 0 0 4 [(0, .ref 209), (1, .int x1), (2, .int x2), (3, .int x3)] [] (mkW J K I F) := by
  intro n
  induction n with
  | zero =>
    intro x2 x3 h
    rw [L_X11_keeperAt_4] at h
    cases h
  | succ n ih =>
    intro x2 x3 h
    rw [L_X11_keeperAt_4] at h
    refine G_iload_n (pc2 := 5) 3 rfl dX11_keeperAt_4 rfl rfl ?_
    refine G_aload_n (pc2 := 6) 0 rfl dX11_keeperAt_5 rfl rfl ?_
    refine T_209_8 (pc2 := 9) kw_910 dX11_keeperAt_6 rfl ?_
    refine G_iconst (pc2 := 10) dX11_keeperAt_9 ic_2 rfl ?_
    refine AMc (pc2 := 11) (fa_212 _ _ _ _) cl_2 rfl dX11_keeperAt_10 rfl ?_
    refine B_icmp_ge (tgt := 39) (pc2 := 14) h dX11_keeperAt_11 (by decide) rfl (fun _ h => ?_) (fun _ h => ?_)
    · refine G_sub (ls' := [(2, .int x2)]) [2] rfl ?_
      exact hk x2 h
    · refine G_aload_n (pc2 := 15) 0 rfl dX11_keeperAt_14 rfl rfl ?_
      refine T_209_9 (pc2 := 18) kw_911 dX11_keeperAt_15 rfl ?_
      refine G_bipush (pc2 := 20) dX11_keeperAt_18 ib_24 rfl ?_
      refine G_iload_n (pc2 := 21) 3 rfl dX11_keeperAt_20 rfl rfl ?_
      refine G_iadd (pc2 := 22) dX11_keeperAt_21 rfl ?_
      refine AM (pc2 := 23) (fa_213 _ _ _ _) h dX11_keeperAt_22 rfl (fun h => ?_)
      refine G_iload_n (pc2 := 24) 1 rfl dX11_keeperAt_23 rfl rfl ?_
      refine jn_e (Gj := True) (fun (j : Int32 → Option (Int32)) => ∀ (s_1273 : Int32), j s_1273 = some a → GG X md_X11_keeperAt (rmD 1) (gv_Z X (rmD 1).cells (rmD 1).slots (some (.int a)) (mkW J K I F)) 0 0 32 [(0, .ref 209), (1, .int x1), (3, .int x3)] [.int s_1273] (mkW J K I F)) h (fun s_1273 h => ?_) (fun j32_1272 hj32_1272 h => ?_)
      · refine B_istore_n (pc2 := 33) (fun x2_1274 => [(2, .int x2_1274), (0, .ref 209), (1, .int x1), (3, .int x3)]) h dX11_keeperAt_32 rfl (by decide) (fun _ => rfl) rfl (fun x2_1274 h => ?_)
        refine B_iinc (pc2 := 36) 3 (fun x3_1275 => [(3, .int x3_1275), (2, .int x2_1274), (0, .ref 209), (1, .int x1)]) h rfl dX11_keeperAt_33 ic_1 (by decide) (fun _ => rfl) rfl (fun x3_1275 h => ?_)
        refine G_goto (tgt := 4) dX11_keeperAt_36 (by decide) ?_
        refine G_sub (ls' := [(0, .ref 209), (1, .int x1), (2, .int x2_1274), (3, .int x3_1275)]) [2, 3, 1, 0] rfl ?_
        exact ih x2_1274 x3_1275 h
      refine B_icmp_ne (tgt := 31) (pc2 := 27) h dX11_keeperAt_24 (by decide) rfl (fun _ h => ?_) (fun _ h => ?_)
      · refine G_iload_n (pc2 := 32) 2 rfl dX11_keeperAt_31 rfl rfl ?_
        refine G_sub (ls' := [(0, .ref 209), (1, .int x1), (3, .int x3)]) [0, 1, 3] rfl ?_
        exact hj32_1272 x2 h
      · refine G_iload_n (pc2 := 28) 3 rfl dX11_keeperAt_27 rfl rfl ?_
        refine G_goto (tgt := 32) dX11_keeperAt_28 (by decide) ?_
        refine G_sub (ls' := [(0, .ref 209), (1, .int x1), (3, .int x3)]) [0, 1, 3] rfl ?_
        exact hj32_1272 x3 h
set_option maxRecDepth 100000 in
set_option maxHeartbeats 4000000 in
theorem c_X11_keeperAt {x1 : Int32} {I : WI} {F : WF} {J : WI} {K : WF} {a : Int32} (h : f_X11_keeperAt x1 I F = some a) : CT md_X11_keeperAt yX11_keeperAt (rmD 1) [.ref 209, .int x1] (mkW J K I F) (some (.int a)) (mkW J K I F) := CT_of pn_X11 ⟨rfl, rfl⟩ (Nat.le_of_ble_eq_true rfl) (fun X => by
  show GG X md_X11_keeperAt (rmD 1) _ 0 0 0 [(0, .ref 209), (1, .int x1)] [] (mkW J K I F)
  unfold f_X11_keeperAt at h
  refine G_iconst (pc2 := 1) dX11_keeperAt_0 ic_m1 rfl ?_
  refine B_istore_n (pc2 := 2) (fun x2_1270 => [(2, .int x2_1270), (0, .ref 209), (1, .int x1)]) h dX11_keeperAt_1 rfl (by decide) (fun _ => rfl) rfl (fun x2_1270 h => ?_)
  refine G_iconst (pc2 := 3) dX11_keeperAt_2 ic_0 rfl ?_
  refine B_istore_n (pc2 := 4) (fun x3_1271 => [(3, .int x3_1271), (2, .int x2_1270), (0, .ref 209), (1, .int x1)]) h dX11_keeperAt_3 rfl (by decide) (fun _ => rfl) rfl (fun x3_1271 h => ?_)
  refine G_sub (ls' := [(0, .ref 209), (1, .int x1), (2, .int x2_1270), (3, .int x3_1271)]) [2, 3, 1, 0] rfl ?_
  refine g_L_X11_keeperAt_4 (fun x2_1276 h => ?_) FU x2_1270 x3_1271 h
  refine G_iload_n (pc2 := 40) 0 rfl dX11_keeperAt_39 rfl rfl ?_
  have ha := Option.some.inj h
  subst ha
  exact G_iret rfl dX11_keeperAt_40)
def L_X11_manned_4 (k : Int32 → Option (Int32))  (I : WI) (F : WF) : Nat → Int32 → Int32 → Option (Int32)
  | 0, _, _ => none
  | n + 1, x1, x2 =>
  if (F 2 1) ≤ x2 then (k x1)
  else (Option.bind (f_X11_keeperAt x2 I F) fun c_1277 =>
  bnd (fun (s_1279 : Int32) => bnd (x1 + s_1279) fun x1_1280 =>
  bnd (x2 + (1 : Int32)) fun x2_1281 =>
  L_X11_manned_4 k I F n x1_1280 x2_1281) fun j29_1278 =>
  if c_1277 = (-1 : Int32) then (j29_1278 (0 : Int32))
  else (j29_1278 (1 : Int32)))
def f_X11_manned (I : WI) (F : WF) : Option (Int32) :=
  bnd (0 : Int32) fun x1_1268 =>
  bnd (0 : Int32) fun x2_1269 =>
  L_X11_manned_4 (fun x1_1282 => some x1_1282) I F FU x1_1268 x2_1269
set_option maxRecDepth 100000 in
set_option maxHeartbeats 4000000 in
theorem g_L_X11_manned_4 {X : XT} {I : WI} {F : WF} {J : WI} {K : WF} {a : Int32} {k : Int32 → Option (Int32)} (hk : ∀ (e1 : Int32), (k e1 = some a → GG X md_X11_manned (rmD 2) (gv_Z X (rmD 2).cells (rmD 2).slots (some (.int a)) (mkW J K I F)) 0 0 37 [(1, .int e1)] [] (mkW J K I F))) : ∀ (n : Nat) (x1 : Int32) (x2 : Int32), L_X11_manned_4 k I F n x1 x2 = some a → GG X md_X11_manned (rmD 2) (gv_Z X (rmD 2).cells (rmD 2).slots (some (.int a)) (mkW J K I F)) 0 0 4 [(0, .ref 209), (1, .int x1), (2, .int x2)] [] (mkW J K I F) := by
  intro n
  induction n with
  | zero =>
    intro x1 x2 h
    rw [L_X11_manned_4] at h
    cases h
  | succ n ih =>
    intro x1 x2 h
    rw [L_X11_manned_4] at h
    refine G_iload_n (pc2 := 5) 2 rfl dX11_manned_4 rfl rfl ?_
    refine G_aload_n (pc2 := 6) 0 rfl dX11_manned_5 rfl rfl ?_
    refine T_209_8 (pc2 := 9) kw_910 dX11_manned_6 rfl ?_
    refine G_iconst (pc2 := 10) dX11_manned_9 ic_1 rfl ?_
    refine AMc (pc2 := 11) (fa_212 _ _ _ _) cl_1 rfl dX11_manned_10 rfl ?_
    refine B_icmp_ge (tgt := 37) (pc2 := 14) h dX11_manned_11 (by decide) rfl (fun _ h => ?_) (fun _ h => ?_)
    · refine G_sub (ls' := [(1, .int x1)]) [1] rfl ?_
      exact hk x1 h
    · refine G_iload_n (pc2 := 15) 1 rfl dX11_manned_14 rfl rfl ?_
      refine G_aload_n (pc2 := 16) 0 rfl dX11_manned_15 rfl rfl ?_
      refine G_iload_n (pc2 := 17) 2 rfl dX11_manned_16 rfl rfl ?_
      obtain ⟨c_1277, hc_1277, h⟩ := ob_e h
      refine B_callV (pc2 := 20) si_X11_138 (c_X11_keeperAt hc_1277) (qo_209 _ _ _ _) rfl rfl rfl (st := [.int x1]) (stq := [.int c_1277, .int x1]) rfl (by decide) (by decide) (Nat.le_of_ble_eq_true rfl) mkW_ll dX11_manned_17 rfl rfl ?_ ⟨rfl, rfl⟩
      refine G_iconst (pc2 := 21) dX11_manned_20 ic_m1 rfl ?_
      refine jn_e (Gj := True) (fun (j : Int32 → Option (Int32)) => ∀ (s_1279 : Int32), j s_1279 = some a → GG X md_X11_manned (rmD 2) (gv_Z X (rmD 2).cells (rmD 2).slots (some (.int a)) (mkW J K I F)) 0 0 29 [(0, .ref 209), (2, .int x2)] [.int s_1279, .int x1] (mkW J K I F)) h (fun s_1279 h => ?_) (fun j29_1278 hj29_1278 h => ?_)
      · refine G_iadd (pc2 := 30) dX11_manned_29 rfl ?_
        refine B_istore_n (pc2 := 31) (fun x1_1280 => [(1, .int x1_1280), (0, .ref 209), (2, .int x2)]) h dX11_manned_30 rfl (by decide) (fun _ => rfl) rfl (fun x1_1280 h => ?_)
        refine B_iinc (pc2 := 34) 2 (fun x2_1281 => [(2, .int x2_1281), (1, .int x1_1280), (0, .ref 209)]) h rfl dX11_manned_31 ic_1 (by decide) (fun _ => rfl) rfl (fun x2_1281 h => ?_)
        refine G_goto (tgt := 4) dX11_manned_34 (by decide) ?_
        refine G_sub (ls' := [(0, .ref 209), (1, .int x1_1280), (2, .int x2_1281)]) [2, 1, 0] rfl ?_
        exact ih x1_1280 x2_1281 h
      refine B_icmp_ne (tgt := 28) (pc2 := 24) h dX11_manned_21 (by decide) rfl (fun _ h => ?_) (fun _ h => ?_)
      · refine G_iconst (pc2 := 29) dX11_manned_28 ic_1 rfl ?_
        refine G_sub (ls' := [(0, .ref 209), (2, .int x2)]) [0, 2] rfl ?_
        exact hj29_1278 (1 : Int32) h
      · refine G_iconst (pc2 := 25) dX11_manned_24 ic_0 rfl ?_
        refine G_goto (tgt := 29) dX11_manned_25 (by decide) ?_
        refine G_sub (ls' := [(0, .ref 209), (2, .int x2)]) [0, 2] rfl ?_
        exact hj29_1278 (0 : Int32) h
set_option maxRecDepth 100000 in
set_option maxHeartbeats 4000000 in
theorem c_X11_manned {I : WI} {F : WF} {J : WI} {K : WF} {a : Int32} (h : f_X11_manned  I F = some a) : CT md_X11_manned yX11_manned (rmD 2) [.ref 209] (mkW J K I F) (some (.int a)) (mkW J K I F) := CT_of pn_X11 ⟨rfl, rfl⟩ (Nat.le_of_ble_eq_true rfl) (fun X => by
  show GG X md_X11_manned (rmD 2) _ 0 0 0 [(0, .ref 209)] [] (mkW J K I F)
  unfold f_X11_manned at h
  refine G_iconst (pc2 := 1) dX11_manned_0 ic_0 rfl ?_
  refine B_istore_n (pc2 := 2) (fun x1_1268 => [(1, .int x1_1268), (0, .ref 209)]) h dX11_manned_1 rfl (by decide) (fun _ => rfl) rfl (fun x1_1268 h => ?_)
  refine G_iconst (pc2 := 3) dX11_manned_2 ic_0 rfl ?_
  refine B_istore_n (pc2 := 4) (fun x2_1269 => [(2, .int x2_1269), (1, .int x1_1268), (0, .ref 209)]) h dX11_manned_3 rfl (by decide) (fun _ => rfl) rfl (fun x2_1269 h => ?_)
  refine G_sub (ls' := [(0, .ref 209), (1, .int x1_1268), (2, .int x2_1269)]) [2, 1, 0] rfl ?_
  refine g_L_X11_manned_4 (fun x1_1282 h => ?_) FU x1_1268 x2_1269 h
  refine G_iload_n (pc2 := 38) 0 rfl dX11_manned_37 rfl rfl ?_
  have ha := Option.some.inj h
  subst ha
  exact G_iret rfl dX11_manned_38)
def f_X11_told (x1 : Int32) (I : WI) (F : WF) : Option (Int32 × WI × WF) :=
  bnd (upd I 0 (0 : Int32)) fun I_1199 =>
  Option.bind (f_X11_in x1 (0 : Int32) (14 : Int32)) fun c_1200 =>
  if c_1200 = 0 then (some ((-1000000002 : Int32), I_1199, F))
  else (if (7 : Int32) ≤ x1 then (if (11 : Int32) ≤ x1 then (if x1 = (11 : Int32) then (some ((F 3 52), I_1199, F))
  else (if x1 = (12 : Int32) then (some ((I_1199 7), I_1199, F))
  else (if x1 = (13 : Int32) then (some ((I_1199 8), I_1199, F))
  else (some ((I_1199 6), I_1199, F)))))
  else (if x1 = (7 : Int32) then (Option.bind (f_X11_bottles I_1199 F) fun c_1267 =>
  some (c_1267.1, I_1199, c_1267.2))
  else (if x1 = (8 : Int32) then (Option.bind (f_X11_farthest I_1199 F) fun c_1255 =>
  some (c_1255.1, I_1199, c_1255.2))
  else (if x1 = (9 : Int32) then (Option.bind (f_X11_trusted I_1199 F) fun c_1217 =>
  some (c_1217, I_1199, F))
  else (Option.bind (f_X11_driest I_1199 F) fun c_1209 =>
  some (c_1209, I_1199, F))))))
  else (if (4 : Int32) ≤ x1 then (if x1 = (4 : Int32) then (some ((I_1199 1), I_1199, F))
  else (if x1 = (5 : Int32) then (some ((F 3 51), I_1199, F))
  else (Option.bind (f_X11_manned I_1199 F) fun c_1283 =>
  some (c_1283, I_1199, F))))
  else (ixG x1 70 (
  some ((F 2 x1.toNatClampNeg), I_1199, F)))))
set_option maxRecDepth 100000 in
set_option maxHeartbeats 4000000 in
theorem c_X11_told {x1 : Int32} {I : WI} {F : WF} {J : WI} {K : WF} {a : Int32 × WI × WF} (h : f_X11_told x1 I F = some a) : CT md_X11_told yX11_told (rmD 5) [.ref 209, .int x1] (mkW J K I F) (some (.int a.1)) (mkW J K a.2.1 a.2.2) := CT_of pn_X11 ⟨rfl, rfl⟩ (Nat.le_of_ble_eq_true rfl) (fun X => by
  show GG X md_X11_told (rmD 5) _ 0 0 0 [(0, .ref 209), (1, .int x1)] [] (mkW J K I F)
  unfold f_X11_told at h
  refine G_aload_n (pc2 := 1) 0 rfl dX11_told_0 rfl rfl ?_
  refine G_iconst (pc2 := 2) dX11_told_1 ic_0 rfl ?_
  refine P_209_0 (pc2 := 5) h kw_902 dX11_told_2 rfl (fun I_1199 h => ?_)
  refine G_iload_n (pc2 := 6) 1 rfl dX11_told_5 rfl rfl ?_
  refine G_iconst (pc2 := 7) dX11_told_6 ic_0 rfl ?_
  refine G_bipush (pc2 := 9) dX11_told_7 ib_14 rfl ?_
  obtain ⟨c_1200, hc_1200, h⟩ := ob_e h
  refine B_callS (pc2 := 12) si_X11_66 (c_X11_in hc_1200) rfl (st := []) (stq := [.int c_1200]) rfl (by decide) (by decide) (Nat.le_of_ble_eq_true rfl) rfl dX11_told_9 rfl rfl ?_ ⟨rfl, rfl⟩
  refine B_if_ne (tgt := 18) (pc2 := 15) h dX11_told_12 (by decide) rfl (fun _ h => ?_) (fun _ h => ?_)
  · refine G_iload_n (pc2 := 19) 1 rfl dX11_told_18 rfl rfl ?_
    refine G_bipush (pc2 := 21) dX11_told_19 ib_7 rfl ?_
    refine B_icmp_ge (tgt := 70) (pc2 := 24) h dX11_told_21 (by decide) rfl (fun _ h => ?_) (fun _ h => ?_)
    · refine G_iload_n (pc2 := 71) 1 rfl dX11_told_70 rfl rfl ?_
      refine G_bipush (pc2 := 73) dX11_told_71 ib_11 rfl ?_
      refine B_icmp_ge (tgt := 120) (pc2 := 76) h dX11_told_73 (by decide) rfl (fun _ h => ?_) (fun _ h => ?_)
      · refine G_iload_n (pc2 := 121) 1 rfl dX11_told_120 rfl rfl ?_
        refine G_bipush (pc2 := 123) dX11_told_121 ib_11 rfl ?_
        refine B_icmp_ne (tgt := 136) (pc2 := 126) h dX11_told_123 (by decide) rfl (fun _ h => ?_) (fun _ h => ?_)
        · refine G_iload_n (pc2 := 137) 1 rfl dX11_told_136 rfl rfl ?_
          refine G_bipush (pc2 := 139) dX11_told_137 ib_12 rfl ?_
          refine B_icmp_ne (tgt := 149) (pc2 := 142) h dX11_told_139 (by decide) rfl (fun _ h => ?_) (fun _ h => ?_)
          · refine G_iload_n (pc2 := 150) 1 rfl dX11_told_149 rfl rfl ?_
            refine G_bipush (pc2 := 152) dX11_told_150 ib_13 rfl ?_
            refine B_icmp_ne (tgt := 162) (pc2 := 155) h dX11_told_152 (by decide) rfl (fun _ h => ?_) (fun _ h => ?_)
            · refine G_aload_n (pc2 := 163) 0 rfl dX11_told_162 rfl rfl ?_
              refine T_209_13 (pc2 := 166) kw_915 dX11_told_163 rfl ?_
              have ha := Option.some.inj h
              subst ha
              exact G_iret rfl dX11_told_166
            · refine G_aload_n (pc2 := 156) 0 rfl dX11_told_155 rfl rfl ?_
              refine T_209_19 (pc2 := 159) kw_921 dX11_told_156 rfl ?_
              refine G_goto (tgt := 166) dX11_told_159 (by decide) ?_
              have ha := Option.some.inj h
              subst ha
              exact G_iret rfl dX11_told_166
          · refine G_aload_n (pc2 := 143) 0 rfl dX11_told_142 rfl rfl ?_
            refine T_209_16 (pc2 := 146) kw_918 dX11_told_143 rfl ?_
            refine G_goto (tgt := 166) dX11_told_146 (by decide) ?_
            have ha := Option.some.inj h
            subst ha
            exact G_iret rfl dX11_told_166
        · refine G_aload_n (pc2 := 127) 0 rfl dX11_told_126 rfl rfl ?_
          refine T_209_9 (pc2 := 130) kw_911 dX11_told_127 rfl ?_
          refine G_bipush (pc2 := 132) dX11_told_130 ib_52 rfl ?_
          refine AMc (pc2 := 133) (fa_213 _ _ _ _) cl_52 rfl dX11_told_132 rfl ?_
          refine G_goto (tgt := 166) dX11_told_133 (by decide) ?_
          have ha := Option.some.inj h
          subst ha
          exact G_iret rfl dX11_told_166
      · refine G_iload_n (pc2 := 77) 1 rfl dX11_told_76 rfl rfl ?_
        refine G_bipush (pc2 := 79) dX11_told_77 ib_7 rfl ?_
        refine B_icmp_ne (tgt := 89) (pc2 := 82) h dX11_told_79 (by decide) rfl (fun _ h => ?_) (fun _ h => ?_)
        · refine G_iload_n (pc2 := 90) 1 rfl dX11_told_89 rfl rfl ?_
          refine G_bipush (pc2 := 92) dX11_told_90 ib_8 rfl ?_
          refine B_icmp_ne (tgt := 102) (pc2 := 95) h dX11_told_92 (by decide) rfl (fun _ h => ?_) (fun _ h => ?_)
          · refine G_iload_n (pc2 := 103) 1 rfl dX11_told_102 rfl rfl ?_
            refine G_bipush (pc2 := 105) dX11_told_103 ib_9 rfl ?_
            refine B_icmp_ne (tgt := 115) (pc2 := 108) h dX11_told_105 (by decide) rfl (fun _ h => ?_) (fun _ h => ?_)
            · refine G_aload_n (pc2 := 116) 0 rfl dX11_told_115 rfl rfl ?_
              obtain ⟨c_1209, hc_1209, h⟩ := ob_e h
              refine B_callV (pc2 := 119) si_X11_176 (c_X11_driest hc_1209) (qo_209 _ _ _ _) rfl rfl rfl (st := []) (stq := [.int c_1209]) rfl (by decide) (by decide) (Nat.le_of_ble_eq_true rfl) mkW_ll dX11_told_116 rfl rfl ?_ ⟨rfl, rfl⟩
              have ha := Option.some.inj h
              subst ha
              exact G_iret rfl dX11_told_119
            · refine G_aload_n (pc2 := 109) 0 rfl dX11_told_108 rfl rfl ?_
              obtain ⟨c_1217, hc_1217, h⟩ := ob_e h
              refine B_callV (pc2 := 112) si_X11_173 (c_X11_trusted hc_1217) (qo_209 _ _ _ _) rfl rfl rfl (st := []) (stq := [.int c_1217]) rfl (by decide) (by decide) (Nat.le_of_ble_eq_true rfl) mkW_ll dX11_told_109 rfl rfl ?_ ⟨rfl, rfl⟩
              refine G_goto (tgt := 119) dX11_told_112 (by decide) ?_
              have ha := Option.some.inj h
              subst ha
              exact G_iret rfl dX11_told_119
          · refine G_aload_n (pc2 := 96) 0 rfl dX11_told_95 rfl rfl ?_
            obtain ⟨c_1255, hc_1255, h⟩ := ob_e h
            refine B_callV (pc2 := 99) si_X11_170 (c_X11_farthest hc_1255) (qo_209 _ _ _ _) rfl rfl rfl (st := []) (stq := [.int c_1255.1]) rfl (by decide) (by decide) (Nat.le_of_ble_eq_true rfl) mkW_ll dX11_told_96 rfl rfl ?_ ⟨rfl, rfl⟩
            refine G_goto (tgt := 119) dX11_told_99 (by decide) ?_
            have ha := Option.some.inj h
            subst ha
            exact G_iret rfl dX11_told_119
        · refine G_aload_n (pc2 := 83) 0 rfl dX11_told_82 rfl rfl ?_
          obtain ⟨c_1267, hc_1267, h⟩ := ob_e h
          refine B_callV (pc2 := 86) si_X11_167 (c_X11_bottles hc_1267) (qo_209 _ _ _ _) rfl rfl rfl (st := []) (stq := [.int c_1267.1]) rfl (by decide) (by decide) (Nat.le_of_ble_eq_true rfl) mkW_ll dX11_told_83 rfl rfl ?_ ⟨rfl, rfl⟩
          refine G_goto (tgt := 119) dX11_told_86 (by decide) ?_
          have ha := Option.some.inj h
          subst ha
          exact G_iret rfl dX11_told_119
    · refine G_iload_n (pc2 := 25) 1 rfl dX11_told_24 rfl rfl ?_
      refine G_iconst (pc2 := 26) dX11_told_25 ic_4 rfl ?_
      refine B_icmp_ge (tgt := 38) (pc2 := 29) h dX11_told_26 (by decide) rfl (fun _ h => ?_) (fun _ h => ?_)
      · refine G_iload_n (pc2 := 39) 1 rfl dX11_told_38 rfl rfl ?_
        refine G_iconst (pc2 := 40) dX11_told_39 ic_4 rfl ?_
        refine B_icmp_ne (tgt := 50) (pc2 := 43) h dX11_told_40 (by decide) rfl (fun _ h => ?_) (fun _ h => ?_)
        · refine G_iload_n (pc2 := 51) 1 rfl dX11_told_50 rfl rfl ?_
          refine G_iconst (pc2 := 52) dX11_told_51 ic_5 rfl ?_
          refine B_icmp_ne (tgt := 65) (pc2 := 55) h dX11_told_52 (by decide) rfl (fun _ h => ?_) (fun _ h => ?_)
          · refine G_aload_n (pc2 := 66) 0 rfl dX11_told_65 rfl rfl ?_
            obtain ⟨c_1283, hc_1283, h⟩ := ob_e h
            refine B_callV (pc2 := 69) si_X11_164 (c_X11_manned hc_1283) (qo_209 _ _ _ _) rfl rfl rfl (st := []) (stq := [.int c_1283]) rfl (by decide) (by decide) (Nat.le_of_ble_eq_true rfl) mkW_ll dX11_told_66 rfl rfl ?_ ⟨rfl, rfl⟩
            have ha := Option.some.inj h
            subst ha
            exact G_iret rfl dX11_told_69
          · refine G_aload_n (pc2 := 56) 0 rfl dX11_told_55 rfl rfl ?_
            refine T_209_9 (pc2 := 59) kw_911 dX11_told_56 rfl ?_
            refine G_bipush (pc2 := 61) dX11_told_59 ib_51 rfl ?_
            refine AMc (pc2 := 62) (fa_213 _ _ _ _) cl_51 rfl dX11_told_61 rfl ?_
            refine G_goto (tgt := 69) dX11_told_62 (by decide) ?_
            have ha := Option.some.inj h
            subst ha
            exact G_iret rfl dX11_told_69
        · refine G_aload_n (pc2 := 44) 0 rfl dX11_told_43 rfl rfl ?_
          refine T_209_2 (pc2 := 47) kw_904 dX11_told_44 rfl ?_
          refine G_goto (tgt := 69) dX11_told_47 (by decide) ?_
          have ha := Option.some.inj h
          subst ha
          exact G_iret rfl dX11_told_69
      · refine G_aload_n (pc2 := 30) 0 rfl dX11_told_29 rfl rfl ?_
        refine T_209_8 (pc2 := 33) kw_910 dX11_told_30 rfl ?_
        refine G_iload_n (pc2 := 34) 1 rfl dX11_told_33 rfl rfl ?_
        refine AM (pc2 := 35) (fa_212 _ _ _ _) h dX11_told_34 rfl (fun h => ?_)
        refine G_goto (tgt := 69) dX11_told_35 (by decide) ?_
        have ha := Option.some.inj h
        subst ha
        exact G_iret rfl dX11_told_69
  · refine G_ldc (pc2 := 17) kw_989 dX11_told_15 rfl ?_
    have ha := Option.some.inj h
    subst ha
    exact G_iret rfl dX11_told_17)
def f_X11_isBridge (x1 : Int32) (I : WI) (F : WF) : Option (Int32) :=
  Option.bind (f_X11_in x1 (0 : Int32) ((F 2 1) - (1 : Int32))) fun c_1285 =>
  bzG c_1285 (some c_1285)
set_option maxRecDepth 100000 in
set_option maxHeartbeats 4000000 in
theorem c_X11_isBridge {x1 : Int32} {I : WI} {F : WF} {J : WI} {K : WF} {a : Int32} (h : f_X11_isBridge x1 I F = some a) : CT md_X11_isBridge yX11_isBridge (rmD 2) [.ref 209, .int x1] (mkW J K I F) (some (.int a)) (mkW J K I F) := CT_of pn_X11 ⟨rfl, rfl⟩ (Nat.le_of_ble_eq_true rfl) (fun X => by
  show GG X md_X11_isBridge (rmD 2) _ 0 0 0 [(0, .ref 209), (1, .int x1)] [] (mkW J K I F)
  unfold f_X11_isBridge at h
  refine G_iload_n (pc2 := 1) 1 rfl dX11_isBridge_0 rfl rfl ?_
  refine G_iconst (pc2 := 2) dX11_isBridge_1 ic_0 rfl ?_
  refine G_aload_n (pc2 := 3) 0 rfl dX11_isBridge_2 rfl rfl ?_
  refine T_209_8 (pc2 := 6) kw_910 dX11_isBridge_3 rfl ?_
  refine G_iconst (pc2 := 7) dX11_isBridge_6 ic_1 rfl ?_
  refine AMc (pc2 := 8) (fa_212 _ _ _ _) cl_1 rfl dX11_isBridge_7 rfl ?_
  refine G_iconst (pc2 := 9) dX11_isBridge_8 ic_1 rfl ?_
  refine G_isub (pc2 := 10) dX11_isBridge_9 rfl ?_
  obtain ⟨c_1285, hc_1285, h⟩ := ob_e h
  refine B_callS (pc2 := 13) si_X11_66 (c_X11_in hc_1285) rfl (st := []) (stq := [.int c_1285]) rfl (by decide) (by decide) (Nat.le_of_ble_eq_true rfl) rfl dX11_isBridge_10 rfl rfl ?_ ⟨rfl, rfl⟩
  obtain ⟨qb_1286, h⟩ := bzG_e h
  have ha := Option.some.inj h
  subst ha
  exact G_zret rfl qb_1286 dX11_isBridge_13)
def f_X11_timeBy (x1 : Int32) (x2 : Int32) (I : WI) (F : WF) : Option (Int32) :=
  ixG ((40 : Int32) + x1) 70 (
  bnd (F 2 ((40 : Int32) + x1).toNatClampNeg) fun x3_1291 =>
  bnd (fun (s_1293 : Int32) => bnd s_1293 fun x4_1294 =>
  ixG ((42 : Int32) + x1) 134 (
  some ((F 3 ((42 : Int32) + x1).toNatClampNeg) + x4_1294))) fun j50_1292 =>
  if x3_1291 = (1 : Int32) then (j50_1292 (((F 3 51) - (F 3 51) / (2 : Int32) * (2 : Int32)) * (2 : Int32)))
  else (if x3_1291 = (2 : Int32) then (j50_1292 x2)
  else (if x3_1291 = (3 : Int32) then (j50_1292 (x2 / (3 : Int32)))
  else (j50_1292 (0 : Int32)))))
set_option maxRecDepth 100000 in
set_option maxHeartbeats 4000000 in
theorem c_X11_timeBy {x1 : Int32} {x2 : Int32} {I : WI} {F : WF} {J : WI} {K : WF} {a : Int32} (h : f_X11_timeBy x1 x2 I F = some a) : CT md_X11_timeBy yX11_timeBy (rmD 1) [.ref 209, .int x1, .int x2] (mkW J K I F) (some (.int a)) (mkW J K I F) := CT_of pn_X11 ⟨rfl, rfl⟩ (Nat.le_of_ble_eq_true rfl) (fun X => by
  show GG X md_X11_timeBy (rmD 1) _ 0 0 0 [(0, .ref 209), (1, .int x1), (2, .int x2)] [] (mkW J K I F)
  unfold f_X11_timeBy at h
  refine G_aload_n (pc2 := 1) 0 rfl dX11_timeBy_0 rfl rfl ?_
  refine T_209_8 (pc2 := 4) kw_910 dX11_timeBy_1 rfl ?_
  refine G_bipush (pc2 := 6) dX11_timeBy_4 ib_40 rfl ?_
  refine G_iload_n (pc2 := 7) 1 rfl dX11_timeBy_6 rfl rfl ?_
  refine G_iadd (pc2 := 8) dX11_timeBy_7 rfl ?_
  refine AM (pc2 := 9) (fa_212 _ _ _ _) h dX11_timeBy_8 rfl (fun h => ?_)
  refine B_istore_n (pc2 := 10) (fun x3_1291 => [(3, .int x3_1291), (0, .ref 209), (1, .int x1), (2, .int x2)]) h dX11_timeBy_9 rfl (by decide) (fun _ => rfl) rfl (fun x3_1291 h => ?_)
  refine G_iload_n (pc2 := 11) 0 rfl dX11_timeBy_10 rfl rfl ?_
  refine G_iconst (pc2 := 12) dX11_timeBy_11 ic_1 rfl ?_
  refine jn_e (Gj := True) (fun (j : Int32 → Option (Int32)) => ∀ (s_1293 : Int32), j s_1293 = some a → GG X md_X11_timeBy (rmD 1) (gv_Z X (rmD 1).cells (rmD 1).slots (some (.int a)) (mkW J K I F)) 0 0 50 [(0, .ref 209), (1, .int x1)] [.int s_1293] (mkW J K I F)) h (fun s_1293 h => ?_) (fun j50_1292 hj50_1292 h => ?_)
  · refine B_istore (pc2 := 52) (fun x4_1294 => [(4, .int x4_1294), (0, .ref 209), (1, .int x1)]) h dX11_timeBy_50 (by decide) (fun _ => rfl) rfl (fun x4_1294 h => ?_)
    refine G_aload_n (pc2 := 53) 1 rfl dX11_timeBy_52 rfl rfl ?_
    refine T_209_9 (pc2 := 56) kw_911 dX11_timeBy_53 rfl ?_
    refine G_bipush (pc2 := 58) dX11_timeBy_56 ib_42 rfl ?_
    refine G_iload_n (pc2 := 59) 2 rfl dX11_timeBy_58 rfl rfl ?_
    refine G_iadd (pc2 := 60) dX11_timeBy_59 rfl ?_
    refine AM (pc2 := 61) (fa_213 _ _ _ _) h dX11_timeBy_60 rfl (fun h => ?_)
    refine G_iload (pc2 := 63) 0 rfl dX11_timeBy_61 rfl ?_
    refine G_iadd (pc2 := 64) dX11_timeBy_63 rfl ?_
    have ha := Option.some.inj h
    subst ha
    exact G_iret rfl dX11_timeBy_64
  refine B_icmp_ne (tgt := 29) (pc2 := 15) h dX11_timeBy_12 (by decide) rfl (fun _ h => ?_) (fun _ h => ?_)
  · refine G_iload_n (pc2 := 30) 0 rfl dX11_timeBy_29 rfl rfl ?_
    refine G_iconst (pc2 := 31) dX11_timeBy_30 ic_2 rfl ?_
    refine B_icmp_ne (tgt := 38) (pc2 := 34) h dX11_timeBy_31 (by decide) rfl (fun _ h => ?_) (fun _ h => ?_)
    · refine G_iload_n (pc2 := 39) 0 rfl dX11_timeBy_38 rfl rfl ?_
      refine G_iconst (pc2 := 40) dX11_timeBy_39 ic_3 rfl ?_
      refine B_icmp_ne (tgt := 49) (pc2 := 43) h dX11_timeBy_40 (by decide) rfl (fun _ h => ?_) (fun _ h => ?_)
      · refine G_iconst (pc2 := 50) dX11_timeBy_49 ic_0 rfl ?_
        refine G_sub (ls' := [(0, .ref 209), (1, .int x1)]) [1, 2] rfl ?_
        exact hj50_1292 (0 : Int32) h
      · refine G_iload_n (pc2 := 44) 3 rfl dX11_timeBy_43 rfl rfl ?_
        refine G_iconst (pc2 := 45) dX11_timeBy_44 ic_3 rfl ?_
        refine G_idiv (pc2 := 46) dX11_timeBy_45 (by decide) rfl ?_
        refine G_goto (tgt := 50) dX11_timeBy_46 (by decide) ?_
        refine G_sub (ls' := [(0, .ref 209), (1, .int x1)]) [1, 2] rfl ?_
        exact hj50_1292 (x2 / (3 : Int32)) h
    · refine G_iload_n (pc2 := 35) 3 rfl dX11_timeBy_34 rfl rfl ?_
      refine G_goto (tgt := 50) dX11_timeBy_35 (by decide) ?_
      refine G_sub (ls' := [(0, .ref 209), (1, .int x1)]) [1, 2] rfl ?_
      exact hj50_1292 x2 h
  · refine G_aload_n (pc2 := 16) 1 rfl dX11_timeBy_15 rfl rfl ?_
    refine T_209_9 (pc2 := 19) kw_911 dX11_timeBy_16 rfl ?_
    refine G_bipush (pc2 := 21) dX11_timeBy_19 ib_51 rfl ?_
    refine AMc (pc2 := 22) (fa_213 _ _ _ _) cl_51 rfl dX11_timeBy_21 rfl ?_
    refine G_iconst (pc2 := 23) dX11_timeBy_22 ic_2 rfl ?_
    refine G_irem (pc2 := 24) dX11_timeBy_23 (by decide) rfl ?_
    refine G_iconst (pc2 := 25) dX11_timeBy_24 ic_2 rfl ?_
    refine G_imul (pc2 := 26) dX11_timeBy_25 rfl ?_
    refine G_goto (tgt := 50) dX11_timeBy_26 (by decide) ?_
    refine G_sub (ls' := [(0, .ref 209), (1, .int x1)]) [1, 2] rfl ?_
    exact hj50_1292 (((F 3 51) - (F 3 51) / (2 : Int32) * (2 : Int32)) * (2 : Int32)) h)
def f_X11_timeOf (x1 : Int32) (I : WI) (F : WF) : Option (Int32) :=
  ixG ((33 : Int32) + x1) 134 (
  Option.bind (f_X11_timeBy x1 (F 3 ((33 : Int32) + x1).toNatClampNeg) I F) fun c_1295 =>
  some c_1295)
set_option maxRecDepth 100000 in
set_option maxHeartbeats 4000000 in
theorem c_X11_timeOf {x1 : Int32} {I : WI} {F : WF} {J : WI} {K : WF} {a : Int32} (h : f_X11_timeOf x1 I F = some a) : CT md_X11_timeOf yX11_timeOf (rmD 2) [.ref 209, .int x1] (mkW J K I F) (some (.int a)) (mkW J K I F) := CT_of pn_X11 ⟨rfl, rfl⟩ (Nat.le_of_ble_eq_true rfl) (fun X => by
  show GG X md_X11_timeOf (rmD 2) _ 0 0 0 [(0, .ref 209), (1, .int x1)] [] (mkW J K I F)
  unfold f_X11_timeOf at h
  refine G_aload_n (pc2 := 1) 0 rfl dX11_timeOf_0 rfl rfl ?_
  refine G_iload_n (pc2 := 2) 1 rfl dX11_timeOf_1 rfl rfl ?_
  refine G_aload_n (pc2 := 3) 0 rfl dX11_timeOf_2 rfl rfl ?_
  refine T_209_9 (pc2 := 6) kw_911 dX11_timeOf_3 rfl ?_
  refine G_bipush (pc2 := 8) dX11_timeOf_6 ib_33 rfl ?_
  refine G_iload_n (pc2 := 9) 1 rfl dX11_timeOf_8 rfl rfl ?_
  refine G_iadd (pc2 := 10) dX11_timeOf_9 rfl ?_
  refine AM (pc2 := 11) (fa_213 _ _ _ _) h dX11_timeOf_10 rfl (fun h => ?_)
  obtain ⟨c_1295, hc_1295, h⟩ := ob_e h
  refine B_callV (pc2 := 14) si_X11_135 (c_X11_timeBy hc_1295) (qo_209 _ _ _ _) rfl rfl rfl (st := []) (stq := [.int c_1295]) rfl (by decide) (by decide) (Nat.le_of_ble_eq_true rfl) mkW_ll dX11_timeOf_11 rfl rfl ?_ ⟨rfl, rfl⟩
  have ha := Option.some.inj h
  subst ha
  exact G_iret rfl dX11_timeOf_14)
def f_X11_bridge (x1 : Int32) (x2 : Int32) (I : WI) (F : WF) : Option (Int32 × WI) :=
  bnd (upd I 0 (0 : Int32)) fun I_1284 =>
  Option.bind (f_X11_isBridge x1 I_1284 F) fun c_1287 =>
  if c_1287 = 0 then (some ((-1000000001 : Int32), I_1284))
  else (Option.bind (f_X11_in x2 (0 : Int32) (5 : Int32)) fun c_1288 =>
  if c_1288 = 0 then (some ((-1000000002 : Int32), I_1284))
  else (if (4 : Int32) ≤ x2 then (Option.bind (f_X11_keeperAt x1 I_1284 F) fun c_1289 =>
  bnd c_1289 fun x3_1290 =>
  if x2 = (4 : Int32) then (some (x3_1290, I_1284))
  else (if x3_1290 = (-1 : Int32) then (some (x3_1290, I_1284))
  else (Option.bind (f_X11_timeOf x3_1290 I_1284 F) fun c_1296 =>
  some (c_1296, I_1284))))
  else (ixG (((4 : Int32) + ((9 : Int32) * x2)) + x1) 70 (
  some ((F 2 (((4 : Int32) + ((9 : Int32) * x2)) + x1).toNatClampNeg), I_1284)))))
set_option maxRecDepth 100000 in
set_option maxHeartbeats 4000000 in
theorem c_X11_bridge {x1 : Int32} {x2 : Int32} {I : WI} {F : WF} {J : WI} {K : WF} {a : Int32 × WI} (h : f_X11_bridge x1 x2 I F = some a) : CT md_X11_bridge yX11_bridge (rmD 3) [.ref 209, .int x1, .int x2] (mkW J K I F) (some (.int a.1)) (mkW J K a.2 F) := CT_of pn_X11 ⟨rfl, rfl⟩ (Nat.le_of_ble_eq_true rfl) (fun X => by
  show GG X md_X11_bridge (rmD 3) _ 0 0 0 [(0, .ref 209), (1, .int x1), (2, .int x2)] [] (mkW J K I F)
  unfold f_X11_bridge at h
  refine G_aload_n (pc2 := 1) 0 rfl dX11_bridge_0 rfl rfl ?_
  refine G_iconst (pc2 := 2) dX11_bridge_1 ic_0 rfl ?_
  refine P_209_0 (pc2 := 5) h kw_902 dX11_bridge_2 rfl (fun I_1284 h => ?_)
  refine G_aload_n (pc2 := 6) 0 rfl dX11_bridge_5 rfl rfl ?_
  refine G_iload_n (pc2 := 7) 1 rfl dX11_bridge_6 rfl rfl ?_
  obtain ⟨c_1287, hc_1287, h⟩ := ob_e h
  refine B_callV (pc2 := 10) si_X11_179 (c_X11_isBridge hc_1287) (qo_209 _ _ _ _) rfl rfl rfl (st := []) (stq := [.int c_1287]) rfl (by decide) (by decide) (Nat.le_of_ble_eq_true rfl) mkW_ll dX11_bridge_7 rfl rfl ?_ ⟨rfl, rfl⟩
  refine B_if_ne (tgt := 16) (pc2 := 13) h dX11_bridge_10 (by decide) rfl (fun _ h => ?_) (fun _ h => ?_)
  · refine G_iload_n (pc2 := 17) 2 rfl dX11_bridge_16 rfl rfl ?_
    refine G_iconst (pc2 := 18) dX11_bridge_17 ic_0 rfl ?_
    refine G_iconst (pc2 := 19) dX11_bridge_18 ic_5 rfl ?_
    obtain ⟨c_1288, hc_1288, h⟩ := ob_e h
    refine B_callS (pc2 := 22) si_X11_66 (c_X11_in hc_1288) rfl (st := []) (stq := [.int c_1288]) rfl (by decide) (by decide) (Nat.le_of_ble_eq_true rfl) rfl dX11_bridge_19 rfl rfl ?_ ⟨rfl, rfl⟩
    refine B_if_ne (tgt := 28) (pc2 := 25) h dX11_bridge_22 (by decide) rfl (fun _ h => ?_) (fun _ h => ?_)
    · refine G_iload_n (pc2 := 29) 2 rfl dX11_bridge_28 rfl rfl ?_
      refine G_iconst (pc2 := 30) dX11_bridge_29 ic_4 rfl ?_
      refine B_icmp_ge (tgt := 47) (pc2 := 33) h dX11_bridge_30 (by decide) rfl (fun _ h => ?_) (fun _ h => ?_)
      · refine G_aload_n (pc2 := 48) 0 rfl dX11_bridge_47 rfl rfl ?_
        refine G_iload_n (pc2 := 49) 1 rfl dX11_bridge_48 rfl rfl ?_
        obtain ⟨c_1289, hc_1289, h⟩ := ob_e h
        refine B_callV (pc2 := 52) si_X11_138 (c_X11_keeperAt hc_1289) (qo_209 _ _ _ _) rfl rfl rfl (st := []) (stq := [.int c_1289]) rfl (by decide) (by decide) (Nat.le_of_ble_eq_true rfl) mkW_ll dX11_bridge_49 rfl rfl ?_ ⟨rfl, rfl⟩
        refine B_istore_n (pc2 := 53) (fun x3_1290 => [(3, .int x3_1290), (0, .ref 209), (1, .int x1), (2, .int x2)]) h dX11_bridge_52 rfl (by decide) (fun _ => rfl) rfl (fun x3_1290 h => ?_)
        refine G_iload_n (pc2 := 54) 3 rfl dX11_bridge_53 rfl rfl ?_
        refine G_iconst (pc2 := 55) dX11_bridge_54 ic_4 rfl ?_
        refine B_icmp_eq (tgt := 63) (pc2 := 58) h dX11_bridge_55 (by decide) rfl (fun _ h => ?_) (fun _ h => ?_)
        · refine G_iload_n (pc2 := 64) 0 rfl dX11_bridge_63 rfl rfl ?_
          refine G_goto (tgt := 72) dX11_bridge_64 (by decide) ?_
          have ha := Option.some.inj h
          subst ha
          exact G_iret rfl dX11_bridge_72
        · refine G_iload_n (pc2 := 59) 0 rfl dX11_bridge_58 rfl rfl ?_
          refine G_iconst (pc2 := 60) dX11_bridge_59 ic_m1 rfl ?_
          refine B_icmp_ne (tgt := 67) (pc2 := 63) h dX11_bridge_60 (by decide) rfl (fun _ h => ?_) (fun _ h => ?_)
          · refine G_aload_n (pc2 := 68) 1 rfl dX11_bridge_67 rfl rfl ?_
            refine G_iload_n (pc2 := 69) 0 rfl dX11_bridge_68 rfl rfl ?_
            obtain ⟨c_1296, hc_1296, h⟩ := ob_e h
            refine B_callV (pc2 := 72) si_X11_141 (c_X11_timeOf hc_1296) (qo_209 _ _ _ _) rfl rfl rfl (st := []) (stq := [.int c_1296]) rfl (by decide) (by decide) (Nat.le_of_ble_eq_true rfl) mkW_ll dX11_bridge_69 rfl rfl ?_ ⟨rfl, rfl⟩
            have ha := Option.some.inj h
            subst ha
            exact G_iret rfl dX11_bridge_72
          · refine G_iload_n (pc2 := 64) 0 rfl dX11_bridge_63 rfl rfl ?_
            refine G_goto (tgt := 72) dX11_bridge_64 (by decide) ?_
            have ha := Option.some.inj h
            subst ha
            exact G_iret rfl dX11_bridge_72
      · refine G_aload_n (pc2 := 34) 0 rfl dX11_bridge_33 rfl rfl ?_
        refine T_209_8 (pc2 := 37) kw_910 dX11_bridge_34 rfl ?_
        refine G_iconst (pc2 := 38) dX11_bridge_37 ic_4 rfl ?_
        refine G_bipush (pc2 := 40) dX11_bridge_38 ib_9 rfl ?_
        refine G_iload_n (pc2 := 41) 2 rfl dX11_bridge_40 rfl rfl ?_
        refine G_imul (pc2 := 42) dX11_bridge_41 rfl ?_
        refine G_iadd (pc2 := 43) dX11_bridge_42 rfl ?_
        refine G_iload_n (pc2 := 44) 1 rfl dX11_bridge_43 rfl rfl ?_
        refine G_iadd (pc2 := 45) dX11_bridge_44 rfl ?_
        refine AM (pc2 := 46) (fa_212 _ _ _ _) h dX11_bridge_45 rfl (fun h => ?_)
        have ha := Option.some.inj h
        subst ha
        exact G_iret rfl dX11_bridge_46
    · refine G_ldc (pc2 := 27) kw_989 dX11_bridge_25 rfl ?_
      have ha := Option.some.inj h
      subst ha
      exact G_iret rfl dX11_bridge_27
  · refine G_ldc (pc2 := 15) kw_1094 dX11_bridge_13 rfl ?_
    have ha := Option.some.inj h
    subst ha
    exact G_iret rfl dX11_bridge_15)
def f_X11_isKeeper (x1 : Int32) (I : WI) (F : WF) : Option (Int32) :=
  Option.bind (f_X11_in x1 (0 : Int32) ((F 2 2) - (1 : Int32))) fun c_1298 =>
  bzG c_1298 (some c_1298)
set_option maxRecDepth 100000 in
set_option maxHeartbeats 4000000 in
theorem c_X11_isKeeper {x1 : Int32} {I : WI} {F : WF} {J : WI} {K : WF} {a : Int32} (h : f_X11_isKeeper x1 I F = some a) : CT md_X11_isKeeper yX11_isKeeper (rmD 2) [.ref 209, .int x1] (mkW J K I F) (some (.int a)) (mkW J K I F) := CT_of pn_X11 ⟨rfl, rfl⟩ (Nat.le_of_ble_eq_true rfl) (fun X => by
  show GG X md_X11_isKeeper (rmD 2) _ 0 0 0 [(0, .ref 209), (1, .int x1)] [] (mkW J K I F)
  unfold f_X11_isKeeper at h
  refine G_iload_n (pc2 := 1) 1 rfl dX11_isKeeper_0 rfl rfl ?_
  refine G_iconst (pc2 := 2) dX11_isKeeper_1 ic_0 rfl ?_
  refine G_aload_n (pc2 := 3) 0 rfl dX11_isKeeper_2 rfl rfl ?_
  refine T_209_8 (pc2 := 6) kw_910 dX11_isKeeper_3 rfl ?_
  refine G_iconst (pc2 := 7) dX11_isKeeper_6 ic_2 rfl ?_
  refine AMc (pc2 := 8) (fa_212 _ _ _ _) cl_2 rfl dX11_isKeeper_7 rfl ?_
  refine G_iconst (pc2 := 9) dX11_isKeeper_8 ic_1 rfl ?_
  refine G_isub (pc2 := 10) dX11_isKeeper_9 rfl ?_
  obtain ⟨c_1298, hc_1298, h⟩ := ob_e h
  refine B_callS (pc2 := 13) si_X11_66 (c_X11_in hc_1298) rfl (st := []) (stq := [.int c_1298]) rfl (by decide) (by decide) (Nat.le_of_ble_eq_true rfl) rfl dX11_isKeeper_10 rfl rfl ?_ ⟨rfl, rfl⟩
  obtain ⟨qb_1299, h⟩ := bzG_e h
  have ha := Option.some.inj h
  subst ha
  exact G_zret rfl qb_1299 dX11_isKeeper_13)
def f_X11_keeper (x1 : Int32) (x2 : Int32) (I : WI) (F : WF) : Option (Int32 × WI) :=
  bnd (upd I 0 (0 : Int32)) fun I_1297 =>
  Option.bind (f_X11_isKeeper x1 I_1297 F) fun c_1300 =>
  if c_1300 = 0 then (some ((-1000000001 : Int32), I_1297))
  else (Option.bind (f_X11_in x2 (0 : Int32) (4 : Int32)) fun c_1301 =>
  if c_1301 = 0 then (some ((-1000000002 : Int32), I_1297))
  else (if (2 : Int32) ≤ x2 then (if x2 = (2 : Int32) then (ixG ((24 : Int32) + x1) 134 (
  some ((F 3 ((24 : Int32) + x1).toNatClampNeg), I_1297)))
  else (if x2 = (3 : Int32) then (ixG ((33 : Int32) + x1) 134 (
  some ((F 3 ((33 : Int32) + x1).toNatClampNeg), I_1297)))
  else (Option.bind (f_X11_timeOf x1 I_1297 F) fun c_1302 =>
  some (c_1302, I_1297))))
  else (if x2 = 0 then (ixG ((40 : Int32) + x1) 70 (
  some ((F 2 ((40 : Int32) + x1).toNatClampNeg), I_1297)))
  else (ixG ((42 : Int32) + x1) 134 (
  some ((F 3 ((42 : Int32) + x1).toNatClampNeg), I_1297))))))
set_option maxRecDepth 100000 in
set_option maxHeartbeats 4000000 in
theorem c_X11_keeper {x1 : Int32} {x2 : Int32} {I : WI} {F : WF} {J : WI} {K : WF} {a : Int32 × WI} (h : f_X11_keeper x1 x2 I F = some a) : CT md_X11_keeper yX11_keeper (rmD 3) [.ref 209, .int x1, .int x2] (mkW J K I F) (some (.int a.1)) (mkW J K a.2 F) := CT_of pn_X11 ⟨rfl, rfl⟩ (Nat.le_of_ble_eq_true rfl) (fun X => by
  show GG X md_X11_keeper (rmD 3) _ 0 0 0 [(0, .ref 209), (1, .int x1), (2, .int x2)] [] (mkW J K I F)
  unfold f_X11_keeper at h
  refine G_aload_n (pc2 := 1) 0 rfl dX11_keeper_0 rfl rfl ?_
  refine G_iconst (pc2 := 2) dX11_keeper_1 ic_0 rfl ?_
  refine P_209_0 (pc2 := 5) h kw_902 dX11_keeper_2 rfl (fun I_1297 h => ?_)
  refine G_aload_n (pc2 := 6) 0 rfl dX11_keeper_5 rfl rfl ?_
  refine G_iload_n (pc2 := 7) 1 rfl dX11_keeper_6 rfl rfl ?_
  obtain ⟨c_1300, hc_1300, h⟩ := ob_e h
  refine B_callV (pc2 := 10) si_X11_183 (c_X11_isKeeper hc_1300) (qo_209 _ _ _ _) rfl rfl rfl (st := []) (stq := [.int c_1300]) rfl (by decide) (by decide) (Nat.le_of_ble_eq_true rfl) mkW_ll dX11_keeper_7 rfl rfl ?_ ⟨rfl, rfl⟩
  refine B_if_ne (tgt := 16) (pc2 := 13) h dX11_keeper_10 (by decide) rfl (fun _ h => ?_) (fun _ h => ?_)
  · refine G_iload_n (pc2 := 17) 2 rfl dX11_keeper_16 rfl rfl ?_
    refine G_iconst (pc2 := 18) dX11_keeper_17 ic_0 rfl ?_
    refine G_iconst (pc2 := 19) dX11_keeper_18 ic_4 rfl ?_
    obtain ⟨c_1301, hc_1301, h⟩ := ob_e h
    refine B_callS (pc2 := 22) si_X11_66 (c_X11_in hc_1301) rfl (st := []) (stq := [.int c_1301]) rfl (by decide) (by decide) (Nat.le_of_ble_eq_true rfl) rfl dX11_keeper_19 rfl rfl ?_ ⟨rfl, rfl⟩
    refine B_if_ne (tgt := 28) (pc2 := 25) h dX11_keeper_22 (by decide) rfl (fun _ h => ?_) (fun _ h => ?_)
    · refine G_iload_n (pc2 := 29) 2 rfl dX11_keeper_28 rfl rfl ?_
      refine G_iconst (pc2 := 30) dX11_keeper_29 ic_2 rfl ?_
      refine B_icmp_ge (tgt := 59) (pc2 := 33) h dX11_keeper_30 (by decide) rfl (fun _ h => ?_) (fun _ h => ?_)
      · refine G_iload_n (pc2 := 60) 2 rfl dX11_keeper_59 rfl rfl ?_
        refine G_iconst (pc2 := 61) dX11_keeper_60 ic_2 rfl ?_
        refine B_icmp_ne (tgt := 76) (pc2 := 64) h dX11_keeper_61 (by decide) rfl (fun _ h => ?_) (fun _ h => ?_)
        · refine G_iload_n (pc2 := 77) 2 rfl dX11_keeper_76 rfl rfl ?_
          refine G_iconst (pc2 := 78) dX11_keeper_77 ic_3 rfl ?_
          refine B_icmp_ne (tgt := 93) (pc2 := 81) h dX11_keeper_78 (by decide) rfl (fun _ h => ?_) (fun _ h => ?_)
          · refine G_aload_n (pc2 := 94) 0 rfl dX11_keeper_93 rfl rfl ?_
            refine G_iload_n (pc2 := 95) 1 rfl dX11_keeper_94 rfl rfl ?_
            obtain ⟨c_1302, hc_1302, h⟩ := ob_e h
            refine B_callV (pc2 := 98) si_X11_141 (c_X11_timeOf hc_1302) (qo_209 _ _ _ _) rfl rfl rfl (st := []) (stq := [.int c_1302]) rfl (by decide) (by decide) (Nat.le_of_ble_eq_true rfl) mkW_ll dX11_keeper_95 rfl rfl ?_ ⟨rfl, rfl⟩
            have ha := Option.some.inj h
            subst ha
            exact G_iret rfl dX11_keeper_98
          · refine G_aload_n (pc2 := 82) 0 rfl dX11_keeper_81 rfl rfl ?_
            refine T_209_9 (pc2 := 85) kw_911 dX11_keeper_82 rfl ?_
            refine G_bipush (pc2 := 87) dX11_keeper_85 ib_33 rfl ?_
            refine G_iload_n (pc2 := 88) 1 rfl dX11_keeper_87 rfl rfl ?_
            refine G_iadd (pc2 := 89) dX11_keeper_88 rfl ?_
            refine AM (pc2 := 90) (fa_213 _ _ _ _) h dX11_keeper_89 rfl (fun h => ?_)
            refine G_goto (tgt := 98) dX11_keeper_90 (by decide) ?_
            have ha := Option.some.inj h
            subst ha
            exact G_iret rfl dX11_keeper_98
        · refine G_aload_n (pc2 := 65) 0 rfl dX11_keeper_64 rfl rfl ?_
          refine T_209_9 (pc2 := 68) kw_911 dX11_keeper_65 rfl ?_
          refine G_bipush (pc2 := 70) dX11_keeper_68 ib_24 rfl ?_
          refine G_iload_n (pc2 := 71) 1 rfl dX11_keeper_70 rfl rfl ?_
          refine G_iadd (pc2 := 72) dX11_keeper_71 rfl ?_
          refine AM (pc2 := 73) (fa_213 _ _ _ _) h dX11_keeper_72 rfl (fun h => ?_)
          refine G_goto (tgt := 98) dX11_keeper_73 (by decide) ?_
          have ha := Option.some.inj h
          subst ha
          exact G_iret rfl dX11_keeper_98
      · refine G_iload_n (pc2 := 34) 2 rfl dX11_keeper_33 rfl rfl ?_
        refine B_if_ne (tgt := 49) (pc2 := 37) h dX11_keeper_34 (by decide) rfl (fun _ h => ?_) (fun _ h => ?_)
        · refine G_aload_n (pc2 := 50) 0 rfl dX11_keeper_49 rfl rfl ?_
          refine T_209_9 (pc2 := 53) kw_911 dX11_keeper_50 rfl ?_
          refine G_bipush (pc2 := 55) dX11_keeper_53 ib_42 rfl ?_
          refine G_iload_n (pc2 := 56) 1 rfl dX11_keeper_55 rfl rfl ?_
          refine G_iadd (pc2 := 57) dX11_keeper_56 rfl ?_
          refine AM (pc2 := 58) (fa_213 _ _ _ _) h dX11_keeper_57 rfl (fun h => ?_)
          have ha := Option.some.inj h
          subst ha
          exact G_iret rfl dX11_keeper_58
        · refine G_aload_n (pc2 := 38) 0 rfl dX11_keeper_37 rfl rfl ?_
          refine T_209_8 (pc2 := 41) kw_910 dX11_keeper_38 rfl ?_
          refine G_bipush (pc2 := 43) dX11_keeper_41 ib_40 rfl ?_
          refine G_iload_n (pc2 := 44) 1 rfl dX11_keeper_43 rfl rfl ?_
          refine G_iadd (pc2 := 45) dX11_keeper_44 rfl ?_
          refine AM (pc2 := 46) (fa_212 _ _ _ _) h dX11_keeper_45 rfl (fun h => ?_)
          refine G_goto (tgt := 58) dX11_keeper_46 (by decide) ?_
          have ha := Option.some.inj h
          subst ha
          exact G_iret rfl dX11_keeper_58
    · refine G_ldc (pc2 := 27) kw_989 dX11_keeper_25 rfl ?_
      have ha := Option.some.inj h
      subst ha
      exact G_iret rfl dX11_keeper_27
  · refine G_ldc (pc2 := 15) kw_1094 dX11_keeper_13 rfl ?_
    have ha := Option.some.inj h
    subst ha
    exact G_iret rfl dX11_keeper_15)
def f_X11_isJumper (x1 : Int32) (I : WI) (F : WF) : Option (Int32) :=
  Option.bind (f_X11_in x1 (0 : Int32) ((F 2 3) - (1 : Int32))) fun c_1304 =>
  bzG c_1304 (some c_1304)
set_option maxRecDepth 100000 in
set_option maxHeartbeats 4000000 in
theorem c_X11_isJumper {x1 : Int32} {I : WI} {F : WF} {J : WI} {K : WF} {a : Int32} (h : f_X11_isJumper x1 I F = some a) : CT md_X11_isJumper yX11_isJumper (rmD 2) [.ref 209, .int x1] (mkW J K I F) (some (.int a)) (mkW J K I F) := CT_of pn_X11 ⟨rfl, rfl⟩ (Nat.le_of_ble_eq_true rfl) (fun X => by
  show GG X md_X11_isJumper (rmD 2) _ 0 0 0 [(0, .ref 209), (1, .int x1)] [] (mkW J K I F)
  unfold f_X11_isJumper at h
  refine G_iload_n (pc2 := 1) 1 rfl dX11_isJumper_0 rfl rfl ?_
  refine G_iconst (pc2 := 2) dX11_isJumper_1 ic_0 rfl ?_
  refine G_aload_n (pc2 := 3) 0 rfl dX11_isJumper_2 rfl rfl ?_
  refine T_209_8 (pc2 := 6) kw_910 dX11_isJumper_3 rfl ?_
  refine G_iconst (pc2 := 7) dX11_isJumper_6 ic_3 rfl ?_
  refine AMc (pc2 := 8) (fa_212 _ _ _ _) cl_3 rfl dX11_isJumper_7 rfl ?_
  refine G_iconst (pc2 := 9) dX11_isJumper_8 ic_1 rfl ?_
  refine G_isub (pc2 := 10) dX11_isJumper_9 rfl ?_
  obtain ⟨c_1304, hc_1304, h⟩ := ob_e h
  refine B_callS (pc2 := 13) si_X11_66 (c_X11_in hc_1304) rfl (st := []) (stq := [.int c_1304]) rfl (by decide) (by decide) (Nat.le_of_ble_eq_true rfl) rfl dX11_isJumper_10 rfl rfl ?_ ⟨rfl, rfl⟩
  obtain ⟨qb_1305, h⟩ := bzG_e h
  have ha := Option.some.inj h
  subst ha
  exact G_zret rfl qb_1305 dX11_isJumper_13)
def f_X11_flightOf (x1 : Int32) (x2 : Int32) (I : WI) (F : WF) : Option (Int32) :=
  ixG ((58 : Int32) + x1) 70 (
  bnd (F 2 ((58 : Int32) + x1).toNatClampNeg) fun x3_1313 =>
  ixG ((22 : Int32) + x2) 70 (
  bnd (F 2 ((22 : Int32) + x2).toNatClampNeg) fun x4_1314 =>
  ixG ((6 : Int32) + x1) 134 (
  bnd (F 3 ((6 : Int32) + x1).toNatClampNeg) fun x5_1315 =>
  bnd (fun (s_1317 : Int32) => bnd s_1317 fun x6_1318 =>
  if 0 ≤ x6_1318 then (some x6_1318)
  else (some (0 : Int32))) fun j83_1316 =>
  if x3_1313 = 0 then (j83_1316 x4_1314)
  else (if x3_1313 = (1 : Int32) then (j83_1316 (x4_1314 - x5_1315))
  else (if x3_1313 = (2 : Int32) then (j83_1316 ((x4_1314 - (x5_1315 / (2 : Int32))) - ((F 3 51) - (F 3 51) / (2 : Int32) * (2 : Int32))))
  else (j83_1316 (x4_1314 / (2 : Int32))))))))
set_option maxRecDepth 100000 in
set_option maxHeartbeats 4000000 in
theorem c_X11_flightOf {x1 : Int32} {x2 : Int32} {I : WI} {F : WF} {J : WI} {K : WF} {a : Int32} (h : f_X11_flightOf x1 x2 I F = some a) : CT md_X11_flightOf yX11_flightOf (rmD 1) [.ref 209, .int x1, .int x2] (mkW J K I F) (some (.int a)) (mkW J K I F) := CT_of pn_X11 ⟨rfl, rfl⟩ (Nat.le_of_ble_eq_true rfl) (fun X => by
  show GG X md_X11_flightOf (rmD 1) _ 0 0 0 [(0, .ref 209), (1, .int x1), (2, .int x2)] [] (mkW J K I F)
  unfold f_X11_flightOf at h
  refine G_aload_n (pc2 := 1) 0 rfl dX11_flightOf_0 rfl rfl ?_
  refine T_209_8 (pc2 := 4) kw_910 dX11_flightOf_1 rfl ?_
  refine G_bipush (pc2 := 6) dX11_flightOf_4 ib_58 rfl ?_
  refine G_iload_n (pc2 := 7) 1 rfl dX11_flightOf_6 rfl rfl ?_
  refine G_iadd (pc2 := 8) dX11_flightOf_7 rfl ?_
  refine AM (pc2 := 9) (fa_212 _ _ _ _) h dX11_flightOf_8 rfl (fun h => ?_)
  refine B_istore_n (pc2 := 10) (fun x3_1313 => [(3, .int x3_1313), (0, .ref 209), (1, .int x1), (2, .int x2)]) h dX11_flightOf_9 rfl (by decide) (fun _ => rfl) rfl (fun x3_1313 h => ?_)
  refine G_aload_n (pc2 := 11) 1 rfl dX11_flightOf_10 rfl rfl ?_
  refine T_209_8 (pc2 := 14) kw_910 dX11_flightOf_11 rfl ?_
  refine G_bipush (pc2 := 16) dX11_flightOf_14 ib_22 rfl ?_
  refine G_iload_n (pc2 := 17) 3 rfl dX11_flightOf_16 rfl rfl ?_
  refine G_iadd (pc2 := 18) dX11_flightOf_17 rfl ?_
  refine AM (pc2 := 19) (fa_212 _ _ _ _) h dX11_flightOf_18 rfl (fun h => ?_)
  refine B_istore (pc2 := 21) (fun x4_1314 => [(4, .int x4_1314), (3, .int x3_1313), (0, .ref 209), (1, .int x1), (2, .int x2)]) h dX11_flightOf_19 (by decide) (fun _ => rfl) rfl (fun x4_1314 h => ?_)
  refine G_aload_n (pc2 := 22) 2 rfl dX11_flightOf_21 rfl rfl ?_
  refine T_209_9 (pc2 := 25) kw_911 dX11_flightOf_22 rfl ?_
  refine G_bipush (pc2 := 27) dX11_flightOf_25 ib_6 rfl ?_
  refine G_iload_n (pc2 := 28) 3 rfl dX11_flightOf_27 rfl rfl ?_
  refine G_iadd (pc2 := 29) dX11_flightOf_28 rfl ?_
  refine AM (pc2 := 30) (fa_213 _ _ _ _) h dX11_flightOf_29 rfl (fun h => ?_)
  refine B_istore (pc2 := 32) (fun x5_1315 => [(5, .int x5_1315), (4, .int x4_1314), (3, .int x3_1313), (0, .ref 209), (1, .int x1), (2, .int x2)]) h dX11_flightOf_30 (by decide) (fun _ => rfl) rfl (fun x5_1315 h => ?_)
  refine G_iload_n (pc2 := 33) 2 rfl dX11_flightOf_32 rfl rfl ?_
  refine jn_e (Gj := True) (fun (j : Int32 → Option (Int32)) => ∀ (s_1317 : Int32), j s_1317 = some a → GG X md_X11_flightOf (rmD 1) (gv_Z X (rmD 1).cells (rmD 1).slots (some (.int a)) (mkW J K I F)) 0 0 83 [] [.int s_1317] (mkW J K I F)) h (fun s_1317 h => ?_) (fun j83_1316 hj83_1316 h => ?_)
  · refine B_istore (pc2 := 85) (fun x6_1318 => [(6, .int x6_1318)]) h dX11_flightOf_83 (by decide) (fun _ => rfl) rfl (fun x6_1318 h => ?_)
    refine G_iload (pc2 := 87) 0 rfl dX11_flightOf_85 rfl ?_
    refine B_if_ge (tgt := 94) (pc2 := 90) h dX11_flightOf_87 (by decide) rfl (fun _ h => ?_) (fun _ h => ?_)
    · refine G_iload (pc2 := 96) 0 rfl dX11_flightOf_94 rfl ?_
      have ha := Option.some.inj h
      subst ha
      exact G_iret rfl dX11_flightOf_96
    · refine G_iconst (pc2 := 91) dX11_flightOf_90 ic_0 rfl ?_
      refine G_goto (tgt := 96) dX11_flightOf_91 (by decide) ?_
      have ha := Option.some.inj h
      subst ha
      exact G_iret rfl dX11_flightOf_96
  refine B_if_ne (tgt := 41) (pc2 := 36) h dX11_flightOf_33 (by decide) rfl (fun _ h => ?_) (fun _ h => ?_)
  · refine G_iload_n (pc2 := 42) 2 rfl dX11_flightOf_41 rfl rfl ?_
    refine G_iconst (pc2 := 43) dX11_flightOf_42 ic_1 rfl ?_
    refine B_icmp_ne (tgt := 54) (pc2 := 46) h dX11_flightOf_43 (by decide) rfl (fun _ h => ?_) (fun _ h => ?_)
    · refine G_iload_n (pc2 := 55) 2 rfl dX11_flightOf_54 rfl rfl ?_
      refine G_iconst (pc2 := 56) dX11_flightOf_55 ic_2 rfl ?_
      refine B_icmp_ne (tgt := 79) (pc2 := 59) h dX11_flightOf_56 (by decide) rfl (fun _ h => ?_) (fun _ h => ?_)
      · refine G_iload (pc2 := 81) 1 rfl dX11_flightOf_79 rfl ?_
        refine G_iconst (pc2 := 82) dX11_flightOf_81 ic_2 rfl ?_
        refine G_idiv (pc2 := 83) dX11_flightOf_82 (by decide) rfl ?_
        refine G_sub (ls' := []) [] rfl ?_
        exact hj83_1316 (x4_1314 / (2 : Int32)) h
      · refine G_iload (pc2 := 61) 1 rfl dX11_flightOf_59 rfl ?_
        refine G_iload (pc2 := 63) 0 rfl dX11_flightOf_61 rfl ?_
        refine G_iconst (pc2 := 64) dX11_flightOf_63 ic_2 rfl ?_
        refine G_idiv (pc2 := 65) dX11_flightOf_64 (by decide) rfl ?_
        refine G_isub (pc2 := 66) dX11_flightOf_65 rfl ?_
        refine G_aload_n (pc2 := 67) 3 rfl dX11_flightOf_66 rfl rfl ?_
        refine T_209_9 (pc2 := 70) kw_911 dX11_flightOf_67 rfl ?_
        refine G_bipush (pc2 := 72) dX11_flightOf_70 ib_51 rfl ?_
        refine AMc (pc2 := 73) (fa_213 _ _ _ _) cl_51 rfl dX11_flightOf_72 rfl ?_
        refine G_iconst (pc2 := 74) dX11_flightOf_73 ic_2 rfl ?_
        refine G_irem (pc2 := 75) dX11_flightOf_74 (by decide) rfl ?_
        refine G_isub (pc2 := 76) dX11_flightOf_75 rfl ?_
        refine G_goto (tgt := 83) dX11_flightOf_76 (by decide) ?_
        refine G_sub (ls' := []) [] rfl ?_
        exact hj83_1316 ((x4_1314 - (x5_1315 / (2 : Int32))) - ((F 3 51) - (F 3 51) / (2 : Int32) * (2 : Int32))) h
    · refine G_iload (pc2 := 48) 1 rfl dX11_flightOf_46 rfl ?_
      refine G_iload (pc2 := 50) 0 rfl dX11_flightOf_48 rfl ?_
      refine G_isub (pc2 := 51) dX11_flightOf_50 rfl ?_
      refine G_goto (tgt := 83) dX11_flightOf_51 (by decide) ?_
      refine G_sub (ls' := []) [] rfl ?_
      exact hj83_1316 (x4_1314 - x5_1315) h
  · refine G_iload (pc2 := 38) 1 rfl dX11_flightOf_36 rfl ?_
    refine G_goto (tgt := 83) dX11_flightOf_38 (by decide) ?_
    refine G_sub (ls' := []) [] rfl ?_
    exact hj83_1316 x4_1314 h)
def f_X11_comes (x1 : Int32) (x2 : Int32) (I : WI) (F : WF) : Option (Int32) :=
  Option.bind (f_X11_keeperAt x2 I F) fun c_1310 =>
  bnd c_1310 fun x3_1311 =>
  if x3_1311 = (-1 : Int32) then (some (0 : Int32))
  else (Option.bind (f_X11_timeOf x3_1311 I F) fun c_1312 =>
  Option.bind (f_X11_flightOf x1 x2 I F) fun c_1319 =>
  if c_1319 < c_1312 then (some (0 : Int32))
  else (some (1 : Int32)))
set_option maxRecDepth 100000 in
set_option maxHeartbeats 4000000 in
theorem c_X11_comes {x1 : Int32} {x2 : Int32} {I : WI} {F : WF} {J : WI} {K : WF} {a : Int32} (h : f_X11_comes x1 x2 I F = some a) : CT md_X11_comes yX11_comes (rmD 3) [.ref 209, .int x1, .int x2] (mkW J K I F) (some (.int a)) (mkW J K I F) := CT_of pn_X11 ⟨rfl, rfl⟩ (Nat.le_of_ble_eq_true rfl) (fun X => by
  show GG X md_X11_comes (rmD 3) _ 0 0 0 [(0, .ref 209), (1, .int x1), (2, .int x2)] [] (mkW J K I F)
  unfold f_X11_comes at h
  refine G_aload_n (pc2 := 1) 0 rfl dX11_comes_0 rfl rfl ?_
  refine G_iload_n (pc2 := 2) 2 rfl dX11_comes_1 rfl rfl ?_
  obtain ⟨c_1310, hc_1310, h⟩ := ob_e h
  refine B_callV (pc2 := 5) si_X11_138 (c_X11_keeperAt hc_1310) (qo_209 _ _ _ _) rfl rfl rfl (st := []) (stq := [.int c_1310]) rfl (by decide) (by decide) (Nat.le_of_ble_eq_true rfl) mkW_ll dX11_comes_2 rfl rfl ?_ ⟨rfl, rfl⟩
  refine B_istore_n (pc2 := 6) (fun x3_1311 => [(3, .int x3_1311), (0, .ref 209), (1, .int x1), (2, .int x2)]) h dX11_comes_5 rfl (by decide) (fun _ => rfl) rfl (fun x3_1311 h => ?_)
  refine G_iload_n (pc2 := 7) 0 rfl dX11_comes_6 rfl rfl ?_
  refine G_iconst (pc2 := 8) dX11_comes_7 ic_m1 rfl ?_
  refine B_icmp_eq (tgt := 29) (pc2 := 11) h dX11_comes_8 (by decide) rfl (fun _ h => ?_) (fun _ h => ?_)
  · refine G_iconst (pc2 := 30) dX11_comes_29 ic_0 rfl ?_
    have ha := Option.some.inj h
    subst ha
    exact G_zret (v := (0 : Int32)) rfl (by decide) dX11_comes_30
  · refine G_aload_n (pc2 := 12) 1 rfl dX11_comes_11 rfl rfl ?_
    refine G_iload_n (pc2 := 13) 0 rfl dX11_comes_12 rfl rfl ?_
    obtain ⟨c_1312, hc_1312, h⟩ := ob_e h
    refine B_callV (pc2 := 16) si_X11_141 (c_X11_timeOf hc_1312) (qo_209 _ _ _ _) rfl rfl rfl (st := []) (stq := [.int c_1312]) rfl (by decide) (by decide) (Nat.le_of_ble_eq_true rfl) mkW_ll dX11_comes_13 rfl rfl ?_ ⟨rfl, rfl⟩
    refine G_aload_n (pc2 := 17) 1 rfl dX11_comes_16 rfl rfl ?_
    refine G_iload_n (pc2 := 18) 2 rfl dX11_comes_17 rfl rfl ?_
    refine G_iload_n (pc2 := 19) 3 rfl dX11_comes_18 rfl rfl ?_
    obtain ⟨c_1319, hc_1319, h⟩ := ob_e h
    refine B_callV (pc2 := 22) si_X11_144 (c_X11_flightOf hc_1319) (qo_209 _ _ _ _) rfl rfl rfl (st := [.int c_1312]) (stq := [.int c_1319, .int c_1312]) rfl (by decide) (by decide) (Nat.le_of_ble_eq_true rfl) mkW_ll dX11_comes_19 rfl rfl ?_ ⟨rfl, rfl⟩
    refine B_icmp_gt (tgt := 29) (pc2 := 25) h dX11_comes_22 (by decide) rfl (fun _ h => ?_) (fun _ h => ?_)
    · refine G_iconst (pc2 := 30) dX11_comes_29 ic_0 rfl ?_
      have ha := Option.some.inj h
      subst ha
      exact G_zret (v := (0 : Int32)) rfl (by decide) dX11_comes_30
    · refine G_iconst (pc2 := 26) dX11_comes_25 ic_1 rfl ?_
      refine G_goto (tgt := 30) dX11_comes_26 (by decide) ?_
      have ha := Option.some.inj h
      subst ha
      exact G_zret (v := (1 : Int32)) rfl (by decide) dX11_comes_30)
def L_X11_daresOf_4 (k : Int32 → Option (Int32)) (x1 : Int32) (I : WI) (F : WF) : Nat → Int32 → Int32 → Option (Int32)
  | 0, _, _ => none
  | n + 1, x2, x3 =>
  if (F 2 1) ≤ x3 then (k x2)
  else (Option.bind (f_X11_comes x1 x3 I F) fun c_1320 =>
  bnd (fun (s_1322 : Int32) => bnd (x2 ||| s_1322) fun x2_1323 =>
  bnd (x3 + (1 : Int32)) fun x3_1324 =>
  L_X11_daresOf_4 k x1 I F n x2_1323 x3_1324) fun j31_1321 =>
  if c_1320 = 0 then (j31_1321 (0 : Int32))
  else (j31_1321 ((1 : Int32) <<< (x3 &&& 31))))
def f_X11_daresOf (x1 : Int32) (I : WI) (F : WF) : Option (Int32) :=
  bnd (0 : Int32) fun x2_1308 =>
  bnd (0 : Int32) fun x3_1309 =>
  L_X11_daresOf_4 (fun x2_1325 => some x2_1325) x1 I F FU x2_1308 x3_1309
set_option maxRecDepth 100000 in
set_option maxHeartbeats 4000000 in
theorem g_L_X11_daresOf_4 {X : XT} {x1 : Int32} {I : WI} {F : WF} {J : WI} {K : WF} {a : Int32} {k : Int32 → Option (Int32)} (hk : ∀ (e2 : Int32), (k e2 = some a → GG X md_X11_daresOf (rmD 4) (gv_Z X (rmD 4).cells (rmD 4).slots (some (.int a)) (mkW J K I F)) 0 0 39 [(2, .int e2)] [] (mkW J K I F))) : ∀ (n : Nat) (x2 : Int32) (x3 : Int32), L_X11_daresOf_4 k x1 I F n x2 x3 = some a → GG X md_X11_daresOf (rmD 4) (gv_Z X (rmD 4).cells (rmD 4).slots (some (.int a)) (mkW J K I F)) 0 0 4 [(0, .ref 209), (1, .int x1), (2, .int x2), (3, .int x3)] [] (mkW J K I F) := by
  intro n
  induction n with
  | zero =>
    intro x2 x3 h
    rw [L_X11_daresOf_4] at h
    cases h
  | succ n ih =>
    intro x2 x3 h
    rw [L_X11_daresOf_4] at h
    refine G_iload_n (pc2 := 5) 3 rfl dX11_daresOf_4 rfl rfl ?_
    refine G_aload_n (pc2 := 6) 0 rfl dX11_daresOf_5 rfl rfl ?_
    refine T_209_8 (pc2 := 9) kw_910 dX11_daresOf_6 rfl ?_
    refine G_iconst (pc2 := 10) dX11_daresOf_9 ic_1 rfl ?_
    refine AMc (pc2 := 11) (fa_212 _ _ _ _) cl_1 rfl dX11_daresOf_10 rfl ?_
    refine B_icmp_ge (tgt := 39) (pc2 := 14) h dX11_daresOf_11 (by decide) rfl (fun _ h => ?_) (fun _ h => ?_)
    · refine G_sub (ls' := [(2, .int x2)]) [2] rfl ?_
      exact hk x2 h
    · refine G_iload_n (pc2 := 15) 2 rfl dX11_daresOf_14 rfl rfl ?_
      refine G_aload_n (pc2 := 16) 0 rfl dX11_daresOf_15 rfl rfl ?_
      refine G_iload_n (pc2 := 17) 1 rfl dX11_daresOf_16 rfl rfl ?_
      refine G_iload_n (pc2 := 18) 3 rfl dX11_daresOf_17 rfl rfl ?_
      obtain ⟨c_1320, hc_1320, h⟩ := ob_e h
      refine B_callV (pc2 := 21) si_X11_147 (c_X11_comes hc_1320) (qo_209 _ _ _ _) rfl rfl rfl (st := [.int x2]) (stq := [.int c_1320, .int x2]) rfl (by decide) (by decide) (Nat.le_of_ble_eq_true rfl) mkW_ll dX11_daresOf_18 rfl rfl ?_ ⟨rfl, rfl⟩
      refine jn_e (Gj := True) (fun (j : Int32 → Option (Int32)) => ∀ (s_1322 : Int32), j s_1322 = some a → GG X md_X11_daresOf (rmD 4) (gv_Z X (rmD 4).cells (rmD 4).slots (some (.int a)) (mkW J K I F)) 0 0 31 [(0, .ref 209), (1, .int x1), (3, .int x3)] [.int s_1322, .int x2] (mkW J K I F)) h (fun s_1322 h => ?_) (fun j31_1321 hj31_1321 h => ?_)
      · refine G_ior (pc2 := 32) dX11_daresOf_31 rfl ?_
        refine B_istore_n (pc2 := 33) (fun x2_1323 => [(2, .int x2_1323), (0, .ref 209), (1, .int x1), (3, .int x3)]) h dX11_daresOf_32 rfl (by decide) (fun _ => rfl) rfl (fun x2_1323 h => ?_)
        refine B_iinc (pc2 := 36) 3 (fun x3_1324 => [(3, .int x3_1324), (2, .int x2_1323), (0, .ref 209), (1, .int x1)]) h rfl dX11_daresOf_33 ic_1 (by decide) (fun _ => rfl) rfl (fun x3_1324 h => ?_)
        refine G_goto (tgt := 4) dX11_daresOf_36 (by decide) ?_
        refine G_sub (ls' := [(0, .ref 209), (1, .int x1), (2, .int x2_1323), (3, .int x3_1324)]) [2, 3, 1, 0] rfl ?_
        exact ih x2_1323 x3_1324 h
      refine B_if_eq (tgt := 30) (pc2 := 24) h dX11_daresOf_21 (by decide) rfl (fun _ h => ?_) (fun _ h => ?_)
      · refine G_iconst (pc2 := 31) dX11_daresOf_30 ic_0 rfl ?_
        refine G_sub (ls' := [(0, .ref 209), (1, .int x1), (3, .int x3)]) [0, 1, 3] rfl ?_
        exact hj31_1321 (0 : Int32) h
      · refine G_iconst (pc2 := 25) dX11_daresOf_24 ic_1 rfl ?_
        refine G_iload_n (pc2 := 26) 3 rfl dX11_daresOf_25 rfl rfl ?_
        refine G_ishl (pc2 := 27) dX11_daresOf_26 rfl ?_
        refine G_goto (tgt := 31) dX11_daresOf_27 (by decide) ?_
        refine G_sub (ls' := [(0, .ref 209), (1, .int x1), (3, .int x3)]) [0, 1, 3] rfl ?_
        exact hj31_1321 ((1 : Int32) <<< (x3 &&& 31)) h
set_option maxRecDepth 100000 in
set_option maxHeartbeats 4000000 in
theorem c_X11_daresOf {x1 : Int32} {I : WI} {F : WF} {J : WI} {K : WF} {a : Int32} (h : f_X11_daresOf x1 I F = some a) : CT md_X11_daresOf yX11_daresOf (rmD 4) [.ref 209, .int x1] (mkW J K I F) (some (.int a)) (mkW J K I F) := CT_of pn_X11 ⟨rfl, rfl⟩ (Nat.le_of_ble_eq_true rfl) (fun X => by
  show GG X md_X11_daresOf (rmD 4) _ 0 0 0 [(0, .ref 209), (1, .int x1)] [] (mkW J K I F)
  unfold f_X11_daresOf at h
  refine G_iconst (pc2 := 1) dX11_daresOf_0 ic_0 rfl ?_
  refine B_istore_n (pc2 := 2) (fun x2_1308 => [(2, .int x2_1308), (0, .ref 209), (1, .int x1)]) h dX11_daresOf_1 rfl (by decide) (fun _ => rfl) rfl (fun x2_1308 h => ?_)
  refine G_iconst (pc2 := 3) dX11_daresOf_2 ic_0 rfl ?_
  refine B_istore_n (pc2 := 4) (fun x3_1309 => [(3, .int x3_1309), (2, .int x2_1308), (0, .ref 209), (1, .int x1)]) h dX11_daresOf_3 rfl (by decide) (fun _ => rfl) rfl (fun x3_1309 h => ?_)
  refine G_sub (ls' := [(0, .ref 209), (1, .int x1), (2, .int x2_1308), (3, .int x3_1309)]) [2, 3, 1, 0] rfl ?_
  refine g_L_X11_daresOf_4 (fun x2_1325 h => ?_) FU x2_1308 x3_1309 h
  refine G_iload_n (pc2 := 40) 0 rfl dX11_daresOf_39 rfl rfl ?_
  have ha := Option.some.inj h
  subst ha
  exact G_iret rfl dX11_daresOf_40)
def f_X11_jumper (x1 : Int32) (x2 : Int32) (I : WI) (F : WF) : Option (Int32 × WI) :=
  bnd (upd I 0 (0 : Int32)) fun I_1303 =>
  Option.bind (f_X11_isJumper x1 I_1303 F) fun c_1306 =>
  if c_1306 = 0 then (some ((-1000000001 : Int32), I_1303))
  else (Option.bind (f_X11_in x2 (0 : Int32) (5 : Int32)) fun c_1307 =>
  if c_1307 = 0 then (some ((-1000000002 : Int32), I_1303))
  else (if x2 = 0 then (ixG ((58 : Int32) + x1) 70 (
  some ((F 2 ((58 : Int32) + x1).toNatClampNeg), I_1303)))
  else (if x2 = (5 : Int32) then (Option.bind (f_X11_daresOf x1 I_1303 F) fun c_1326 =>
  some (c_1326, I_1303))
  else (ixG (((0 : Int32) + ((6 : Int32) * (x2 - (1 : Int32)))) + x1) 134 (
  some ((F 3 (((0 : Int32) + ((6 : Int32) * (x2 - (1 : Int32)))) + x1).toNatClampNeg), I_1303))))))
set_option maxRecDepth 100000 in
set_option maxHeartbeats 4000000 in
theorem c_X11_jumper {x1 : Int32} {x2 : Int32} {I : WI} {F : WF} {J : WI} {K : WF} {a : Int32 × WI} (h : f_X11_jumper x1 x2 I F = some a) : CT md_X11_jumper yX11_jumper (rmD 5) [.ref 209, .int x1, .int x2] (mkW J K I F) (some (.int a.1)) (mkW J K a.2 F) := CT_of pn_X11 ⟨rfl, rfl⟩ (Nat.le_of_ble_eq_true rfl) (fun X => by
  show GG X md_X11_jumper (rmD 5) _ 0 0 0 [(0, .ref 209), (1, .int x1), (2, .int x2)] [] (mkW J K I F)
  unfold f_X11_jumper at h
  refine G_aload_n (pc2 := 1) 0 rfl dX11_jumper_0 rfl rfl ?_
  refine G_iconst (pc2 := 2) dX11_jumper_1 ic_0 rfl ?_
  refine P_209_0 (pc2 := 5) h kw_902 dX11_jumper_2 rfl (fun I_1303 h => ?_)
  refine G_aload_n (pc2 := 6) 0 rfl dX11_jumper_5 rfl rfl ?_
  refine G_iload_n (pc2 := 7) 1 rfl dX11_jumper_6 rfl rfl ?_
  obtain ⟨c_1306, hc_1306, h⟩ := ob_e h
  refine B_callV (pc2 := 10) si_X11_186 (c_X11_isJumper hc_1306) (qo_209 _ _ _ _) rfl rfl rfl (st := []) (stq := [.int c_1306]) rfl (by decide) (by decide) (Nat.le_of_ble_eq_true rfl) mkW_ll dX11_jumper_7 rfl rfl ?_ ⟨rfl, rfl⟩
  refine B_if_ne (tgt := 16) (pc2 := 13) h dX11_jumper_10 (by decide) rfl (fun _ h => ?_) (fun _ h => ?_)
  · refine G_iload_n (pc2 := 17) 2 rfl dX11_jumper_16 rfl rfl ?_
    refine G_iconst (pc2 := 18) dX11_jumper_17 ic_0 rfl ?_
    refine G_iconst (pc2 := 19) dX11_jumper_18 ic_5 rfl ?_
    obtain ⟨c_1307, hc_1307, h⟩ := ob_e h
    refine B_callS (pc2 := 22) si_X11_66 (c_X11_in hc_1307) rfl (st := []) (stq := [.int c_1307]) rfl (by decide) (by decide) (Nat.le_of_ble_eq_true rfl) rfl dX11_jumper_19 rfl rfl ?_ ⟨rfl, rfl⟩
    refine B_if_ne (tgt := 28) (pc2 := 25) h dX11_jumper_22 (by decide) rfl (fun _ h => ?_) (fun _ h => ?_)
    · refine G_iload_n (pc2 := 29) 2 rfl dX11_jumper_28 rfl rfl ?_
      refine B_if_ne (tgt := 44) (pc2 := 32) h dX11_jumper_29 (by decide) rfl (fun _ h => ?_) (fun _ h => ?_)
      · refine G_iload_n (pc2 := 45) 2 rfl dX11_jumper_44 rfl rfl ?_
        refine G_iconst (pc2 := 46) dX11_jumper_45 ic_5 rfl ?_
        refine B_icmp_ne (tgt := 57) (pc2 := 49) h dX11_jumper_46 (by decide) rfl (fun _ h => ?_) (fun _ h => ?_)
        · refine G_aload_n (pc2 := 58) 0 rfl dX11_jumper_57 rfl rfl ?_
          refine T_209_9 (pc2 := 61) kw_911 dX11_jumper_58 rfl ?_
          refine G_iconst (pc2 := 62) dX11_jumper_61 ic_0 rfl ?_
          refine G_bipush (pc2 := 64) dX11_jumper_62 ib_6 rfl ?_
          refine G_iload_n (pc2 := 65) 2 rfl dX11_jumper_64 rfl rfl ?_
          refine G_iconst (pc2 := 66) dX11_jumper_65 ic_1 rfl ?_
          refine G_isub (pc2 := 67) dX11_jumper_66 rfl ?_
          refine G_imul (pc2 := 68) dX11_jumper_67 rfl ?_
          refine G_iadd (pc2 := 69) dX11_jumper_68 rfl ?_
          refine G_iload_n (pc2 := 70) 1 rfl dX11_jumper_69 rfl rfl ?_
          refine G_iadd (pc2 := 71) dX11_jumper_70 rfl ?_
          refine AM (pc2 := 72) (fa_213 _ _ _ _) h dX11_jumper_71 rfl (fun h => ?_)
          have ha := Option.some.inj h
          subst ha
          exact G_iret rfl dX11_jumper_72
        · refine G_aload_n (pc2 := 50) 0 rfl dX11_jumper_49 rfl rfl ?_
          refine G_iload_n (pc2 := 51) 1 rfl dX11_jumper_50 rfl rfl ?_
          obtain ⟨c_1326, hc_1326, h⟩ := ob_e h
          refine B_callV (pc2 := 54) si_X11_189 (c_X11_daresOf hc_1326) (qo_209 _ _ _ _) rfl rfl rfl (st := []) (stq := [.int c_1326]) rfl (by decide) (by decide) (Nat.le_of_ble_eq_true rfl) mkW_ll dX11_jumper_51 rfl rfl ?_ ⟨rfl, rfl⟩
          refine G_goto (tgt := 72) dX11_jumper_54 (by decide) ?_
          have ha := Option.some.inj h
          subst ha
          exact G_iret rfl dX11_jumper_72
      · refine G_aload_n (pc2 := 33) 0 rfl dX11_jumper_32 rfl rfl ?_
        refine T_209_8 (pc2 := 36) kw_910 dX11_jumper_33 rfl ?_
        refine G_bipush (pc2 := 38) dX11_jumper_36 ib_58 rfl ?_
        refine G_iload_n (pc2 := 39) 1 rfl dX11_jumper_38 rfl rfl ?_
        refine G_iadd (pc2 := 40) dX11_jumper_39 rfl ?_
        refine AM (pc2 := 41) (fa_212 _ _ _ _) h dX11_jumper_40 rfl (fun h => ?_)
        refine G_goto (tgt := 72) dX11_jumper_41 (by decide) ?_
        have ha := Option.some.inj h
        subst ha
        exact G_iret rfl dX11_jumper_72
    · refine G_ldc (pc2 := 27) kw_989 dX11_jumper_25 rfl ?_
      have ha := Option.some.inj h
      subst ha
      exact G_iret rfl dX11_jumper_27
  · refine G_ldc (pc2 := 15) kw_1094 dX11_jumper_13 rfl ?_
    have ha := Option.some.inj h
    subst ha
    exact G_iret rfl dX11_jumper_15)
def f_X11_flight (x1 : Int32) (x2 : Int32) (I : WI) (F : WF) : Option (Int32 × WI) :=
  bnd (upd I 0 (0 : Int32)) fun I_1327 =>
  Option.bind (f_X11_isJumper x1 I_1327 F) fun c_1328 =>
  if c_1328 = 0 then (some ((-1000000001 : Int32), I_1327))
  else (Option.bind (f_X11_isBridge x2 I_1327 F) fun c_1329 =>
  if c_1329 = 0 then (some ((-1000000001 : Int32), I_1327))
  else (Option.bind (f_X11_flightOf x1 x2 I_1327 F) fun c_1330 =>
  some (c_1330, I_1327)))
set_option maxRecDepth 100000 in
set_option maxHeartbeats 4000000 in
theorem c_X11_flight {x1 : Int32} {x2 : Int32} {I : WI} {F : WF} {J : WI} {K : WF} {a : Int32 × WI} (h : f_X11_flight x1 x2 I F = some a) : CT md_X11_flight yX11_flight (rmD 3) [.ref 209, .int x1, .int x2] (mkW J K I F) (some (.int a.1)) (mkW J K a.2 F) := CT_of pn_X11 ⟨rfl, rfl⟩ (Nat.le_of_ble_eq_true rfl) (fun X => by
  show GG X md_X11_flight (rmD 3) _ 0 0 0 [(0, .ref 209), (1, .int x1), (2, .int x2)] [] (mkW J K I F)
  unfold f_X11_flight at h
  refine G_aload_n (pc2 := 1) 0 rfl dX11_flight_0 rfl rfl ?_
  refine G_iconst (pc2 := 2) dX11_flight_1 ic_0 rfl ?_
  refine P_209_0 (pc2 := 5) h kw_902 dX11_flight_2 rfl (fun I_1327 h => ?_)
  refine G_aload_n (pc2 := 6) 0 rfl dX11_flight_5 rfl rfl ?_
  refine G_iload_n (pc2 := 7) 1 rfl dX11_flight_6 rfl rfl ?_
  obtain ⟨c_1328, hc_1328, h⟩ := ob_e h
  refine B_callV (pc2 := 10) si_X11_186 (c_X11_isJumper hc_1328) (qo_209 _ _ _ _) rfl rfl rfl (st := []) (stq := [.int c_1328]) rfl (by decide) (by decide) (Nat.le_of_ble_eq_true rfl) mkW_ll dX11_flight_7 rfl rfl ?_ ⟨rfl, rfl⟩
  refine B_if_eq (tgt := 30) (pc2 := 13) h dX11_flight_10 (by decide) rfl (fun _ h => ?_) (fun _ h => ?_)
  · refine G_ldc (pc2 := 32) kw_1094 dX11_flight_30 rfl ?_
    have ha := Option.some.inj h
    subst ha
    exact G_iret rfl dX11_flight_32
  · refine G_aload_n (pc2 := 14) 0 rfl dX11_flight_13 rfl rfl ?_
    refine G_iload_n (pc2 := 15) 2 rfl dX11_flight_14 rfl rfl ?_
    obtain ⟨c_1329, hc_1329, h⟩ := ob_e h
    refine B_callV (pc2 := 18) si_X11_179 (c_X11_isBridge hc_1329) (qo_209 _ _ _ _) rfl rfl rfl (st := []) (stq := [.int c_1329]) rfl (by decide) (by decide) (Nat.le_of_ble_eq_true rfl) mkW_ll dX11_flight_15 rfl rfl ?_ ⟨rfl, rfl⟩
    refine B_if_eq (tgt := 30) (pc2 := 21) h dX11_flight_18 (by decide) rfl (fun _ h => ?_) (fun _ h => ?_)
    · refine G_ldc (pc2 := 32) kw_1094 dX11_flight_30 rfl ?_
      have ha := Option.some.inj h
      subst ha
      exact G_iret rfl dX11_flight_32
    · refine G_aload_n (pc2 := 22) 0 rfl dX11_flight_21 rfl rfl ?_
      refine G_iload_n (pc2 := 23) 1 rfl dX11_flight_22 rfl rfl ?_
      refine G_iload_n (pc2 := 24) 2 rfl dX11_flight_23 rfl rfl ?_
      obtain ⟨c_1330, hc_1330, h⟩ := ob_e h
      refine B_callV (pc2 := 27) si_X11_144 (c_X11_flightOf hc_1330) (qo_209 _ _ _ _) rfl rfl rfl (st := []) (stq := [.int c_1330]) rfl (by decide) (by decide) (Nat.le_of_ble_eq_true rfl) mkW_ll dX11_flight_24 rfl rfl ?_ ⟨rfl, rfl⟩
      refine G_goto (tgt := 32) dX11_flight_27 (by decide) ?_
      have ha := Option.some.inj h
      subst ha
      exact G_iret rfl dX11_flight_32)
def f_X11_roll (x1 : Int32) (x2 : Int32) (I : WI) (F : WF) : Option (Int32 × WI) :=
  bnd (upd I 0 (0 : Int32)) fun I_1331 =>
  Option.bind (f_X11_in x2 (0 : Int32) (3 : Int32)) fun c_1332 =>
  if c_1332 = 0 then (some ((-1000000002 : Int32), I_1331))
  else (Option.bind (f_X11_in x1 (0 : Int32) ((F 3 52) - (1 : Int32))) fun c_1333 =>
  if c_1333 = 0 then (some ((-1 : Int32), I_1331))
  else (ixG (((53 : Int32) + ((4 : Int32) * x1)) + x2) 134 (
  some ((F 3 (((53 : Int32) + ((4 : Int32) * x1)) + x2).toNatClampNeg), I_1331))))
set_option maxRecDepth 100000 in
set_option maxHeartbeats 4000000 in
theorem c_X11_roll {x1 : Int32} {x2 : Int32} {I : WI} {F : WF} {J : WI} {K : WF} {a : Int32 × WI} (h : f_X11_roll x1 x2 I F = some a) : CT md_X11_roll yX11_roll (rmD 2) [.ref 209, .int x1, .int x2] (mkW J K I F) (some (.int a.1)) (mkW J K a.2 F) := CT_of pn_X11 ⟨rfl, rfl⟩ (Nat.le_of_ble_eq_true rfl) (fun X => by
  show GG X md_X11_roll (rmD 2) _ 0 0 0 [(0, .ref 209), (1, .int x1), (2, .int x2)] [] (mkW J K I F)
  unfold f_X11_roll at h
  refine G_aload_n (pc2 := 1) 0 rfl dX11_roll_0 rfl rfl ?_
  refine G_iconst (pc2 := 2) dX11_roll_1 ic_0 rfl ?_
  refine P_209_0 (pc2 := 5) h kw_902 dX11_roll_2 rfl (fun I_1331 h => ?_)
  refine G_iload_n (pc2 := 6) 2 rfl dX11_roll_5 rfl rfl ?_
  refine G_iconst (pc2 := 7) dX11_roll_6 ic_0 rfl ?_
  refine G_iconst (pc2 := 8) dX11_roll_7 ic_3 rfl ?_
  obtain ⟨c_1332, hc_1332, h⟩ := ob_e h
  refine B_callS (pc2 := 11) si_X11_66 (c_X11_in hc_1332) rfl (st := []) (stq := [.int c_1332]) rfl (by decide) (by decide) (Nat.le_of_ble_eq_true rfl) rfl dX11_roll_8 rfl rfl ?_ ⟨rfl, rfl⟩
  refine B_if_ne (tgt := 17) (pc2 := 14) h dX11_roll_11 (by decide) rfl (fun _ h => ?_) (fun _ h => ?_)
  · refine G_iload_n (pc2 := 18) 1 rfl dX11_roll_17 rfl rfl ?_
    refine G_iconst (pc2 := 19) dX11_roll_18 ic_0 rfl ?_
    refine G_aload_n (pc2 := 20) 0 rfl dX11_roll_19 rfl rfl ?_
    refine T_209_9 (pc2 := 23) kw_911 dX11_roll_20 rfl ?_
    refine G_bipush (pc2 := 25) dX11_roll_23 ib_52 rfl ?_
    refine AMc (pc2 := 26) (fa_213 _ _ _ _) cl_52 rfl dX11_roll_25 rfl ?_
    refine G_iconst (pc2 := 27) dX11_roll_26 ic_1 rfl ?_
    refine G_isub (pc2 := 28) dX11_roll_27 rfl ?_
    obtain ⟨c_1333, hc_1333, h⟩ := ob_e h
    refine B_callS (pc2 := 31) si_X11_66 (c_X11_in hc_1333) rfl (st := []) (stq := [.int c_1333]) rfl (by decide) (by decide) (Nat.le_of_ble_eq_true rfl) rfl dX11_roll_28 rfl rfl ?_ ⟨rfl, rfl⟩
    refine B_if_eq (tgt := 50) (pc2 := 34) h dX11_roll_31 (by decide) rfl (fun _ h => ?_) (fun _ h => ?_)
    · refine G_iconst (pc2 := 51) dX11_roll_50 ic_m1 rfl ?_
      have ha := Option.some.inj h
      subst ha
      exact G_iret rfl dX11_roll_51
    · refine G_aload_n (pc2 := 35) 0 rfl dX11_roll_34 rfl rfl ?_
      refine T_209_9 (pc2 := 38) kw_911 dX11_roll_35 rfl ?_
      refine G_bipush (pc2 := 40) dX11_roll_38 ib_53 rfl ?_
      refine G_iconst (pc2 := 41) dX11_roll_40 ic_4 rfl ?_
      refine G_iload_n (pc2 := 42) 1 rfl dX11_roll_41 rfl rfl ?_
      refine G_imul (pc2 := 43) dX11_roll_42 rfl ?_
      refine G_iadd (pc2 := 44) dX11_roll_43 rfl ?_
      refine G_iload_n (pc2 := 45) 2 rfl dX11_roll_44 rfl rfl ?_
      refine G_iadd (pc2 := 46) dX11_roll_45 rfl ?_
      refine AM (pc2 := 47) (fa_213 _ _ _ _) h dX11_roll_46 rfl (fun h => ?_)
      refine G_goto (tgt := 51) dX11_roll_47 (by decide) ?_
      have ha := Option.some.inj h
      subst ha
      exact G_iret rfl dX11_roll_51
  · refine G_ldc (pc2 := 16) kw_989 dX11_roll_14 rfl ?_
    have ha := Option.some.inj h
    subst ha
    exact G_iret rfl dX11_roll_16)
def f_X11_beyond (x1 : Int32) (x2 : Int32) (I : WI) (F : WF) : Option (Int32) :=
  ixG ((4 : Int32) + x1) 70 (
  if (F 2 ((4 : Int32) + x1).toNatClampNeg) = x2 then (ixG ((13 : Int32) + x1) 70 (
  some (F 2 ((13 : Int32) + x1).toNatClampNeg)))
  else (ixG ((13 : Int32) + x1) 70 (
  if (F 2 ((13 : Int32) + x1).toNatClampNeg) = x2 then (ixG ((4 : Int32) + x1) 70 (
  some (F 2 ((4 : Int32) + x1).toNatClampNeg)))
  else (some (-1 : Int32)))))
set_option maxRecDepth 100000 in
set_option maxHeartbeats 4000000 in
theorem c_X11_beyond {x1 : Int32} {x2 : Int32} {I : WI} {F : WF} {J : WI} {K : WF} {a : Int32} (h : f_X11_beyond x1 x2 I F = some a) : CT md_X11_beyond yX11_beyond (rmD 1) [.ref 209, .int x1, .int x2] (mkW J K I F) (some (.int a)) (mkW J K I F) := CT_of pn_X11 ⟨rfl, rfl⟩ (Nat.le_of_ble_eq_true rfl) (fun X => by
  show GG X md_X11_beyond (rmD 1) _ 0 0 0 [(0, .ref 209), (1, .int x1), (2, .int x2)] [] (mkW J K I F)
  unfold f_X11_beyond at h
  refine G_aload_n (pc2 := 1) 0 rfl dX11_beyond_0 rfl rfl ?_
  refine T_209_8 (pc2 := 4) kw_910 dX11_beyond_1 rfl ?_
  refine G_iconst (pc2 := 5) dX11_beyond_4 ic_4 rfl ?_
  refine G_iload_n (pc2 := 6) 1 rfl dX11_beyond_5 rfl rfl ?_
  refine G_iadd (pc2 := 7) dX11_beyond_6 rfl ?_
  refine AM (pc2 := 8) (fa_212 _ _ _ _) h dX11_beyond_7 rfl (fun h => ?_)
  refine G_iload_n (pc2 := 9) 2 rfl dX11_beyond_8 rfl rfl ?_
  refine B_icmp_ne (tgt := 24) (pc2 := 12) h dX11_beyond_9 (by decide) rfl (fun _ h => ?_) (fun _ h => ?_)
  · refine G_aload_n (pc2 := 25) 0 rfl dX11_beyond_24 rfl rfl ?_
    refine T_209_8 (pc2 := 28) kw_910 dX11_beyond_25 rfl ?_
    refine G_bipush (pc2 := 30) dX11_beyond_28 ib_13 rfl ?_
    refine G_iload_n (pc2 := 31) 1 rfl dX11_beyond_30 rfl rfl ?_
    refine G_iadd (pc2 := 32) dX11_beyond_31 rfl ?_
    refine AM (pc2 := 33) (fa_212 _ _ _ _) h dX11_beyond_32 rfl (fun h => ?_)
    refine G_iload_n (pc2 := 34) 2 rfl dX11_beyond_33 rfl rfl ?_
    refine B_icmp_ne (tgt := 48) (pc2 := 37) h dX11_beyond_34 (by decide) rfl (fun _ h => ?_) (fun _ h => ?_)
    · refine G_iconst (pc2 := 49) dX11_beyond_48 ic_m1 rfl ?_
      have ha := Option.some.inj h
      subst ha
      exact G_iret rfl dX11_beyond_49
    · refine G_aload_n (pc2 := 38) 0 rfl dX11_beyond_37 rfl rfl ?_
      refine T_209_8 (pc2 := 41) kw_910 dX11_beyond_38 rfl ?_
      refine G_iconst (pc2 := 42) dX11_beyond_41 ic_4 rfl ?_
      refine G_iload_n (pc2 := 43) 1 rfl dX11_beyond_42 rfl rfl ?_
      refine G_iadd (pc2 := 44) dX11_beyond_43 rfl ?_
      refine AM (pc2 := 45) (fa_212 _ _ _ _) h dX11_beyond_44 rfl (fun h => ?_)
      refine G_goto (tgt := 49) dX11_beyond_45 (by decide) ?_
      have ha := Option.some.inj h
      subst ha
      exact G_iret rfl dX11_beyond_49
  · refine G_aload_n (pc2 := 13) 0 rfl dX11_beyond_12 rfl rfl ?_
    refine T_209_8 (pc2 := 16) kw_910 dX11_beyond_13 rfl ?_
    refine G_bipush (pc2 := 18) dX11_beyond_16 ib_13 rfl ?_
    refine G_iload_n (pc2 := 19) 1 rfl dX11_beyond_18 rfl rfl ?_
    refine G_iadd (pc2 := 20) dX11_beyond_19 rfl ?_
    refine AM (pc2 := 21) (fa_212 _ _ _ _) h dX11_beyond_20 rfl (fun h => ?_)
    refine G_goto (tgt := 49) dX11_beyond_21 (by decide) ?_
    have ha := Option.some.inj h
    subst ha
    exact G_iret rfl dX11_beyond_49)
def L_X11_notes_48 (k : WF → Option (WI × WF))  (I : WI) : Nat → Int32 → WF → Option (WI × WF)
  | 0, _, _ => none
  | n + 1, x1, F =>
  if (134 : Int32) ≤ x1 then (k F)
  else (ixG x1 134 (
  ixG (((134 : Int32) * (I 6)) + x1) 2144 (bnd (uF F 6 (upd (F 6) (((134 : Int32) * (I 6)) + x1).toNatClampNeg (F 3 x1.toNatClampNeg))) fun F_1342 =>
  bnd (x1 + (1 : Int32)) fun x1_1343 =>
  L_X11_notes_48 k I n x1_1343 F_1342)))
def L_X11_notes_11 (k : WF → Option (WI × WF))  (I : WI) : Nat → Int32 → WF → Option (WI × WF)
  | 0, _, _ => none
  | n + 1, x1, F =>
  if (2010 : Int32) ≤ x1 then (k F)
  else (ixG (x1 + (134 : Int32)) 2144 (
  ixG x1 2144 (bnd (uF F 6 (upd (F 6) x1.toNatClampNeg (F 6 (x1 + (134 : Int32)).toNatClampNeg))) fun F_1347 =>
  bnd (x1 + (1 : Int32)) fun x1_1348 =>
  L_X11_notes_11 k I n x1_1348 F_1347)))
def f_X11_notes (I : WI) (F : WF) : Option (WI × WF) :=
  bnd (fun (I_1339 : WI) (F_1340 : WF) => bnd (0 : Int32) fun x1_1341 =>
  L_X11_notes_48 (fun F_1344 => bnd (upd I_1339 6 ((I_1339 6) + (1 : Int32))) fun I_1345 =>
  some (I_1345, F_1344)) I_1339 FU x1_1341 F_1340) fun j46_1338 =>
  if (I 6) = (16 : Int32) then (bnd (0 : Int32) fun x1_1346 =>
  L_X11_notes_11 (fun F_1349 => bnd (upd I 6 (15 : Int32)) fun I_1350 =>
  j46_1338 I_1350 F_1349) I FU x1_1346 F)
  else (j46_1338 I F)
set_option maxRecDepth 100000 in
set_option maxHeartbeats 4000000 in
theorem g_L_X11_notes_48 {X : XT} {I : WI} {J : WI} {K : WF} {a : WI × WF} {k : WF → Option (WI × WF)} (hk : ∀ (F' : WF), (k F' = some a → GG X md_X11_notes (rmD 1) (gv_Z X (rmD 1).cells (rmD 1).slots none (mkW J K a.1 a.2)) 0 0 82 [(0, .ref 209)] [] (mkW J K I F'))) : ∀ (n : Nat) (x1 : Int32) (F : WF), L_X11_notes_48 k I n x1 F = some a → GG X md_X11_notes (rmD 1) (gv_Z X (rmD 1).cells (rmD 1).slots none (mkW J K a.1 a.2)) 0 0 48 [(0, .ref 209), (1, .int x1)] [] (mkW J K I F) := by
  intro n
  induction n with
  | zero =>
    intro x1 F h
    rw [L_X11_notes_48] at h
    cases h
  | succ n ih =>
    intro x1 F h
    rw [L_X11_notes_48] at h
    refine G_iload_n (pc2 := 49) 1 rfl dX11_notes_48 rfl rfl ?_
    refine G_sipush (pc2 := 52) dX11_notes_49 is_134 rfl ?_
    refine B_icmp_ge (tgt := 82) (pc2 := 55) h dX11_notes_52 (by decide) rfl (fun _ h => ?_) (fun _ h => ?_)
    · refine G_sub (ls' := [(0, .ref 209)]) [0] rfl ?_
      exact hk F h
    · refine G_aload_n (pc2 := 56) 0 rfl dX11_notes_55 rfl rfl ?_
      refine T_209_12 (pc2 := 59) kw_914 dX11_notes_56 rfl ?_
      refine G_sipush (pc2 := 62) dX11_notes_59 is_134 rfl ?_
      refine G_aload_n (pc2 := 63) 0 rfl dX11_notes_62 rfl rfl ?_
      refine T_209_13 (pc2 := 66) kw_915 dX11_notes_63 rfl ?_
      refine G_imul (pc2 := 67) dX11_notes_66 rfl ?_
      refine G_iload_n (pc2 := 68) 1 rfl dX11_notes_67 rfl rfl ?_
      refine G_iadd (pc2 := 69) dX11_notes_68 rfl ?_
      refine G_aload_n (pc2 := 70) 0 rfl dX11_notes_69 rfl rfl ?_
      refine T_209_9 (pc2 := 73) kw_911 dX11_notes_70 rfl ?_
      refine G_iload_n (pc2 := 74) 1 rfl dX11_notes_73 rfl rfl ?_
      refine AM (pc2 := 75) (fa_213 _ _ _ _) h dX11_notes_74 rfl (fun h => ?_)
      refine SM (pc2 := 76) (fa_216 _ _ _ _) h dX11_notes_75 rfl (fun F_1342 h => ?_)
      refine B_iinc (pc2 := 79) 1 (fun x1_1343 => [(1, .int x1_1343), (0, .ref 209)]) h rfl dX11_notes_76 ic_1 (by decide) (fun _ => rfl) rfl (fun x1_1343 h => ?_)
      refine G_goto (tgt := 48) dX11_notes_79 (by decide) ?_
      refine G_sub (ls' := [(0, .ref 209), (1, .int x1_1343)]) [1, 0] rfl ?_
      exact ih x1_1343 F_1342 h
set_option maxRecDepth 100000 in
set_option maxHeartbeats 4000000 in
theorem g_L_X11_notes_11 {X : XT} {I : WI} {J : WI} {K : WF} {a : WI × WF} {k : WF → Option (WI × WF)} (hk : ∀ (F' : WF), (k F' = some a → GG X md_X11_notes (rmD 1) (gv_Z X (rmD 1).cells (rmD 1).slots none (mkW J K a.1 a.2)) 0 0 40 [(0, .ref 209)] [] (mkW J K I F'))) : ∀ (n : Nat) (x1 : Int32) (F : WF), L_X11_notes_11 k I n x1 F = some a → GG X md_X11_notes (rmD 1) (gv_Z X (rmD 1).cells (rmD 1).slots none (mkW J K a.1 a.2)) 0 0 11 [(0, .ref 209), (1, .int x1)] [] (mkW J K I F) := by
  intro n
  induction n with
  | zero =>
    intro x1 F h
    rw [L_X11_notes_11] at h
    cases h
  | succ n ih =>
    intro x1 F h
    rw [L_X11_notes_11] at h
    refine G_iload_n (pc2 := 12) 1 rfl dX11_notes_11 rfl rfl ?_
    refine G_sipush (pc2 := 15) dX11_notes_12 is_2010 rfl ?_
    refine B_icmp_ge (tgt := 40) (pc2 := 18) h dX11_notes_15 (by decide) rfl (fun _ h => ?_) (fun _ h => ?_)
    · refine G_sub (ls' := [(0, .ref 209)]) [0] rfl ?_
      exact hk F h
    · refine G_aload_n (pc2 := 19) 0 rfl dX11_notes_18 rfl rfl ?_
      refine T_209_12 (pc2 := 22) kw_914 dX11_notes_19 rfl ?_
      refine G_iload_n (pc2 := 23) 1 rfl dX11_notes_22 rfl rfl ?_
      refine G_aload_n (pc2 := 24) 0 rfl dX11_notes_23 rfl rfl ?_
      refine T_209_12 (pc2 := 27) kw_914 dX11_notes_24 rfl ?_
      refine G_iload_n (pc2 := 28) 1 rfl dX11_notes_27 rfl rfl ?_
      refine G_sipush (pc2 := 31) dX11_notes_28 is_134 rfl ?_
      refine G_iadd (pc2 := 32) dX11_notes_31 rfl ?_
      refine AM (pc2 := 33) (fa_216 _ _ _ _) h dX11_notes_32 rfl (fun h => ?_)
      refine SM (pc2 := 34) (fa_216 _ _ _ _) h dX11_notes_33 rfl (fun F_1347 h => ?_)
      refine B_iinc (pc2 := 37) 1 (fun x1_1348 => [(1, .int x1_1348), (0, .ref 209)]) h rfl dX11_notes_34 ic_1 (by decide) (fun _ => rfl) rfl (fun x1_1348 h => ?_)
      refine G_goto (tgt := 11) dX11_notes_37 (by decide) ?_
      refine G_sub (ls' := [(0, .ref 209), (1, .int x1_1348)]) [1, 0] rfl ?_
      exact ih x1_1348 F_1347 h
set_option maxRecDepth 100000 in
set_option maxHeartbeats 4000000 in
theorem c_X11_notes {I : WI} {F : WF} {J : WI} {K : WF} {a : WI × WF} (h : f_X11_notes  I F = some a) : CT md_X11_notes yX11_notes (rmD 1) [.ref 209] (mkW J K I F) none (mkW J K a.1 a.2) := CT_of pn_X11 ⟨rfl, rfl⟩ (Nat.le_of_ble_eq_true rfl) (fun X => by
  show GG X md_X11_notes (rmD 1) _ 0 0 0 [(0, .ref 209)] [] (mkW J K I F)
  unfold f_X11_notes at h
  refine G_aload_n (pc2 := 1) 0 rfl dX11_notes_0 rfl rfl ?_
  refine T_209_13 (pc2 := 4) kw_915 dX11_notes_1 rfl ?_
  refine G_bipush (pc2 := 6) dX11_notes_4 ib_16 rfl ?_
  refine jn_e (Gj := True) (fun (j : WI → WF → Option (WI × WF)) => ∀ (I_1339 : WI) (F_1340 : WF), j I_1339 F_1340 = some a → GG X md_X11_notes (rmD 1) (gv_Z X (rmD 1).cells (rmD 1).slots none (mkW J K a.1 a.2)) 0 0 46 [(0, .ref 209)] [] (mkW J K I_1339 F_1340)) h (fun I_1339 F_1340 h => ?_) (fun j46_1338 hj46_1338 h => ?_)
  · refine G_iconst (pc2 := 47) dX11_notes_46 ic_0 rfl ?_
    refine B_istore_n (pc2 := 48) (fun x1_1341 => [(1, .int x1_1341), (0, .ref 209)]) h dX11_notes_47 rfl (by decide) (fun _ => rfl) rfl (fun x1_1341 h => ?_)
    refine G_sub (ls' := [(0, .ref 209), (1, .int x1_1341)]) [1, 0] rfl ?_
    refine g_L_X11_notes_48 (fun F_1344 h => ?_) FU x1_1341 F_1340 h
    refine G_aload_n (pc2 := 83) 0 rfl dX11_notes_82 rfl rfl ?_
    refine G_dup (pc2 := 84) rfl dX11_notes_83 rfl ?_
    refine T_209_13 (pc2 := 87) kw_915 dX11_notes_84 rfl ?_
    refine G_iconst (pc2 := 88) dX11_notes_87 ic_1 rfl ?_
    refine G_iadd (pc2 := 89) dX11_notes_88 rfl ?_
    refine P_209_13 (pc2 := 92) h kw_915 dX11_notes_89 rfl (fun I_1345 h => ?_)
    have ha := Option.some.inj h
    subst ha
    exact G_vret rfl dX11_notes_92
  refine B_icmp_ne (tgt := 46) (pc2 := 9) h dX11_notes_6 (by decide) rfl (fun _ h => ?_) (fun _ h => ?_)
  · exact hj46_1338 I F h
  · refine G_iconst (pc2 := 10) dX11_notes_9 ic_0 rfl ?_
    refine B_istore_n (pc2 := 11) (fun x1_1346 => [(1, .int x1_1346), (0, .ref 209)]) h dX11_notes_10 rfl (by decide) (fun _ => rfl) rfl (fun x1_1346 h => ?_)
    refine G_sub (ls' := [(0, .ref 209), (1, .int x1_1346)]) [1, 0] rfl ?_
    refine g_L_X11_notes_11 (fun F_1349 h => ?_) FU x1_1346 F h
    refine G_aload_n (pc2 := 41) 0 rfl dX11_notes_40 rfl rfl ?_
    refine G_bipush (pc2 := 43) dX11_notes_41 ib_15 rfl ?_
    refine P_209_13 (pc2 := 46) h kw_915 dX11_notes_43 rfl (fun I_1350 h => ?_)
    exact hj46_1338 I_1350 F_1349 h)
def f_X11_counts (x1 : Int32) (I : WI) (F : WF) : Option (WF) :=
  ixG x1 134 (
  ixG x1 134 (
  bnd (fun (s_1381 : Int32) => ixG x1 134 (bnd (uF F 3 (upd (F 3) x1.toNatClampNeg ((F 3 x1.toNatClampNeg) + s_1381))) fun F_1382 =>
  some F_1382)) fun j23_1380 =>
  if (999999 : Int32) ≤ (F 3 x1.toNatClampNeg) then (j23_1380 (0 : Int32))
  else (j23_1380 (1 : Int32))))
set_option maxRecDepth 100000 in
set_option maxHeartbeats 4000000 in
theorem c_X11_counts {x1 : Int32} {I : WI} {F : WF} {J : WI} {K : WF} {a : WF} (h : f_X11_counts x1 I F = some a) : CT md_X11_counts yX11_counts (rmD 1) [.ref 209, .int x1] (mkW J K I F) none (mkW J K I a) := CT_of pn_X11 ⟨rfl, rfl⟩ (Nat.le_of_ble_eq_true rfl) (fun X => by
  show GG X md_X11_counts (rmD 1) _ 0 0 0 [(0, .ref 209), (1, .int x1)] [] (mkW J K I F)
  unfold f_X11_counts at h
  refine G_aload_n (pc2 := 1) 0 rfl dX11_counts_0 rfl rfl ?_
  refine T_209_9 (pc2 := 4) kw_911 dX11_counts_1 rfl ?_
  refine G_iload_n (pc2 := 5) 1 rfl dX11_counts_4 rfl rfl ?_
  refine G_dup2 (pc2 := 6) rfl rfl dX11_counts_5 rfl ?_
  refine AM (pc2 := 7) (fa_213 _ _ _ _) h dX11_counts_6 rfl (fun h => ?_)
  refine G_aload_n (pc2 := 8) 0 rfl dX11_counts_7 rfl rfl ?_
  refine T_209_9 (pc2 := 11) kw_911 dX11_counts_8 rfl ?_
  refine G_iload_n (pc2 := 12) 1 rfl dX11_counts_11 rfl rfl ?_
  refine AM (pc2 := 13) (fa_213 _ _ _ _) h dX11_counts_12 rfl (fun h => ?_)
  refine G_ldc (pc2 := 15) kw_1160 dX11_counts_13 rfl ?_
  refine jn_e (Gj := True) (fun (j : Int32 → Option (WF)) => ∀ (s_1381 : Int32), j s_1381 = some a → GG X md_X11_counts (rmD 1) (gv_Z X (rmD 1).cells (rmD 1).slots none (mkW J K I a)) 0 0 23 [] [.int s_1381, .int (F 3 x1.toNatClampNeg), .int x1, .ref 213] (mkW J K I F)) h (fun s_1381 h => ?_) (fun j23_1380 hj23_1380 h => ?_)
  · refine G_iadd (pc2 := 24) dX11_counts_23 rfl ?_
    refine SM (pc2 := 25) (fa_213 _ _ _ _) h dX11_counts_24 rfl (fun F_1382 h => ?_)
    have ha := Option.some.inj h
    subst ha
    exact G_vret rfl dX11_counts_25
  refine B_icmp_ge (tgt := 22) (pc2 := 18) h dX11_counts_15 (by decide) rfl (fun _ h => ?_) (fun _ h => ?_)
  · refine G_iconst (pc2 := 23) dX11_counts_22 ic_0 rfl ?_
    refine G_sub (ls' := []) [] rfl ?_
    exact hj23_1380 (0 : Int32) h
  · refine G_iconst (pc2 := 19) dX11_counts_18 ic_1 rfl ?_
    refine G_goto (tgt := 23) dX11_counts_19 (by decide) ?_
    refine G_sub (ls' := []) [] rfl ?_
    exact hj23_1380 (1 : Int32) h)
def L_X11_leaps_31 (k : WF → Option (Int32 × WF)) (x1 : Int32) (x2 : Int32) (x4 : Int32) (x5 : Int32) (I : WI) : Nat → Int32 → WF → Option (Int32 × WF)
  | 0, _, _ => none
  | n + 1, x6, F =>
  if x6 ≤ (3 : Int32) then (k F)
  else (ixG (((53 : Int32) + x6) - (4 : Int32)) 134 (
  ixG ((53 : Int32) + x6) 134 (bnd (uF F 3 (upd (F 3) ((53 : Int32) + x6).toNatClampNeg (F 3 (((53 : Int32) + x6) - (4 : Int32)).toNatClampNeg))) fun F_1358 =>
  bnd (x6 + (-1 : Int32)) fun x6_1359 =>
  L_X11_leaps_31 k x1 x2 x4 x5 I n x6_1359 F_1358)))
def f_X11_leaps (x1 : Int32) (x2 : Int32) (x3 : Int32) (I : WI) (F : WF) : Option (Int32 × WF) :=
  bnd (fun (s_1353 : Int32) => bnd s_1353 fun x4_1354 =>
  Option.bind (f_X11_keeperAt x2 I F) fun c_1355 =>
  bnd c_1355 fun x5_1356 =>
  bnd (79 : Int32) fun x6_1357 =>
  L_X11_leaps_31 (fun F_1360 => bnd (uF F_1360 3 (upd (F_1360 3) 53 (F_1360 3 51))) fun F_1361 =>
  bnd (uF F_1361 3 (upd (F_1361 3) 54 x1)) fun F_1362 =>
  bnd (uF F_1362 3 (upd (F_1362 3) 55 x2)) fun F_1363 =>
  bnd (fun (s_1365 : Int32) => bnd (uF F_1363 3 (upd (F_1363 3) 56 s_1365)) fun F_1366 =>
  bnd (fun (s_1368 : Int32) => bnd (uF F_1366 3 (upd (F_1366 3) 52 ((F_1366 3 52) + s_1368))) fun F_1369 =>
  bnd (fun (F_1371 : WF) => bnd (fun (F_1373 : WF) => if x4_1354 = 0 then (some ((0 : Int32), F_1373))
  else (some ((1 : Int32), F_1373))) fun j291_1372 =>
  if x5_1356 = (-1 : Int32) then (j291_1372 F_1371)
  else (ixG ((33 : Int32) + x5_1356) 134 (
  ixG ((33 : Int32) + x5_1356) 134 (
  bnd (fun (s_1375 : Int32) => ixG ((33 : Int32) + x5_1356) 134 (bnd (uF F_1371 3 (upd (F_1371 3) ((33 : Int32) + x5_1356).toNatClampNeg ((F_1371 3 ((33 : Int32) + x5_1356).toNatClampNeg) + s_1375))) fun F_1376 =>
  j291_1372 F_1376)) fun j289_1374 =>
  if (99 : Int32) ≤ (F_1371 3 ((33 : Int32) + x5_1356).toNatClampNeg) then (j289_1374 (0 : Int32))
  else (j289_1374 (1 : Int32)))))) fun j252_1370 =>
  if x4_1354 = 0 then (ixG ((6 : Int32) + x1) 134 (
  bnd (fun (s_1378 : Int32) => ixG ((6 : Int32) + x1) 134 (bnd (uF F_1369 3 (upd (F_1369 3) ((6 : Int32) + x1).toNatClampNeg s_1378)) fun F_1379 =>
  Option.bind (f_X11_counts ((18 : Int32) + x1) I F_1379) fun c_1383 =>
  j252_1370 c_1383)) fun j243_1377 =>
  if (F_1369 3 ((6 : Int32) + x1).toNatClampNeg) ≤ (28 : Int32) then (ixG ((6 : Int32) + x1) 134 (
  j243_1377 ((F_1369 3 ((6 : Int32) + x1).toNatClampNeg) + (2 : Int32))))
  else (j243_1377 (30 : Int32))))
  else (ixG ((0 : Int32) + x1) 134 (
  Option.bind (f_X11_beyond x2 (F_1369 3 ((0 : Int32) + x1).toNatClampNeg) I F_1369) fun c_1384 =>
  ixG ((0 : Int32) + x1) 134 (bnd (uF F_1369 3 (upd (F_1369 3) ((0 : Int32) + x1).toNatClampNeg c_1384)) fun F_1385 =>
  ixG ((6 : Int32) + x1) 134 (
  ixG ((6 : Int32) + x1) 134 (
  bnd (fun (s_1387 : Int32) => ixG ((6 : Int32) + x1) 134 (bnd (uF F_1385 3 (upd (F_1385 3) ((6 : Int32) + x1).toNatClampNeg ((F_1385 3 ((6 : Int32) + x1).toNatClampNeg) - s_1387))) fun F_1388 =>
  Option.bind (f_X11_counts ((12 : Int32) + x1) I F_1388) fun c_1389 =>
  j252_1370 c_1389)) fun j192_1386 =>
  if (F_1385 3 ((6 : Int32) + x1).toNatClampNeg) ≤ 0 then (j192_1386 (0 : Int32))
  else (j192_1386 (1 : Int32)))))))) fun j137_1367 =>
  if (20 : Int32) ≤ (F_1366 3 52) then (j137_1367 (0 : Int32))
  else (j137_1367 (1 : Int32))) fun j111_1364 =>
  if x4_1354 = 0 then (j111_1364 (0 : Int32))
  else (j111_1364 (1 : Int32))) x1 x2 x4_1354 x5_1356 I FU x6_1357 F) fun j18_1352 =>
  bnd (fun (_u : Unit) => j18_1352 (0 : Int32)) fun j17_1390 =>
  if x3 = 0 then (Option.bind (f_X11_comes x1 x2 I F) fun c_1391 =>
  if c_1391 = 0 then (j17_1390 ())
  else (j18_1352 (1 : Int32)))
  else (j17_1390 ())
set_option maxRecDepth 100000 in
set_option maxHeartbeats 4000000 in
theorem g_L_X11_leaps_31 {X : XT} {x1 : Int32} {x2 : Int32} {x4 : Int32} {x5 : Int32} {I : WI} {J : WI} {K : WF} {a : Int32 × WF} {k : WF → Option (Int32 × WF)} (hk : ∀ (F' : WF), (k F' = some a → GG X md_X11_leaps (rmD 4) (gv_Z X (rmD 4).cells (rmD 4).slots (some (.int a.1)) (mkW J K I a.2)) 0 0 65 [(0, .ref 209), (1, .int x1), (2, .int x2), (4, .int x4), (5, .int x5)] [] (mkW J K I F'))) : ∀ (n : Nat) (x6 : Int32) (F : WF), L_X11_leaps_31 k x1 x2 x4 x5 I n x6 F = some a → GG X md_X11_leaps (rmD 4) (gv_Z X (rmD 4).cells (rmD 4).slots (some (.int a.1)) (mkW J K I a.2)) 0 0 31 [(0, .ref 209), (1, .int x1), (2, .int x2), (4, .int x4), (5, .int x5), (6, .int x6)] [] (mkW J K I F) := by
  intro n
  induction n with
  | zero =>
    intro x6 F h
    rw [L_X11_leaps_31] at h
    cases h
  | succ n ih =>
    intro x6 F h
    rw [L_X11_leaps_31] at h
    refine G_iload (pc2 := 33) 5 rfl dX11_leaps_31 rfl ?_
    refine G_iconst (pc2 := 34) dX11_leaps_33 ic_3 rfl ?_
    refine B_icmp_le (tgt := 65) (pc2 := 37) h dX11_leaps_34 (by decide) rfl (fun _ h => ?_) (fun _ h => ?_)
    · refine G_sub (ls' := [(0, .ref 209), (1, .int x1), (2, .int x2), (4, .int x4), (5, .int x5)]) [0, 1, 2, 3, 4] rfl ?_
      exact hk F h
    · refine G_aload_n (pc2 := 38) 0 rfl dX11_leaps_37 rfl rfl ?_
      refine T_209_9 (pc2 := 41) kw_911 dX11_leaps_38 rfl ?_
      refine G_bipush (pc2 := 43) dX11_leaps_41 ib_53 rfl ?_
      refine G_iload (pc2 := 45) 5 rfl dX11_leaps_43 rfl ?_
      refine G_iadd (pc2 := 46) dX11_leaps_45 rfl ?_
      refine G_aload_n (pc2 := 47) 0 rfl dX11_leaps_46 rfl rfl ?_
      refine T_209_9 (pc2 := 50) kw_911 dX11_leaps_47 rfl ?_
      refine G_bipush (pc2 := 52) dX11_leaps_50 ib_53 rfl ?_
      refine G_iload (pc2 := 54) 5 rfl dX11_leaps_52 rfl ?_
      refine G_iadd (pc2 := 55) dX11_leaps_54 rfl ?_
      refine G_iconst (pc2 := 56) dX11_leaps_55 ic_4 rfl ?_
      refine G_isub (pc2 := 57) dX11_leaps_56 rfl ?_
      refine AM (pc2 := 58) (fa_213 _ _ _ _) h dX11_leaps_57 rfl (fun h => ?_)
      refine SM (pc2 := 59) (fa_213 _ _ _ _) h dX11_leaps_58 rfl (fun F_1358 h => ?_)
      refine B_iinc (pc2 := 62) 5 (fun x6_1359 => [(6, .int x6_1359), (0, .ref 209), (1, .int x1), (2, .int x2), (4, .int x4), (5, .int x5)]) h rfl dX11_leaps_59 ic_m1 (by decide) (fun _ => rfl) rfl (fun x6_1359 h => ?_)
      refine G_goto (tgt := 31) dX11_leaps_62 (by decide) ?_
      refine G_sub (ls' := [(0, .ref 209), (1, .int x1), (2, .int x2), (4, .int x4), (5, .int x5), (6, .int x6_1359)]) [1, 2, 3, 4, 5, 0] rfl ?_
      exact ih x6_1359 F_1358 h
set_option maxRecDepth 100000 in
set_option maxHeartbeats 4000000 in
theorem c_X11_leaps {x1 : Int32} {x2 : Int32} {x3 : Int32} {I : WI} {F : WF} {J : WI} {K : WF} {a : Int32 × WF} (h : f_X11_leaps x1 x2 x3 I F = some a) : CT md_X11_leaps yX11_leaps (rmD 4) [.ref 209, .int x1, .int x2, .int x3] (mkW J K I F) (some (.int a.1)) (mkW J K I a.2) := CT_of pn_X11 ⟨rfl, rfl⟩ (Nat.le_of_ble_eq_true rfl) (fun X => by
  show GG X md_X11_leaps (rmD 4) _ 0 0 0 [(0, .ref 209), (1, .int x1), (2, .int x2), (3, .int x3)] [] (mkW J K I F)
  unfold f_X11_leaps at h
  refine G_iload_n (pc2 := 1) 3 rfl dX11_leaps_0 rfl rfl ?_
  refine jn_e (Gj := True) (fun (j : Int32 → Option (Int32 × WF)) => ∀ (s_1353 : Int32), j s_1353 = some a → GG X md_X11_leaps (rmD 4) (gv_Z X (rmD 4).cells (rmD 4).slots (some (.int a.1)) (mkW J K I a.2)) 0 0 18 [(0, .ref 209), (1, .int x1), (2, .int x2)] [.int s_1353] (mkW J K I F)) h (fun s_1353 h => ?_) (fun j18_1352 hj18_1352 h => ?_)
  · refine B_istore (pc2 := 20) (fun x4_1354 => [(4, .int x4_1354), (0, .ref 209), (1, .int x1), (2, .int x2)]) h dX11_leaps_18 (by decide) (fun _ => rfl) rfl (fun x4_1354 h => ?_)
    refine G_aload_n (pc2 := 21) 1 rfl dX11_leaps_20 rfl rfl ?_
    refine G_iload_n (pc2 := 22) 3 rfl dX11_leaps_21 rfl rfl ?_
    obtain ⟨c_1355, hc_1355, h⟩ := ob_e h
    refine B_callV (pc2 := 25) si_X11_138 (c_X11_keeperAt hc_1355) (qo_209 _ _ _ _) rfl rfl rfl (st := []) (stq := [.int c_1355]) rfl (by decide) (by decide) (Nat.le_of_ble_eq_true rfl) mkW_ll dX11_leaps_22 rfl rfl ?_ ⟨rfl, rfl⟩
    refine B_istore (pc2 := 27) (fun x5_1356 => [(5, .int x5_1356), (4, .int x4_1354), (0, .ref 209), (1, .int x1), (2, .int x2)]) h dX11_leaps_25 (by decide) (fun _ => rfl) rfl (fun x5_1356 h => ?_)
    refine G_bipush (pc2 := 29) dX11_leaps_27 ib_79 rfl ?_
    refine B_istore (pc2 := 31) (fun x6_1357 => [(6, .int x6_1357), (5, .int x5_1356), (4, .int x4_1354), (0, .ref 209), (1, .int x1), (2, .int x2)]) h dX11_leaps_29 (by decide) (fun _ => rfl) rfl (fun x6_1357 h => ?_)
    refine G_sub (ls' := [(0, .ref 209), (1, .int x1), (2, .int x2), (4, .int x4_1354), (5, .int x5_1356), (6, .int x6_1357)]) [3, 4, 5, 2, 1, 0] rfl ?_
    refine g_L_X11_leaps_31 (fun F_1360 h => ?_) FU x6_1357 F h
    refine G_aload_n (pc2 := 66) 0 rfl dX11_leaps_65 rfl rfl ?_
    refine T_209_9 (pc2 := 69) kw_911 dX11_leaps_66 rfl ?_
    refine G_bipush (pc2 := 71) dX11_leaps_69 ib_53 rfl ?_
    refine G_aload_n (pc2 := 72) 0 rfl dX11_leaps_71 rfl rfl ?_
    refine T_209_9 (pc2 := 75) kw_911 dX11_leaps_72 rfl ?_
    refine G_bipush (pc2 := 77) dX11_leaps_75 ib_51 rfl ?_
    refine AMc (pc2 := 78) (fa_213 _ _ _ _) cl_51 rfl dX11_leaps_77 rfl ?_
    refine SMc (pc2 := 79) (fa_213 _ _ _ _) h cl_53 rfl dX11_leaps_78 rfl (fun F_1361 h => ?_)
    refine G_aload_n (pc2 := 80) 0 rfl dX11_leaps_79 rfl rfl ?_
    refine T_209_9 (pc2 := 83) kw_911 dX11_leaps_80 rfl ?_
    refine G_bipush (pc2 := 85) dX11_leaps_83 ib_54 rfl ?_
    refine G_iload_n (pc2 := 86) 1 rfl dX11_leaps_85 rfl rfl ?_
    refine SMc (pc2 := 87) (fa_213 _ _ _ _) h cl_54 rfl dX11_leaps_86 rfl (fun F_1362 h => ?_)
    refine G_aload_n (pc2 := 88) 0 rfl dX11_leaps_87 rfl rfl ?_
    refine T_209_9 (pc2 := 91) kw_911 dX11_leaps_88 rfl ?_
    refine G_bipush (pc2 := 93) dX11_leaps_91 ib_55 rfl ?_
    refine G_iload_n (pc2 := 94) 2 rfl dX11_leaps_93 rfl rfl ?_
    refine SMc (pc2 := 95) (fa_213 _ _ _ _) h cl_55 rfl dX11_leaps_94 rfl (fun F_1363 h => ?_)
    refine G_aload_n (pc2 := 96) 0 rfl dX11_leaps_95 rfl rfl ?_
    refine T_209_9 (pc2 := 99) kw_911 dX11_leaps_96 rfl ?_
    refine G_bipush (pc2 := 101) dX11_leaps_99 ib_56 rfl ?_
    refine G_iload (pc2 := 103) 3 rfl dX11_leaps_101 rfl ?_
    refine jn_e (Gj := True) (fun (j : Int32 → Option (Int32 × WF)) => ∀ (s_1365 : Int32), j s_1365 = some a → GG X md_X11_leaps (rmD 4) (gv_Z X (rmD 4).cells (rmD 4).slots (some (.int a.1)) (mkW J K I a.2)) 0 0 111 [(0, .ref 209), (1, .int x1), (2, .int x2), (4, .int x4_1354), (5, .int x5_1356)] [.int s_1365, .int (56 : Int32), .ref 213] (mkW J K I F_1363)) h (fun s_1365 h => ?_) (fun j111_1364 hj111_1364 h => ?_)
    · refine SMc (pc2 := 112) (fa_213 _ _ _ _) h cl_56 rfl dX11_leaps_111 rfl (fun F_1366 h => ?_)
      refine G_aload_n (pc2 := 113) 0 rfl dX11_leaps_112 rfl rfl ?_
      refine T_209_9 (pc2 := 116) kw_911 dX11_leaps_113 rfl ?_
      refine G_bipush (pc2 := 118) dX11_leaps_116 ib_52 rfl ?_
      refine G_dup2 (pc2 := 119) rfl rfl dX11_leaps_118 rfl ?_
      refine AMc (pc2 := 120) (fa_213 _ _ _ _) cl_52 rfl dX11_leaps_119 rfl ?_
      refine G_aload_n (pc2 := 121) 0 rfl dX11_leaps_120 rfl rfl ?_
      refine T_209_9 (pc2 := 124) kw_911 dX11_leaps_121 rfl ?_
      refine G_bipush (pc2 := 126) dX11_leaps_124 ib_52 rfl ?_
      refine AMc (pc2 := 127) (fa_213 _ _ _ _) cl_52 rfl dX11_leaps_126 rfl ?_
      refine G_bipush (pc2 := 129) dX11_leaps_127 ib_20 rfl ?_
      refine jn_e (Gj := True) (fun (j : Int32 → Option (Int32 × WF)) => ∀ (s_1368 : Int32), j s_1368 = some a → GG X md_X11_leaps (rmD 4) (gv_Z X (rmD 4).cells (rmD 4).slots (some (.int a.1)) (mkW J K I a.2)) 0 0 137 [(0, .ref 209), (1, .int x1), (2, .int x2), (4, .int x4_1354), (5, .int x5_1356)] [.int s_1368, .int (F_1366 3 52), .int (52 : Int32), .ref 213] (mkW J K I F_1366)) h (fun s_1368 h => ?_) (fun j137_1367 hj137_1367 h => ?_)
      · refine G_iadd (pc2 := 138) dX11_leaps_137 rfl ?_
        refine SMc (pc2 := 139) (fa_213 _ _ _ _) h cl_52 rfl dX11_leaps_138 rfl (fun F_1369 h => ?_)
        refine G_iload (pc2 := 141) 3 rfl dX11_leaps_139 rfl ?_
        refine jn_e (Gj := True) (fun (j : WF → Option (Int32 × WF)) => ∀ (F_1371 : WF), j F_1371 = some a → GG X md_X11_leaps (rmD 4) (gv_Z X (rmD 4).cells (rmD 4).slots (some (.int a.1)) (mkW J K I a.2)) 0 0 252 [(0, .ref 209), (4, .int x4_1354), (5, .int x5_1356)] [] (mkW J K I F_1371)) h (fun F_1371 h => ?_) (fun j252_1370 hj252_1370 h => ?_)
        · refine G_iload (pc2 := 254) 2 rfl dX11_leaps_252 rfl ?_
          refine G_iconst (pc2 := 255) dX11_leaps_254 ic_m1 rfl ?_
          refine jn_e (Gj := True) (fun (j : WF → Option (Int32 × WF)) => ∀ (F_1373 : WF), j F_1373 = some a → GG X md_X11_leaps (rmD 4) (gv_Z X (rmD 4).cells (rmD 4).slots (some (.int a.1)) (mkW J K I a.2)) 0 0 291 [(4, .int x4_1354)] [] (mkW J K I F_1373)) h (fun F_1373 h => ?_) (fun j291_1372 hj291_1372 h => ?_)
          · refine G_iload (pc2 := 293) 0 rfl dX11_leaps_291 rfl ?_
            refine B_if_eq (tgt := 300) (pc2 := 296) h dX11_leaps_293 (by decide) rfl (fun _ h => ?_) (fun _ h => ?_)
            · refine G_iconst (pc2 := 301) dX11_leaps_300 ic_0 rfl ?_
              have ha := Option.some.inj h
              subst ha
              exact G_iret rfl dX11_leaps_301
            · refine G_iconst (pc2 := 297) dX11_leaps_296 ic_1 rfl ?_
              refine G_goto (tgt := 301) dX11_leaps_297 (by decide) ?_
              have ha := Option.some.inj h
              subst ha
              exact G_iret rfl dX11_leaps_301
          refine B_icmp_eq (tgt := 291) (pc2 := 258) h dX11_leaps_255 (by decide) rfl (fun _ h => ?_) (fun _ h => ?_)
          · refine G_sub (ls' := [(4, .int x4_1354)]) [1] rfl ?_
            exact hj291_1372 F_1371 h
          · refine G_aload_n (pc2 := 259) 0 rfl dX11_leaps_258 rfl rfl ?_
            refine T_209_9 (pc2 := 262) kw_911 dX11_leaps_259 rfl ?_
            refine G_bipush (pc2 := 264) dX11_leaps_262 ib_33 rfl ?_
            refine G_iload (pc2 := 266) 2 rfl dX11_leaps_264 rfl ?_
            refine G_iadd (pc2 := 267) dX11_leaps_266 rfl ?_
            refine G_dup2 (pc2 := 268) rfl rfl dX11_leaps_267 rfl ?_
            refine AM (pc2 := 269) (fa_213 _ _ _ _) h dX11_leaps_268 rfl (fun h => ?_)
            refine G_aload_n (pc2 := 270) 0 rfl dX11_leaps_269 rfl rfl ?_
            refine T_209_9 (pc2 := 273) kw_911 dX11_leaps_270 rfl ?_
            refine G_bipush (pc2 := 275) dX11_leaps_273 ib_33 rfl ?_
            refine G_iload (pc2 := 277) 2 rfl dX11_leaps_275 rfl ?_
            refine G_iadd (pc2 := 278) dX11_leaps_277 rfl ?_
            refine AM (pc2 := 279) (fa_213 _ _ _ _) h dX11_leaps_278 rfl (fun h => ?_)
            refine G_bipush (pc2 := 281) dX11_leaps_279 ib_99 rfl ?_
            refine jn_e (Gj := True) (fun (j : Int32 → Option (Int32 × WF)) => ∀ (s_1375 : Int32), j s_1375 = some a → GG X md_X11_leaps (rmD 4) (gv_Z X (rmD 4).cells (rmD 4).slots (some (.int a.1)) (mkW J K I a.2)) 0 0 289 [(4, .int x4_1354)] [.int s_1375, .int (F_1371 3 ((33 : Int32) + x5_1356).toNatClampNeg), .int ((33 : Int32) + x5_1356), .ref 213] (mkW J K I F_1371)) h (fun s_1375 h => ?_) (fun j289_1374 hj289_1374 h => ?_)
            · refine G_iadd (pc2 := 290) dX11_leaps_289 rfl ?_
              refine SM (pc2 := 291) (fa_213 _ _ _ _) h dX11_leaps_290 rfl (fun F_1376 h => ?_)
              exact hj291_1372 F_1376 h
            refine B_icmp_ge (tgt := 288) (pc2 := 284) h dX11_leaps_281 (by decide) rfl (fun _ h => ?_) (fun _ h => ?_)
            · refine G_iconst (pc2 := 289) dX11_leaps_288 ic_0 rfl ?_
              refine G_sub (ls' := [(4, .int x4_1354)]) [1] rfl ?_
              exact hj289_1374 (0 : Int32) h
            · refine G_iconst (pc2 := 285) dX11_leaps_284 ic_1 rfl ?_
              refine G_goto (tgt := 289) dX11_leaps_285 (by decide) ?_
              refine G_sub (ls' := [(4, .int x4_1354)]) [1] rfl ?_
              exact hj289_1374 (1 : Int32) h
        refine B_if_eq (tgt := 205) (pc2 := 144) h dX11_leaps_141 (by decide) rfl (fun _ h => ?_) (fun _ h => ?_)
        · refine G_aload_n (pc2 := 206) 0 rfl dX11_leaps_205 rfl rfl ?_
          refine T_209_9 (pc2 := 209) kw_911 dX11_leaps_206 rfl ?_
          refine G_bipush (pc2 := 211) dX11_leaps_209 ib_6 rfl ?_
          refine G_iload_n (pc2 := 212) 1 rfl dX11_leaps_211 rfl rfl ?_
          refine G_iadd (pc2 := 213) dX11_leaps_212 rfl ?_
          refine G_aload_n (pc2 := 214) 0 rfl dX11_leaps_213 rfl rfl ?_
          refine T_209_9 (pc2 := 217) kw_911 dX11_leaps_214 rfl ?_
          refine G_bipush (pc2 := 219) dX11_leaps_217 ib_6 rfl ?_
          refine G_iload_n (pc2 := 220) 1 rfl dX11_leaps_219 rfl rfl ?_
          refine G_iadd (pc2 := 221) dX11_leaps_220 rfl ?_
          refine AM (pc2 := 222) (fa_213 _ _ _ _) h dX11_leaps_221 rfl (fun h => ?_)
          refine G_bipush (pc2 := 224) dX11_leaps_222 ib_28 rfl ?_
          refine jn_e (Gj := True) (fun (j : Int32 → Option (Int32 × WF)) => ∀ (s_1378 : Int32), j s_1378 = some a → GG X md_X11_leaps (rmD 4) (gv_Z X (rmD 4).cells (rmD 4).slots (some (.int a.1)) (mkW J K I a.2)) 0 0 243 [(0, .ref 209), (1, .int x1), (4, .int x4_1354), (5, .int x5_1356)] [.int s_1378, .int ((6 : Int32) + x1), .ref 213] (mkW J K I F_1369)) h (fun s_1378 h => ?_) (fun j243_1377 hj243_1377 h => ?_)
          · refine SM (pc2 := 244) (fa_213 _ _ _ _) h dX11_leaps_243 rfl (fun F_1379 h => ?_)
            refine G_aload_n (pc2 := 245) 0 rfl dX11_leaps_244 rfl rfl ?_
            refine G_bipush (pc2 := 247) dX11_leaps_245 ib_18 rfl ?_
            refine G_iload_n (pc2 := 248) 1 rfl dX11_leaps_247 rfl rfl ?_
            refine G_iadd (pc2 := 249) dX11_leaps_248 rfl ?_
            obtain ⟨c_1383, hc_1383, h⟩ := ob_e h
            refine B_callV (pc2 := 252) si_X11_196 (c_X11_counts hc_1383) (qo_209 _ _ _ _) rfl rfl rfl (st := []) (stq := []) rfl (by decide) (by decide) (Nat.le_of_ble_eq_true rfl) mkW_ll dX11_leaps_249 rfl rfl ?_ ⟨rfl, rfl⟩
            refine G_sub (ls' := [(0, .ref 209), (4, .int x4_1354), (5, .int x5_1356)]) [0, 2, 3] rfl ?_
            exact hj252_1370 c_1383 h
          refine B_icmp_le (tgt := 232) (pc2 := 227) h dX11_leaps_224 (by decide) rfl (fun _ h => ?_) (fun _ h => ?_)
          · refine G_aload_n (pc2 := 233) 0 rfl dX11_leaps_232 rfl rfl ?_
            refine T_209_9 (pc2 := 236) kw_911 dX11_leaps_233 rfl ?_
            refine G_bipush (pc2 := 238) dX11_leaps_236 ib_6 rfl ?_
            refine G_iload_n (pc2 := 239) 1 rfl dX11_leaps_238 rfl rfl ?_
            refine G_iadd (pc2 := 240) dX11_leaps_239 rfl ?_
            refine AM (pc2 := 241) (fa_213 _ _ _ _) h dX11_leaps_240 rfl (fun h => ?_)
            refine G_iconst (pc2 := 242) dX11_leaps_241 ic_2 rfl ?_
            refine G_iadd (pc2 := 243) dX11_leaps_242 rfl ?_
            refine G_sub (ls' := [(0, .ref 209), (1, .int x1), (4, .int x4_1354), (5, .int x5_1356)]) [0, 1, 3, 4] rfl ?_
            exact hj243_1377 ((F_1369 3 ((6 : Int32) + x1).toNatClampNeg) + (2 : Int32)) h
          · refine G_bipush (pc2 := 229) dX11_leaps_227 ib_30 rfl ?_
            refine G_goto (tgt := 243) dX11_leaps_229 (by decide) ?_
            refine G_sub (ls' := [(0, .ref 209), (1, .int x1), (4, .int x4_1354), (5, .int x5_1356)]) [0, 1, 3, 4] rfl ?_
            exact hj243_1377 (30 : Int32) h
        · refine G_aload_n (pc2 := 145) 0 rfl dX11_leaps_144 rfl rfl ?_
          refine T_209_9 (pc2 := 148) kw_911 dX11_leaps_145 rfl ?_
          refine G_iconst (pc2 := 149) dX11_leaps_148 ic_0 rfl ?_
          refine G_iload_n (pc2 := 150) 1 rfl dX11_leaps_149 rfl rfl ?_
          refine G_iadd (pc2 := 151) dX11_leaps_150 rfl ?_
          refine G_aload_n (pc2 := 152) 0 rfl dX11_leaps_151 rfl rfl ?_
          refine G_iload_n (pc2 := 153) 2 rfl dX11_leaps_152 rfl rfl ?_
          refine G_aload_n (pc2 := 154) 0 rfl dX11_leaps_153 rfl rfl ?_
          refine T_209_9 (pc2 := 157) kw_911 dX11_leaps_154 rfl ?_
          refine G_iconst (pc2 := 158) dX11_leaps_157 ic_0 rfl ?_
          refine G_iload_n (pc2 := 159) 1 rfl dX11_leaps_158 rfl rfl ?_
          refine G_iadd (pc2 := 160) dX11_leaps_159 rfl ?_
          refine AM (pc2 := 161) (fa_213 _ _ _ _) h dX11_leaps_160 rfl (fun h => ?_)
          obtain ⟨c_1384, hc_1384, h⟩ := ob_e h
          refine B_callV (pc2 := 164) si_X11_193 (c_X11_beyond hc_1384) (qo_209 _ _ _ _) rfl rfl rfl (st := [.int ((0 : Int32) + x1), .ref 213]) (stq := [.int c_1384, .int ((0 : Int32) + x1), .ref 213]) rfl (by decide) (by decide) (Nat.le_of_ble_eq_true rfl) mkW_ll dX11_leaps_161 rfl rfl ?_ ⟨rfl, rfl⟩
          refine SM (pc2 := 165) (fa_213 _ _ _ _) h dX11_leaps_164 rfl (fun F_1385 h => ?_)
          refine G_aload_n (pc2 := 166) 0 rfl dX11_leaps_165 rfl rfl ?_
          refine T_209_9 (pc2 := 169) kw_911 dX11_leaps_166 rfl ?_
          refine G_bipush (pc2 := 171) dX11_leaps_169 ib_6 rfl ?_
          refine G_iload_n (pc2 := 172) 1 rfl dX11_leaps_171 rfl rfl ?_
          refine G_iadd (pc2 := 173) dX11_leaps_172 rfl ?_
          refine G_dup2 (pc2 := 174) rfl rfl dX11_leaps_173 rfl ?_
          refine AM (pc2 := 175) (fa_213 _ _ _ _) h dX11_leaps_174 rfl (fun h => ?_)
          refine G_aload_n (pc2 := 176) 0 rfl dX11_leaps_175 rfl rfl ?_
          refine T_209_9 (pc2 := 179) kw_911 dX11_leaps_176 rfl ?_
          refine G_bipush (pc2 := 181) dX11_leaps_179 ib_6 rfl ?_
          refine G_iload_n (pc2 := 182) 1 rfl dX11_leaps_181 rfl rfl ?_
          refine G_iadd (pc2 := 183) dX11_leaps_182 rfl ?_
          refine AM (pc2 := 184) (fa_213 _ _ _ _) h dX11_leaps_183 rfl (fun h => ?_)
          refine jn_e (Gj := True) (fun (j : Int32 → Option (Int32 × WF)) => ∀ (s_1387 : Int32), j s_1387 = some a → GG X md_X11_leaps (rmD 4) (gv_Z X (rmD 4).cells (rmD 4).slots (some (.int a.1)) (mkW J K I a.2)) 0 0 192 [(0, .ref 209), (1, .int x1), (4, .int x4_1354), (5, .int x5_1356)] [.int s_1387, .int (F_1385 3 ((6 : Int32) + x1).toNatClampNeg), .int ((6 : Int32) + x1), .ref 213] (mkW J K I F_1385)) h (fun s_1387 h => ?_) (fun j192_1386 hj192_1386 h => ?_)
          · refine G_isub (pc2 := 193) dX11_leaps_192 rfl ?_
            refine SM (pc2 := 194) (fa_213 _ _ _ _) h dX11_leaps_193 rfl (fun F_1388 h => ?_)
            refine G_aload_n (pc2 := 195) 0 rfl dX11_leaps_194 rfl rfl ?_
            refine G_bipush (pc2 := 197) dX11_leaps_195 ib_12 rfl ?_
            refine G_iload_n (pc2 := 198) 1 rfl dX11_leaps_197 rfl rfl ?_
            refine G_iadd (pc2 := 199) dX11_leaps_198 rfl ?_
            obtain ⟨c_1389, hc_1389, h⟩ := ob_e h
            refine B_callV (pc2 := 202) si_X11_196 (c_X11_counts hc_1389) (qo_209 _ _ _ _) rfl rfl rfl (st := []) (stq := []) rfl (by decide) (by decide) (Nat.le_of_ble_eq_true rfl) mkW_ll dX11_leaps_199 rfl rfl ?_ ⟨rfl, rfl⟩
            refine G_goto (tgt := 252) dX11_leaps_202 (by decide) ?_
            refine G_sub (ls' := [(0, .ref 209), (4, .int x4_1354), (5, .int x5_1356)]) [0, 2, 3] rfl ?_
            exact hj252_1370 c_1389 h
          refine B_if_le (tgt := 191) (pc2 := 187) h dX11_leaps_184 (by decide) rfl (fun _ h => ?_) (fun _ h => ?_)
          · refine G_iconst (pc2 := 192) dX11_leaps_191 ic_0 rfl ?_
            refine G_sub (ls' := [(0, .ref 209), (1, .int x1), (4, .int x4_1354), (5, .int x5_1356)]) [0, 1, 3, 4] rfl ?_
            exact hj192_1386 (0 : Int32) h
          · refine G_iconst (pc2 := 188) dX11_leaps_187 ic_1 rfl ?_
            refine G_goto (tgt := 192) dX11_leaps_188 (by decide) ?_
            refine G_sub (ls' := [(0, .ref 209), (1, .int x1), (4, .int x4_1354), (5, .int x5_1356)]) [0, 1, 3, 4] rfl ?_
            exact hj192_1386 (1 : Int32) h
      refine B_icmp_ge (tgt := 136) (pc2 := 132) h dX11_leaps_129 (by decide) rfl (fun _ h => ?_) (fun _ h => ?_)
      · refine G_iconst (pc2 := 137) dX11_leaps_136 ic_0 rfl ?_
        exact hj137_1367 (0 : Int32) h
      · refine G_iconst (pc2 := 133) dX11_leaps_132 ic_1 rfl ?_
        refine G_goto (tgt := 137) dX11_leaps_133 (by decide) ?_
        exact hj137_1367 (1 : Int32) h
    refine B_if_eq (tgt := 110) (pc2 := 106) h dX11_leaps_103 (by decide) rfl (fun _ h => ?_) (fun _ h => ?_)
    · refine G_iconst (pc2 := 111) dX11_leaps_110 ic_0 rfl ?_
      exact hj111_1364 (0 : Int32) h
    · refine G_iconst (pc2 := 107) dX11_leaps_106 ic_1 rfl ?_
      refine G_goto (tgt := 111) dX11_leaps_107 (by decide) ?_
      exact hj111_1364 (1 : Int32) h
  refine jn_e (Gj := True) (fun (j : Unit → Option (Int32 × WF)) => ∀ (_u : Unit), j _u = some a → GG X md_X11_leaps (rmD 4) (gv_Z X (rmD 4).cells (rmD 4).slots (some (.int a.1)) (mkW J K I a.2)) 0 0 17 [(0, .ref 209), (1, .int x1), (2, .int x2)] [] (mkW J K I F)) h (fun _u h => ?_) (fun j17_1390 hj17_1390 h => ?_)
  · refine G_iconst (pc2 := 18) dX11_leaps_17 ic_0 rfl ?_
    exact hj18_1352 (0 : Int32) h
  refine B_if_ne (tgt := 17) (pc2 := 4) h dX11_leaps_1 (by decide) rfl (fun _ h => ?_) (fun _ h => ?_)
  · refine G_sub (ls' := [(0, .ref 209), (1, .int x1), (2, .int x2)]) [0, 1, 2] rfl ?_
    exact hj17_1390 () h
  · refine G_aload_n (pc2 := 5) 0 rfl dX11_leaps_4 rfl rfl ?_
    refine G_iload_n (pc2 := 6) 1 rfl dX11_leaps_5 rfl rfl ?_
    refine G_iload_n (pc2 := 7) 2 rfl dX11_leaps_6 rfl rfl ?_
    obtain ⟨c_1391, hc_1391, h⟩ := ob_e h
    refine B_callV (pc2 := 10) si_X11_147 (c_X11_comes hc_1391) (qo_209 _ _ _ _) rfl rfl rfl (st := []) (stq := [.int c_1391]) rfl (by decide) (by decide) (Nat.le_of_ble_eq_true rfl) mkW_ll dX11_leaps_7 rfl rfl ?_ ⟨rfl, rfl⟩
    refine B_if_eq (tgt := 17) (pc2 := 13) h dX11_leaps_10 (by decide) rfl (fun _ h => ?_) (fun _ h => ?_)
    · refine G_sub (ls' := [(0, .ref 209), (1, .int x1), (2, .int x2)]) [0, 1, 2] rfl ?_
      exact hj17_1390 () h
    · refine G_iconst (pc2 := 14) dX11_leaps_13 ic_1 rfl ?_
      refine G_goto (tgt := 18) dX11_leaps_14 (by decide) ?_
      refine G_sub (ls' := [(0, .ref 209), (1, .int x1), (2, .int x2)]) [0, 1, 2] rfl ?_
      exact hj18_1352 (1 : Int32) h)
def f_X11_leap (x1 : Int32) (x2 : Int32) (I : WI) (F : WF) : Option (Int32 × WI × WF) :=
  bnd (upd I 0 (0 : Int32)) fun I_1334 =>
  Option.bind (f_X11_isJumper x1 I_1334 F) fun c_1335 =>
  if c_1335 = 0 then (some ((-1000000001 : Int32), I_1334, F))
  else (Option.bind (f_X11_isBridge x2 I_1334 F) fun c_1336 =>
  if c_1336 = 0 then (some ((-1000000001 : Int32), I_1334, F))
  else (ixG ((0 : Int32) + x1) 134 (
  Option.bind (f_X11_beyond x2 (F 3 ((0 : Int32) + x1).toNatClampNeg) I_1334 F) fun c_1337 =>
  if c_1337 = (-1 : Int32) then (some ((-1000000003 : Int32), I_1334, F))
  else (Option.bind (f_X11_notes I_1334 F) fun c_1351 =>
  Option.bind (f_X11_leaps x1 x2 (0 : Int32) c_1351.1 c_1351.2) fun c_1392 =>
  some (c_1392.1, c_1351.1, c_1392.2)))))
set_option maxRecDepth 100000 in
set_option maxHeartbeats 4000000 in
theorem c_X11_leap {x1 : Int32} {x2 : Int32} {I : WI} {F : WF} {J : WI} {K : WF} {a : Int32 × WI × WF} (h : f_X11_leap x1 x2 I F = some a) : CT md_X11_leap yX11_leap (rmD 5) [.ref 209, .int x1, .int x2] (mkW J K I F) (some (.int a.1)) (mkW J K a.2.1 a.2.2) := CT_of pn_X11 ⟨rfl, rfl⟩ (Nat.le_of_ble_eq_true rfl) (fun X => by
  show GG X md_X11_leap (rmD 5) _ 0 0 0 [(0, .ref 209), (1, .int x1), (2, .int x2)] [] (mkW J K I F)
  unfold f_X11_leap at h
  refine G_aload_n (pc2 := 1) 0 rfl dX11_leap_0 rfl rfl ?_
  refine G_iconst (pc2 := 2) dX11_leap_1 ic_0 rfl ?_
  refine P_209_0 (pc2 := 5) h kw_902 dX11_leap_2 rfl (fun I_1334 h => ?_)
  refine G_aload_n (pc2 := 6) 0 rfl dX11_leap_5 rfl rfl ?_
  refine G_iload_n (pc2 := 7) 1 rfl dX11_leap_6 rfl rfl ?_
  obtain ⟨c_1335, hc_1335, h⟩ := ob_e h
  refine B_callV (pc2 := 10) si_X11_186 (c_X11_isJumper hc_1335) (qo_209 _ _ _ _) rfl rfl rfl (st := []) (stq := [.int c_1335]) rfl (by decide) (by decide) (Nat.le_of_ble_eq_true rfl) mkW_ll dX11_leap_7 rfl rfl ?_ ⟨rfl, rfl⟩
  refine B_if_eq (tgt := 21) (pc2 := 13) h dX11_leap_10 (by decide) rfl (fun _ h => ?_) (fun _ h => ?_)
  · refine G_ldc (pc2 := 23) kw_1094 dX11_leap_21 rfl ?_
    have ha := Option.some.inj h
    subst ha
    exact G_iret rfl dX11_leap_23
  · refine G_aload_n (pc2 := 14) 0 rfl dX11_leap_13 rfl rfl ?_
    refine G_iload_n (pc2 := 15) 2 rfl dX11_leap_14 rfl rfl ?_
    obtain ⟨c_1336, hc_1336, h⟩ := ob_e h
    refine B_callV (pc2 := 18) si_X11_179 (c_X11_isBridge hc_1336) (qo_209 _ _ _ _) rfl rfl rfl (st := []) (stq := [.int c_1336]) rfl (by decide) (by decide) (Nat.le_of_ble_eq_true rfl) mkW_ll dX11_leap_15 rfl rfl ?_ ⟨rfl, rfl⟩
    refine B_if_ne (tgt := 24) (pc2 := 21) h dX11_leap_18 (by decide) rfl (fun _ h => ?_) (fun _ h => ?_)
    · refine G_aload_n (pc2 := 25) 0 rfl dX11_leap_24 rfl rfl ?_
      refine G_iload_n (pc2 := 26) 2 rfl dX11_leap_25 rfl rfl ?_
      refine G_aload_n (pc2 := 27) 0 rfl dX11_leap_26 rfl rfl ?_
      refine T_209_9 (pc2 := 30) kw_911 dX11_leap_27 rfl ?_
      refine G_iconst (pc2 := 31) dX11_leap_30 ic_0 rfl ?_
      refine G_iload_n (pc2 := 32) 1 rfl dX11_leap_31 rfl rfl ?_
      refine G_iadd (pc2 := 33) dX11_leap_32 rfl ?_
      refine AM (pc2 := 34) (fa_213 _ _ _ _) h dX11_leap_33 rfl (fun h => ?_)
      obtain ⟨c_1337, hc_1337, h⟩ := ob_e h
      refine B_callV (pc2 := 37) si_X11_193 (c_X11_beyond hc_1337) (qo_209 _ _ _ _) rfl rfl rfl (st := []) (stq := [.int c_1337]) rfl (by decide) (by decide) (Nat.le_of_ble_eq_true rfl) mkW_ll dX11_leap_34 rfl rfl ?_ ⟨rfl, rfl⟩
      refine G_iconst (pc2 := 38) dX11_leap_37 ic_m1 rfl ?_
      refine B_icmp_ne (tgt := 44) (pc2 := 41) h dX11_leap_38 (by decide) rfl (fun _ h => ?_) (fun _ h => ?_)
      · refine G_aload_n (pc2 := 45) 0 rfl dX11_leap_44 rfl rfl ?_
        obtain ⟨c_1351, hc_1351, h⟩ := ob_e h
        refine B_callV (pc2 := 48) si_X11_200 (c_X11_notes hc_1351) (qo_209 _ _ _ _) rfl rfl rfl (st := []) (stq := []) rfl (by decide) (by decide) (Nat.le_of_ble_eq_true rfl) mkW_ll dX11_leap_45 rfl rfl ?_ ⟨rfl, rfl⟩
        refine G_aload_n (pc2 := 49) 0 rfl dX11_leap_48 rfl rfl ?_
        refine G_iload_n (pc2 := 50) 1 rfl dX11_leap_49 rfl rfl ?_
        refine G_iload_n (pc2 := 51) 2 rfl dX11_leap_50 rfl rfl ?_
        refine G_iconst (pc2 := 52) dX11_leap_51 ic_0 rfl ?_
        obtain ⟨c_1392, hc_1392, h⟩ := ob_e h
        refine B_callV (pc2 := 55) si_X11_203 (c_X11_leaps hc_1392) (qo_209 _ _ _ _) rfl rfl rfl (st := []) (stq := [.int c_1392.1]) rfl (by decide) (by decide) (Nat.le_of_ble_eq_true rfl) mkW_ll dX11_leap_52 rfl rfl ?_ ⟨rfl, rfl⟩
        have ha := Option.some.inj h
        subst ha
        exact G_iret rfl dX11_leap_55
      · refine G_ldc (pc2 := 43) kw_1147 dX11_leap_41 rfl ?_
        have ha := Option.some.inj h
        subst ha
        exact G_iret rfl dX11_leap_43
    · refine G_ldc (pc2 := 23) kw_1094 dX11_leap_21 rfl ?_
      have ha := Option.some.inj h
      subst ha
      exact G_iret rfl dX11_leap_23)
def f_X11_post (x1 : Int32) (x2 : Int32) (I : WI) (F : WF) : Option (Int32 × WI × WF) :=
  bnd (upd I 0 (0 : Int32)) fun I_1393 =>
  Option.bind (f_X11_isKeeper x1 I_1393 F) fun c_1394 =>
  if c_1394 = 0 then (some ((-1000000001 : Int32), I_1393, F))
  else (Option.bind (f_X11_isBridge x2 I_1393 F) fun c_1395 =>
  if c_1395 = 0 then (some ((-1000000001 : Int32), I_1393, F))
  else (Option.bind (f_X11_keeperAt x2 I_1393 F) fun c_1396 =>
  if c_1396 = (-1 : Int32) then (Option.bind (f_X11_notes I_1393 F) fun c_1397 =>
  ixG ((24 : Int32) + x1) 134 (
  bnd (c_1397.2 3 ((24 : Int32) + x1).toNatClampNeg) fun x3_1398 =>
  ixG ((24 : Int32) + x1) 134 (bnd (uF c_1397.2 3 (upd (c_1397.2 3) ((24 : Int32) + x1).toNatClampNeg x2)) fun F_1399 =>
  some (x3_1398, c_1397.1, F_1399))))
  else (some ((-1000000003 : Int32), I_1393, F))))
set_option maxRecDepth 100000 in
set_option maxHeartbeats 4000000 in
theorem c_X11_post {x1 : Int32} {x2 : Int32} {I : WI} {F : WF} {J : WI} {K : WF} {a : Int32 × WI × WF} (h : f_X11_post x1 x2 I F = some a) : CT md_X11_post yX11_post (rmD 3) [.ref 209, .int x1, .int x2] (mkW J K I F) (some (.int a.1)) (mkW J K a.2.1 a.2.2) := CT_of pn_X11 ⟨rfl, rfl⟩ (Nat.le_of_ble_eq_true rfl) (fun X => by
  show GG X md_X11_post (rmD 3) _ 0 0 0 [(0, .ref 209), (1, .int x1), (2, .int x2)] [] (mkW J K I F)
  unfold f_X11_post at h
  refine G_aload_n (pc2 := 1) 0 rfl dX11_post_0 rfl rfl ?_
  refine G_iconst (pc2 := 2) dX11_post_1 ic_0 rfl ?_
  refine P_209_0 (pc2 := 5) h kw_902 dX11_post_2 rfl (fun I_1393 h => ?_)
  refine G_aload_n (pc2 := 6) 0 rfl dX11_post_5 rfl rfl ?_
  refine G_iload_n (pc2 := 7) 1 rfl dX11_post_6 rfl rfl ?_
  obtain ⟨c_1394, hc_1394, h⟩ := ob_e h
  refine B_callV (pc2 := 10) si_X11_183 (c_X11_isKeeper hc_1394) (qo_209 _ _ _ _) rfl rfl rfl (st := []) (stq := [.int c_1394]) rfl (by decide) (by decide) (Nat.le_of_ble_eq_true rfl) mkW_ll dX11_post_7 rfl rfl ?_ ⟨rfl, rfl⟩
  refine B_if_eq (tgt := 21) (pc2 := 13) h dX11_post_10 (by decide) rfl (fun _ h => ?_) (fun _ h => ?_)
  · refine G_ldc (pc2 := 23) kw_1094 dX11_post_21 rfl ?_
    have ha := Option.some.inj h
    subst ha
    exact G_iret rfl dX11_post_23
  · refine G_aload_n (pc2 := 14) 0 rfl dX11_post_13 rfl rfl ?_
    refine G_iload_n (pc2 := 15) 2 rfl dX11_post_14 rfl rfl ?_
    obtain ⟨c_1395, hc_1395, h⟩ := ob_e h
    refine B_callV (pc2 := 18) si_X11_179 (c_X11_isBridge hc_1395) (qo_209 _ _ _ _) rfl rfl rfl (st := []) (stq := [.int c_1395]) rfl (by decide) (by decide) (Nat.le_of_ble_eq_true rfl) mkW_ll dX11_post_15 rfl rfl ?_ ⟨rfl, rfl⟩
    refine B_if_ne (tgt := 24) (pc2 := 21) h dX11_post_18 (by decide) rfl (fun _ h => ?_) (fun _ h => ?_)
    · refine G_aload_n (pc2 := 25) 0 rfl dX11_post_24 rfl rfl ?_
      refine G_iload_n (pc2 := 26) 2 rfl dX11_post_25 rfl rfl ?_
      obtain ⟨c_1396, hc_1396, h⟩ := ob_e h
      refine B_callV (pc2 := 29) si_X11_138 (c_X11_keeperAt hc_1396) (qo_209 _ _ _ _) rfl rfl rfl (st := []) (stq := [.int c_1396]) rfl (by decide) (by decide) (Nat.le_of_ble_eq_true rfl) mkW_ll dX11_post_26 rfl rfl ?_ ⟨rfl, rfl⟩
      refine G_iconst (pc2 := 30) dX11_post_29 ic_m1 rfl ?_
      refine B_icmp_eq (tgt := 36) (pc2 := 33) h dX11_post_30 (by decide) rfl (fun _ h => ?_) (fun _ h => ?_)
      · refine G_aload_n (pc2 := 37) 0 rfl dX11_post_36 rfl rfl ?_
        obtain ⟨c_1397, hc_1397, h⟩ := ob_e h
        refine B_callV (pc2 := 40) si_X11_200 (c_X11_notes hc_1397) (qo_209 _ _ _ _) rfl rfl rfl (st := []) (stq := []) rfl (by decide) (by decide) (Nat.le_of_ble_eq_true rfl) mkW_ll dX11_post_37 rfl rfl ?_ ⟨rfl, rfl⟩
        refine G_aload_n (pc2 := 41) 0 rfl dX11_post_40 rfl rfl ?_
        refine T_209_9 (pc2 := 44) kw_911 dX11_post_41 rfl ?_
        refine G_bipush (pc2 := 46) dX11_post_44 ib_24 rfl ?_
        refine G_iload_n (pc2 := 47) 1 rfl dX11_post_46 rfl rfl ?_
        refine G_iadd (pc2 := 48) dX11_post_47 rfl ?_
        refine AM (pc2 := 49) (fa_213 _ _ _ _) h dX11_post_48 rfl (fun h => ?_)
        refine B_istore_n (pc2 := 50) (fun x3_1398 => [(3, .int x3_1398), (0, .ref 209), (1, .int x1), (2, .int x2)]) h dX11_post_49 rfl (by decide) (fun _ => rfl) rfl (fun x3_1398 h => ?_)
        refine G_aload_n (pc2 := 51) 1 rfl dX11_post_50 rfl rfl ?_
        refine T_209_9 (pc2 := 54) kw_911 dX11_post_51 rfl ?_
        refine G_bipush (pc2 := 56) dX11_post_54 ib_24 rfl ?_
        refine G_iload_n (pc2 := 57) 2 rfl dX11_post_56 rfl rfl ?_
        refine G_iadd (pc2 := 58) dX11_post_57 rfl ?_
        refine G_iload_n (pc2 := 59) 3 rfl dX11_post_58 rfl rfl ?_
        refine SM (pc2 := 60) (fa_213 _ _ _ _) h dX11_post_59 rfl (fun F_1399 h => ?_)
        refine G_iload_n (pc2 := 61) 0 rfl dX11_post_60 rfl rfl ?_
        have ha := Option.some.inj h
        subst ha
        exact G_iret rfl dX11_post_61
      · refine G_ldc (pc2 := 35) kw_1147 dX11_post_33 rfl ?_
        have ha := Option.some.inj h
        subst ha
        exact G_iret rfl dX11_post_35
    · refine G_ldc (pc2 := 23) kw_1094 dX11_post_21 rfl ?_
      have ha := Option.some.inj h
      subst ha
      exact G_iret rfl dX11_post_23)
def f_X11_rest (x1 : Int32) (I : WI) (F : WF) : Option (Int32 × WI × WF) :=
  bnd (upd I 0 (0 : Int32)) fun I_1400 =>
  Option.bind (f_X11_isKeeper x1 I_1400 F) fun c_1401 =>
  if c_1401 = 0 then (some ((-1000000001 : Int32), I_1400, F))
  else (ixG ((24 : Int32) + x1) 134 (
  bnd (F 3 ((24 : Int32) + x1).toNatClampNeg) fun x2_1402 =>
  if x2_1402 = (-1 : Int32) then (some ((-1000000003 : Int32), I_1400, F))
  else (Option.bind (f_X11_notes I_1400 F) fun c_1403 =>
  ixG ((24 : Int32) + x1) 134 (bnd (uF c_1403.2 3 (upd (c_1403.2 3) ((24 : Int32) + x1).toNatClampNeg (-1 : Int32))) fun F_1404 =>
  some (x2_1402, c_1403.1, F_1404)))))
set_option maxRecDepth 100000 in
set_option maxHeartbeats 4000000 in
theorem c_X11_rest {x1 : Int32} {I : WI} {F : WF} {J : WI} {K : WF} {a : Int32 × WI × WF} (h : f_X11_rest x1 I F = some a) : CT md_X11_rest yX11_rest (rmD 3) [.ref 209, .int x1] (mkW J K I F) (some (.int a.1)) (mkW J K a.2.1 a.2.2) := CT_of pn_X11 ⟨rfl, rfl⟩ (Nat.le_of_ble_eq_true rfl) (fun X => by
  show GG X md_X11_rest (rmD 3) _ 0 0 0 [(0, .ref 209), (1, .int x1)] [] (mkW J K I F)
  unfold f_X11_rest at h
  refine G_aload_n (pc2 := 1) 0 rfl dX11_rest_0 rfl rfl ?_
  refine G_iconst (pc2 := 2) dX11_rest_1 ic_0 rfl ?_
  refine P_209_0 (pc2 := 5) h kw_902 dX11_rest_2 rfl (fun I_1400 h => ?_)
  refine G_aload_n (pc2 := 6) 0 rfl dX11_rest_5 rfl rfl ?_
  refine G_iload_n (pc2 := 7) 1 rfl dX11_rest_6 rfl rfl ?_
  obtain ⟨c_1401, hc_1401, h⟩ := ob_e h
  refine B_callV (pc2 := 10) si_X11_183 (c_X11_isKeeper hc_1401) (qo_209 _ _ _ _) rfl rfl rfl (st := []) (stq := [.int c_1401]) rfl (by decide) (by decide) (Nat.le_of_ble_eq_true rfl) mkW_ll dX11_rest_7 rfl rfl ?_ ⟨rfl, rfl⟩
  refine B_if_ne (tgt := 16) (pc2 := 13) h dX11_rest_10 (by decide) rfl (fun _ h => ?_) (fun _ h => ?_)
  · refine G_aload_n (pc2 := 17) 0 rfl dX11_rest_16 rfl rfl ?_
    refine T_209_9 (pc2 := 20) kw_911 dX11_rest_17 rfl ?_
    refine G_bipush (pc2 := 22) dX11_rest_20 ib_24 rfl ?_
    refine G_iload_n (pc2 := 23) 1 rfl dX11_rest_22 rfl rfl ?_
    refine G_iadd (pc2 := 24) dX11_rest_23 rfl ?_
    refine AM (pc2 := 25) (fa_213 _ _ _ _) h dX11_rest_24 rfl (fun h => ?_)
    refine B_istore_n (pc2 := 26) (fun x2_1402 => [(2, .int x2_1402), (0, .ref 209), (1, .int x1)]) h dX11_rest_25 rfl (by decide) (fun _ => rfl) rfl (fun x2_1402 h => ?_)
    refine G_iload_n (pc2 := 27) 0 rfl dX11_rest_26 rfl rfl ?_
    refine G_iconst (pc2 := 28) dX11_rest_27 ic_m1 rfl ?_
    refine B_icmp_ne (tgt := 34) (pc2 := 31) h dX11_rest_28 (by decide) rfl (fun _ h => ?_) (fun _ h => ?_)
    · refine G_aload_n (pc2 := 35) 1 rfl dX11_rest_34 rfl rfl ?_
      obtain ⟨c_1403, hc_1403, h⟩ := ob_e h
      refine B_callV (pc2 := 38) si_X11_200 (c_X11_notes hc_1403) (qo_209 _ _ _ _) rfl rfl rfl (st := []) (stq := []) rfl (by decide) (by decide) (Nat.le_of_ble_eq_true rfl) mkW_ll dX11_rest_35 rfl rfl ?_ ⟨rfl, rfl⟩
      refine G_aload_n (pc2 := 39) 1 rfl dX11_rest_38 rfl rfl ?_
      refine T_209_9 (pc2 := 42) kw_911 dX11_rest_39 rfl ?_
      refine G_bipush (pc2 := 44) dX11_rest_42 ib_24 rfl ?_
      refine G_iload_n (pc2 := 45) 2 rfl dX11_rest_44 rfl rfl ?_
      refine G_iadd (pc2 := 46) dX11_rest_45 rfl ?_
      refine G_iconst (pc2 := 47) dX11_rest_46 ic_m1 rfl ?_
      refine SM (pc2 := 48) (fa_213 _ _ _ _) h dX11_rest_47 rfl (fun F_1404 h => ?_)
      refine G_iload_n (pc2 := 49) 0 rfl dX11_rest_48 rfl rfl ?_
      have ha := Option.some.inj h
      subst ha
      exact G_iret rfl dX11_rest_49
    · refine G_ldc (pc2 := 33) kw_1147 dX11_rest_31 rfl ?_
      have ha := Option.some.inj h
      subst ha
      exact G_iret rfl dX11_rest_33
  · refine G_ldc (pc2 := 15) kw_1094 dX11_rest_13 rfl ?_
    have ha := Option.some.inj h
    subst ha
    exact G_iret rfl dX11_rest_15)
def f_X11_train (x1 : Int32) (I : WI) (F : WF) : Option (Int32 × WI × WF) :=
  bnd (upd I 0 (0 : Int32)) fun I_1405 =>
  Option.bind (f_X11_isKeeper x1 I_1405 F) fun c_1406 =>
  if c_1406 = 0 then (some ((-1000000001 : Int32), I_1405, F))
  else (ixG ((42 : Int32) + x1) 134 (
  if (F 3 ((42 : Int32) + x1).toNatClampNeg) = (1 : Int32) then (some ((-1000000003 : Int32), I_1405, F))
  else (Option.bind (f_X11_notes I_1405 F) fun c_1407 =>
  ixG ((42 : Int32) + x1) 134 (
  ixG ((42 : Int32) + x1) 134 (bnd (uF c_1407.2 3 (upd (c_1407.2 3) ((42 : Int32) + x1).toNatClampNeg ((c_1407.2 3 ((42 : Int32) + x1).toNatClampNeg) - (1 : Int32)))) fun F_1408 =>
  ixG ((42 : Int32) + x1) 134 (
  some ((F_1408 3 ((42 : Int32) + x1).toNatClampNeg), c_1407.1, F_1408)))))))
set_option maxRecDepth 100000 in
set_option maxHeartbeats 4000000 in
theorem c_X11_train {x1 : Int32} {I : WI} {F : WF} {J : WI} {K : WF} {a : Int32 × WI × WF} (h : f_X11_train x1 I F = some a) : CT md_X11_train yX11_train (rmD 3) [.ref 209, .int x1] (mkW J K I F) (some (.int a.1)) (mkW J K a.2.1 a.2.2) := CT_of pn_X11 ⟨rfl, rfl⟩ (Nat.le_of_ble_eq_true rfl) (fun X => by
  show GG X md_X11_train (rmD 3) _ 0 0 0 [(0, .ref 209), (1, .int x1)] [] (mkW J K I F)
  unfold f_X11_train at h
  refine G_aload_n (pc2 := 1) 0 rfl dX11_train_0 rfl rfl ?_
  refine G_iconst (pc2 := 2) dX11_train_1 ic_0 rfl ?_
  refine P_209_0 (pc2 := 5) h kw_902 dX11_train_2 rfl (fun I_1405 h => ?_)
  refine G_aload_n (pc2 := 6) 0 rfl dX11_train_5 rfl rfl ?_
  refine G_iload_n (pc2 := 7) 1 rfl dX11_train_6 rfl rfl ?_
  obtain ⟨c_1406, hc_1406, h⟩ := ob_e h
  refine B_callV (pc2 := 10) si_X11_183 (c_X11_isKeeper hc_1406) (qo_209 _ _ _ _) rfl rfl rfl (st := []) (stq := [.int c_1406]) rfl (by decide) (by decide) (Nat.le_of_ble_eq_true rfl) mkW_ll dX11_train_7 rfl rfl ?_ ⟨rfl, rfl⟩
  refine B_if_ne (tgt := 16) (pc2 := 13) h dX11_train_10 (by decide) rfl (fun _ h => ?_) (fun _ h => ?_)
  · refine G_aload_n (pc2 := 17) 0 rfl dX11_train_16 rfl rfl ?_
    refine T_209_9 (pc2 := 20) kw_911 dX11_train_17 rfl ?_
    refine G_bipush (pc2 := 22) dX11_train_20 ib_42 rfl ?_
    refine G_iload_n (pc2 := 23) 1 rfl dX11_train_22 rfl rfl ?_
    refine G_iadd (pc2 := 24) dX11_train_23 rfl ?_
    refine AM (pc2 := 25) (fa_213 _ _ _ _) h dX11_train_24 rfl (fun h => ?_)
    refine G_iconst (pc2 := 26) dX11_train_25 ic_1 rfl ?_
    refine B_icmp_ne (tgt := 32) (pc2 := 29) h dX11_train_26 (by decide) rfl (fun _ h => ?_) (fun _ h => ?_)
    · refine G_aload_n (pc2 := 33) 0 rfl dX11_train_32 rfl rfl ?_
      obtain ⟨c_1407, hc_1407, h⟩ := ob_e h
      refine B_callV (pc2 := 36) si_X11_200 (c_X11_notes hc_1407) (qo_209 _ _ _ _) rfl rfl rfl (st := []) (stq := []) rfl (by decide) (by decide) (Nat.le_of_ble_eq_true rfl) mkW_ll dX11_train_33 rfl rfl ?_ ⟨rfl, rfl⟩
      refine G_aload_n (pc2 := 37) 0 rfl dX11_train_36 rfl rfl ?_
      refine T_209_9 (pc2 := 40) kw_911 dX11_train_37 rfl ?_
      refine G_bipush (pc2 := 42) dX11_train_40 ib_42 rfl ?_
      refine G_iload_n (pc2 := 43) 1 rfl dX11_train_42 rfl rfl ?_
      refine G_iadd (pc2 := 44) dX11_train_43 rfl ?_
      refine G_dup2 (pc2 := 45) rfl rfl dX11_train_44 rfl ?_
      refine AM (pc2 := 46) (fa_213 _ _ _ _) h dX11_train_45 rfl (fun h => ?_)
      refine G_iconst (pc2 := 47) dX11_train_46 ic_1 rfl ?_
      refine G_isub (pc2 := 48) dX11_train_47 rfl ?_
      refine SM (pc2 := 49) (fa_213 _ _ _ _) h dX11_train_48 rfl (fun F_1408 h => ?_)
      refine G_aload_n (pc2 := 50) 0 rfl dX11_train_49 rfl rfl ?_
      refine T_209_9 (pc2 := 53) kw_911 dX11_train_50 rfl ?_
      refine G_bipush (pc2 := 55) dX11_train_53 ib_42 rfl ?_
      refine G_iload_n (pc2 := 56) 1 rfl dX11_train_55 rfl rfl ?_
      refine G_iadd (pc2 := 57) dX11_train_56 rfl ?_
      refine AM (pc2 := 58) (fa_213 _ _ _ _) h dX11_train_57 rfl (fun h => ?_)
      have ha := Option.some.inj h
      subst ha
      exact G_iret rfl dX11_train_58
    · refine G_ldc (pc2 := 31) kw_1147 dX11_train_29 rfl ?_
      have ha := Option.some.inj h
      subst ha
      exact G_iret rfl dX11_train_31
  · refine G_ldc (pc2 := 15) kw_1094 dX11_train_13 rfl ?_
    have ha := Option.some.inj h
    subst ha
    exact G_iret rfl dX11_train_15)
def f_X11_talk (x1 : Int32) (x2 : Int32) (I : WI) (F : WF) : Option (Int32 × WI × WF) :=
  bnd (upd I 0 (0 : Int32)) fun I_1409 =>
  Option.bind (f_X11_isJumper x1 I_1409 F) fun c_1410 =>
  if c_1410 = 0 then (some ((-1000000001 : Int32), I_1409, F))
  else (Option.bind (f_X11_in x2 (0 : Int32) (30 : Int32)) fun c_1411 =>
  if c_1411 = 0 then (some ((-1000000002 : Int32), I_1409, F))
  else (Option.bind (f_X11_notes I_1409 F) fun c_1412 =>
  ixG ((6 : Int32) + x1) 134 (
  bnd (c_1412.2 3 ((6 : Int32) + x1).toNatClampNeg) fun x3_1413 =>
  ixG ((6 : Int32) + x1) 134 (bnd (uF c_1412.2 3 (upd (c_1412.2 3) ((6 : Int32) + x1).toNatClampNeg x2)) fun F_1414 =>
  some (x3_1413, c_1412.1, F_1414)))))
set_option maxRecDepth 100000 in
set_option maxHeartbeats 4000000 in
theorem c_X11_talk {x1 : Int32} {x2 : Int32} {I : WI} {F : WF} {J : WI} {K : WF} {a : Int32 × WI × WF} (h : f_X11_talk x1 x2 I F = some a) : CT md_X11_talk yX11_talk (rmD 3) [.ref 209, .int x1, .int x2] (mkW J K I F) (some (.int a.1)) (mkW J K a.2.1 a.2.2) := CT_of pn_X11 ⟨rfl, rfl⟩ (Nat.le_of_ble_eq_true rfl) (fun X => by
  show GG X md_X11_talk (rmD 3) _ 0 0 0 [(0, .ref 209), (1, .int x1), (2, .int x2)] [] (mkW J K I F)
  unfold f_X11_talk at h
  refine G_aload_n (pc2 := 1) 0 rfl dX11_talk_0 rfl rfl ?_
  refine G_iconst (pc2 := 2) dX11_talk_1 ic_0 rfl ?_
  refine P_209_0 (pc2 := 5) h kw_902 dX11_talk_2 rfl (fun I_1409 h => ?_)
  refine G_aload_n (pc2 := 6) 0 rfl dX11_talk_5 rfl rfl ?_
  refine G_iload_n (pc2 := 7) 1 rfl dX11_talk_6 rfl rfl ?_
  obtain ⟨c_1410, hc_1410, h⟩ := ob_e h
  refine B_callV (pc2 := 10) si_X11_186 (c_X11_isJumper hc_1410) (qo_209 _ _ _ _) rfl rfl rfl (st := []) (stq := [.int c_1410]) rfl (by decide) (by decide) (Nat.le_of_ble_eq_true rfl) mkW_ll dX11_talk_7 rfl rfl ?_ ⟨rfl, rfl⟩
  refine B_if_ne (tgt := 16) (pc2 := 13) h dX11_talk_10 (by decide) rfl (fun _ h => ?_) (fun _ h => ?_)
  · refine G_iload_n (pc2 := 17) 2 rfl dX11_talk_16 rfl rfl ?_
    refine G_iconst (pc2 := 18) dX11_talk_17 ic_0 rfl ?_
    refine G_bipush (pc2 := 20) dX11_talk_18 ib_30 rfl ?_
    obtain ⟨c_1411, hc_1411, h⟩ := ob_e h
    refine B_callS (pc2 := 23) si_X11_66 (c_X11_in hc_1411) rfl (st := []) (stq := [.int c_1411]) rfl (by decide) (by decide) (Nat.le_of_ble_eq_true rfl) rfl dX11_talk_20 rfl rfl ?_ ⟨rfl, rfl⟩
    refine B_if_ne (tgt := 29) (pc2 := 26) h dX11_talk_23 (by decide) rfl (fun _ h => ?_) (fun _ h => ?_)
    · refine G_aload_n (pc2 := 30) 0 rfl dX11_talk_29 rfl rfl ?_
      obtain ⟨c_1412, hc_1412, h⟩ := ob_e h
      refine B_callV (pc2 := 33) si_X11_200 (c_X11_notes hc_1412) (qo_209 _ _ _ _) rfl rfl rfl (st := []) (stq := []) rfl (by decide) (by decide) (Nat.le_of_ble_eq_true rfl) mkW_ll dX11_talk_30 rfl rfl ?_ ⟨rfl, rfl⟩
      refine G_aload_n (pc2 := 34) 0 rfl dX11_talk_33 rfl rfl ?_
      refine T_209_9 (pc2 := 37) kw_911 dX11_talk_34 rfl ?_
      refine G_bipush (pc2 := 39) dX11_talk_37 ib_6 rfl ?_
      refine G_iload_n (pc2 := 40) 1 rfl dX11_talk_39 rfl rfl ?_
      refine G_iadd (pc2 := 41) dX11_talk_40 rfl ?_
      refine AM (pc2 := 42) (fa_213 _ _ _ _) h dX11_talk_41 rfl (fun h => ?_)
      refine B_istore_n (pc2 := 43) (fun x3_1413 => [(3, .int x3_1413), (0, .ref 209), (1, .int x1), (2, .int x2)]) h dX11_talk_42 rfl (by decide) (fun _ => rfl) rfl (fun x3_1413 h => ?_)
      refine G_aload_n (pc2 := 44) 1 rfl dX11_talk_43 rfl rfl ?_
      refine T_209_9 (pc2 := 47) kw_911 dX11_talk_44 rfl ?_
      refine G_bipush (pc2 := 49) dX11_talk_47 ib_6 rfl ?_
      refine G_iload_n (pc2 := 50) 2 rfl dX11_talk_49 rfl rfl ?_
      refine G_iadd (pc2 := 51) dX11_talk_50 rfl ?_
      refine G_iload_n (pc2 := 52) 3 rfl dX11_talk_51 rfl rfl ?_
      refine SM (pc2 := 53) (fa_213 _ _ _ _) h dX11_talk_52 rfl (fun F_1414 h => ?_)
      refine G_iload_n (pc2 := 54) 0 rfl dX11_talk_53 rfl rfl ?_
      have ha := Option.some.inj h
      subst ha
      exact G_iret rfl dX11_talk_54
    · refine G_ldc (pc2 := 28) kw_989 dX11_talk_26 rfl ?_
      have ha := Option.some.inj h
      subst ha
      exact G_iret rfl dX11_talk_28
  · refine G_ldc (pc2 := 15) kw_1094 dX11_talk_13 rfl ?_
    have ha := Option.some.inj h
    subst ha
    exact G_iret rfl dX11_talk_15)
def f_X11_mayGo (x1 : Int32) (I : WI) (F : WF) : Option (Int32) :=
  Option.bind (f_X11_in x1 (1 : Int32) (60 : Int32)) fun c_1416 =>
  if c_1416 = 0 then (some (-1000000002 : Int32))
  else (if (F 2 0) = 0 then (some (-1000000003 : Int32))
  else (if (F 3 51) ≤ (9000 : Int32) then (some (0 : Int32))
  else (some (-1000000004 : Int32))))
set_option maxRecDepth 100000 in
set_option maxHeartbeats 4000000 in
theorem c_X11_mayGo {x1 : Int32} {I : WI} {F : WF} {J : WI} {K : WF} {a : Int32} (h : f_X11_mayGo x1 I F = some a) : CT md_X11_mayGo yX11_mayGo (rmD 2) [.ref 209, .int x1] (mkW J K I F) (some (.int a)) (mkW J K I F) := CT_of pn_X11 ⟨rfl, rfl⟩ (Nat.le_of_ble_eq_true rfl) (fun X => by
  show GG X md_X11_mayGo (rmD 2) _ 0 0 0 [(0, .ref 209), (1, .int x1)] [] (mkW J K I F)
  unfold f_X11_mayGo at h
  refine G_iload_n (pc2 := 1) 1 rfl dX11_mayGo_0 rfl rfl ?_
  refine G_iconst (pc2 := 2) dX11_mayGo_1 ic_1 rfl ?_
  refine G_bipush (pc2 := 4) dX11_mayGo_2 ib_60 rfl ?_
  obtain ⟨c_1416, hc_1416, h⟩ := ob_e h
  refine B_callS (pc2 := 7) si_X11_66 (c_X11_in hc_1416) rfl (st := []) (stq := [.int c_1416]) rfl (by decide) (by decide) (Nat.le_of_ble_eq_true rfl) rfl dX11_mayGo_4 rfl rfl ?_ ⟨rfl, rfl⟩
  refine B_if_ne (tgt := 13) (pc2 := 10) h dX11_mayGo_7 (by decide) rfl (fun _ h => ?_) (fun _ h => ?_)
  · refine G_aload_n (pc2 := 14) 0 rfl dX11_mayGo_13 rfl rfl ?_
    refine T_209_8 (pc2 := 17) kw_910 dX11_mayGo_14 rfl ?_
    refine G_iconst (pc2 := 18) dX11_mayGo_17 ic_0 rfl ?_
    refine AMc (pc2 := 19) (fa_212 _ _ _ _) cl_0 rfl dX11_mayGo_18 rfl ?_
    refine B_if_ne (tgt := 27) (pc2 := 22) h dX11_mayGo_19 (by decide) rfl (fun _ h => ?_) (fun _ h => ?_)
    · refine G_aload_n (pc2 := 28) 0 rfl dX11_mayGo_27 rfl rfl ?_
      refine T_209_9 (pc2 := 31) kw_911 dX11_mayGo_28 rfl ?_
      refine G_bipush (pc2 := 33) dX11_mayGo_31 ib_51 rfl ?_
      refine AMc (pc2 := 34) (fa_213 _ _ _ _) cl_51 rfl dX11_mayGo_33 rfl ?_
      refine G_sipush (pc2 := 37) dX11_mayGo_34 is_9000 rfl ?_
      refine B_icmp_le (tgt := 45) (pc2 := 40) h dX11_mayGo_37 (by decide) rfl (fun _ h => ?_) (fun _ h => ?_)
      · refine G_iconst (pc2 := 46) dX11_mayGo_45 ic_0 rfl ?_
        have ha := Option.some.inj h
        subst ha
        exact G_iret rfl dX11_mayGo_46
      · refine G_ldc (pc2 := 42) kw_990 dX11_mayGo_40 rfl ?_
        refine G_goto (tgt := 46) dX11_mayGo_42 (by decide) ?_
        have ha := Option.some.inj h
        subst ha
        exact G_iret rfl dX11_mayGo_46
    · refine G_ldc (pc2 := 24) kw_1147 dX11_mayGo_22 rfl ?_
      refine G_goto (tgt := 46) dX11_mayGo_24 (by decide) ?_
      have ha := Option.some.inj h
      subst ha
      exact G_iret rfl dX11_mayGo_46
  · refine G_ldc (pc2 := 12) kw_989 dX11_mayGo_10 rfl ?_
    have ha := Option.some.inj h
    subst ha
    exact G_iret rfl dX11_mayGo_12)
end
