noncomputable section
def L_X11_oneHour_2 (k : WF → Option (WF))  (I : WI) : Nat → Int32 → WF → Option (WF)
  | 0, _, _ => none
  | n + 1, x1, F =>
  if (F 2 2) ≤ x1 then (k F)
  else (ixG ((33 : Int32) + x1) 134 (
  ixG ((24 : Int32) + x1) 134 (
  bnd (fun (s_1423 : Int32) => bnd ((F 3 ((33 : Int32) + x1).toNatClampNeg) - s_1423) fun x2_1424 =>
  bnd (fun (s_1426 : Int32) => ixG ((33 : Int32) + x1) 134 (bnd (uF F 3 (upd (F 3) ((33 : Int32) + x1).toNatClampNeg s_1426)) fun F_1427 =>
  bnd (x1 + (1 : Int32)) fun x1_1428 =>
  L_X11_oneHour_2 k I n x1_1428 F_1427)) fun j58_1425 =>
  if 0 ≤ x2_1424 then (j58_1425 x2_1424)
  else (j58_1425 (0 : Int32))) fun j39_1422 =>
  if (F 3 ((24 : Int32) + x1).toNatClampNeg) = (-1 : Int32) then (j39_1422 (3 : Int32))
  else (j39_1422 (1 : Int32)))))
def L_X11_oneHour_67 (k : WF → Option (WF))  (I : WI) : Nat → Int32 → WF → Option (WF)
  | 0, _, _ => none
  | n + 1, x1, F =>
  if (F 2 3) ≤ x1 then (k F)
  else (ixG ((6 : Int32) + x1) 134 (
  ixG ((6 : Int32) + x1) 134 (
  ixG ((6 : Int32) + x1) 134 (bnd (uF F 3 (upd (F 3) ((6 : Int32) + x1).toNatClampNeg ((F 3 ((6 : Int32) + x1).toNatClampNeg) - ((F 3 ((6 : Int32) + x1).toNatClampNeg) - (F 3 ((6 : Int32) + x1).toNatClampNeg) / (2 : Int32) * (2 : Int32))))) fun F_1431 =>
  bnd (x1 + (1 : Int32)) fun x1_1432 =>
  L_X11_oneHour_67 k I n x1_1432 F_1431))))
def f_X11_oneHour (I : WI) (F : WF) : Option (WF) :=
  bnd (0 : Int32) fun x1_1421 =>
  L_X11_oneHour_2 (fun F_1429 => bnd (0 : Int32) fun x1_1430 =>
  L_X11_oneHour_67 (fun F_1433 => bnd (uF F_1433 3 (upd (F_1433 3) 51 ((F_1433 3 51) + (1 : Int32)))) fun F_1434 =>
  some F_1434) I FU x1_1430 F_1429) I FU x1_1421 F
set_option maxRecDepth 100000 in
set_option maxHeartbeats 4000000 in
theorem g_L_X11_oneHour_2 {X : XT} {I : WI} {J : WI} {K : WF} {a : WF} {k : WF → Option (WF)} (hk : ∀ (F' : WF), (k F' = some a → GG X md_X11_oneHour (rmD 1) (gv_Z X (rmD 1).cells (rmD 1).slots none (mkW J K I a)) 0 0 65 [(0, .ref 209)] [] (mkW J K I F'))) : ∀ (n : Nat) (x1 : Int32) (F : WF), L_X11_oneHour_2 k I n x1 F = some a → GG X md_X11_oneHour (rmD 1) (gv_Z X (rmD 1).cells (rmD 1).slots none (mkW J K I a)) 0 0 2 [(0, .ref 209), (1, .int x1)] [] (mkW J K I F) := by
  intro n
  induction n with
  | zero =>
    intro x1 F h
    rw [L_X11_oneHour_2] at h
    cases h
  | succ n ih =>
    intro x1 F h
    rw [L_X11_oneHour_2] at h
    refine G_iload_n (pc2 := 3) 1 rfl dX11_oneHour_2 rfl rfl ?_
    refine G_aload_n (pc2 := 4) 0 rfl dX11_oneHour_3 rfl rfl ?_
    refine T_209_8 (pc2 := 7) kw_910 dX11_oneHour_4 rfl ?_
    refine G_iconst (pc2 := 8) dX11_oneHour_7 ic_2 rfl ?_
    refine AMc (pc2 := 9) (fa_212 _ _ _ _) cl_2 rfl dX11_oneHour_8 rfl ?_
    refine B_icmp_ge (tgt := 65) (pc2 := 12) h dX11_oneHour_9 (by decide) rfl (fun _ h => ?_) (fun _ h => ?_)
    · refine G_sub (ls' := [(0, .ref 209)]) [0] rfl ?_
      exact hk F h
    · refine G_aload_n (pc2 := 13) 0 rfl dX11_oneHour_12 rfl rfl ?_
      refine T_209_9 (pc2 := 16) kw_911 dX11_oneHour_13 rfl ?_
      refine G_bipush (pc2 := 18) dX11_oneHour_16 ib_33 rfl ?_
      refine G_iload_n (pc2 := 19) 1 rfl dX11_oneHour_18 rfl rfl ?_
      refine G_iadd (pc2 := 20) dX11_oneHour_19 rfl ?_
      refine AM (pc2 := 21) (fa_213 _ _ _ _) h dX11_oneHour_20 rfl (fun h => ?_)
      refine G_aload_n (pc2 := 22) 0 rfl dX11_oneHour_21 rfl rfl ?_
      refine T_209_9 (pc2 := 25) kw_911 dX11_oneHour_22 rfl ?_
      refine G_bipush (pc2 := 27) dX11_oneHour_25 ib_24 rfl ?_
      refine G_iload_n (pc2 := 28) 1 rfl dX11_oneHour_27 rfl rfl ?_
      refine G_iadd (pc2 := 29) dX11_oneHour_28 rfl ?_
      refine AM (pc2 := 30) (fa_213 _ _ _ _) h dX11_oneHour_29 rfl (fun h => ?_)
      refine G_iconst (pc2 := 31) dX11_oneHour_30 ic_m1 rfl ?_
      refine jn_e (Gj := True) (fun (j : Int32 → Option (WF)) => ∀ (s_1423 : Int32), j s_1423 = some a → GG X md_X11_oneHour (rmD 1) (gv_Z X (rmD 1).cells (rmD 1).slots none (mkW J K I a)) 0 0 39 [(0, .ref 209), (1, .int x1)] [.int s_1423, .int (F 3 ((33 : Int32) + x1).toNatClampNeg)] (mkW J K I F)) h (fun s_1423 h => ?_) (fun j39_1422 hj39_1422 h => ?_)
      · refine G_isub (pc2 := 40) dX11_oneHour_39 rfl ?_
        refine B_istore_n (pc2 := 41) (fun x2_1424 => [(2, .int x2_1424), (0, .ref 209), (1, .int x1)]) h dX11_oneHour_40 rfl (by decide) (fun _ => rfl) rfl (fun x2_1424 h => ?_)
        refine G_aload_n (pc2 := 42) 1 rfl dX11_oneHour_41 rfl rfl ?_
        refine T_209_9 (pc2 := 45) kw_911 dX11_oneHour_42 rfl ?_
        refine G_bipush (pc2 := 47) dX11_oneHour_45 ib_33 rfl ?_
        refine G_iload_n (pc2 := 48) 2 rfl dX11_oneHour_47 rfl rfl ?_
        refine G_iadd (pc2 := 49) dX11_oneHour_48 rfl ?_
        refine G_iload_n (pc2 := 50) 0 rfl dX11_oneHour_49 rfl rfl ?_
        refine jn_e (Gj := True) (fun (j : Int32 → Option (WF)) => ∀ (s_1426 : Int32), j s_1426 = some a → GG X md_X11_oneHour (rmD 1) (gv_Z X (rmD 1).cells (rmD 1).slots none (mkW J K I a)) 0 0 58 [(0, .ref 209), (1, .int x1)] [.int s_1426, .int ((33 : Int32) + x1), .ref 213] (mkW J K I F)) h (fun s_1426 h => ?_) (fun j58_1425 hj58_1425 h => ?_)
        · refine SM (pc2 := 59) (fa_213 _ _ _ _) h dX11_oneHour_58 rfl (fun F_1427 h => ?_)
          refine B_iinc (pc2 := 62) 1 (fun x1_1428 => [(1, .int x1_1428), (0, .ref 209)]) h rfl dX11_oneHour_59 ic_1 (by decide) (fun _ => rfl) rfl (fun x1_1428 h => ?_)
          refine G_goto (tgt := 2) dX11_oneHour_62 (by decide) ?_
          refine G_sub (ls' := [(0, .ref 209), (1, .int x1_1428)]) [1, 0] rfl ?_
          exact ih x1_1428 F_1427 h
        refine B_if_ge (tgt := 57) (pc2 := 53) h dX11_oneHour_50 (by decide) rfl (fun _ h => ?_) (fun _ h => ?_)
        · refine G_iload_n (pc2 := 58) 0 rfl dX11_oneHour_57 rfl rfl ?_
          refine G_sub (ls' := [(0, .ref 209), (1, .int x1)]) [1, 2] rfl ?_
          exact hj58_1425 x2_1424 h
        · refine G_iconst (pc2 := 54) dX11_oneHour_53 ic_0 rfl ?_
          refine G_goto (tgt := 58) dX11_oneHour_54 (by decide) ?_
          refine G_sub (ls' := [(0, .ref 209), (1, .int x1)]) [1, 2] rfl ?_
          exact hj58_1425 (0 : Int32) h
      refine B_icmp_ne (tgt := 38) (pc2 := 34) h dX11_oneHour_31 (by decide) rfl (fun _ h => ?_) (fun _ h => ?_)
      · refine G_iconst (pc2 := 39) dX11_oneHour_38 ic_1 rfl ?_
        exact hj39_1422 (1 : Int32) h
      · refine G_iconst (pc2 := 35) dX11_oneHour_34 ic_3 rfl ?_
        refine G_goto (tgt := 39) dX11_oneHour_35 (by decide) ?_
        exact hj39_1422 (3 : Int32) h
set_option maxRecDepth 100000 in
set_option maxHeartbeats 4000000 in
theorem g_L_X11_oneHour_67 {X : XT} {I : WI} {J : WI} {K : WF} {a : WF} {k : WF → Option (WF)} (hk : ∀ (F' : WF), (k F' = some a → GG X md_X11_oneHour (rmD 1) (gv_Z X (rmD 1).cells (rmD 1).slots none (mkW J K I a)) 0 0 106 [(0, .ref 209)] [] (mkW J K I F'))) : ∀ (n : Nat) (x1 : Int32) (F : WF), L_X11_oneHour_67 k I n x1 F = some a → GG X md_X11_oneHour (rmD 1) (gv_Z X (rmD 1).cells (rmD 1).slots none (mkW J K I a)) 0 0 67 [(0, .ref 209), (1, .int x1)] [] (mkW J K I F) := by
  intro n
  induction n with
  | zero =>
    intro x1 F h
    rw [L_X11_oneHour_67] at h
    cases h
  | succ n ih =>
    intro x1 F h
    rw [L_X11_oneHour_67] at h
    refine G_iload_n (pc2 := 68) 1 rfl dX11_oneHour_67 rfl rfl ?_
    refine G_aload_n (pc2 := 69) 0 rfl dX11_oneHour_68 rfl rfl ?_
    refine T_209_8 (pc2 := 72) kw_910 dX11_oneHour_69 rfl ?_
    refine G_iconst (pc2 := 73) dX11_oneHour_72 ic_3 rfl ?_
    refine AMc (pc2 := 74) (fa_212 _ _ _ _) cl_3 rfl dX11_oneHour_73 rfl ?_
    refine B_icmp_ge (tgt := 106) (pc2 := 77) h dX11_oneHour_74 (by decide) rfl (fun _ h => ?_) (fun _ h => ?_)
    · refine G_sub (ls' := [(0, .ref 209)]) [0] rfl ?_
      exact hk F h
    · refine G_aload_n (pc2 := 78) 0 rfl dX11_oneHour_77 rfl rfl ?_
      refine T_209_9 (pc2 := 81) kw_911 dX11_oneHour_78 rfl ?_
      refine G_bipush (pc2 := 83) dX11_oneHour_81 ib_6 rfl ?_
      refine G_iload_n (pc2 := 84) 1 rfl dX11_oneHour_83 rfl rfl ?_
      refine G_iadd (pc2 := 85) dX11_oneHour_84 rfl ?_
      refine G_dup2 (pc2 := 86) rfl rfl dX11_oneHour_85 rfl ?_
      refine AM (pc2 := 87) (fa_213 _ _ _ _) h dX11_oneHour_86 rfl (fun h => ?_)
      refine G_aload_n (pc2 := 88) 0 rfl dX11_oneHour_87 rfl rfl ?_
      refine T_209_9 (pc2 := 91) kw_911 dX11_oneHour_88 rfl ?_
      refine G_bipush (pc2 := 93) dX11_oneHour_91 ib_6 rfl ?_
      refine G_iload_n (pc2 := 94) 1 rfl dX11_oneHour_93 rfl rfl ?_
      refine G_iadd (pc2 := 95) dX11_oneHour_94 rfl ?_
      refine AM (pc2 := 96) (fa_213 _ _ _ _) h dX11_oneHour_95 rfl (fun h => ?_)
      refine G_iconst (pc2 := 97) dX11_oneHour_96 ic_2 rfl ?_
      refine G_irem (pc2 := 98) dX11_oneHour_97 (by decide) rfl ?_
      refine G_isub (pc2 := 99) dX11_oneHour_98 rfl ?_
      refine SM (pc2 := 100) (fa_213 _ _ _ _) h dX11_oneHour_99 rfl (fun F_1431 h => ?_)
      refine B_iinc (pc2 := 103) 1 (fun x1_1432 => [(1, .int x1_1432), (0, .ref 209)]) h rfl dX11_oneHour_100 ic_1 (by decide) (fun _ => rfl) rfl (fun x1_1432 h => ?_)
      refine G_goto (tgt := 67) dX11_oneHour_103 (by decide) ?_
      refine G_sub (ls' := [(0, .ref 209), (1, .int x1_1432)]) [1, 0] rfl ?_
      exact ih x1_1432 F_1431 h
set_option maxRecDepth 100000 in
set_option maxHeartbeats 4000000 in
theorem c_X11_oneHour {I : WI} {F : WF} {J : WI} {K : WF} {a : WF} (h : f_X11_oneHour  I F = some a) : CT md_X11_oneHour yX11_oneHour (rmD 1) [.ref 209] (mkW J K I F) none (mkW J K I a) := CT_of pn_X11 ⟨rfl, rfl⟩ (Nat.le_of_ble_eq_true rfl) (fun X => by
  show GG X md_X11_oneHour (rmD 1) _ 0 0 0 [(0, .ref 209)] [] (mkW J K I F)
  unfold f_X11_oneHour at h
  refine G_iconst (pc2 := 1) dX11_oneHour_0 ic_0 rfl ?_
  refine B_istore_n (pc2 := 2) (fun x1_1421 => [(1, .int x1_1421), (0, .ref 209)]) h dX11_oneHour_1 rfl (by decide) (fun _ => rfl) rfl (fun x1_1421 h => ?_)
  refine G_sub (ls' := [(0, .ref 209), (1, .int x1_1421)]) [1, 0] rfl ?_
  refine g_L_X11_oneHour_2 (fun F_1429 h => ?_) FU x1_1421 F h
  refine G_iconst (pc2 := 66) dX11_oneHour_65 ic_0 rfl ?_
  refine B_istore_n (pc2 := 67) (fun x1_1430 => [(1, .int x1_1430), (0, .ref 209)]) h dX11_oneHour_66 rfl (by decide) (fun _ => rfl) rfl (fun x1_1430 h => ?_)
  refine G_sub (ls' := [(0, .ref 209), (1, .int x1_1430)]) [1, 0] rfl ?_
  refine g_L_X11_oneHour_67 (fun F_1433 h => ?_) FU x1_1430 F_1429 h
  refine G_aload_n (pc2 := 107) 0 rfl dX11_oneHour_106 rfl rfl ?_
  refine T_209_9 (pc2 := 110) kw_911 dX11_oneHour_107 rfl ?_
  refine G_bipush (pc2 := 112) dX11_oneHour_110 ib_51 rfl ?_
  refine G_dup2 (pc2 := 113) rfl rfl dX11_oneHour_112 rfl ?_
  refine AMc (pc2 := 114) (fa_213 _ _ _ _) cl_51 rfl dX11_oneHour_113 rfl ?_
  refine G_iconst (pc2 := 115) dX11_oneHour_114 ic_1 rfl ?_
  refine G_iadd (pc2 := 116) dX11_oneHour_115 rfl ?_
  refine SMc (pc2 := 117) (fa_213 _ _ _ _) h cl_51 rfl dX11_oneHour_116 rfl (fun F_1434 h => ?_)
  have ha := Option.some.inj h
  subst ha
  exact G_vret rfl dX11_oneHour_117)
def L_X11_hour_23 (k : WF → Option (Int32 × WI × WF)) (x1 : Int32) (I : WI) : Nat → Int32 → WF → Option (Int32 × WI × WF)
  | 0, _, _ => none
  | n + 1, x3, F =>
  if x1 ≤ x3 then (k F)
  else (Option.bind (f_X11_oneHour I F) fun c_1435 =>
  bnd (x3 + (1 : Int32)) fun x3_1436 =>
  L_X11_hour_23 k x1 I n x3_1436 c_1435)
def f_X11_hour (x1 : Int32) (I : WI) (F : WF) : Option (Int32 × WI × WF) :=
  bnd (upd I 0 (0 : Int32)) fun I_1415 =>
  Option.bind (f_X11_mayGo x1 I_1415 F) fun c_1417 =>
  bnd c_1417 fun x2_1418 =>
  if x2_1418 = 0 then (Option.bind (f_X11_notes I_1415 F) fun c_1419 =>
  bnd (0 : Int32) fun x3_1420 =>
  L_X11_hour_23 (fun F_1437 => some ((F_1437 3 51), c_1419.1, F_1437)) x1 c_1419.1 FU x3_1420 c_1419.2)
  else (some (x2_1418, I_1415, F))
set_option maxRecDepth 100000 in
set_option maxHeartbeats 4000000 in
theorem g_L_X11_hour_23 {X : XT} {x1 : Int32} {I : WI} {J : WI} {K : WF} {a : Int32 × WI × WF} {k : WF → Option (Int32 × WI × WF)} (hk : ∀ (F' : WF), (k F' = some a → GG X md_X11_hour (rmD 3) (gv_Z X (rmD 3).cells (rmD 3).slots (some (.int a.1)) (mkW J K a.2.1 a.2.2)) 0 0 38 [(0, .ref 209)] [] (mkW J K I F'))) : ∀ (n : Nat) (x3 : Int32) (F : WF), L_X11_hour_23 k x1 I n x3 F = some a → GG X md_X11_hour (rmD 3) (gv_Z X (rmD 3).cells (rmD 3).slots (some (.int a.1)) (mkW J K a.2.1 a.2.2)) 0 0 23 [(0, .ref 209), (1, .int x1), (3, .int x3)] [] (mkW J K I F) := by
  intro n
  induction n with
  | zero =>
    intro x3 F h
    rw [L_X11_hour_23] at h
    cases h
  | succ n ih =>
    intro x3 F h
    rw [L_X11_hour_23] at h
    refine G_iload_n (pc2 := 24) 2 rfl dX11_hour_23 rfl rfl ?_
    refine G_iload_n (pc2 := 25) 1 rfl dX11_hour_24 rfl rfl ?_
    refine B_icmp_ge (tgt := 38) (pc2 := 28) h dX11_hour_25 (by decide) rfl (fun _ h => ?_) (fun _ h => ?_)
    · refine G_sub (ls' := [(0, .ref 209)]) [0] rfl ?_
      exact hk F h
    · refine G_aload_n (pc2 := 29) 0 rfl dX11_hour_28 rfl rfl ?_
      obtain ⟨c_1435, hc_1435, h⟩ := ob_e h
      refine B_callV (pc2 := 32) si_X11_210 (c_X11_oneHour hc_1435) (qo_209 _ _ _ _) rfl rfl rfl (st := []) (stq := []) rfl (by decide) (by decide) (Nat.le_of_ble_eq_true rfl) mkW_ll dX11_hour_29 rfl rfl ?_ ⟨rfl, rfl⟩
      refine B_iinc (pc2 := 35) 2 (fun x3_1436 => [(3, .int x3_1436), (0, .ref 209), (1, .int x1)]) h rfl dX11_hour_32 ic_1 (by decide) (fun _ => rfl) rfl (fun x3_1436 h => ?_)
      refine G_goto (tgt := 23) dX11_hour_35 (by decide) ?_
      refine G_sub (ls' := [(0, .ref 209), (1, .int x1), (3, .int x3_1436)]) [1, 2, 0] rfl ?_
      exact ih x3_1436 c_1435 h
set_option maxRecDepth 100000 in
set_option maxHeartbeats 4000000 in
theorem c_X11_hour {x1 : Int32} {I : WI} {F : WF} {J : WI} {K : WF} {a : Int32 × WI × WF} (h : f_X11_hour x1 I F = some a) : CT md_X11_hour yX11_hour (rmD 3) [.ref 209, .int x1] (mkW J K I F) (some (.int a.1)) (mkW J K a.2.1 a.2.2) := CT_of pn_X11 ⟨rfl, rfl⟩ (Nat.le_of_ble_eq_true rfl) (fun X => by
  show GG X md_X11_hour (rmD 3) _ 0 0 0 [(0, .ref 209), (1, .int x1)] [] (mkW J K I F)
  unfold f_X11_hour at h
  refine G_aload_n (pc2 := 1) 0 rfl dX11_hour_0 rfl rfl ?_
  refine G_iconst (pc2 := 2) dX11_hour_1 ic_0 rfl ?_
  refine P_209_0 (pc2 := 5) h kw_902 dX11_hour_2 rfl (fun I_1415 h => ?_)
  refine G_aload_n (pc2 := 6) 0 rfl dX11_hour_5 rfl rfl ?_
  refine G_iload_n (pc2 := 7) 1 rfl dX11_hour_6 rfl rfl ?_
  obtain ⟨c_1417, hc_1417, h⟩ := ob_e h
  refine B_callV (pc2 := 10) si_X11_207 (c_X11_mayGo hc_1417) (qo_209 _ _ _ _) rfl rfl rfl (st := []) (stq := [.int c_1417]) rfl (by decide) (by decide) (Nat.le_of_ble_eq_true rfl) mkW_ll dX11_hour_7 rfl rfl ?_ ⟨rfl, rfl⟩
  refine B_istore_n (pc2 := 11) (fun x2_1418 => [(2, .int x2_1418), (0, .ref 209), (1, .int x1)]) h dX11_hour_10 rfl (by decide) (fun _ => rfl) rfl (fun x2_1418 h => ?_)
  refine G_iload_n (pc2 := 12) 0 rfl dX11_hour_11 rfl rfl ?_
  refine B_if_eq (tgt := 17) (pc2 := 15) h dX11_hour_12 (by decide) rfl (fun _ h => ?_) (fun _ h => ?_)
  · refine G_aload_n (pc2 := 18) 1 rfl dX11_hour_17 rfl rfl ?_
    obtain ⟨c_1419, hc_1419, h⟩ := ob_e h
    refine B_callV (pc2 := 21) si_X11_200 (c_X11_notes hc_1419) (qo_209 _ _ _ _) rfl rfl rfl (st := []) (stq := []) rfl (by decide) (by decide) (Nat.le_of_ble_eq_true rfl) mkW_ll dX11_hour_18 rfl rfl ?_ ⟨rfl, rfl⟩
    refine G_iconst (pc2 := 22) dX11_hour_21 ic_0 rfl ?_
    refine B_istore_n (pc2 := 23) (fun x3_1420 => [(3, .int x3_1420), (2, .int x2_1418), (0, .ref 209), (1, .int x1)]) h dX11_hour_22 rfl (by decide) (fun _ => rfl) rfl (fun x3_1420 h => ?_)
    refine G_sub (ls' := [(0, .ref 209), (1, .int x1), (3, .int x3_1420)]) [2, 3, 0] rfl ?_
    refine g_L_X11_hour_23 (fun F_1437 h => ?_) FU x3_1420 c_1419.2 h
    refine G_aload_n (pc2 := 39) 0 rfl dX11_hour_38 rfl rfl ?_
    refine T_209_9 (pc2 := 42) kw_911 dX11_hour_39 rfl ?_
    refine G_bipush (pc2 := 44) dX11_hour_42 ib_51 rfl ?_
    refine AMc (pc2 := 45) (fa_213 _ _ _ _) cl_51 rfl dX11_hour_44 rfl ?_
    have ha := Option.some.inj h
    subst ha
    exact G_iret rfl dX11_hour_45
  · refine G_iload_n (pc2 := 16) 0 rfl dX11_hour_15 rfl rfl ?_
    have ha := Option.some.inj h
    subst ha
    exact G_iret rfl dX11_hour_16)
def f_X11_draw (x1 : Int32) (I : WI) (F : WF) : Option (Int32 × WF) :=
  bnd ((F 3 133).toInt64) fun x2_1447 =>
  bnd (((x2_1447 * (1103515245 : Int64)) + (12345 : Int64)) - ((x2_1447 * (1103515245 : Int64)) + (12345 : Int64)) / (2147483648 : Int64) * (2147483648 : Int64)) fun x2_1448 =>
  bnd (uF F 3 (upd (F 3) 133 x2_1448.toInt32)) fun F_1449 =>
  nzI x1 (
  some ((((F_1449 3 133) / (65536 : Int32)) - ((F_1449 3 133) / (65536 : Int32)) / x1 * x1), F_1449))
set_option maxRecDepth 100000 in
set_option maxHeartbeats 4000000 in
theorem c_X11_draw {x1 : Int32} {I : WI} {F : WF} {J : WI} {K : WF} {a : Int32 × WF} (h : f_X11_draw x1 I F = some a) : CT md_X11_draw yX11_draw (rmD 1) [.ref 209, .int x1] (mkW J K I F) (some (.int a.1)) (mkW J K I a.2) := CT_of pn_X11 ⟨rfl, rfl⟩ (Nat.le_of_ble_eq_true rfl) (fun X => by
  show GG X md_X11_draw (rmD 1) _ 0 0 0 [(0, .ref 209), (1, .int x1)] [] (mkW J K I F)
  unfold f_X11_draw at h
  refine G_aload_n (pc2 := 1) 0 rfl dX11_draw_0 rfl rfl ?_
  refine T_209_9 (pc2 := 4) kw_911 dX11_draw_1 rfl ?_
  refine G_sipush (pc2 := 7) dX11_draw_4 is_133 rfl ?_
  refine AMc (pc2 := 8) (fa_213 _ _ _ _) cl_133 rfl dX11_draw_7 rfl ?_
  refine G_i2l (pc2 := 9) dX11_draw_8 rfl ?_
  refine B_lstore_n (pc2 := 10) (fun x2_1447 => [(2, .long x2_1447), (0, .ref 209), (1, .int x1)]) h dX11_draw_9 rfl (by decide) (fun _ => rfl) rfl (fun x2_1447 h => ?_)
  refine G_lload_n (pc2 := 11) 0 rfl dX11_draw_10 rfl rfl ?_
  refine G_ldc2 (pc2 := 14) kw_1197 dX11_draw_11 rfl ?_
  refine G_lmul (pc2 := 15) dX11_draw_14 rfl ?_
  refine G_ldc2 (pc2 := 18) kw_1198 dX11_draw_15 rfl ?_
  refine G_ladd (pc2 := 19) dX11_draw_18 rfl ?_
  refine G_ldc2 (pc2 := 22) kw_1199 dX11_draw_19 rfl ?_
  refine G_lrem (pc2 := 23) dX11_draw_22 (by decide) rfl ?_
  refine B_lstore_n (pc2 := 24) (fun x2_1448 => [(2, .long x2_1448), (0, .ref 209), (1, .int x1)]) h dX11_draw_23 rfl (by decide) (fun _ => rfl) rfl (fun x2_1448 h => ?_)
  refine G_aload_n (pc2 := 25) 1 rfl dX11_draw_24 rfl rfl ?_
  refine T_209_9 (pc2 := 28) kw_911 dX11_draw_25 rfl ?_
  refine G_sipush (pc2 := 31) dX11_draw_28 is_133 rfl ?_
  refine G_lload_n (pc2 := 32) 0 rfl dX11_draw_31 rfl rfl ?_
  refine G_l2i (pc2 := 33) dX11_draw_32 rfl ?_
  refine SMc (pc2 := 34) (fa_213 _ _ _ _) h cl_133 rfl dX11_draw_33 rfl (fun F_1449 h => ?_)
  refine G_aload_n (pc2 := 35) 1 rfl dX11_draw_34 rfl rfl ?_
  refine T_209_9 (pc2 := 38) kw_911 dX11_draw_35 rfl ?_
  refine G_sipush (pc2 := 41) dX11_draw_38 is_133 rfl ?_
  refine AMc (pc2 := 42) (fa_213 _ _ _ _) cl_133 rfl dX11_draw_41 rfl ?_
  refine G_ldc (pc2 := 44) kw_1200 dX11_draw_42 rfl ?_
  refine G_idiv (pc2 := 45) dX11_draw_44 (by decide) rfl ?_
  refine G_iload_n (pc2 := 46) 2 rfl dX11_draw_45 rfl rfl ?_
  obtain ⟨qz_1450, h⟩ := nzI_e h
  refine G_irem (pc2 := 47) dX11_draw_46 qz_1450 rfl ?_
  have ha := Option.some.inj h
  subst ha
  exact G_iret rfl dX11_draw_47)
def L_X11_drift_23 (k : WF → Option (Int32 × WI × WF)) (x1 : Int32) (I : WI) : Nat → Int32 → WF → Option (Int32 × WI × WF)
  | 0, _, _ => none
  | n + 1, x3, F =>
  if x1 ≤ x3 then (k F)
  else (bnd (fun (F_1444 : WF) => Option.bind (f_X11_oneHour I F_1444) fun c_1445 =>
  bnd (x3 + (1 : Int32)) fun x3_1446 =>
  L_X11_drift_23 k x1 I n x3_1446 c_1445) fun j126_1443 =>
  if (F 2 3) ≤ 0 then (j126_1443 F)
  else (if (F 2 1) ≤ 0 then (j126_1443 F)
  else (Option.bind (f_X11_draw (F 2 3) I F) fun c_1451 =>
  bnd c_1451.1 fun x4_1452 =>
  Option.bind (f_X11_draw (c_1451.2 2 1) I c_1451.2) fun c_1453 =>
  bnd c_1453.1 fun x5_1454 =>
  Option.bind (f_X11_draw (100 : Int32) I c_1453.2) fun c_1455 =>
  bnd c_1455.1 fun x6_1456 =>
  ixG ((0 : Int32) + x4_1452) 134 (
  Option.bind (f_X11_beyond x5_1454 (c_1455.2 3 ((0 : Int32) + x4_1452).toNatClampNeg) I c_1455.2) fun c_1457 =>
  if c_1457 = (-1 : Int32) then (j126_1443 c_1455.2)
  else (ixG ((31 : Int32) + x5_1454) 70 (
  bnd (fun (s_1459 : Int32) => Option.bind (f_X11_leaps x4_1452 x5_1454 s_1459 I c_1455.2) fun c_1460 =>
  j126_1443 c_1460.2) fun j122_1458 =>
  if (c_1455.2 2 ((31 : Int32) + x5_1454).toNatClampNeg) ≤ x6_1456 then (j122_1458 (0 : Int32))
  else (j122_1458 (1 : Int32))))))))
def f_X11_drift (x1 : Int32) (I : WI) (F : WF) : Option (Int32 × WI × WF) :=
  bnd (upd I 0 (0 : Int32)) fun I_1438 =>
  Option.bind (f_X11_mayGo x1 I_1438 F) fun c_1439 =>
  bnd c_1439 fun x2_1440 =>
  if x2_1440 = 0 then (Option.bind (f_X11_notes I_1438 F) fun c_1441 =>
  bnd (0 : Int32) fun x3_1442 =>
  L_X11_drift_23 (fun F_1461 => some ((F_1461 3 51), c_1441.1, F_1461)) x1 c_1441.1 FU x3_1442 c_1441.2)
  else (some (x2_1440, I_1438, F))
set_option maxRecDepth 100000 in
set_option maxHeartbeats 4000000 in
theorem g_L_X11_drift_23 {X : XT} {x1 : Int32} {I : WI} {J : WI} {K : WF} {a : Int32 × WI × WF} {k : WF → Option (Int32 × WI × WF)} (hk : ∀ (F' : WF), (k F' = some a → GG X md_X11_drift (rmD 5) (gv_Z X (rmD 5).cells (rmD 5).slots (some (.int a.1)) (mkW J K a.2.1 a.2.2)) 0 0 136 [(0, .ref 209)] [] (mkW J K I F'))) : ∀ (n : Nat) (x3 : Int32) (F : WF), L_X11_drift_23 k x1 I n x3 F = some a → GG X md_X11_drift (rmD 5) (gv_Z X (rmD 5).cells (rmD 5).slots (some (.int a.1)) (mkW J K a.2.1 a.2.2)) 0 0 23 [(0, .ref 209), (1, .int x1), (3, .int x3)] [] (mkW J K I F) := by
  intro n
  induction n with
  | zero =>
    intro x3 F h
    rw [L_X11_drift_23] at h
    cases h
  | succ n ih =>
    intro x3 F h
    rw [L_X11_drift_23] at h
    refine G_iload_n (pc2 := 24) 2 rfl dX11_drift_23 rfl rfl ?_
    refine G_iload_n (pc2 := 25) 1 rfl dX11_drift_24 rfl rfl ?_
    refine B_icmp_ge (tgt := 136) (pc2 := 28) h dX11_drift_25 (by decide) rfl (fun _ h => ?_) (fun _ h => ?_)
    · refine G_sub (ls' := [(0, .ref 209)]) [0] rfl ?_
      exact hk F h
    · refine G_aload_n (pc2 := 29) 0 rfl dX11_drift_28 rfl rfl ?_
      refine T_209_8 (pc2 := 32) kw_910 dX11_drift_29 rfl ?_
      refine G_iconst (pc2 := 33) dX11_drift_32 ic_3 rfl ?_
      refine AMc (pc2 := 34) (fa_212 _ _ _ _) cl_3 rfl dX11_drift_33 rfl ?_
      refine jn_e (Gj := True) (fun (j : WF → Option (Int32 × WI × WF)) => ∀ (F_1444 : WF), j F_1444 = some a → GG X md_X11_drift (rmD 5) (gv_Z X (rmD 5).cells (rmD 5).slots (some (.int a.1)) (mkW J K a.2.1 a.2.2)) 0 0 126 [(0, .ref 209), (1, .int x1), (3, .int x3)] [] (mkW J K I F_1444)) h (fun F_1444 h => ?_) (fun j126_1443 hj126_1443 h => ?_)
      · refine G_aload_n (pc2 := 127) 0 rfl dX11_drift_126 rfl rfl ?_
        obtain ⟨c_1445, hc_1445, h⟩ := ob_e h
        refine B_callV (pc2 := 130) si_X11_210 (c_X11_oneHour hc_1445) (qo_209 _ _ _ _) rfl rfl rfl (st := []) (stq := []) rfl (by decide) (by decide) (Nat.le_of_ble_eq_true rfl) mkW_ll dX11_drift_127 rfl rfl ?_ ⟨rfl, rfl⟩
        refine B_iinc (pc2 := 133) 2 (fun x3_1446 => [(3, .int x3_1446), (0, .ref 209), (1, .int x1)]) h rfl dX11_drift_130 ic_1 (by decide) (fun _ => rfl) rfl (fun x3_1446 h => ?_)
        refine G_goto (tgt := 23) dX11_drift_133 (by decide) ?_
        refine G_sub (ls' := [(0, .ref 209), (1, .int x1), (3, .int x3_1446)]) [1, 2, 0] rfl ?_
        exact ih x3_1446 c_1445 h
      refine B_if_le (tgt := 126) (pc2 := 37) h dX11_drift_34 (by decide) rfl (fun _ h => ?_) (fun _ h => ?_)
      · exact hj126_1443 F h
      · refine G_aload_n (pc2 := 38) 0 rfl dX11_drift_37 rfl rfl ?_
        refine T_209_8 (pc2 := 41) kw_910 dX11_drift_38 rfl ?_
        refine G_iconst (pc2 := 42) dX11_drift_41 ic_1 rfl ?_
        refine AMc (pc2 := 43) (fa_212 _ _ _ _) cl_1 rfl dX11_drift_42 rfl ?_
        refine B_if_le (tgt := 126) (pc2 := 46) h dX11_drift_43 (by decide) rfl (fun _ h => ?_) (fun _ h => ?_)
        · exact hj126_1443 F h
        · refine G_aload_n (pc2 := 47) 0 rfl dX11_drift_46 rfl rfl ?_
          refine G_aload_n (pc2 := 48) 0 rfl dX11_drift_47 rfl rfl ?_
          refine T_209_8 (pc2 := 51) kw_910 dX11_drift_48 rfl ?_
          refine G_iconst (pc2 := 52) dX11_drift_51 ic_3 rfl ?_
          refine AMc (pc2 := 53) (fa_212 _ _ _ _) cl_3 rfl dX11_drift_52 rfl ?_
          obtain ⟨c_1451, hc_1451, h⟩ := ob_e h
          refine B_callV (pc2 := 56) si_X11_220 (c_X11_draw hc_1451) (qo_209 _ _ _ _) rfl rfl rfl (st := []) (stq := [.int c_1451.1]) rfl (by decide) (by decide) (Nat.le_of_ble_eq_true rfl) mkW_ll dX11_drift_53 rfl rfl ?_ ⟨rfl, rfl⟩
          refine B_istore (pc2 := 58) (fun x4_1452 => [(4, .int x4_1452), (0, .ref 209), (1, .int x1), (3, .int x3)]) h dX11_drift_56 (by decide) (fun _ => rfl) rfl (fun x4_1452 h => ?_)
          refine G_aload_n (pc2 := 59) 1 rfl dX11_drift_58 rfl rfl ?_
          refine G_aload_n (pc2 := 60) 1 rfl dX11_drift_59 rfl rfl ?_
          refine T_209_8 (pc2 := 63) kw_910 dX11_drift_60 rfl ?_
          refine G_iconst (pc2 := 64) dX11_drift_63 ic_1 rfl ?_
          refine AMc (pc2 := 65) (fa_212 _ _ _ _) cl_1 rfl dX11_drift_64 rfl ?_
          obtain ⟨c_1453, hc_1453, h⟩ := ob_e h
          refine B_callV (pc2 := 68) si_X11_220 (c_X11_draw hc_1453) (qo_209 _ _ _ _) rfl rfl rfl (st := []) (stq := [.int c_1453.1]) rfl (by decide) (by decide) (Nat.le_of_ble_eq_true rfl) mkW_ll dX11_drift_65 rfl rfl ?_ ⟨rfl, rfl⟩
          refine B_istore (pc2 := 70) (fun x5_1454 => [(5, .int x5_1454), (4, .int x4_1452), (0, .ref 209), (1, .int x1), (3, .int x3)]) h dX11_drift_68 (by decide) (fun _ => rfl) rfl (fun x5_1454 h => ?_)
          refine G_aload_n (pc2 := 71) 2 rfl dX11_drift_70 rfl rfl ?_
          refine G_bipush (pc2 := 73) dX11_drift_71 ib_100 rfl ?_
          obtain ⟨c_1455, hc_1455, h⟩ := ob_e h
          refine B_callV (pc2 := 76) si_X11_220 (c_X11_draw hc_1455) (qo_209 _ _ _ _) rfl rfl rfl (st := []) (stq := [.int c_1455.1]) rfl (by decide) (by decide) (Nat.le_of_ble_eq_true rfl) mkW_ll dX11_drift_73 rfl rfl ?_ ⟨rfl, rfl⟩
          refine B_istore (pc2 := 78) (fun x6_1456 => [(6, .int x6_1456), (5, .int x5_1454), (4, .int x4_1452), (0, .ref 209), (1, .int x1), (3, .int x3)]) h dX11_drift_76 (by decide) (fun _ => rfl) rfl (fun x6_1456 h => ?_)
          refine G_aload_n (pc2 := 79) 3 rfl dX11_drift_78 rfl rfl ?_
          refine G_iload (pc2 := 81) 1 rfl dX11_drift_79 rfl ?_
          refine G_aload_n (pc2 := 82) 3 rfl dX11_drift_81 rfl rfl ?_
          refine T_209_9 (pc2 := 85) kw_911 dX11_drift_82 rfl ?_
          refine G_iconst (pc2 := 86) dX11_drift_85 ic_0 rfl ?_
          refine G_iload (pc2 := 88) 2 rfl dX11_drift_86 rfl ?_
          refine G_iadd (pc2 := 89) dX11_drift_88 rfl ?_
          refine AM (pc2 := 90) (fa_213 _ _ _ _) h dX11_drift_89 rfl (fun h => ?_)
          obtain ⟨c_1457, hc_1457, h⟩ := ob_e h
          refine B_callV (pc2 := 93) si_X11_193 (c_X11_beyond hc_1457) (qo_209 _ _ _ _) rfl rfl rfl (st := []) (stq := [.int c_1457]) rfl (by decide) (by decide) (Nat.le_of_ble_eq_true rfl) mkW_ll dX11_drift_90 rfl rfl ?_ ⟨rfl, rfl⟩
          refine G_iconst (pc2 := 94) dX11_drift_93 ic_m1 rfl ?_
          refine B_icmp_eq (tgt := 126) (pc2 := 97) h dX11_drift_94 (by decide) rfl (fun _ h => ?_) (fun _ h => ?_)
          · refine G_sub (ls' := [(0, .ref 209), (1, .int x1), (3, .int x3)]) [3, 4, 5] rfl ?_
            exact hj126_1443 c_1455.2 h
          · refine G_aload_n (pc2 := 98) 3 rfl dX11_drift_97 rfl rfl ?_
            refine G_iload (pc2 := 100) 2 rfl dX11_drift_98 rfl ?_
            refine G_iload (pc2 := 102) 1 rfl dX11_drift_100 rfl ?_
            refine G_iload (pc2 := 104) 0 rfl dX11_drift_102 rfl ?_
            refine G_aload_n (pc2 := 105) 3 rfl dX11_drift_104 rfl rfl ?_
            refine T_209_8 (pc2 := 108) kw_910 dX11_drift_105 rfl ?_
            refine G_bipush (pc2 := 110) dX11_drift_108 ib_31 rfl ?_
            refine G_iload (pc2 := 112) 1 rfl dX11_drift_110 rfl ?_
            refine G_iadd (pc2 := 113) dX11_drift_112 rfl ?_
            refine AM (pc2 := 114) (fa_212 _ _ _ _) h dX11_drift_113 rfl (fun h => ?_)
            refine jn_e (Gj := True) (fun (j : Int32 → Option (Int32 × WI × WF)) => ∀ (s_1459 : Int32), j s_1459 = some a → GG X md_X11_drift (rmD 5) (gv_Z X (rmD 5).cells (rmD 5).slots (some (.int a.1)) (mkW J K a.2.1 a.2.2)) 0 0 122 [(0, .ref 209), (1, .int x1), (3, .int x3)] [.int s_1459, .int x5_1454, .int x4_1452, .ref 209] (mkW J K I c_1455.2)) h (fun s_1459 h => ?_) (fun j122_1458 hj122_1458 h => ?_)
            · obtain ⟨c_1460, hc_1460, h⟩ := ob_e h
              refine B_callV (pc2 := 125) si_X11_203 (c_X11_leaps hc_1460) (qo_209 _ _ _ _) rfl rfl rfl (st := []) (stq := [.int c_1460.1]) rfl (by decide) (by decide) (Nat.le_of_ble_eq_true rfl) mkW_ll dX11_drift_122 rfl rfl ?_ ⟨rfl, rfl⟩
              refine G_pop (pc2 := 126) rfl dX11_drift_125 rfl ?_
              exact hj126_1443 c_1460.2 h
            refine B_icmp_ge (tgt := 121) (pc2 := 117) h dX11_drift_114 (by decide) rfl (fun _ h => ?_) (fun _ h => ?_)
            · refine G_iconst (pc2 := 122) dX11_drift_121 ic_0 rfl ?_
              refine G_sub (ls' := [(0, .ref 209), (1, .int x1), (3, .int x3)]) [3, 4, 5] rfl ?_
              exact hj122_1458 (0 : Int32) h
            · refine G_iconst (pc2 := 118) dX11_drift_117 ic_1 rfl ?_
              refine G_goto (tgt := 122) dX11_drift_118 (by decide) ?_
              refine G_sub (ls' := [(0, .ref 209), (1, .int x1), (3, .int x3)]) [3, 4, 5] rfl ?_
              exact hj122_1458 (1 : Int32) h
set_option maxRecDepth 100000 in
set_option maxHeartbeats 4000000 in
theorem c_X11_drift {x1 : Int32} {I : WI} {F : WF} {J : WI} {K : WF} {a : Int32 × WI × WF} (h : f_X11_drift x1 I F = some a) : CT md_X11_drift yX11_drift (rmD 5) [.ref 209, .int x1] (mkW J K I F) (some (.int a.1)) (mkW J K a.2.1 a.2.2) := CT_of pn_X11 ⟨rfl, rfl⟩ (Nat.le_of_ble_eq_true rfl) (fun X => by
  show GG X md_X11_drift (rmD 5) _ 0 0 0 [(0, .ref 209), (1, .int x1)] [] (mkW J K I F)
  unfold f_X11_drift at h
  refine G_aload_n (pc2 := 1) 0 rfl dX11_drift_0 rfl rfl ?_
  refine G_iconst (pc2 := 2) dX11_drift_1 ic_0 rfl ?_
  refine P_209_0 (pc2 := 5) h kw_902 dX11_drift_2 rfl (fun I_1438 h => ?_)
  refine G_aload_n (pc2 := 6) 0 rfl dX11_drift_5 rfl rfl ?_
  refine G_iload_n (pc2 := 7) 1 rfl dX11_drift_6 rfl rfl ?_
  obtain ⟨c_1439, hc_1439, h⟩ := ob_e h
  refine B_callV (pc2 := 10) si_X11_207 (c_X11_mayGo hc_1439) (qo_209 _ _ _ _) rfl rfl rfl (st := []) (stq := [.int c_1439]) rfl (by decide) (by decide) (Nat.le_of_ble_eq_true rfl) mkW_ll dX11_drift_7 rfl rfl ?_ ⟨rfl, rfl⟩
  refine B_istore_n (pc2 := 11) (fun x2_1440 => [(2, .int x2_1440), (0, .ref 209), (1, .int x1)]) h dX11_drift_10 rfl (by decide) (fun _ => rfl) rfl (fun x2_1440 h => ?_)
  refine G_iload_n (pc2 := 12) 0 rfl dX11_drift_11 rfl rfl ?_
  refine B_if_eq (tgt := 17) (pc2 := 15) h dX11_drift_12 (by decide) rfl (fun _ h => ?_) (fun _ h => ?_)
  · refine G_aload_n (pc2 := 18) 1 rfl dX11_drift_17 rfl rfl ?_
    obtain ⟨c_1441, hc_1441, h⟩ := ob_e h
    refine B_callV (pc2 := 21) si_X11_200 (c_X11_notes hc_1441) (qo_209 _ _ _ _) rfl rfl rfl (st := []) (stq := []) rfl (by decide) (by decide) (Nat.le_of_ble_eq_true rfl) mkW_ll dX11_drift_18 rfl rfl ?_ ⟨rfl, rfl⟩
    refine G_iconst (pc2 := 22) dX11_drift_21 ic_0 rfl ?_
    refine B_istore_n (pc2 := 23) (fun x3_1442 => [(3, .int x3_1442), (2, .int x2_1440), (0, .ref 209), (1, .int x1)]) h dX11_drift_22 rfl (by decide) (fun _ => rfl) rfl (fun x3_1442 h => ?_)
    refine G_sub (ls' := [(0, .ref 209), (1, .int x1), (3, .int x3_1442)]) [2, 3, 0] rfl ?_
    refine g_L_X11_drift_23 (fun F_1461 h => ?_) FU x3_1442 c_1441.2 h
    refine G_aload_n (pc2 := 137) 0 rfl dX11_drift_136 rfl rfl ?_
    refine T_209_9 (pc2 := 140) kw_911 dX11_drift_137 rfl ?_
    refine G_bipush (pc2 := 142) dX11_drift_140 ib_51 rfl ?_
    refine AMc (pc2 := 143) (fa_213 _ _ _ _) cl_51 rfl dX11_drift_142 rfl ?_
    have ha := Option.some.inj h
    subst ha
    exact G_iret rfl dX11_drift_143
  · refine G_iload_n (pc2 := 16) 0 rfl dX11_drift_15 rfl rfl ?_
    have ha := Option.some.inj h
    subst ha
    exact G_iret rfl dX11_drift_16)
def L_X11_undo_27 (k : WF → Option (Int32 × WI × WF))  (I : WI) : Nat → Int32 → WF → Option (Int32 × WI × WF)
  | 0, _, _ => none
  | n + 1, x1, F =>
  if (133 : Int32) ≤ x1 then (k F)
  else (ixG (((134 : Int32) * (I 6)) + x1) 2144 (
  ixG x1 134 (bnd (uF F 3 (upd (F 3) x1.toNatClampNeg (F 6 (((134 : Int32) * (I 6)) + x1).toNatClampNeg))) fun F_1465 =>
  bnd (x1 + (1 : Int32)) fun x1_1466 =>
  L_X11_undo_27 k I n x1_1466 F_1465)))
def f_X11_undo (I : WI) (F : WF) : Option (Int32 × WI × WF) :=
  bnd (upd I 0 (0 : Int32)) fun I_1462 =>
  if (I_1462 6) = 0 then (some ((-1000000003 : Int32), I_1462, F))
  else (bnd (upd I_1462 6 ((I_1462 6) - (1 : Int32))) fun I_1463 =>
  bnd (0 : Int32) fun x1_1464 =>
  L_X11_undo_27 (fun F_1467 => some ((I_1463 6), I_1463, F_1467)) I_1463 FU x1_1464 F)
set_option maxRecDepth 100000 in
set_option maxHeartbeats 4000000 in
theorem g_L_X11_undo_27 {X : XT} {I : WI} {J : WI} {K : WF} {a : Int32 × WI × WF} {k : WF → Option (Int32 × WI × WF)} (hk : ∀ (F' : WF), (k F' = some a → GG X md_X11_undo (rmD 1) (gv_Z X (rmD 1).cells (rmD 1).slots (some (.int a.1)) (mkW J K a.2.1 a.2.2)) 0 0 61 [(0, .ref 209)] [] (mkW J K I F'))) : ∀ (n : Nat) (x1 : Int32) (F : WF), L_X11_undo_27 k I n x1 F = some a → GG X md_X11_undo (rmD 1) (gv_Z X (rmD 1).cells (rmD 1).slots (some (.int a.1)) (mkW J K a.2.1 a.2.2)) 0 0 27 [(0, .ref 209), (1, .int x1)] [] (mkW J K I F) := by
  intro n
  induction n with
  | zero =>
    intro x1 F h
    rw [L_X11_undo_27] at h
    cases h
  | succ n ih =>
    intro x1 F h
    rw [L_X11_undo_27] at h
    refine G_iload_n (pc2 := 28) 1 rfl dX11_undo_27 rfl rfl ?_
    refine G_sipush (pc2 := 31) dX11_undo_28 is_133 rfl ?_
    refine B_icmp_ge (tgt := 61) (pc2 := 34) h dX11_undo_31 (by decide) rfl (fun _ h => ?_) (fun _ h => ?_)
    · refine G_sub (ls' := [(0, .ref 209)]) [0] rfl ?_
      exact hk F h
    · refine G_aload_n (pc2 := 35) 0 rfl dX11_undo_34 rfl rfl ?_
      refine T_209_9 (pc2 := 38) kw_911 dX11_undo_35 rfl ?_
      refine G_iload_n (pc2 := 39) 1 rfl dX11_undo_38 rfl rfl ?_
      refine G_aload_n (pc2 := 40) 0 rfl dX11_undo_39 rfl rfl ?_
      refine T_209_12 (pc2 := 43) kw_914 dX11_undo_40 rfl ?_
      refine G_sipush (pc2 := 46) dX11_undo_43 is_134 rfl ?_
      refine G_aload_n (pc2 := 47) 0 rfl dX11_undo_46 rfl rfl ?_
      refine T_209_13 (pc2 := 50) kw_915 dX11_undo_47 rfl ?_
      refine G_imul (pc2 := 51) dX11_undo_50 rfl ?_
      refine G_iload_n (pc2 := 52) 1 rfl dX11_undo_51 rfl rfl ?_
      refine G_iadd (pc2 := 53) dX11_undo_52 rfl ?_
      refine AM (pc2 := 54) (fa_216 _ _ _ _) h dX11_undo_53 rfl (fun h => ?_)
      refine SM (pc2 := 55) (fa_213 _ _ _ _) h dX11_undo_54 rfl (fun F_1465 h => ?_)
      refine B_iinc (pc2 := 58) 1 (fun x1_1466 => [(1, .int x1_1466), (0, .ref 209)]) h rfl dX11_undo_55 ic_1 (by decide) (fun _ => rfl) rfl (fun x1_1466 h => ?_)
      refine G_goto (tgt := 27) dX11_undo_58 (by decide) ?_
      refine G_sub (ls' := [(0, .ref 209), (1, .int x1_1466)]) [1, 0] rfl ?_
      exact ih x1_1466 F_1465 h
set_option maxRecDepth 100000 in
set_option maxHeartbeats 4000000 in
theorem c_X11_undo {I : WI} {F : WF} {J : WI} {K : WF} {a : Int32 × WI × WF} (h : f_X11_undo  I F = some a) : CT md_X11_undo yX11_undo (rmD 1) [.ref 209] (mkW J K I F) (some (.int a.1)) (mkW J K a.2.1 a.2.2) := CT_of pn_X11 ⟨rfl, rfl⟩ (Nat.le_of_ble_eq_true rfl) (fun X => by
  show GG X md_X11_undo (rmD 1) _ 0 0 0 [(0, .ref 209)] [] (mkW J K I F)
  unfold f_X11_undo at h
  refine G_aload_n (pc2 := 1) 0 rfl dX11_undo_0 rfl rfl ?_
  refine G_iconst (pc2 := 2) dX11_undo_1 ic_0 rfl ?_
  refine P_209_0 (pc2 := 5) h kw_902 dX11_undo_2 rfl (fun I_1462 h => ?_)
  refine G_aload_n (pc2 := 6) 0 rfl dX11_undo_5 rfl rfl ?_
  refine T_209_13 (pc2 := 9) kw_915 dX11_undo_6 rfl ?_
  refine B_if_ne (tgt := 15) (pc2 := 12) h dX11_undo_9 (by decide) rfl (fun _ h => ?_) (fun _ h => ?_)
  · refine G_aload_n (pc2 := 16) 0 rfl dX11_undo_15 rfl rfl ?_
    refine G_dup (pc2 := 17) rfl dX11_undo_16 rfl ?_
    refine T_209_13 (pc2 := 20) kw_915 dX11_undo_17 rfl ?_
    refine G_iconst (pc2 := 21) dX11_undo_20 ic_1 rfl ?_
    refine G_isub (pc2 := 22) dX11_undo_21 rfl ?_
    refine P_209_13 (pc2 := 25) h kw_915 dX11_undo_22 rfl (fun I_1463 h => ?_)
    refine G_iconst (pc2 := 26) dX11_undo_25 ic_0 rfl ?_
    refine B_istore_n (pc2 := 27) (fun x1_1464 => [(1, .int x1_1464), (0, .ref 209)]) h dX11_undo_26 rfl (by decide) (fun _ => rfl) rfl (fun x1_1464 h => ?_)
    refine G_sub (ls' := [(0, .ref 209), (1, .int x1_1464)]) [1, 0] rfl ?_
    refine g_L_X11_undo_27 (fun F_1467 h => ?_) FU x1_1464 F h
    refine G_aload_n (pc2 := 62) 0 rfl dX11_undo_61 rfl rfl ?_
    refine T_209_13 (pc2 := 65) kw_915 dX11_undo_62 rfl ?_
    have ha := Option.some.inj h
    subst ha
    exact G_iret rfl dX11_undo_65
  · refine G_ldc (pc2 := 14) kw_1147 dX11_undo_12 rfl ?_
    have ha := Option.some.inj h
    subst ha
    exact G_iret rfl dX11_undo_14)
def f_X11_isPlace (x1 : Int32) (I : WI) (F : WF) : Option (Int32) :=
  Option.bind (f_X11_in x1 (0 : Int32) ((F 2 0) - (1 : Int32))) fun c_1470 =>
  bzG c_1470 (some c_1470)
set_option maxRecDepth 100000 in
set_option maxHeartbeats 4000000 in
theorem c_X11_isPlace {x1 : Int32} {I : WI} {F : WF} {J : WI} {K : WF} {a : Int32} (h : f_X11_isPlace x1 I F = some a) : CT md_X11_isPlace yX11_isPlace (rmD 2) [.ref 209, .int x1] (mkW J K I F) (some (.int a)) (mkW J K I F) := CT_of pn_X11 ⟨rfl, rfl⟩ (Nat.le_of_ble_eq_true rfl) (fun X => by
  show GG X md_X11_isPlace (rmD 2) _ 0 0 0 [(0, .ref 209), (1, .int x1)] [] (mkW J K I F)
  unfold f_X11_isPlace at h
  refine G_iload_n (pc2 := 1) 1 rfl dX11_isPlace_0 rfl rfl ?_
  refine G_iconst (pc2 := 2) dX11_isPlace_1 ic_0 rfl ?_
  refine G_aload_n (pc2 := 3) 0 rfl dX11_isPlace_2 rfl rfl ?_
  refine T_209_8 (pc2 := 6) kw_910 dX11_isPlace_3 rfl ?_
  refine G_iconst (pc2 := 7) dX11_isPlace_6 ic_0 rfl ?_
  refine AMc (pc2 := 8) (fa_212 _ _ _ _) cl_0 rfl dX11_isPlace_7 rfl ?_
  refine G_iconst (pc2 := 9) dX11_isPlace_8 ic_1 rfl ?_
  refine G_isub (pc2 := 10) dX11_isPlace_9 rfl ?_
  obtain ⟨c_1470, hc_1470, h⟩ := ob_e h
  refine B_callS (pc2 := 13) si_X11_66 (c_X11_in hc_1470) rfl (st := []) (stq := [.int c_1470]) rfl (by decide) (by decide) (Nat.le_of_ble_eq_true rfl) rfl dX11_isPlace_10 rfl rfl ?_ ⟨rfl, rfl⟩
  obtain ⟨qb_1471, h⟩ := bzG_e h
  have ha := Option.some.inj h
  subst ha
  exact G_zret rfl qb_1471 dX11_isPlace_13)
def L_X11_way_93 (k : Option (Int32 × WI × WF)) (x1 : Int32) (x4 : Int32) (x5 : Int32) (I : WI) (F : WF) : Nat → Int32 → Option (Int32 × WI × WF)
  | 0, _ => none
  | n + 1, x6 =>
  if (F 2 1) ≤ x6 then (k)
  else (ixG ((0 : Int32) + x1) 134 (
  Option.bind (f_X11_beyond x6 (F 3 ((0 : Int32) + x1).toNatClampNeg) I F) fun c_1480 =>
  bnd c_1480 fun x7_1481 =>
  Option.bind (f_X11_has x4 x6) fun c_1482 =>
  bnd (fun (_u : Unit) => bnd (x6 + (1 : Int32)) fun x6_1484 =>
  L_X11_way_93 k x1 x4 x5 I F n x6_1484) fun j153_1483 =>
  if c_1482 = 0 then (j153_1483 ())
  else (if x7_1481 = (-1 : Int32) then (j153_1483 ())
  else (ixG x7_1481 8 (
  if (F 11 x7_1481.toNatClampNeg) = (x5 - (1 : Int32)) then (some (x6, I, F))
  else (j153_1483 ()))))))
def f_X11_way (x1 : Int32) (x2 : Int32) (x3 : Int32) (I : WI) (F : WF) : Option (Int32 × WI × WF) :=
  bnd (upd I 0 (0 : Int32)) fun I_1468 =>
  Option.bind (f_X11_isJumper x1 I_1468 F) fun c_1469 =>
  if c_1469 = 0 then (some ((-1000000001 : Int32), I_1468, F))
  else (Option.bind (f_X11_isPlace x2 I_1468 F) fun c_1472 =>
  if c_1472 = 0 then (some ((-1000000001 : Int32), I_1468, F))
  else (Option.bind (f_X11_in x3 (0 : Int32) (1 : Int32)) fun c_1473 =>
  if c_1473 = 0 then (some ((-1000000002 : Int32), I_1468, F))
  else (Option.bind (f_X11_daresOf x1 I_1468 F) fun c_1474 =>
  bnd c_1474 fun x4_1475 =>
  Option.bind (f_X11_fars x2 x4_1475 I_1468 F) fun c_1476 =>
  ixG ((0 : Int32) + x1) 134 (
  ixG (c_1476 3 ((0 : Int32) + x1).toNatClampNeg) 8 (
  bnd (c_1476 11 (c_1476 3 ((0 : Int32) + x1).toNatClampNeg).toNatClampNeg) fun x5_1477 =>
  bnd (fun (_u : Unit) => if x5_1477 = (99 : Int32) then (some ((-1 : Int32), I_1468, c_1476))
  else (some (x5_1477, I_1468, c_1476))) fun j76_1478 =>
  if x5_1477 = (99 : Int32) then (j76_1478 ())
  else (if x3 = 0 then (j76_1478 ())
  else (bnd (0 : Int32) fun x6_1479 =>
  L_X11_way_93 (some ((-1 : Int32), I_1468, c_1476)) x1 x4_1475 x5_1477 I_1468 c_1476 FU x6_1479)))))))
set_option maxRecDepth 100000 in
set_option maxHeartbeats 4000000 in
theorem g_L_X11_way_93 {X : XT} {x1 : Int32} {x4 : Int32} {x5 : Int32} {I : WI} {F : WF} {J : WI} {K : WF} {a : Int32 × WI × WF} {k : Option (Int32 × WI × WF)} (hk : (k = some a → GG X md_X11_way (rmD 5) (gv_Z X (rmD 5).cells (rmD 5).slots (some (.int a.1)) (mkW J K a.2.1 a.2.2)) 0 0 159 [] [] (mkW J K I F))) : ∀ (n : Nat) (x6 : Int32), L_X11_way_93 k x1 x4 x5 I F n x6 = some a → GG X md_X11_way (rmD 5) (gv_Z X (rmD 5).cells (rmD 5).slots (some (.int a.1)) (mkW J K a.2.1 a.2.2)) 0 0 93 [(0, .ref 209), (1, .int x1), (4, .int x4), (5, .int x5), (6, .int x6)] [] (mkW J K I F) := by
  intro n
  induction n with
  | zero =>
    intro x6 h
    rw [L_X11_way_93] at h
    cases h
  | succ n ih =>
    intro x6 h
    rw [L_X11_way_93] at h
    refine G_iload (pc2 := 95) 4 rfl dX11_way_93 rfl ?_
    refine G_aload_n (pc2 := 96) 0 rfl dX11_way_95 rfl rfl ?_
    refine T_209_8 (pc2 := 99) kw_910 dX11_way_96 rfl ?_
    refine G_iconst (pc2 := 100) dX11_way_99 ic_1 rfl ?_
    refine AMc (pc2 := 101) (fa_212 _ _ _ _) cl_1 rfl dX11_way_100 rfl ?_
    refine B_icmp_ge (tgt := 159) (pc2 := 104) h dX11_way_101 (by decide) rfl (fun _ h => ?_) (fun _ h => ?_)
    · refine G_sub (ls' := []) [] rfl ?_
      exact hk  h
    · refine G_aload_n (pc2 := 105) 0 rfl dX11_way_104 rfl rfl ?_
      refine G_iload (pc2 := 107) 4 rfl dX11_way_105 rfl ?_
      refine G_aload_n (pc2 := 108) 0 rfl dX11_way_107 rfl rfl ?_
      refine T_209_9 (pc2 := 111) kw_911 dX11_way_108 rfl ?_
      refine G_iconst (pc2 := 112) dX11_way_111 ic_0 rfl ?_
      refine G_iload_n (pc2 := 113) 1 rfl dX11_way_112 rfl rfl ?_
      refine G_iadd (pc2 := 114) dX11_way_113 rfl ?_
      refine AM (pc2 := 115) (fa_213 _ _ _ _) h dX11_way_114 rfl (fun h => ?_)
      obtain ⟨c_1480, hc_1480, h⟩ := ob_e h
      refine B_callV (pc2 := 118) si_X11_193 (c_X11_beyond hc_1480) (qo_209 _ _ _ _) rfl rfl rfl (st := []) (stq := [.int c_1480]) rfl (by decide) (by decide) (Nat.le_of_ble_eq_true rfl) mkW_ll dX11_way_115 rfl rfl ?_ ⟨rfl, rfl⟩
      refine B_istore (pc2 := 120) (fun x7_1481 => [(7, .int x7_1481), (0, .ref 209), (1, .int x1), (4, .int x4), (5, .int x5), (6, .int x6)]) h dX11_way_118 (by decide) (fun _ => rfl) rfl (fun x7_1481 h => ?_)
      refine G_iload (pc2 := 122) 3 rfl dX11_way_120 rfl ?_
      refine G_iload (pc2 := 124) 5 rfl dX11_way_122 rfl ?_
      obtain ⟨c_1482, hc_1482, h⟩ := ob_e h
      refine B_callS (pc2 := 127) si_X11_151 (c_X11_has hc_1482) rfl (st := []) (stq := [.int c_1482]) rfl (by decide) (by decide) (Nat.le_of_ble_eq_true rfl) rfl dX11_way_124 rfl rfl ?_ ⟨rfl, rfl⟩
      refine jn_e (Gj := True) (fun (j : Unit → Option (Int32 × WI × WF)) => ∀ (_u : Unit), j _u = some a → GG X md_X11_way (rmD 5) (gv_Z X (rmD 5).cells (rmD 5).slots (some (.int a.1)) (mkW J K a.2.1 a.2.2)) 0 0 153 [(0, .ref 209), (1, .int x1), (4, .int x4), (5, .int x5), (6, .int x6)] [] (mkW J K I F)) h (fun _u h => ?_) (fun j153_1483 hj153_1483 h => ?_)
      · refine B_iinc (pc2 := 156) 4 (fun x6_1484 => [(6, .int x6_1484), (0, .ref 209), (1, .int x1), (4, .int x4), (5, .int x5)]) h rfl dX11_way_153 ic_1 (by decide) (fun _ => rfl) rfl (fun x6_1484 h => ?_)
        refine G_goto (tgt := 93) dX11_way_156 (by decide) ?_
        refine G_sub (ls' := [(0, .ref 209), (1, .int x1), (4, .int x4), (5, .int x5), (6, .int x6_1484)]) [1, 2, 3, 4, 0] rfl ?_
        exact ih x6_1484 h
      refine B_if_eq (tgt := 153) (pc2 := 130) h dX11_way_127 (by decide) rfl (fun _ h => ?_) (fun _ h => ?_)
      · refine G_sub (ls' := [(0, .ref 209), (1, .int x1), (4, .int x4), (5, .int x5), (6, .int x6)]) [1, 2, 3, 4, 5] rfl ?_
        exact hj153_1483 () h
      · refine G_iload (pc2 := 132) 0 rfl dX11_way_130 rfl ?_
        refine G_iconst (pc2 := 133) dX11_way_132 ic_m1 rfl ?_
        refine B_icmp_eq (tgt := 153) (pc2 := 136) h dX11_way_133 (by decide) rfl (fun _ h => ?_) (fun _ h => ?_)
        · refine G_sub (ls' := [(0, .ref 209), (1, .int x1), (4, .int x4), (5, .int x5), (6, .int x6)]) [1, 2, 3, 4, 5] rfl ?_
          exact hj153_1483 () h
        · refine G_aload_n (pc2 := 137) 1 rfl dX11_way_136 rfl rfl ?_
          refine T_209_20 (pc2 := 140) kw_922 dX11_way_137 rfl ?_
          refine G_iload (pc2 := 142) 0 rfl dX11_way_140 rfl ?_
          refine AM (pc2 := 143) (fa_221 _ _ _ _) h dX11_way_142 rfl (fun h => ?_)
          refine G_iload (pc2 := 145) 4 rfl dX11_way_143 rfl ?_
          refine G_iconst (pc2 := 146) dX11_way_145 ic_1 rfl ?_
          refine G_isub (pc2 := 147) dX11_way_146 rfl ?_
          refine B_icmp_ne (tgt := 153) (pc2 := 150) h dX11_way_147 (by decide) rfl (fun _ h => ?_) (fun _ h => ?_)
          · refine G_sub (ls' := [(0, .ref 209), (1, .int x1), (4, .int x4), (5, .int x5), (6, .int x6)]) [1, 2, 3, 4, 5] rfl ?_
            exact hj153_1483 () h
          · refine G_iload (pc2 := 152) 5 rfl dX11_way_150 rfl ?_
            have ha := Option.some.inj h
            subst ha
            exact G_iret rfl dX11_way_152
set_option maxRecDepth 100000 in
set_option maxHeartbeats 4000000 in
theorem c_X11_way {x1 : Int32} {x2 : Int32} {x3 : Int32} {I : WI} {F : WF} {J : WI} {K : WF} {a : Int32 × WI × WF} (h : f_X11_way x1 x2 x3 I F = some a) : CT md_X11_way yX11_way (rmD 5) [.ref 209, .int x1, .int x2, .int x3] (mkW J K I F) (some (.int a.1)) (mkW J K a.2.1 a.2.2) := CT_of pn_X11 ⟨rfl, rfl⟩ (Nat.le_of_ble_eq_true rfl) (fun X => by
  show GG X md_X11_way (rmD 5) _ 0 0 0 [(0, .ref 209), (1, .int x1), (2, .int x2), (3, .int x3)] [] (mkW J K I F)
  unfold f_X11_way at h
  refine G_aload_n (pc2 := 1) 0 rfl dX11_way_0 rfl rfl ?_
  refine G_iconst (pc2 := 2) dX11_way_1 ic_0 rfl ?_
  refine P_209_0 (pc2 := 5) h kw_902 dX11_way_2 rfl (fun I_1468 h => ?_)
  refine G_aload_n (pc2 := 6) 0 rfl dX11_way_5 rfl rfl ?_
  refine G_iload_n (pc2 := 7) 1 rfl dX11_way_6 rfl rfl ?_
  obtain ⟨c_1469, hc_1469, h⟩ := ob_e h
  refine B_callV (pc2 := 10) si_X11_186 (c_X11_isJumper hc_1469) (qo_209 _ _ _ _) rfl rfl rfl (st := []) (stq := [.int c_1469]) rfl (by decide) (by decide) (Nat.le_of_ble_eq_true rfl) mkW_ll dX11_way_7 rfl rfl ?_ ⟨rfl, rfl⟩
  refine B_if_eq (tgt := 21) (pc2 := 13) h dX11_way_10 (by decide) rfl (fun _ h => ?_) (fun _ h => ?_)
  · refine G_ldc (pc2 := 23) kw_1094 dX11_way_21 rfl ?_
    have ha := Option.some.inj h
    subst ha
    exact G_iret rfl dX11_way_23
  · refine G_aload_n (pc2 := 14) 0 rfl dX11_way_13 rfl rfl ?_
    refine G_iload_n (pc2 := 15) 2 rfl dX11_way_14 rfl rfl ?_
    obtain ⟨c_1472, hc_1472, h⟩ := ob_e h
    refine B_callV (pc2 := 18) si_X11_223 (c_X11_isPlace hc_1472) (qo_209 _ _ _ _) rfl rfl rfl (st := []) (stq := [.int c_1472]) rfl (by decide) (by decide) (Nat.le_of_ble_eq_true rfl) mkW_ll dX11_way_15 rfl rfl ?_ ⟨rfl, rfl⟩
    refine B_if_ne (tgt := 24) (pc2 := 21) h dX11_way_18 (by decide) rfl (fun _ h => ?_) (fun _ h => ?_)
    · refine G_iload_n (pc2 := 25) 3 rfl dX11_way_24 rfl rfl ?_
      refine G_iconst (pc2 := 26) dX11_way_25 ic_0 rfl ?_
      refine G_iconst (pc2 := 27) dX11_way_26 ic_1 rfl ?_
      obtain ⟨c_1473, hc_1473, h⟩ := ob_e h
      refine B_callS (pc2 := 30) si_X11_66 (c_X11_in hc_1473) rfl (st := []) (stq := [.int c_1473]) rfl (by decide) (by decide) (Nat.le_of_ble_eq_true rfl) rfl dX11_way_27 rfl rfl ?_ ⟨rfl, rfl⟩
      refine B_if_ne (tgt := 36) (pc2 := 33) h dX11_way_30 (by decide) rfl (fun _ h => ?_) (fun _ h => ?_)
      · refine G_aload_n (pc2 := 37) 0 rfl dX11_way_36 rfl rfl ?_
        refine G_iload_n (pc2 := 38) 1 rfl dX11_way_37 rfl rfl ?_
        obtain ⟨c_1474, hc_1474, h⟩ := ob_e h
        refine B_callV (pc2 := 41) si_X11_189 (c_X11_daresOf hc_1474) (qo_209 _ _ _ _) rfl rfl rfl (st := []) (stq := [.int c_1474]) rfl (by decide) (by decide) (Nat.le_of_ble_eq_true rfl) mkW_ll dX11_way_38 rfl rfl ?_ ⟨rfl, rfl⟩
        refine B_istore (pc2 := 43) (fun x4_1475 => [(4, .int x4_1475), (0, .ref 209), (1, .int x1), (2, .int x2), (3, .int x3)]) h dX11_way_41 (by decide) (fun _ => rfl) rfl (fun x4_1475 h => ?_)
        refine G_aload_n (pc2 := 44) 1 rfl dX11_way_43 rfl rfl ?_
        refine G_iload_n (pc2 := 45) 3 rfl dX11_way_44 rfl rfl ?_
        refine G_iload (pc2 := 47) 0 rfl dX11_way_45 rfl ?_
        obtain ⟨c_1476, hc_1476, h⟩ := ob_e h
        refine B_callV (pc2 := 50) si_X11_154 (c_X11_fars hc_1476) (qo_209 _ _ _ _) rfl rfl rfl (st := []) (stq := []) rfl (by decide) (by decide) (Nat.le_of_ble_eq_true rfl) mkW_ll dX11_way_47 rfl rfl ?_ ⟨rfl, rfl⟩
        refine G_aload_n (pc2 := 51) 1 rfl dX11_way_50 rfl rfl ?_
        refine T_209_20 (pc2 := 54) kw_922 dX11_way_51 rfl ?_
        refine G_aload_n (pc2 := 55) 1 rfl dX11_way_54 rfl rfl ?_
        refine T_209_9 (pc2 := 58) kw_911 dX11_way_55 rfl ?_
        refine G_iconst (pc2 := 59) dX11_way_58 ic_0 rfl ?_
        refine G_iload_n (pc2 := 60) 2 rfl dX11_way_59 rfl rfl ?_
        refine G_iadd (pc2 := 61) dX11_way_60 rfl ?_
        refine AM (pc2 := 62) (fa_213 _ _ _ _) h dX11_way_61 rfl (fun h => ?_)
        refine AM (pc2 := 63) (fa_221 _ _ _ _) h dX11_way_62 rfl (fun h => ?_)
        refine B_istore (pc2 := 65) (fun x5_1477 => [(5, .int x5_1477), (4, .int x4_1475), (0, .ref 209), (1, .int x1), (2, .int x2), (3, .int x3)]) h dX11_way_63 (by decide) (fun _ => rfl) rfl (fun x5_1477 h => ?_)
        refine G_iload (pc2 := 67) 0 rfl dX11_way_65 rfl ?_
        refine G_bipush (pc2 := 69) dX11_way_67 ib_99 rfl ?_
        refine jn_e (Gj := True) (fun (j : Unit → Option (Int32 × WI × WF)) => ∀ (_u : Unit), j _u = some a → GG X md_X11_way (rmD 5) (gv_Z X (rmD 5).cells (rmD 5).slots (some (.int a.1)) (mkW J K a.2.1 a.2.2)) 0 0 76 [(5, .int x5_1477)] [] (mkW J K I_1468 c_1476)) h (fun _u h => ?_) (fun j76_1478 hj76_1478 h => ?_)
        · refine G_iload (pc2 := 78) 0 rfl dX11_way_76 rfl ?_
          refine G_bipush (pc2 := 80) dX11_way_78 ib_99 rfl ?_
          refine B_icmp_ne (tgt := 87) (pc2 := 83) h dX11_way_80 (by decide) rfl (fun _ h => ?_) (fun _ h => ?_)
          · refine G_iload (pc2 := 89) 0 rfl dX11_way_87 rfl ?_
            have ha := Option.some.inj h
            subst ha
            exact G_iret rfl dX11_way_89
          · refine G_iconst (pc2 := 84) dX11_way_83 ic_m1 rfl ?_
            refine G_goto (tgt := 89) dX11_way_84 (by decide) ?_
            have ha := Option.some.inj h
            subst ha
            exact G_iret rfl dX11_way_89
        refine B_icmp_eq (tgt := 76) (pc2 := 72) h dX11_way_69 (by decide) rfl (fun _ h => ?_) (fun _ h => ?_)
        · refine G_sub (ls' := [(5, .int x5_1477)]) [0] rfl ?_
          exact hj76_1478 () h
        · refine G_iload_n (pc2 := 73) 5 rfl dX11_way_72 rfl rfl ?_
          refine B_if_ne (tgt := 90) (pc2 := 76) h dX11_way_73 (by decide) rfl (fun _ h => ?_) (fun _ h => ?_)
          · refine G_iconst (pc2 := 91) dX11_way_90 ic_0 rfl ?_
            refine B_istore (pc2 := 93) (fun x6_1479 => [(6, .int x6_1479), (5, .int x5_1477), (4, .int x4_1475), (0, .ref 209), (1, .int x1), (2, .int x2), (3, .int x3)]) h dX11_way_91 (by decide) (fun _ => rfl) rfl (fun x6_1479 h => ?_)
            refine G_sub (ls' := [(0, .ref 209), (1, .int x1), (4, .int x4_1475), (5, .int x5_1477), (6, .int x6_1479)]) [3, 4, 2, 1, 0] rfl ?_
            refine g_L_X11_way_93 (fun h => ?_) FU x6_1479 h
            refine G_iconst (pc2 := 160) dX11_way_159 ic_m1 rfl ?_
            have ha := Option.some.inj h
            subst ha
            exact G_iret rfl dX11_way_160
          · refine G_sub (ls' := [(5, .int x5_1477)]) [0] rfl ?_
            exact hj76_1478 () h
      · refine G_ldc (pc2 := 35) kw_989 dX11_way_33 rfl ?_
        have ha := Option.some.inj h
        subst ha
        exact G_iret rfl dX11_way_35
    · refine G_ldc (pc2 := 23) kw_1094 dX11_way_21 rfl ?_
      have ha := Option.some.inj h
      subst ha
      exact G_iret rfl dX11_way_23)
def L_X11_safest_116 (k : Int32 → Int32 → WF → Option (Int32 × WI × WF)) (x2 : Int32) (x3 : Int32) (x4 : Int32) (I : WI) : Nat → Int32 → Int32 → Int32 → Int32 → WF → Option (Int32 × WI × WF)
  | 0, _, _, _, _, _ => none
  | n + 1, x5, x6, x7, x8, F =>
  if x8 < 0 then (k x5 x6 F)
  else (ixG x8 9 (
  bnd (F 14 x8.toNatClampNeg) fun x9_1498 =>
  bnd (fun (x5_1500 : Int32) (x6_1501 : Int32) (x7_1502 : Int32) (x8_1503 : Int32) (F_1504 : WF) => L_X11_safest_116 k x2 x3 x4 I n x5_1500 x6_1501 x7_1502 x8_1503 F_1504) fun j331_1499 =>
  bnd (fun (_u : Unit) => ixG x8 9 (
  bnd (x7 &&& (((1 : Int32) <<< ((F 13 x8.toNatClampNeg) &&& 31)) ^^^ (-1 : Int32))) fun x7_1506 =>
  bnd (x8 + (-1 : Int32)) fun x8_1507 =>
  j331_1499 x5 x6 x7_1506 x8_1507 F)) fun j152_1505 =>
  if x9_1498 = (F 2 1) then (j152_1505 ())
  else (ixG x8 9 (
  if (F 13 x8.toNatClampNeg) = x2 then (j152_1505 ())
  else (ixG x8 9 (
  ixG x8 9 (bnd (uF F 14 (upd (F 14) x8.toNatClampNeg ((F 14 x8.toNatClampNeg) + (1 : Int32)))) fun F_1508 =>
  ixG x8 9 (
  Option.bind (f_X11_beyond x9_1498 (F_1508 13 x8.toNatClampNeg) I F_1508) fun c_1509 =>
  bnd c_1509 fun x10_1510 =>
  Option.bind (f_X11_has x4 x9_1498) fun c_1511 =>
  if c_1511 = 0 then (j331_1499 x5 x6 x7 x8 F_1508)
  else (if x10_1510 = (-1 : Int32) then (j331_1499 x5 x6 x7 x8 F_1508)
  else (Option.bind (f_X11_has x7 x10_1510) fun c_1512 =>
  if c_1512 = 0 then (ixG x8 9 (
  ixG ((31 : Int32) + x9_1498) 70 (
  bnd ((((F_1508 15 x8.toNatClampNeg).toInt64) * (((100 : Int32) - (F_1508 2 ((31 : Int32) + x9_1498).toNatClampNeg)).toInt64)) / (100 : Int64)) fun x11_1513 =>
  bnd (x8 + (1 : Int32)) fun x8_1514 =>
  ixG x8_1514 9 (bnd (uF F_1508 13 (upd (F_1508 13) x8_1514.toNatClampNeg x10_1510)) fun F_1515 =>
  ixG x8_1514 9 (bnd (uF F_1515 14 (upd (F_1515 14) x8_1514.toNatClampNeg (0 : Int32))) fun F_1516 =>
  ixG x8_1514 9 (bnd (uF F_1516 15 (upd (F_1516 15) x8_1514.toNatClampNeg x11_1513.toInt32)) fun F_1517 =>
  bnd (x7 ||| ((1 : Int32) <<< (x10_1510 &&& 31))) fun x7_1518 =>
  if x10_1510 = x2 then (ixG x8_1514 9 (
  if (F_1517 15 x8_1514.toNatClampNeg) ≤ x5 then (j331_1499 x5 x6 x7_1518 x8_1514 F_1517)
  else (ixG x8_1514 9 (
  bnd (F_1517 15 x8_1514.toNatClampNeg) fun x5_1519 =>
  bnd ((F_1517 14 0) - (1 : Int32)) fun x6_1520 =>
  j331_1499 x5_1519 x6_1520 x7_1518 x8_1514 F_1517))))
  else (j331_1499 x5 x6 x7_1518 x8_1514 F_1517)))))))
  else (j331_1499 x5 x6 x7 x8 F_1508)))))))))))
def f_X11_safest (x1 : Int32) (x2 : Int32) (x3 : Int32) (I : WI) (F : WF) : Option (Int32 × WI × WF) :=
  bnd (upd I 0 (0 : Int32)) fun I_1485 =>
  Option.bind (f_X11_isJumper x1 I_1485 F) fun c_1486 =>
  if c_1486 = 0 then (some ((-1000000001 : Int32), I_1485, F))
  else (Option.bind (f_X11_isPlace x2 I_1485 F) fun c_1487 =>
  if c_1487 = 0 then (some ((-1000000001 : Int32), I_1485, F))
  else (Option.bind (f_X11_in x3 (0 : Int32) (1 : Int32)) fun c_1488 =>
  if c_1488 = 0 then (some ((-1000000002 : Int32), I_1485, F))
  else (ixG ((0 : Int32) + x1) 134 (
  if (F 3 ((0 : Int32) + x1).toNatClampNeg) = x2 then (if x3 = 0 then (some ((1000000000 : Int32), I_1485, F))
  else (some ((-1 : Int32), I_1485, F)))
  else (Option.bind (f_X11_daresOf x1 I_1485 F) fun c_1489 =>
  bnd c_1489 fun x4_1490 =>
  bnd (-1 : Int32) fun x5_1491 =>
  bnd (-1 : Int32) fun x6_1492 =>
  ixG ((0 : Int32) + x1) 134 (
  bnd ((1 : Int32) <<< ((F 3 ((0 : Int32) + x1).toNatClampNeg) &&& 31)) fun x7_1493 =>
  bnd (0 : Int32) fun x8_1494 =>
  ixG ((0 : Int32) + x1) 134 (
  bnd (uF F 13 (upd (F 13) 0 (F 3 ((0 : Int32) + x1).toNatClampNeg))) fun F_1495 =>
  bnd (uF F_1495 14 (upd (F_1495 14) 0 (0 : Int32))) fun F_1496 =>
  bnd (uF F_1496 15 (upd (F_1496 15) 0 (1000000000 : Int32))) fun F_1497 =>
  L_X11_safest_116 (fun x5_1521 x6_1522 F_1523 => if x3 = 0 then (some (x5_1521, I_1485, F_1523))
  else (some (x6_1522, I_1485, F_1523))) x2 x3 x4_1490 I_1485 FU x5_1491 x6_1492 x7_1493 x8_1494 F_1497)))))))
set_option maxRecDepth 100000 in
set_option maxHeartbeats 4000000 in
theorem g_L_X11_safest_116 {X : XT} {x2 : Int32} {x3 : Int32} {x4 : Int32} {I : WI} {J : WI} {K : WF} {a : Int32 × WI × WF} {k : Int32 → Int32 → WF → Option (Int32 × WI × WF)} (hk : ∀ (e5 : Int32) (e6 : Int32) (F' : WF), (k e5 e6 F' = some a → GG X md_X11_safest (rmD 5) (gv_Z X (rmD 5).cells (rmD 5).slots (some (.int a.1)) (mkW J K a.2.1 a.2.2)) 0 0 334 [(3, .int x3), (5, .int e5), (6, .int e6)] [] (mkW J K I F'))) : ∀ (n : Nat) (x5 : Int32) (x6 : Int32) (x7 : Int32) (x8 : Int32) (F : WF), L_X11_safest_116 k x2 x3 x4 I n x5 x6 x7 x8 F = some a → GG X md_X11_safest (rmD 5) (gv_Z X (rmD 5).cells (rmD 5).slots (some (.int a.1)) (mkW J K a.2.1 a.2.2)) 0 0 116 [(0, .ref 209), (2, .int x2), (3, .int x3), (4, .int x4), (5, .int x5), (6, .int x6), (7, .int x7), (8, .int x8)] [] (mkW J K I F) := by
  intro n
  induction n with
  | zero =>
    intro x5 x6 x7 x8 F h
    rw [L_X11_safest_116] at h
    cases h
  | succ n ih =>
    intro x5 x6 x7 x8 F h
    rw [L_X11_safest_116] at h
    refine G_iload (pc2 := 118) 7 rfl dX11_safest_116 rfl ?_
    refine B_if_lt (tgt := 334) (pc2 := 121) h dX11_safest_118 (by decide) rfl (fun _ h => ?_) (fun _ h => ?_)
    · refine G_sub (ls' := [(3, .int x3), (5, .int x5), (6, .int x6)]) [2, 4, 5] rfl ?_
      exact hk x5 x6 F h
    · refine G_aload_n (pc2 := 122) 0 rfl dX11_safest_121 rfl rfl ?_
      refine T_209_24 (pc2 := 125) kw_926 dX11_safest_122 rfl ?_
      refine G_iload (pc2 := 127) 7 rfl dX11_safest_125 rfl ?_
      refine AM (pc2 := 128) (fa_224 _ _ _ _) h dX11_safest_127 rfl (fun h => ?_)
      refine B_istore (pc2 := 130) (fun x9_1498 => [(9, .int x9_1498), (0, .ref 209), (2, .int x2), (3, .int x3), (4, .int x4), (5, .int x5), (6, .int x6), (7, .int x7), (8, .int x8)]) h dX11_safest_128 (by decide) (fun _ => rfl) rfl (fun x9_1498 h => ?_)
      refine G_iload (pc2 := 132) 0 rfl dX11_safest_130 rfl ?_
      refine G_aload_n (pc2 := 133) 1 rfl dX11_safest_132 rfl rfl ?_
      refine T_209_8 (pc2 := 136) kw_910 dX11_safest_133 rfl ?_
      refine G_iconst (pc2 := 137) dX11_safest_136 ic_1 rfl ?_
      refine AMc (pc2 := 138) (fa_212 _ _ _ _) cl_1 rfl dX11_safest_137 rfl ?_
      refine jn_e (Gj := True) (fun (j : Int32 → Int32 → Int32 → Int32 → WF → Option (Int32 × WI × WF)) => ∀ (x5_1500 : Int32) (x6_1501 : Int32) (x7_1502 : Int32) (x8_1503 : Int32) (F_1504 : WF), j x5_1500 x6_1501 x7_1502 x8_1503 F_1504 = some a → GG X md_X11_safest (rmD 5) (gv_Z X (rmD 5).cells (rmD 5).slots (some (.int a.1)) (mkW J K a.2.1 a.2.2)) 0 0 331 [(0, .ref 209), (2, .int x2), (3, .int x3), (4, .int x4), (5, .int x5_1500), (6, .int x6_1501), (7, .int x7_1502), (8, .int x8_1503)] [] (mkW J K I F_1504)) h (fun x5_1500 x6_1501 x7_1502 x8_1503 F_1504 h => ?_) (fun j331_1499 hj331_1499 h => ?_)
      · refine G_goto (tgt := 116) dX11_safest_331 (by decide) ?_
        exact ih x5_1500 x6_1501 x7_1502 x8_1503 F_1504 h
      refine jn_e (Gj := True) (fun (j : Unit → Option (Int32 × WI × WF)) => ∀ (_u : Unit), j _u = some a → GG X md_X11_safest (rmD 5) (gv_Z X (rmD 5).cells (rmD 5).slots (some (.int a.1)) (mkW J K a.2.1 a.2.2)) 0 0 152 [(0, .ref 209), (2, .int x2), (3, .int x3), (4, .int x4), (5, .int x5), (6, .int x6), (7, .int x7), (8, .int x8)] [] (mkW J K I F)) h (fun _u h => ?_) (fun j152_1505 hj152_1505 h => ?_)
      · refine G_iload (pc2 := 154) 6 rfl dX11_safest_152 rfl ?_
        refine G_iconst (pc2 := 155) dX11_safest_154 ic_1 rfl ?_
        refine G_aload_n (pc2 := 156) 0 rfl dX11_safest_155 rfl rfl ?_
        refine T_209_23 (pc2 := 159) kw_925 dX11_safest_156 rfl ?_
        refine G_iload (pc2 := 161) 7 rfl dX11_safest_159 rfl ?_
        refine AM (pc2 := 162) (fa_223 _ _ _ _) h dX11_safest_161 rfl (fun h => ?_)
        refine G_ishl (pc2 := 163) dX11_safest_162 rfl ?_
        refine G_iconst (pc2 := 164) dX11_safest_163 ic_m1 rfl ?_
        refine G_ixor (pc2 := 165) dX11_safest_164 rfl ?_
        refine G_iand (pc2 := 166) dX11_safest_165 rfl ?_
        refine B_istore (pc2 := 168) (fun x7_1506 => [(7, .int x7_1506), (0, .ref 209), (2, .int x2), (3, .int x3), (4, .int x4), (5, .int x5), (6, .int x6), (8, .int x8)]) h dX11_safest_166 (by decide) (fun _ => rfl) rfl (fun x7_1506 h => ?_)
        refine B_iinc (pc2 := 171) 7 (fun x8_1507 => [(8, .int x8_1507), (7, .int x7_1506), (0, .ref 209), (2, .int x2), (3, .int x3), (4, .int x4), (5, .int x5), (6, .int x6)]) h rfl dX11_safest_168 ic_m1 (by decide) (fun _ => rfl) rfl (fun x8_1507 h => ?_)
        refine G_goto (tgt := 331) dX11_safest_171 (by decide) ?_
        refine G_sub (ls' := [(0, .ref 209), (2, .int x2), (3, .int x3), (4, .int x4), (5, .int x5), (6, .int x6), (7, .int x7_1506), (8, .int x8_1507)]) [2, 3, 4, 5, 6, 7, 1, 0] rfl ?_
        exact hj331_1499 x5 x6 x7_1506 x8_1507 F h
      refine B_icmp_eq (tgt := 152) (pc2 := 141) h dX11_safest_138 (by decide) rfl (fun _ h => ?_) (fun _ h => ?_)
      · refine G_sub (ls' := [(0, .ref 209), (2, .int x2), (3, .int x3), (4, .int x4), (5, .int x5), (6, .int x6), (7, .int x7), (8, .int x8)]) [1, 2, 3, 4, 5, 6, 7, 8] rfl ?_
        exact hj152_1505 () h
      · refine G_aload_n (pc2 := 142) 1 rfl dX11_safest_141 rfl rfl ?_
        refine T_209_23 (pc2 := 145) kw_925 dX11_safest_142 rfl ?_
        refine G_iload (pc2 := 147) 8 rfl dX11_safest_145 rfl ?_
        refine AM (pc2 := 148) (fa_223 _ _ _ _) h dX11_safest_147 rfl (fun h => ?_)
        refine G_iload_n (pc2 := 149) 2 rfl dX11_safest_148 rfl rfl ?_
        refine B_icmp_ne (tgt := 174) (pc2 := 152) h dX11_safest_149 (by decide) rfl (fun _ h => ?_) (fun _ h => ?_)
        · refine G_aload_n (pc2 := 175) 1 rfl dX11_safest_174 rfl rfl ?_
          refine T_209_24 (pc2 := 178) kw_926 dX11_safest_175 rfl ?_
          refine G_iload (pc2 := 180) 8 rfl dX11_safest_178 rfl ?_
          refine G_dup2 (pc2 := 181) rfl rfl dX11_safest_180 rfl ?_
          refine AM (pc2 := 182) (fa_224 _ _ _ _) h dX11_safest_181 rfl (fun h => ?_)
          refine G_iconst (pc2 := 183) dX11_safest_182 ic_1 rfl ?_
          refine G_iadd (pc2 := 184) dX11_safest_183 rfl ?_
          refine SM (pc2 := 185) (fa_224 _ _ _ _) h dX11_safest_184 rfl (fun F_1508 h => ?_)
          refine G_aload_n (pc2 := 186) 1 rfl dX11_safest_185 rfl rfl ?_
          refine G_iload (pc2 := 188) 0 rfl dX11_safest_186 rfl ?_
          refine G_aload_n (pc2 := 189) 1 rfl dX11_safest_188 rfl rfl ?_
          refine T_209_23 (pc2 := 192) kw_925 dX11_safest_189 rfl ?_
          refine G_iload (pc2 := 194) 8 rfl dX11_safest_192 rfl ?_
          refine AM (pc2 := 195) (fa_223 _ _ _ _) h dX11_safest_194 rfl (fun h => ?_)
          obtain ⟨c_1509, hc_1509, h⟩ := ob_e h
          refine B_callV (pc2 := 198) si_X11_193 (c_X11_beyond hc_1509) (qo_209 _ _ _ _) rfl rfl rfl (st := []) (stq := [.int c_1509]) rfl (by decide) (by decide) (Nat.le_of_ble_eq_true rfl) mkW_ll dX11_safest_195 rfl rfl ?_ ⟨rfl, rfl⟩
          refine B_istore (pc2 := 200) (fun x10_1510 => [(10, .int x10_1510), (9, .int x9_1498), (0, .ref 209), (2, .int x2), (3, .int x3), (4, .int x4), (5, .int x5), (6, .int x6), (7, .int x7), (8, .int x8)]) h dX11_safest_198 (by decide) (fun _ => rfl) rfl (fun x10_1510 h => ?_)
          refine G_iload (pc2 := 202) 5 rfl dX11_safest_200 rfl ?_
          refine G_iload (pc2 := 204) 1 rfl dX11_safest_202 rfl ?_
          obtain ⟨c_1511, hc_1511, h⟩ := ob_e h
          refine B_callS (pc2 := 207) si_X11_151 (c_X11_has hc_1511) rfl (st := []) (stq := [.int c_1511]) rfl (by decide) (by decide) (Nat.le_of_ble_eq_true rfl) rfl dX11_safest_204 rfl rfl ?_ ⟨rfl, rfl⟩
          refine B_if_eq (tgt := 331) (pc2 := 210) h dX11_safest_207 (by decide) rfl (fun _ h => ?_) (fun _ h => ?_)
          · refine G_sub (ls' := [(0, .ref 209), (2, .int x2), (3, .int x3), (4, .int x4), (5, .int x5), (6, .int x6), (7, .int x7), (8, .int x8)]) [2, 3, 4, 5, 6, 7, 8, 9] rfl ?_
            exact hj331_1499 x5 x6 x7 x8 F_1508 h
          · refine G_iload (pc2 := 212) 0 rfl dX11_safest_210 rfl ?_
            refine G_iconst (pc2 := 213) dX11_safest_212 ic_m1 rfl ?_
            refine B_icmp_eq (tgt := 331) (pc2 := 216) h dX11_safest_213 (by decide) rfl (fun _ h => ?_) (fun _ h => ?_)
            · refine G_sub (ls' := [(0, .ref 209), (2, .int x2), (3, .int x3), (4, .int x4), (5, .int x5), (6, .int x6), (7, .int x7), (8, .int x8)]) [2, 3, 4, 5, 6, 7, 8, 9] rfl ?_
              exact hj331_1499 x5 x6 x7 x8 F_1508 h
            · refine G_iload (pc2 := 218) 8 rfl dX11_safest_216 rfl ?_
              refine G_iload (pc2 := 220) 0 rfl dX11_safest_218 rfl ?_
              obtain ⟨c_1512, hc_1512, h⟩ := ob_e h
              refine B_callS (pc2 := 223) si_X11_151 (c_X11_has hc_1512) rfl (st := []) (stq := [.int c_1512]) rfl (by decide) (by decide) (Nat.le_of_ble_eq_true rfl) rfl dX11_safest_220 rfl rfl ?_ ⟨rfl, rfl⟩
              refine B_if_ne (tgt := 331) (pc2 := 226) h dX11_safest_223 (by decide) rfl (fun _ h => ?_) (fun _ h => ?_)
              · refine G_sub (ls' := [(0, .ref 209), (2, .int x2), (3, .int x3), (4, .int x4), (5, .int x5), (6, .int x6), (7, .int x7), (8, .int x8)]) [2, 3, 4, 5, 6, 7, 8, 9] rfl ?_
                exact hj331_1499 x5 x6 x7 x8 F_1508 h
              · refine G_aload_n (pc2 := 227) 2 rfl dX11_safest_226 rfl rfl ?_
                refine T_209_25 (pc2 := 230) kw_927 dX11_safest_227 rfl ?_
                refine G_iload (pc2 := 232) 9 rfl dX11_safest_230 rfl ?_
                refine AM (pc2 := 233) (fa_225 _ _ _ _) h dX11_safest_232 rfl (fun h => ?_)
                refine G_i2l (pc2 := 234) dX11_safest_233 rfl ?_
                refine G_bipush (pc2 := 236) dX11_safest_234 ib_100 rfl ?_
                refine G_aload_n (pc2 := 237) 2 rfl dX11_safest_236 rfl rfl ?_
                refine T_209_8 (pc2 := 240) kw_910 dX11_safest_237 rfl ?_
                refine G_bipush (pc2 := 242) dX11_safest_240 ib_31 rfl ?_
                refine G_iload (pc2 := 244) 1 rfl dX11_safest_242 rfl ?_
                refine G_iadd (pc2 := 245) dX11_safest_244 rfl ?_
                refine AM (pc2 := 246) (fa_212 _ _ _ _) h dX11_safest_245 rfl (fun h => ?_)
                refine G_isub (pc2 := 247) dX11_safest_246 rfl ?_
                refine G_i2l (pc2 := 248) dX11_safest_247 rfl ?_
                refine G_lmul (pc2 := 249) dX11_safest_248 rfl ?_
                refine G_ldc2 (pc2 := 252) kw_1218 dX11_safest_249 rfl ?_
                refine G_ldiv (pc2 := 253) dX11_safest_252 (by decide) rfl ?_
                refine B_lstore (pc2 := 255) (fun x11_1513 => [(11, .long x11_1513), (10, .int x10_1510), (9, .int x9_1498), (0, .ref 209), (2, .int x2), (3, .int x3), (4, .int x4), (5, .int x5), (6, .int x6), (7, .int x7), (8, .int x8)]) h dX11_safest_253 (by decide) (fun _ => rfl) rfl (fun x11_1513 h => ?_)
                refine B_iinc (pc2 := 258) 10 (fun x8_1514 => [(8, .int x8_1514), (11, .long x11_1513), (10, .int x10_1510), (9, .int x9_1498), (0, .ref 209), (2, .int x2), (3, .int x3), (4, .int x4), (5, .int x5), (6, .int x6), (7, .int x7)]) h rfl dX11_safest_255 ic_1 (by decide) (fun _ => rfl) rfl (fun x8_1514 h => ?_)
                refine G_aload_n (pc2 := 259) 4 rfl dX11_safest_258 rfl rfl ?_
                refine T_209_23 (pc2 := 262) kw_925 dX11_safest_259 rfl ?_
                refine G_iload (pc2 := 264) 0 rfl dX11_safest_262 rfl ?_
                refine G_iload (pc2 := 266) 2 rfl dX11_safest_264 rfl ?_
                refine SM (pc2 := 267) (fa_223 _ _ _ _) h dX11_safest_266 rfl (fun F_1515 h => ?_)
                refine G_aload_n (pc2 := 268) 4 rfl dX11_safest_267 rfl rfl ?_
                refine T_209_24 (pc2 := 271) kw_926 dX11_safest_268 rfl ?_
                refine G_iload (pc2 := 273) 0 rfl dX11_safest_271 rfl ?_
                refine G_iconst (pc2 := 274) dX11_safest_273 ic_0 rfl ?_
                refine SM (pc2 := 275) (fa_224 _ _ _ _) h dX11_safest_274 rfl (fun F_1516 h => ?_)
                refine G_aload_n (pc2 := 276) 4 rfl dX11_safest_275 rfl rfl ?_
                refine T_209_25 (pc2 := 279) kw_927 dX11_safest_276 rfl ?_
                refine G_iload (pc2 := 281) 0 rfl dX11_safest_279 rfl ?_
                refine G_lload (pc2 := 283) 1 rfl dX11_safest_281 rfl ?_
                refine G_l2i (pc2 := 284) dX11_safest_283 rfl ?_
                refine SM (pc2 := 285) (fa_225 _ _ _ _) h dX11_safest_284 rfl (fun F_1517 h => ?_)
                refine G_iload (pc2 := 287) 10 rfl dX11_safest_285 rfl ?_
                refine G_iconst (pc2 := 288) dX11_safest_287 ic_1 rfl ?_
                refine G_iload (pc2 := 290) 2 rfl dX11_safest_288 rfl ?_
                refine G_ishl (pc2 := 291) dX11_safest_290 rfl ?_
                refine G_ior (pc2 := 292) dX11_safest_291 rfl ?_
                refine B_istore (pc2 := 294) (fun x7_1518 => [(7, .int x7_1518), (8, .int x8_1514), (11, .long x11_1513), (10, .int x10_1510), (9, .int x9_1498), (0, .ref 209), (2, .int x2), (3, .int x3), (4, .int x4), (5, .int x5), (6, .int x6)]) h dX11_safest_292 (by decide) (fun _ => rfl) rfl (fun x7_1518 h => ?_)
                refine G_iload (pc2 := 296) 3 rfl dX11_safest_294 rfl ?_
                refine G_iload_n (pc2 := 297) 6 rfl dX11_safest_296 rfl rfl ?_
                refine B_icmp_ne (tgt := 331) (pc2 := 300) h dX11_safest_297 (by decide) rfl (fun _ h => ?_) (fun _ h => ?_)
                · refine G_sub (ls' := [(0, .ref 209), (2, .int x2), (3, .int x3), (4, .int x4), (5, .int x5), (6, .int x6), (7, .int x7_1518), (8, .int x8_1514)]) [5, 6, 7, 8, 9, 10, 0, 1] rfl ?_
                  exact hj331_1499 x5 x6 x7_1518 x8_1514 F_1517 h
                · refine G_aload_n (pc2 := 301) 5 rfl dX11_safest_300 rfl rfl ?_
                  refine T_209_25 (pc2 := 304) kw_927 dX11_safest_301 rfl ?_
                  refine G_iload (pc2 := 306) 1 rfl dX11_safest_304 rfl ?_
                  refine AM (pc2 := 307) (fa_225 _ _ _ _) h dX11_safest_306 rfl (fun h => ?_)
                  refine G_iload (pc2 := 309) 9 rfl dX11_safest_307 rfl ?_
                  refine B_icmp_le (tgt := 331) (pc2 := 312) h dX11_safest_309 (by decide) rfl (fun _ h => ?_) (fun _ h => ?_)
                  · refine G_sub (ls' := [(0, .ref 209), (2, .int x2), (3, .int x3), (4, .int x4), (5, .int x5), (6, .int x6), (7, .int x7_1518), (8, .int x8_1514)]) [5, 6, 7, 8, 9, 10, 0, 1] rfl ?_
                    exact hj331_1499 x5 x6 x7_1518 x8_1514 F_1517 h
                  · refine G_aload_n (pc2 := 313) 5 rfl dX11_safest_312 rfl rfl ?_
                    refine T_209_25 (pc2 := 316) kw_927 dX11_safest_313 rfl ?_
                    refine G_iload (pc2 := 318) 1 rfl dX11_safest_316 rfl ?_
                    refine AM (pc2 := 319) (fa_225 _ _ _ _) h dX11_safest_318 rfl (fun h => ?_)
                    refine B_istore (pc2 := 321) (fun x5_1519 => [(5, .int x5_1519), (7, .int x7_1518), (8, .int x8_1514), (11, .long x11_1513), (10, .int x10_1510), (9, .int x9_1498), (0, .ref 209), (2, .int x2), (3, .int x3), (4, .int x4), (6, .int x6)]) h dX11_safest_319 (by decide) (fun _ => rfl) rfl (fun x5_1519 h => ?_)
                    refine G_aload_n (pc2 := 322) 6 rfl dX11_safest_321 rfl rfl ?_
                    refine T_209_24 (pc2 := 325) kw_926 dX11_safest_322 rfl ?_
                    refine G_iconst (pc2 := 326) dX11_safest_325 ic_0 rfl ?_
                    refine AMc (pc2 := 327) (fa_224 _ _ _ _) cl_0 rfl dX11_safest_326 rfl ?_
                    refine G_iconst (pc2 := 328) dX11_safest_327 ic_1 rfl ?_
                    refine G_isub (pc2 := 329) dX11_safest_328 rfl ?_
                    refine B_istore (pc2 := 331) (fun x6_1520 => [(6, .int x6_1520), (5, .int x5_1519), (7, .int x7_1518), (8, .int x8_1514), (11, .long x11_1513), (10, .int x10_1510), (9, .int x9_1498), (0, .ref 209), (2, .int x2), (3, .int x3), (4, .int x4)]) h dX11_safest_329 (by decide) (fun _ => rfl) rfl (fun x6_1520 h => ?_)
                    refine G_sub (ls' := [(0, .ref 209), (2, .int x2), (3, .int x3), (4, .int x4), (5, .int x5_1519), (6, .int x6_1520), (7, .int x7_1518), (8, .int x8_1514)]) [7, 8, 9, 10, 1, 0, 2, 3] rfl ?_
                    exact hj331_1499 x5_1519 x6_1520 x7_1518 x8_1514 F_1517 h
        · refine G_sub (ls' := [(0, .ref 209), (2, .int x2), (3, .int x3), (4, .int x4), (5, .int x5), (6, .int x6), (7, .int x7), (8, .int x8)]) [1, 2, 3, 4, 5, 6, 7, 8] rfl ?_
          exact hj152_1505 () h
set_option maxRecDepth 100000 in
set_option maxHeartbeats 4000000 in
theorem c_X11_safest {x1 : Int32} {x2 : Int32} {x3 : Int32} {I : WI} {F : WF} {J : WI} {K : WF} {a : Int32 × WI × WF} (h : f_X11_safest x1 x2 x3 I F = some a) : CT md_X11_safest yX11_safest (rmD 5) [.ref 209, .int x1, .int x2, .int x3] (mkW J K I F) (some (.int a.1)) (mkW J K a.2.1 a.2.2) := CT_of pn_X11 ⟨rfl, rfl⟩ (Nat.le_of_ble_eq_true rfl) (fun X => by
  show GG X md_X11_safest (rmD 5) _ 0 0 0 [(0, .ref 209), (1, .int x1), (2, .int x2), (3, .int x3)] [] (mkW J K I F)
  unfold f_X11_safest at h
  refine G_aload_n (pc2 := 1) 0 rfl dX11_safest_0 rfl rfl ?_
  refine G_iconst (pc2 := 2) dX11_safest_1 ic_0 rfl ?_
  refine P_209_0 (pc2 := 5) h kw_902 dX11_safest_2 rfl (fun I_1485 h => ?_)
  refine G_aload_n (pc2 := 6) 0 rfl dX11_safest_5 rfl rfl ?_
  refine G_iload_n (pc2 := 7) 1 rfl dX11_safest_6 rfl rfl ?_
  obtain ⟨c_1486, hc_1486, h⟩ := ob_e h
  refine B_callV (pc2 := 10) si_X11_186 (c_X11_isJumper hc_1486) (qo_209 _ _ _ _) rfl rfl rfl (st := []) (stq := [.int c_1486]) rfl (by decide) (by decide) (Nat.le_of_ble_eq_true rfl) mkW_ll dX11_safest_7 rfl rfl ?_ ⟨rfl, rfl⟩
  refine B_if_eq (tgt := 21) (pc2 := 13) h dX11_safest_10 (by decide) rfl (fun _ h => ?_) (fun _ h => ?_)
  · refine G_ldc (pc2 := 23) kw_1094 dX11_safest_21 rfl ?_
    have ha := Option.some.inj h
    subst ha
    exact G_iret rfl dX11_safest_23
  · refine G_aload_n (pc2 := 14) 0 rfl dX11_safest_13 rfl rfl ?_
    refine G_iload_n (pc2 := 15) 2 rfl dX11_safest_14 rfl rfl ?_
    obtain ⟨c_1487, hc_1487, h⟩ := ob_e h
    refine B_callV (pc2 := 18) si_X11_223 (c_X11_isPlace hc_1487) (qo_209 _ _ _ _) rfl rfl rfl (st := []) (stq := [.int c_1487]) rfl (by decide) (by decide) (Nat.le_of_ble_eq_true rfl) mkW_ll dX11_safest_15 rfl rfl ?_ ⟨rfl, rfl⟩
    refine B_if_ne (tgt := 24) (pc2 := 21) h dX11_safest_18 (by decide) rfl (fun _ h => ?_) (fun _ h => ?_)
    · refine G_iload_n (pc2 := 25) 3 rfl dX11_safest_24 rfl rfl ?_
      refine G_iconst (pc2 := 26) dX11_safest_25 ic_0 rfl ?_
      refine G_iconst (pc2 := 27) dX11_safest_26 ic_1 rfl ?_
      obtain ⟨c_1488, hc_1488, h⟩ := ob_e h
      refine B_callS (pc2 := 30) si_X11_66 (c_X11_in hc_1488) rfl (st := []) (stq := [.int c_1488]) rfl (by decide) (by decide) (Nat.le_of_ble_eq_true rfl) rfl dX11_safest_27 rfl rfl ?_ ⟨rfl, rfl⟩
      refine B_if_ne (tgt := 36) (pc2 := 33) h dX11_safest_30 (by decide) rfl (fun _ h => ?_) (fun _ h => ?_)
      · refine G_aload_n (pc2 := 37) 0 rfl dX11_safest_36 rfl rfl ?_
        refine T_209_9 (pc2 := 40) kw_911 dX11_safest_37 rfl ?_
        refine G_iconst (pc2 := 41) dX11_safest_40 ic_0 rfl ?_
        refine G_iload_n (pc2 := 42) 1 rfl dX11_safest_41 rfl rfl ?_
        refine G_iadd (pc2 := 43) dX11_safest_42 rfl ?_
        refine AM (pc2 := 44) (fa_213 _ _ _ _) h dX11_safest_43 rfl (fun h => ?_)
        refine G_iload_n (pc2 := 45) 2 rfl dX11_safest_44 rfl rfl ?_
        refine B_icmp_ne (tgt := 59) (pc2 := 48) h dX11_safest_45 (by decide) rfl (fun _ h => ?_) (fun _ h => ?_)
        · refine G_aload_n (pc2 := 60) 0 rfl dX11_safest_59 rfl rfl ?_
          refine G_iload_n (pc2 := 61) 1 rfl dX11_safest_60 rfl rfl ?_
          obtain ⟨c_1489, hc_1489, h⟩ := ob_e h
          refine B_callV (pc2 := 64) si_X11_189 (c_X11_daresOf hc_1489) (qo_209 _ _ _ _) rfl rfl rfl (st := []) (stq := [.int c_1489]) rfl (by decide) (by decide) (Nat.le_of_ble_eq_true rfl) mkW_ll dX11_safest_61 rfl rfl ?_ ⟨rfl, rfl⟩
          refine B_istore (pc2 := 66) (fun x4_1490 => [(4, .int x4_1490), (0, .ref 209), (1, .int x1), (2, .int x2), (3, .int x3)]) h dX11_safest_64 (by decide) (fun _ => rfl) rfl (fun x4_1490 h => ?_)
          refine G_iconst (pc2 := 67) dX11_safest_66 ic_m1 rfl ?_
          refine B_istore (pc2 := 69) (fun x5_1491 => [(5, .int x5_1491), (4, .int x4_1490), (0, .ref 209), (1, .int x1), (2, .int x2), (3, .int x3)]) h dX11_safest_67 (by decide) (fun _ => rfl) rfl (fun x5_1491 h => ?_)
          refine G_iconst (pc2 := 70) dX11_safest_69 ic_m1 rfl ?_
          refine B_istore (pc2 := 72) (fun x6_1492 => [(6, .int x6_1492), (5, .int x5_1491), (4, .int x4_1490), (0, .ref 209), (1, .int x1), (2, .int x2), (3, .int x3)]) h dX11_safest_70 (by decide) (fun _ => rfl) rfl (fun x6_1492 h => ?_)
          refine G_iconst (pc2 := 73) dX11_safest_72 ic_1 rfl ?_
          refine G_aload_n (pc2 := 74) 3 rfl dX11_safest_73 rfl rfl ?_
          refine T_209_9 (pc2 := 77) kw_911 dX11_safest_74 rfl ?_
          refine G_iconst (pc2 := 78) dX11_safest_77 ic_0 rfl ?_
          refine G_iload_n (pc2 := 79) 4 rfl dX11_safest_78 rfl rfl ?_
          refine G_iadd (pc2 := 80) dX11_safest_79 rfl ?_
          refine AM (pc2 := 81) (fa_213 _ _ _ _) h dX11_safest_80 rfl (fun h => ?_)
          refine G_ishl (pc2 := 82) dX11_safest_81 rfl ?_
          refine B_istore (pc2 := 84) (fun x7_1493 => [(7, .int x7_1493), (6, .int x6_1492), (5, .int x5_1491), (4, .int x4_1490), (0, .ref 209), (1, .int x1), (2, .int x2), (3, .int x3)]) h dX11_safest_82 (by decide) (fun _ => rfl) rfl (fun x7_1493 h => ?_)
          refine G_iconst (pc2 := 85) dX11_safest_84 ic_0 rfl ?_
          refine B_istore (pc2 := 87) (fun x8_1494 => [(8, .int x8_1494), (7, .int x7_1493), (6, .int x6_1492), (5, .int x5_1491), (4, .int x4_1490), (0, .ref 209), (1, .int x1), (2, .int x2), (3, .int x3)]) h dX11_safest_85 (by decide) (fun _ => rfl) rfl (fun x8_1494 h => ?_)
          refine G_aload_n (pc2 := 88) 5 rfl dX11_safest_87 rfl rfl ?_
          refine T_209_23 (pc2 := 91) kw_925 dX11_safest_88 rfl ?_
          refine G_iconst (pc2 := 92) dX11_safest_91 ic_0 rfl ?_
          refine G_aload_n (pc2 := 93) 5 rfl dX11_safest_92 rfl rfl ?_
          refine T_209_9 (pc2 := 96) kw_911 dX11_safest_93 rfl ?_
          refine G_iconst (pc2 := 97) dX11_safest_96 ic_0 rfl ?_
          refine G_iload_n (pc2 := 98) 6 rfl dX11_safest_97 rfl rfl ?_
          refine G_iadd (pc2 := 99) dX11_safest_98 rfl ?_
          refine AM (pc2 := 100) (fa_213 _ _ _ _) h dX11_safest_99 rfl (fun h => ?_)
          refine SMc (pc2 := 101) (fa_223 _ _ _ _) h cl_0 rfl dX11_safest_100 rfl (fun F_1495 h => ?_)
          refine G_aload_n (pc2 := 102) 5 rfl dX11_safest_101 rfl rfl ?_
          refine T_209_24 (pc2 := 105) kw_926 dX11_safest_102 rfl ?_
          refine G_iconst (pc2 := 106) dX11_safest_105 ic_0 rfl ?_
          refine G_iconst (pc2 := 107) dX11_safest_106 ic_0 rfl ?_
          refine SMc (pc2 := 108) (fa_224 _ _ _ _) h cl_0 rfl dX11_safest_107 rfl (fun F_1496 h => ?_)
          refine G_aload_n (pc2 := 109) 5 rfl dX11_safest_108 rfl rfl ?_
          refine T_209_25 (pc2 := 112) kw_927 dX11_safest_109 rfl ?_
          refine G_iconst (pc2 := 113) dX11_safest_112 ic_0 rfl ?_
          refine G_ldc (pc2 := 115) kw_1217 dX11_safest_113 rfl ?_
          refine SMc (pc2 := 116) (fa_225 _ _ _ _) h cl_0 rfl dX11_safest_115 rfl (fun F_1497 h => ?_)
          refine G_sub (ls' := [(0, .ref 209), (2, .int x2), (3, .int x3), (4, .int x4_1490), (5, .int x5_1491), (6, .int x6_1492), (7, .int x7_1493), (8, .int x8_1494)]) [5, 7, 8, 4, 3, 2, 1, 0] rfl ?_
          refine g_L_X11_safest_116 (fun x5_1521 x6_1522 F_1523 h => ?_) FU x5_1491 x6_1492 x7_1493 x8_1494 F_1497 h
          refine G_iload_n (pc2 := 335) 0 rfl dX11_safest_334 rfl rfl ?_
          refine B_if_ne (tgt := 343) (pc2 := 338) h dX11_safest_335 (by decide) rfl (fun _ h => ?_) (fun _ h => ?_)
          · refine G_iload (pc2 := 345) 2 rfl dX11_safest_343 rfl ?_
            have ha := Option.some.inj h
            subst ha
            exact G_iret rfl dX11_safest_345
          · refine G_iload (pc2 := 340) 1 rfl dX11_safest_338 rfl ?_
            refine G_goto (tgt := 345) dX11_safest_340 (by decide) ?_
            have ha := Option.some.inj h
            subst ha
            exact G_iret rfl dX11_safest_345
        · refine G_iload_n (pc2 := 49) 3 rfl dX11_safest_48 rfl rfl ?_
          refine B_if_ne (tgt := 57) (pc2 := 52) h dX11_safest_49 (by decide) rfl (fun _ h => ?_) (fun _ h => ?_)
          · refine G_iconst (pc2 := 58) dX11_safest_57 ic_m1 rfl ?_
            have ha := Option.some.inj h
            subst ha
            exact G_iret rfl dX11_safest_58
          · refine G_ldc (pc2 := 54) kw_1217 dX11_safest_52 rfl ?_
            refine G_goto (tgt := 58) dX11_safest_54 (by decide) ?_
            have ha := Option.some.inj h
            subst ha
            exact G_iret rfl dX11_safest_58
      · refine G_ldc (pc2 := 35) kw_989 dX11_safest_33 rfl ?_
        have ha := Option.some.inj h
        subst ha
        exact G_iret rfl dX11_safest_35
    · refine G_ldc (pc2 := 23) kw_1094 dX11_safest_21 rfl ?_
      have ha := Option.some.inj h
      subst ha
      exact G_iret rfl dX11_safest_23)
def f_X11_canKeep (x1 : Int32) (x2 : Int32) (x3 : Int32) (I : WI) (F : WF) : Option (Int32) :=
  Option.bind (f_X11_timeOf x3 I F) fun c_1538 =>
  Option.bind (f_X11_flightOf x1 x2 I F) fun c_1539 =>
  if c_1539 < c_1538 then (some (0 : Int32))
  else (some (1 : Int32))
set_option maxRecDepth 100000 in
set_option maxHeartbeats 4000000 in
theorem c_X11_canKeep {x1 : Int32} {x2 : Int32} {x3 : Int32} {I : WI} {F : WF} {J : WI} {K : WF} {a : Int32} (h : f_X11_canKeep x1 x2 x3 I F = some a) : CT md_X11_canKeep yX11_canKeep (rmD 3) [.ref 209, .int x1, .int x2, .int x3] (mkW J K I F) (some (.int a)) (mkW J K I F) := CT_of pn_X11 ⟨rfl, rfl⟩ (Nat.le_of_ble_eq_true rfl) (fun X => by
  show GG X md_X11_canKeep (rmD 3) _ 0 0 0 [(0, .ref 209), (1, .int x1), (2, .int x2), (3, .int x3)] [] (mkW J K I F)
  unfold f_X11_canKeep at h
  refine G_aload_n (pc2 := 1) 0 rfl dX11_canKeep_0 rfl rfl ?_
  refine G_iload_n (pc2 := 2) 3 rfl dX11_canKeep_1 rfl rfl ?_
  obtain ⟨c_1538, hc_1538, h⟩ := ob_e h
  refine B_callV (pc2 := 5) si_X11_141 (c_X11_timeOf hc_1538) (qo_209 _ _ _ _) rfl rfl rfl (st := []) (stq := [.int c_1538]) rfl (by decide) (by decide) (Nat.le_of_ble_eq_true rfl) mkW_ll dX11_canKeep_2 rfl rfl ?_ ⟨rfl, rfl⟩
  refine G_aload_n (pc2 := 6) 0 rfl dX11_canKeep_5 rfl rfl ?_
  refine G_iload_n (pc2 := 7) 1 rfl dX11_canKeep_6 rfl rfl ?_
  refine G_iload_n (pc2 := 8) 2 rfl dX11_canKeep_7 rfl rfl ?_
  obtain ⟨c_1539, hc_1539, h⟩ := ob_e h
  refine B_callV (pc2 := 11) si_X11_144 (c_X11_flightOf hc_1539) (qo_209 _ _ _ _) rfl rfl rfl (st := [.int c_1538]) (stq := [.int c_1539, .int c_1538]) rfl (by decide) (by decide) (Nat.le_of_ble_eq_true rfl) mkW_ll dX11_canKeep_8 rfl rfl ?_ ⟨rfl, rfl⟩
  refine B_icmp_gt (tgt := 18) (pc2 := 14) h dX11_canKeep_11 (by decide) rfl (fun _ h => ?_) (fun _ h => ?_)
  · refine G_iconst (pc2 := 19) dX11_canKeep_18 ic_0 rfl ?_
    have ha := Option.some.inj h
    subst ha
    exact G_zret (v := (0 : Int32)) rfl (by decide) dX11_canKeep_19
  · refine G_iconst (pc2 := 15) dX11_canKeep_14 ic_1 rfl ?_
    refine G_goto (tgt := 19) dX11_canKeep_15 (by decide) ?_
    have ha := Option.some.inj h
    subst ha
    exact G_zret (v := (1 : Int32)) rfl (by decide) dX11_canKeep_19)
def L_X11_givesPosts_63 (k : Int32 → Option (WF)) (x1 : Int32) (x2 : Int32) (x3 : Int32) (x4 : Int32) (I : WI) (F : WF) : Nat → Int32 → Int32 → Option (WF)
  | 0, _, _ => none
  | n + 1, x5, x6 =>
  if (F 2 2) ≤ x6 then (k x5)
  else (if (F 2 1) ≤ x3 then (k x5)
  else (Option.bind (f_X11_has x4 x6) fun c_1534 =>
  bnd (fun (x5_1536 : Int32) => bnd (x6 + (1 : Int32)) fun x6_1537 =>
  L_X11_givesPosts_63 k x1 x2 x3 x4 I F n x5_1536 x6_1537) fun j145_1535 =>
  if c_1534 = 0 then (Option.bind (f_X11_canKeep x1 x3 x6 I F) fun c_1540 =>
  if c_1540 = 0 then (j145_1535 x5)
  else (ixG (((512 : Int32) * (x3 + (1 : Int32))) + (x4 ||| ((1 : Int32) <<< (x6 &&& 31)))) 5120 (
  bnd ((1 : Int32) + (F 12 (((512 : Int32) * (x3 + (1 : Int32))) + (x4 ||| ((1 : Int32) <<< (x6 &&& 31)))).toNatClampNeg)) fun x7_1541 =>
  bnd (fun (s_1543 : Int32) => bnd s_1543 fun x5_1544 =>
  j145_1535 x5_1544) fun j143_1542 =>
  if x7_1541 ≤ x5 then (j143_1542 x5)
  else (j143_1542 x7_1541))))
  else (j145_1535 x5)))
def L_X11_givesPosts_23 (k : WF → Option (WF)) (x1 : Int32) (x2 : Int32) (x3 : Int32) (I : WI) : Nat → Int32 → WF → Option (WF)
  | 0, _, _ => none
  | n + 1, x4, F =>
  if x2 ≤ x4 then (k F)
  else (bnd (fun (s_1531 : Int32) => bnd s_1531 fun x5_1532 =>
  bnd (0 : Int32) fun x6_1533 =>
  L_X11_givesPosts_63 (fun x5_1545 => ixG (((512 : Int32) * x3) + x4) 5120 (bnd (uF F 12 (upd (F 12) (((512 : Int32) * x3) + x4).toNatClampNeg x5_1545)) fun F_1546 =>
  bnd (x4 + (1 : Int32)) fun x4_1547 =>
  L_X11_givesPosts_23 k x1 x2 x3 I n x4_1547 F_1546)) x1 x2 x3 x4 I F FU x5_1532 x6_1533) fun j58_1530 =>
  if x3 = (F 2 1) then (j58_1530 (0 : Int32))
  else (ixG (((512 : Int32) * (x3 + (1 : Int32))) + x4) 5120 (
  j58_1530 (F 12 (((512 : Int32) * (x3 + (1 : Int32))) + x4).toNatClampNeg))))
def L_X11_givesPosts_16 (k : WF → Option (WF)) (x1 : Int32) (x2 : Int32) (I : WI) : Nat → Int32 → WF → Option (WF)
  | 0, _, _ => none
  | n + 1, x3, F =>
  if x3 < 0 then (k F)
  else (bnd (0 : Int32) fun x4_1529 =>
  L_X11_givesPosts_23 (fun F_1548 => bnd (x3 + (-1 : Int32)) fun x3_1549 =>
  L_X11_givesPosts_16 k x1 x2 I n x3_1549 F_1548) x1 x2 x3 I FU x4_1529 F)
def f_X11_givesPosts (x1 : Int32) (I : WI) (F : WF) : Option (WF) :=
  bnd ((1 : Int32) <<< ((F 2 2) &&& 31)) fun x2_1527 =>
  bnd (F 2 1) fun x3_1528 =>
  L_X11_givesPosts_16 (fun F_1550 => some F_1550) x1 x2_1527 I FU x3_1528 F
set_option maxRecDepth 100000 in
set_option maxHeartbeats 4000000 in
theorem g_L_X11_givesPosts_63 {X : XT} {x1 : Int32} {x2 : Int32} {x3 : Int32} {x4 : Int32} {I : WI} {F : WF} {J : WI} {K : WF} {a : WF} {k : Int32 → Option (WF)} (hk : ∀ (e5 : Int32), (k e5 = some a → GG X md_X11_givesPosts (rmD 4) (gv_Z X (rmD 4).cells (rmD 4).slots none (mkW J K I a)) 0 0 151 [(0, .ref 209), (1, .int x1), (2, .int x2), (3, .int x3), (4, .int x4), (5, .int e5)] [] (mkW J K I F))) : ∀ (n : Nat) (x5 : Int32) (x6 : Int32), L_X11_givesPosts_63 k x1 x2 x3 x4 I F n x5 x6 = some a → GG X md_X11_givesPosts (rmD 4) (gv_Z X (rmD 4).cells (rmD 4).slots none (mkW J K I a)) 0 0 63 [(0, .ref 209), (1, .int x1), (2, .int x2), (3, .int x3), (4, .int x4), (5, .int x5), (6, .int x6)] [] (mkW J K I F) := by
  intro n
  induction n with
  | zero =>
    intro x5 x6 h
    rw [L_X11_givesPosts_63] at h
    cases h
  | succ n ih =>
    intro x5 x6 h
    rw [L_X11_givesPosts_63] at h
    refine G_iload (pc2 := 65) 6 rfl dX11_givesPosts_63 rfl ?_
    refine G_aload_n (pc2 := 66) 0 rfl dX11_givesPosts_65 rfl rfl ?_
    refine T_209_8 (pc2 := 69) kw_910 dX11_givesPosts_66 rfl ?_
    refine G_iconst (pc2 := 70) dX11_givesPosts_69 ic_2 rfl ?_
    refine AMc (pc2 := 71) (fa_212 _ _ _ _) cl_2 rfl dX11_givesPosts_70 rfl ?_
    refine B_icmp_ge (tgt := 151) (pc2 := 74) h dX11_givesPosts_71 (by decide) rfl (fun _ h => ?_) (fun _ h => ?_)
    · refine G_sub (ls' := [(0, .ref 209), (1, .int x1), (2, .int x2), (3, .int x3), (4, .int x4), (5, .int x5)]) [0, 1, 2, 3, 4, 5] rfl ?_
      exact hk x5 h
    · refine G_iload_n (pc2 := 75) 3 rfl dX11_givesPosts_74 rfl rfl ?_
      refine G_aload_n (pc2 := 76) 0 rfl dX11_givesPosts_75 rfl rfl ?_
      refine T_209_8 (pc2 := 79) kw_910 dX11_givesPosts_76 rfl ?_
      refine G_iconst (pc2 := 80) dX11_givesPosts_79 ic_1 rfl ?_
      refine AMc (pc2 := 81) (fa_212 _ _ _ _) cl_1 rfl dX11_givesPosts_80 rfl ?_
      refine B_icmp_ge (tgt := 151) (pc2 := 84) h dX11_givesPosts_81 (by decide) rfl (fun _ h => ?_) (fun _ h => ?_)
      · refine G_sub (ls' := [(0, .ref 209), (1, .int x1), (2, .int x2), (3, .int x3), (4, .int x4), (5, .int x5)]) [0, 1, 2, 3, 4, 5] rfl ?_
        exact hk x5 h
      · refine G_iload (pc2 := 86) 4 rfl dX11_givesPosts_84 rfl ?_
        refine G_iload (pc2 := 88) 6 rfl dX11_givesPosts_86 rfl ?_
        obtain ⟨c_1534, hc_1534, h⟩ := ob_e h
        refine B_callS (pc2 := 91) si_X11_151 (c_X11_has hc_1534) rfl (st := []) (stq := [.int c_1534]) rfl (by decide) (by decide) (Nat.le_of_ble_eq_true rfl) rfl dX11_givesPosts_88 rfl rfl ?_ ⟨rfl, rfl⟩
        refine jn_e (Gj := True) (fun (j : Int32 → Option (WF)) => ∀ (x5_1536 : Int32), j x5_1536 = some a → GG X md_X11_givesPosts (rmD 4) (gv_Z X (rmD 4).cells (rmD 4).slots none (mkW J K I a)) 0 0 145 [(0, .ref 209), (1, .int x1), (2, .int x2), (3, .int x3), (4, .int x4), (5, .int x5_1536), (6, .int x6)] [] (mkW J K I F)) h (fun x5_1536 h => ?_) (fun j145_1535 hj145_1535 h => ?_)
        · refine B_iinc (pc2 := 148) 6 (fun x6_1537 => [(6, .int x6_1537), (0, .ref 209), (1, .int x1), (2, .int x2), (3, .int x3), (4, .int x4), (5, .int x5_1536)]) h rfl dX11_givesPosts_145 ic_1 (by decide) (fun _ => rfl) rfl (fun x6_1537 h => ?_)
          refine G_goto (tgt := 63) dX11_givesPosts_148 (by decide) ?_
          refine G_sub (ls' := [(0, .ref 209), (1, .int x1), (2, .int x2), (3, .int x3), (4, .int x4), (5, .int x5_1536), (6, .int x6_1537)]) [1, 2, 3, 4, 5, 6, 0] rfl ?_
          exact ih x5_1536 x6_1537 h
        refine B_if_ne (tgt := 145) (pc2 := 94) h dX11_givesPosts_91 (by decide) rfl (fun _ h => ?_) (fun _ h => ?_)
        · exact hj145_1535 x5 h
        · refine G_aload_n (pc2 := 95) 0 rfl dX11_givesPosts_94 rfl rfl ?_
          refine G_iload_n (pc2 := 96) 1 rfl dX11_givesPosts_95 rfl rfl ?_
          refine G_iload_n (pc2 := 97) 3 rfl dX11_givesPosts_96 rfl rfl ?_
          refine G_iload (pc2 := 99) 6 rfl dX11_givesPosts_97 rfl ?_
          obtain ⟨c_1540, hc_1540, h⟩ := ob_e h
          refine B_callV (pc2 := 102) si_X11_229 (c_X11_canKeep hc_1540) (qo_209 _ _ _ _) rfl rfl rfl (st := []) (stq := [.int c_1540]) rfl (by decide) (by decide) (Nat.le_of_ble_eq_true rfl) mkW_ll dX11_givesPosts_99 rfl rfl ?_ ⟨rfl, rfl⟩
          refine B_if_eq (tgt := 145) (pc2 := 105) h dX11_givesPosts_102 (by decide) rfl (fun _ h => ?_) (fun _ h => ?_)
          · exact hj145_1535 x5 h
          · refine G_iconst (pc2 := 106) dX11_givesPosts_105 ic_1 rfl ?_
            refine G_aload_n (pc2 := 107) 0 rfl dX11_givesPosts_106 rfl rfl ?_
            refine T_209_21 (pc2 := 110) kw_923 dX11_givesPosts_107 rfl ?_
            refine G_sipush (pc2 := 113) dX11_givesPosts_110 is_512 rfl ?_
            refine G_iload_n (pc2 := 114) 3 rfl dX11_givesPosts_113 rfl rfl ?_
            refine G_iconst (pc2 := 115) dX11_givesPosts_114 ic_1 rfl ?_
            refine G_iadd (pc2 := 116) dX11_givesPosts_115 rfl ?_
            refine G_imul (pc2 := 117) dX11_givesPosts_116 rfl ?_
            refine G_iload (pc2 := 119) 4 rfl dX11_givesPosts_117 rfl ?_
            refine G_iconst (pc2 := 120) dX11_givesPosts_119 ic_1 rfl ?_
            refine G_iload (pc2 := 122) 6 rfl dX11_givesPosts_120 rfl ?_
            refine G_ishl (pc2 := 123) dX11_givesPosts_122 rfl ?_
            refine G_ior (pc2 := 124) dX11_givesPosts_123 rfl ?_
            refine G_iadd (pc2 := 125) dX11_givesPosts_124 rfl ?_
            refine AM (pc2 := 126) (fa_222 _ _ _ _) h dX11_givesPosts_125 rfl (fun h => ?_)
            refine G_iadd (pc2 := 127) dX11_givesPosts_126 rfl ?_
            refine B_istore (pc2 := 129) (fun x7_1541 => [(7, .int x7_1541), (0, .ref 209), (1, .int x1), (2, .int x2), (3, .int x3), (4, .int x4), (5, .int x5), (6, .int x6)]) h dX11_givesPosts_127 (by decide) (fun _ => rfl) rfl (fun x7_1541 h => ?_)
            refine G_iload (pc2 := 131) 0 rfl dX11_givesPosts_129 rfl ?_
            refine G_iload (pc2 := 133) 6 rfl dX11_givesPosts_131 rfl ?_
            refine jn_e (Gj := True) (fun (j : Int32 → Option (WF)) => ∀ (s_1543 : Int32), j s_1543 = some a → GG X md_X11_givesPosts (rmD 4) (gv_Z X (rmD 4).cells (rmD 4).slots none (mkW J K I a)) 0 0 143 [(0, .ref 209), (1, .int x1), (2, .int x2), (3, .int x3), (4, .int x4), (6, .int x6)] [.int s_1543] (mkW J K I F)) h (fun s_1543 h => ?_) (fun j143_1542 hj143_1542 h => ?_)
            · refine B_istore (pc2 := 145) (fun x5_1544 => [(5, .int x5_1544), (0, .ref 209), (1, .int x1), (2, .int x2), (3, .int x3), (4, .int x4), (6, .int x6)]) h dX11_givesPosts_143 (by decide) (fun _ => rfl) rfl (fun x5_1544 h => ?_)
              refine G_sub (ls' := [(0, .ref 209), (1, .int x1), (2, .int x2), (3, .int x3), (4, .int x4), (5, .int x5_1544), (6, .int x6)]) [1, 2, 3, 4, 5, 0, 6] rfl ?_
              exact hj145_1535 x5_1544 h
            refine B_icmp_le (tgt := 141) (pc2 := 136) h dX11_givesPosts_133 (by decide) rfl (fun _ h => ?_) (fun _ h => ?_)
            · refine G_iload (pc2 := 143) 6 rfl dX11_givesPosts_141 rfl ?_
              refine G_sub (ls' := [(0, .ref 209), (1, .int x1), (2, .int x2), (3, .int x3), (4, .int x4), (6, .int x6)]) [1, 2, 3, 4, 5, 7] rfl ?_
              exact hj143_1542 x5 h
            · refine G_iload (pc2 := 138) 0 rfl dX11_givesPosts_136 rfl ?_
              refine G_goto (tgt := 143) dX11_givesPosts_138 (by decide) ?_
              refine G_sub (ls' := [(0, .ref 209), (1, .int x1), (2, .int x2), (3, .int x3), (4, .int x4), (6, .int x6)]) [1, 2, 3, 4, 5, 7] rfl ?_
              exact hj143_1542 x7_1541 h
set_option maxRecDepth 100000 in
set_option maxHeartbeats 4000000 in
theorem g_L_X11_givesPosts_23 {X : XT} {x1 : Int32} {x2 : Int32} {x3 : Int32} {I : WI} {J : WI} {K : WF} {a : WF} {k : WF → Option (WF)} (hk : ∀ (F' : WF), (k F' = some a → GG X md_X11_givesPosts (rmD 4) (gv_Z X (rmD 4).cells (rmD 4).slots none (mkW J K I a)) 0 0 172 [(0, .ref 209), (1, .int x1), (2, .int x2), (3, .int x3)] [] (mkW J K I F'))) : ∀ (n : Nat) (x4 : Int32) (F : WF), L_X11_givesPosts_23 k x1 x2 x3 I n x4 F = some a → GG X md_X11_givesPosts (rmD 4) (gv_Z X (rmD 4).cells (rmD 4).slots none (mkW J K I a)) 0 0 23 [(0, .ref 209), (1, .int x1), (2, .int x2), (3, .int x3), (4, .int x4)] [] (mkW J K I F) := by
  intro n
  induction n with
  | zero =>
    intro x4 F h
    rw [L_X11_givesPosts_23] at h
    cases h
  | succ n ih =>
    intro x4 F h
    rw [L_X11_givesPosts_23] at h
    refine G_iload (pc2 := 25) 4 rfl dX11_givesPosts_23 rfl ?_
    refine G_iload_n (pc2 := 26) 2 rfl dX11_givesPosts_25 rfl rfl ?_
    refine B_icmp_ge (tgt := 172) (pc2 := 29) h dX11_givesPosts_26 (by decide) rfl (fun _ h => ?_) (fun _ h => ?_)
    · refine G_sub (ls' := [(0, .ref 209), (1, .int x1), (2, .int x2), (3, .int x3)]) [0, 1, 2, 3] rfl ?_
      exact hk F h
    · refine G_iload_n (pc2 := 30) 3 rfl dX11_givesPosts_29 rfl rfl ?_
      refine G_aload_n (pc2 := 31) 0 rfl dX11_givesPosts_30 rfl rfl ?_
      refine T_209_8 (pc2 := 34) kw_910 dX11_givesPosts_31 rfl ?_
      refine G_iconst (pc2 := 35) dX11_givesPosts_34 ic_1 rfl ?_
      refine AMc (pc2 := 36) (fa_212 _ _ _ _) cl_1 rfl dX11_givesPosts_35 rfl ?_
      refine jn_e (Gj := True) (fun (j : Int32 → Option (WF)) => ∀ (s_1531 : Int32), j s_1531 = some a → GG X md_X11_givesPosts (rmD 4) (gv_Z X (rmD 4).cells (rmD 4).slots none (mkW J K I a)) 0 0 58 [(0, .ref 209), (1, .int x1), (2, .int x2), (3, .int x3), (4, .int x4)] [.int s_1531] (mkW J K I F)) h (fun s_1531 h => ?_) (fun j58_1530 hj58_1530 h => ?_)
      · refine B_istore (pc2 := 60) (fun x5_1532 => [(5, .int x5_1532), (0, .ref 209), (1, .int x1), (2, .int x2), (3, .int x3), (4, .int x4)]) h dX11_givesPosts_58 (by decide) (fun _ => rfl) rfl (fun x5_1532 h => ?_)
        refine G_iconst (pc2 := 61) dX11_givesPosts_60 ic_0 rfl ?_
        refine B_istore (pc2 := 63) (fun x6_1533 => [(6, .int x6_1533), (5, .int x5_1532), (0, .ref 209), (1, .int x1), (2, .int x2), (3, .int x3), (4, .int x4)]) h dX11_givesPosts_61 (by decide) (fun _ => rfl) rfl (fun x6_1533 h => ?_)
        refine G_sub (ls' := [(0, .ref 209), (1, .int x1), (2, .int x2), (3, .int x3), (4, .int x4), (5, .int x5_1532), (6, .int x6_1533)]) [2, 3, 4, 5, 6, 1, 0] rfl ?_
        refine g_L_X11_givesPosts_63 (fun x5_1545 h => ?_) FU x5_1532 x6_1533 h
        refine G_aload_n (pc2 := 152) 0 rfl dX11_givesPosts_151 rfl rfl ?_
        refine T_209_21 (pc2 := 155) kw_923 dX11_givesPosts_152 rfl ?_
        refine G_sipush (pc2 := 158) dX11_givesPosts_155 is_512 rfl ?_
        refine G_iload_n (pc2 := 159) 3 rfl dX11_givesPosts_158 rfl rfl ?_
        refine G_imul (pc2 := 160) dX11_givesPosts_159 rfl ?_
        refine G_iload (pc2 := 162) 4 rfl dX11_givesPosts_160 rfl ?_
        refine G_iadd (pc2 := 163) dX11_givesPosts_162 rfl ?_
        refine G_iload (pc2 := 165) 5 rfl dX11_givesPosts_163 rfl ?_
        refine SM (pc2 := 166) (fa_222 _ _ _ _) h dX11_givesPosts_165 rfl (fun F_1546 h => ?_)
        refine B_iinc (pc2 := 169) 4 (fun x4_1547 => [(4, .int x4_1547), (0, .ref 209), (1, .int x1), (2, .int x2), (3, .int x3), (5, .int x5_1545)]) h rfl dX11_givesPosts_166 ic_1 (by decide) (fun _ => rfl) rfl (fun x4_1547 h => ?_)
        refine G_goto (tgt := 23) dX11_givesPosts_169 (by decide) ?_
        refine G_sub (ls' := [(0, .ref 209), (1, .int x1), (2, .int x2), (3, .int x3), (4, .int x4_1547)]) [1, 2, 3, 4, 0] rfl ?_
        exact ih x4_1547 F_1546 h
      refine B_icmp_ne (tgt := 43) (pc2 := 39) h dX11_givesPosts_36 (by decide) rfl (fun _ h => ?_) (fun _ h => ?_)
      · refine G_aload_n (pc2 := 44) 0 rfl dX11_givesPosts_43 rfl rfl ?_
        refine T_209_21 (pc2 := 47) kw_923 dX11_givesPosts_44 rfl ?_
        refine G_sipush (pc2 := 50) dX11_givesPosts_47 is_512 rfl ?_
        refine G_iload_n (pc2 := 51) 3 rfl dX11_givesPosts_50 rfl rfl ?_
        refine G_iconst (pc2 := 52) dX11_givesPosts_51 ic_1 rfl ?_
        refine G_iadd (pc2 := 53) dX11_givesPosts_52 rfl ?_
        refine G_imul (pc2 := 54) dX11_givesPosts_53 rfl ?_
        refine G_iload (pc2 := 56) 4 rfl dX11_givesPosts_54 rfl ?_
        refine G_iadd (pc2 := 57) dX11_givesPosts_56 rfl ?_
        refine AM (pc2 := 58) (fa_222 _ _ _ _) h dX11_givesPosts_57 rfl (fun h => ?_)
        exact hj58_1530 (F 12 (((512 : Int32) * (x3 + (1 : Int32))) + x4).toNatClampNeg) h
      · refine G_iconst (pc2 := 40) dX11_givesPosts_39 ic_0 rfl ?_
        refine G_goto (tgt := 58) dX11_givesPosts_40 (by decide) ?_
        exact hj58_1530 (0 : Int32) h
set_option maxRecDepth 100000 in
set_option maxHeartbeats 4000000 in
theorem g_L_X11_givesPosts_16 {X : XT} {x1 : Int32} {x2 : Int32} {I : WI} {J : WI} {K : WF} {a : WF} {k : WF → Option (WF)} (hk : ∀ (F' : WF), (k F' = some a → GG X md_X11_givesPosts (rmD 4) (gv_Z X (rmD 4).cells (rmD 4).slots none (mkW J K I a)) 0 0 178 [] [] (mkW J K I F'))) : ∀ (n : Nat) (x3 : Int32) (F : WF), L_X11_givesPosts_16 k x1 x2 I n x3 F = some a → GG X md_X11_givesPosts (rmD 4) (gv_Z X (rmD 4).cells (rmD 4).slots none (mkW J K I a)) 0 0 16 [(0, .ref 209), (1, .int x1), (2, .int x2), (3, .int x3)] [] (mkW J K I F) := by
  intro n
  induction n with
  | zero =>
    intro x3 F h
    rw [L_X11_givesPosts_16] at h
    cases h
  | succ n ih =>
    intro x3 F h
    rw [L_X11_givesPosts_16] at h
    refine G_iload_n (pc2 := 17) 3 rfl dX11_givesPosts_16 rfl rfl ?_
    refine B_if_lt (tgt := 178) (pc2 := 20) h dX11_givesPosts_17 (by decide) rfl (fun _ h => ?_) (fun _ h => ?_)
    · refine G_sub (ls' := []) [] rfl ?_
      exact hk F h
    · refine G_iconst (pc2 := 21) dX11_givesPosts_20 ic_0 rfl ?_
      refine B_istore (pc2 := 23) (fun x4_1529 => [(4, .int x4_1529), (0, .ref 209), (1, .int x1), (2, .int x2), (3, .int x3)]) h dX11_givesPosts_21 (by decide) (fun _ => rfl) rfl (fun x4_1529 h => ?_)
      refine G_sub (ls' := [(0, .ref 209), (1, .int x1), (2, .int x2), (3, .int x3), (4, .int x4_1529)]) [1, 2, 3, 4, 0] rfl ?_
      refine g_L_X11_givesPosts_23 (fun F_1548 h => ?_) FU x4_1529 F h
      refine B_iinc (pc2 := 175) 3 (fun x3_1549 => [(3, .int x3_1549), (0, .ref 209), (1, .int x1), (2, .int x2)]) h rfl dX11_givesPosts_172 ic_m1 (by decide) (fun _ => rfl) rfl (fun x3_1549 h => ?_)
      refine G_goto (tgt := 16) dX11_givesPosts_175 (by decide) ?_
      refine G_sub (ls' := [(0, .ref 209), (1, .int x1), (2, .int x2), (3, .int x3_1549)]) [1, 2, 3, 0] rfl ?_
      exact ih x3_1549 F_1548 h
set_option maxRecDepth 100000 in
set_option maxHeartbeats 4000000 in
theorem c_X11_givesPosts {x1 : Int32} {I : WI} {F : WF} {J : WI} {K : WF} {a : WF} (h : f_X11_givesPosts x1 I F = some a) : CT md_X11_givesPosts yX11_givesPosts (rmD 4) [.ref 209, .int x1] (mkW J K I F) none (mkW J K I a) := CT_of pn_X11 ⟨rfl, rfl⟩ (Nat.le_of_ble_eq_true rfl) (fun X => by
  show GG X md_X11_givesPosts (rmD 4) _ 0 0 0 [(0, .ref 209), (1, .int x1)] [] (mkW J K I F)
  unfold f_X11_givesPosts at h
  refine G_iconst (pc2 := 1) dX11_givesPosts_0 ic_1 rfl ?_
  refine G_aload_n (pc2 := 2) 0 rfl dX11_givesPosts_1 rfl rfl ?_
  refine T_209_8 (pc2 := 5) kw_910 dX11_givesPosts_2 rfl ?_
  refine G_iconst (pc2 := 6) dX11_givesPosts_5 ic_2 rfl ?_
  refine AMc (pc2 := 7) (fa_212 _ _ _ _) cl_2 rfl dX11_givesPosts_6 rfl ?_
  refine G_ishl (pc2 := 8) dX11_givesPosts_7 rfl ?_
  refine B_istore_n (pc2 := 9) (fun x2_1527 => [(2, .int x2_1527), (0, .ref 209), (1, .int x1)]) h dX11_givesPosts_8 rfl (by decide) (fun _ => rfl) rfl (fun x2_1527 h => ?_)
  refine G_aload_n (pc2 := 10) 1 rfl dX11_givesPosts_9 rfl rfl ?_
  refine T_209_8 (pc2 := 13) kw_910 dX11_givesPosts_10 rfl ?_
  refine G_iconst (pc2 := 14) dX11_givesPosts_13 ic_1 rfl ?_
  refine AMc (pc2 := 15) (fa_212 _ _ _ _) cl_1 rfl dX11_givesPosts_14 rfl ?_
  refine B_istore_n (pc2 := 16) (fun x3_1528 => [(3, .int x3_1528), (2, .int x2_1527), (0, .ref 209), (1, .int x1)]) h dX11_givesPosts_15 rfl (by decide) (fun _ => rfl) rfl (fun x3_1528 h => ?_)
  refine G_sub (ls' := [(0, .ref 209), (1, .int x1), (2, .int x2_1527), (3, .int x3_1528)]) [2, 3, 1, 0] rfl ?_
  refine g_L_X11_givesPosts_16 (fun F_1550 h => ?_) FU x3_1528 F h
  have ha := Option.some.inj h
  subst ha
  exact G_vret rfl dX11_givesPosts_178)
def L_X11_posts_73 (k : Int32 → Option (Int32 × WI × WF)) (x1 : Int32) (x2 : Int32) (x3 : Int32) (x5 : Int32) (I : WI) (F : WF) : Nat → Int32 → Int32 → Option (Int32 × WI × WF)
  | 0, _, _ => none
  | n + 1, x4, x6 =>
  if x6 < 0 then (k x4)
  else (Option.bind (f_X11_has x3 x6) fun c_1557 =>
  bnd (fun (s_1559 : Int32) => bnd s_1559 fun x7_1560 =>
  bnd (fun (s_1562 : Int32) => bnd s_1562 fun x4_1563 =>
  bnd (x6 + (-1 : Int32)) fun x6_1564 =>
  L_X11_posts_73 k x1 x2 x3 x5 I F n x4_1563 x6_1564) fun j156_1561 =>
  bnd (fun (_u : Unit) => j156_1561 x4) fun j154_1565 =>
  if x7_1560 = 0 then (j154_1565 ())
  else (ixG (((512 : Int32) * (x5 + (1 : Int32))) + (x3 ||| ((1 : Int32) <<< (x6 &&& 31)))) 5120 (
  ixG (((512 : Int32) * x5) + x3) 5120 (
  if ((1 : Int32) + (F 12 (((512 : Int32) * (x5 + (1 : Int32))) + (x3 ||| ((1 : Int32) <<< (x6 &&& 31)))).toNatClampNeg)) = (F 12 (((512 : Int32) * x5) + x3).toNatClampNeg) then (j156_1561 x6)
  else (j154_1565 ()))))) fun j104_1558 =>
  bnd (fun (_u : Unit) => j104_1558 (0 : Int32)) fun j103_1566 =>
  if c_1557 = 0 then (Option.bind (f_X11_canKeep x1 x5 x6 I F) fun c_1567 =>
  if c_1567 = 0 then (j103_1566 ())
  else (j104_1558 (1 : Int32)))
  else (j103_1566 ()))
def L_X11_posts_54 (k : Int32 → Option (Int32 × WI × WF)) (x1 : Int32) (x2 : Int32) (I : WI) (F : WF) : Nat → Int32 → Int32 → Int32 → Option (Int32 × WI × WF)
  | 0, _, _, _ => none
  | n + 1, x3, x4, x5 =>
  if x2 < x5 then (k x4)
  else (bnd (-1 : Int32) fun x4_1555 =>
  bnd ((F 2 2) - (1 : Int32)) fun x6_1556 =>
  L_X11_posts_73 (fun x4_1568 => bnd (fun (s_1570 : Int32) => bnd (x3 ||| s_1570) fun x3_1571 =>
  bnd (x5 + (1 : Int32)) fun x5_1572 =>
  L_X11_posts_54 k x1 x2 I F n x3_1571 x4_1568 x5_1572) fun j179_1569 =>
  if x4_1568 = (-1 : Int32) then (j179_1569 (0 : Int32))
  else (j179_1569 ((1 : Int32) <<< (x4_1568 &&& 31)))) x1 x2 x3 x5 I F FU x4_1555 x6_1556)
def f_X11_posts (x1 : Int32) (x2 : Int32) (I : WI) (F : WF) : Option (Int32 × WI × WF) :=
  bnd (upd I 0 (0 : Int32)) fun I_1524 =>
  Option.bind (f_X11_isJumper x1 I_1524 F) fun c_1525 =>
  if c_1525 = 0 then (some ((-1000000001 : Int32), I_1524, F))
  else (bnd (fun (_u : Unit) => Option.bind (f_X11_givesPosts x1 I_1524 F) fun c_1551 =>
  if x2 = (-1 : Int32) then (some ((c_1551 12 0), I_1524, c_1551))
  else (bnd (0 : Int32) fun x3_1552 =>
  bnd (-1 : Int32) fun x4_1553 =>
  bnd (0 : Int32) fun x5_1554 =>
  L_X11_posts_54 (fun x4_1573 => some (x4_1573, I_1524, c_1551)) x1 x2 I_1524 c_1551 FU x3_1552 x4_1553 x5_1554)) fun j29_1526 =>
  if x2 = (-1 : Int32) then (j29_1526 ())
  else (Option.bind (f_X11_isBridge x2 I_1524 F) fun c_1574 =>
  if c_1574 = 0 then (some ((-1000000001 : Int32), I_1524, F))
  else (j29_1526 ())))
set_option maxRecDepth 100000 in
set_option maxHeartbeats 4000000 in
theorem g_L_X11_posts_73 {X : XT} {x1 : Int32} {x2 : Int32} {x3 : Int32} {x5 : Int32} {I : WI} {F : WF} {J : WI} {K : WF} {a : Int32 × WI × WF} {k : Int32 → Option (Int32 × WI × WF)} (hk : ∀ (e4 : Int32), (k e4 = some a → GG X md_X11_posts (rmD 5) (gv_Z X (rmD 5).cells (rmD 5).slots (some (.int a.1)) (mkW J K a.2.1 a.2.2)) 0 0 164 [(0, .ref 209), (1, .int x1), (2, .int x2), (3, .int x3), (4, .int e4), (5, .int x5)] [] (mkW J K I F))) : ∀ (n : Nat) (x4 : Int32) (x6 : Int32), L_X11_posts_73 k x1 x2 x3 x5 I F n x4 x6 = some a → GG X md_X11_posts (rmD 5) (gv_Z X (rmD 5).cells (rmD 5).slots (some (.int a.1)) (mkW J K a.2.1 a.2.2)) 0 0 73 [(0, .ref 209), (1, .int x1), (2, .int x2), (3, .int x3), (4, .int x4), (5, .int x5), (6, .int x6)] [] (mkW J K I F) := by
  intro n
  induction n with
  | zero =>
    intro x4 x6 h
    rw [L_X11_posts_73] at h
    cases h
  | succ n ih =>
    intro x4 x6 h
    rw [L_X11_posts_73] at h
    refine G_iload (pc2 := 75) 6 rfl dX11_posts_73 rfl ?_
    refine B_if_lt (tgt := 164) (pc2 := 78) h dX11_posts_75 (by decide) rfl (fun _ h => ?_) (fun _ h => ?_)
    · refine G_sub (ls' := [(0, .ref 209), (1, .int x1), (2, .int x2), (3, .int x3), (4, .int x4), (5, .int x5)]) [0, 1, 2, 3, 4, 5] rfl ?_
      exact hk x4 h
    · refine G_iload_n (pc2 := 79) 3 rfl dX11_posts_78 rfl rfl ?_
      refine G_iload (pc2 := 81) 6 rfl dX11_posts_79 rfl ?_
      obtain ⟨c_1557, hc_1557, h⟩ := ob_e h
      refine B_callS (pc2 := 84) si_X11_151 (c_X11_has hc_1557) rfl (st := []) (stq := [.int c_1557]) rfl (by decide) (by decide) (Nat.le_of_ble_eq_true rfl) rfl dX11_posts_81 rfl rfl ?_ ⟨rfl, rfl⟩
      refine jn_e (Gj := True) (fun (j : Int32 → Option (Int32 × WI × WF)) => ∀ (s_1559 : Int32), j s_1559 = some a → GG X md_X11_posts (rmD 5) (gv_Z X (rmD 5).cells (rmD 5).slots (some (.int a.1)) (mkW J K a.2.1 a.2.2)) 0 0 104 [(0, .ref 209), (1, .int x1), (2, .int x2), (3, .int x3), (4, .int x4), (5, .int x5), (6, .int x6)] [.int s_1559] (mkW J K I F)) h (fun s_1559 h => ?_) (fun j104_1558 hj104_1558 h => ?_)
      · refine B_istore (pc2 := 106) (fun x7_1560 => [(7, .int x7_1560), (0, .ref 209), (1, .int x1), (2, .int x2), (3, .int x3), (4, .int x4), (5, .int x5), (6, .int x6)]) h dX11_posts_104 (by decide) (fun _ => rfl) rfl (fun x7_1560 h => ?_)
        refine G_iload (pc2 := 108) 0 rfl dX11_posts_106 rfl ?_
        refine jn_e (Gj := True) (fun (j : Int32 → Option (Int32 × WI × WF)) => ∀ (s_1562 : Int32), j s_1562 = some a → GG X md_X11_posts (rmD 5) (gv_Z X (rmD 5).cells (rmD 5).slots (some (.int a.1)) (mkW J K a.2.1 a.2.2)) 0 0 156 [(0, .ref 209), (1, .int x1), (2, .int x2), (3, .int x3), (5, .int x5), (6, .int x6)] [.int s_1562] (mkW J K I F)) h (fun s_1562 h => ?_) (fun j156_1561 hj156_1561 h => ?_)
        · refine B_istore (pc2 := 158) (fun x4_1563 => [(4, .int x4_1563), (0, .ref 209), (1, .int x1), (2, .int x2), (3, .int x3), (5, .int x5), (6, .int x6)]) h dX11_posts_156 (by decide) (fun _ => rfl) rfl (fun x4_1563 h => ?_)
          refine B_iinc (pc2 := 161) 6 (fun x6_1564 => [(6, .int x6_1564), (4, .int x4_1563), (0, .ref 209), (1, .int x1), (2, .int x2), (3, .int x3), (5, .int x5)]) h rfl dX11_posts_158 ic_m1 (by decide) (fun _ => rfl) rfl (fun x6_1564 h => ?_)
          refine G_goto (tgt := 73) dX11_posts_161 (by decide) ?_
          refine G_sub (ls' := [(0, .ref 209), (1, .int x1), (2, .int x2), (3, .int x3), (4, .int x4_1563), (5, .int x5), (6, .int x6_1564)]) [2, 3, 4, 5, 1, 6, 0] rfl ?_
          exact ih x4_1563 x6_1564 h
        refine jn_e (Gj := True) (fun (j : Unit → Option (Int32 × WI × WF)) => ∀ (_u : Unit), j _u = some a → GG X md_X11_posts (rmD 5) (gv_Z X (rmD 5).cells (rmD 5).slots (some (.int a.1)) (mkW J K a.2.1 a.2.2)) 0 0 154 [(0, .ref 209), (1, .int x1), (2, .int x2), (3, .int x3), (4, .int x4), (5, .int x5), (6, .int x6)] [] (mkW J K I F)) h (fun _u h => ?_) (fun j154_1565 hj154_1565 h => ?_)
        · refine G_iload (pc2 := 156) 4 rfl dX11_posts_154 rfl ?_
          refine G_sub (ls' := [(0, .ref 209), (1, .int x1), (2, .int x2), (3, .int x3), (5, .int x5), (6, .int x6)]) [0, 1, 2, 3, 5, 6] rfl ?_
          exact hj156_1561 x4 h
        refine B_if_eq (tgt := 154) (pc2 := 111) h dX11_posts_108 (by decide) rfl (fun _ h => ?_) (fun _ h => ?_)
        · refine G_sub (ls' := [(0, .ref 209), (1, .int x1), (2, .int x2), (3, .int x3), (4, .int x4), (5, .int x5), (6, .int x6)]) [1, 2, 3, 4, 5, 6, 7] rfl ?_
          exact hj154_1565 () h
        · refine G_iconst (pc2 := 112) dX11_posts_111 ic_1 rfl ?_
          refine G_aload_n (pc2 := 113) 1 rfl dX11_posts_112 rfl rfl ?_
          refine T_209_21 (pc2 := 116) kw_923 dX11_posts_113 rfl ?_
          refine G_sipush (pc2 := 119) dX11_posts_116 is_512 rfl ?_
          refine G_iload (pc2 := 121) 6 rfl dX11_posts_119 rfl ?_
          refine G_iconst (pc2 := 122) dX11_posts_121 ic_1 rfl ?_
          refine G_iadd (pc2 := 123) dX11_posts_122 rfl ?_
          refine G_imul (pc2 := 124) dX11_posts_123 rfl ?_
          refine G_iload_n (pc2 := 125) 4 rfl dX11_posts_124 rfl rfl ?_
          refine G_iconst (pc2 := 126) dX11_posts_125 ic_1 rfl ?_
          refine G_iload (pc2 := 128) 7 rfl dX11_posts_126 rfl ?_
          refine G_ishl (pc2 := 129) dX11_posts_128 rfl ?_
          refine G_ior (pc2 := 130) dX11_posts_129 rfl ?_
          refine G_iadd (pc2 := 131) dX11_posts_130 rfl ?_
          refine AM (pc2 := 132) (fa_222 _ _ _ _) h dX11_posts_131 rfl (fun h => ?_)
          refine G_iadd (pc2 := 133) dX11_posts_132 rfl ?_
          refine G_aload_n (pc2 := 134) 1 rfl dX11_posts_133 rfl rfl ?_
          refine T_209_21 (pc2 := 137) kw_923 dX11_posts_134 rfl ?_
          refine G_sipush (pc2 := 140) dX11_posts_137 is_512 rfl ?_
          refine G_iload (pc2 := 142) 6 rfl dX11_posts_140 rfl ?_
          refine G_imul (pc2 := 143) dX11_posts_142 rfl ?_
          refine G_iload_n (pc2 := 144) 4 rfl dX11_posts_143 rfl rfl ?_
          refine G_iadd (pc2 := 145) dX11_posts_144 rfl ?_
          refine AM (pc2 := 146) (fa_222 _ _ _ _) h dX11_posts_145 rfl (fun h => ?_)
          refine B_icmp_ne (tgt := 154) (pc2 := 149) h dX11_posts_146 (by decide) rfl (fun _ h => ?_) (fun _ h => ?_)
          · refine G_sub (ls' := [(0, .ref 209), (1, .int x1), (2, .int x2), (3, .int x3), (4, .int x4), (5, .int x5), (6, .int x6)]) [1, 2, 3, 4, 5, 6, 7] rfl ?_
            exact hj154_1565 () h
          · refine G_iload (pc2 := 151) 7 rfl dX11_posts_149 rfl ?_
            refine G_goto (tgt := 156) dX11_posts_151 (by decide) ?_
            refine G_sub (ls' := [(0, .ref 209), (1, .int x1), (2, .int x2), (3, .int x3), (5, .int x5), (6, .int x6)]) [1, 2, 3, 4, 6, 7] rfl ?_
            exact hj156_1561 x6 h
      refine jn_e (Gj := True) (fun (j : Unit → Option (Int32 × WI × WF)) => ∀ (_u : Unit), j _u = some a → GG X md_X11_posts (rmD 5) (gv_Z X (rmD 5).cells (rmD 5).slots (some (.int a.1)) (mkW J K a.2.1 a.2.2)) 0 0 103 [(0, .ref 209), (1, .int x1), (2, .int x2), (3, .int x3), (4, .int x4), (5, .int x5), (6, .int x6)] [] (mkW J K I F)) h (fun _u h => ?_) (fun j103_1566 hj103_1566 h => ?_)
      · refine G_iconst (pc2 := 104) dX11_posts_103 ic_0 rfl ?_
        exact hj104_1558 (0 : Int32) h
      refine B_if_ne (tgt := 103) (pc2 := 87) h dX11_posts_84 (by decide) rfl (fun _ h => ?_) (fun _ h => ?_)
      · exact hj103_1566 () h
      · refine G_aload_n (pc2 := 88) 0 rfl dX11_posts_87 rfl rfl ?_
        refine G_iload_n (pc2 := 89) 1 rfl dX11_posts_88 rfl rfl ?_
        refine G_iload (pc2 := 91) 5 rfl dX11_posts_89 rfl ?_
        refine G_iload (pc2 := 93) 6 rfl dX11_posts_91 rfl ?_
        obtain ⟨c_1567, hc_1567, h⟩ := ob_e h
        refine B_callV (pc2 := 96) si_X11_229 (c_X11_canKeep hc_1567) (qo_209 _ _ _ _) rfl rfl rfl (st := []) (stq := [.int c_1567]) rfl (by decide) (by decide) (Nat.le_of_ble_eq_true rfl) mkW_ll dX11_posts_93 rfl rfl ?_ ⟨rfl, rfl⟩
        refine B_if_eq (tgt := 103) (pc2 := 99) h dX11_posts_96 (by decide) rfl (fun _ h => ?_) (fun _ h => ?_)
        · exact hj103_1566 () h
        · refine G_iconst (pc2 := 100) dX11_posts_99 ic_1 rfl ?_
          refine G_goto (tgt := 104) dX11_posts_100 (by decide) ?_
          exact hj104_1558 (1 : Int32) h
set_option maxRecDepth 100000 in
set_option maxHeartbeats 4000000 in
theorem g_L_X11_posts_54 {X : XT} {x1 : Int32} {x2 : Int32} {I : WI} {F : WF} {J : WI} {K : WF} {a : Int32 × WI × WF} {k : Int32 → Option (Int32 × WI × WF)} (hk : ∀ (e4 : Int32), (k e4 = some a → GG X md_X11_posts (rmD 5) (gv_Z X (rmD 5).cells (rmD 5).slots (some (.int a.1)) (mkW J K a.2.1 a.2.2)) 0 0 187 [(4, .int e4)] [] (mkW J K I F))) : ∀ (n : Nat) (x3 : Int32) (x4 : Int32) (x5 : Int32), L_X11_posts_54 k x1 x2 I F n x3 x4 x5 = some a → GG X md_X11_posts (rmD 5) (gv_Z X (rmD 5).cells (rmD 5).slots (some (.int a.1)) (mkW J K a.2.1 a.2.2)) 0 0 54 [(0, .ref 209), (1, .int x1), (2, .int x2), (3, .int x3), (4, .int x4), (5, .int x5)] [] (mkW J K I F) := by
  intro n
  induction n with
  | zero =>
    intro x3 x4 x5 h
    rw [L_X11_posts_54] at h
    cases h
  | succ n ih =>
    intro x3 x4 x5 h
    rw [L_X11_posts_54] at h
    refine G_iload (pc2 := 56) 5 rfl dX11_posts_54 rfl ?_
    refine G_iload_n (pc2 := 57) 2 rfl dX11_posts_56 rfl rfl ?_
    refine B_icmp_gt (tgt := 187) (pc2 := 60) h dX11_posts_57 (by decide) rfl (fun _ h => ?_) (fun _ h => ?_)
    · refine G_sub (ls' := [(4, .int x4)]) [4] rfl ?_
      exact hk x4 h
    · refine G_iconst (pc2 := 61) dX11_posts_60 ic_m1 rfl ?_
      refine B_istore (pc2 := 63) (fun x4_1555 => [(4, .int x4_1555), (0, .ref 209), (1, .int x1), (2, .int x2), (3, .int x3), (5, .int x5)]) h dX11_posts_61 (by decide) (fun _ => rfl) rfl (fun x4_1555 h => ?_)
      refine G_aload_n (pc2 := 64) 1 rfl dX11_posts_63 rfl rfl ?_
      refine T_209_8 (pc2 := 67) kw_910 dX11_posts_64 rfl ?_
      refine G_iconst (pc2 := 68) dX11_posts_67 ic_2 rfl ?_
      refine AMc (pc2 := 69) (fa_212 _ _ _ _) cl_2 rfl dX11_posts_68 rfl ?_
      refine G_iconst (pc2 := 70) dX11_posts_69 ic_1 rfl ?_
      refine G_isub (pc2 := 71) dX11_posts_70 rfl ?_
      refine B_istore (pc2 := 73) (fun x6_1556 => [(6, .int x6_1556), (4, .int x4_1555), (0, .ref 209), (1, .int x1), (2, .int x2), (3, .int x3), (5, .int x5)]) h dX11_posts_71 (by decide) (fun _ => rfl) rfl (fun x6_1556 h => ?_)
      refine G_sub (ls' := [(0, .ref 209), (1, .int x1), (2, .int x2), (3, .int x3), (4, .int x4_1555), (5, .int x5), (6, .int x6_1556)]) [2, 3, 4, 5, 1, 6, 0] rfl ?_
      refine g_L_X11_posts_73 (fun x4_1568 h => ?_) FU x4_1555 x6_1556 h
      refine G_iload_n (pc2 := 165) 3 rfl dX11_posts_164 rfl rfl ?_
      refine G_iload (pc2 := 167) 4 rfl dX11_posts_165 rfl ?_
      refine G_iconst (pc2 := 168) dX11_posts_167 ic_m1 rfl ?_
      refine jn_e (Gj := True) (fun (j : Int32 → Option (Int32 × WI × WF)) => ∀ (s_1570 : Int32), j s_1570 = some a → GG X md_X11_posts (rmD 5) (gv_Z X (rmD 5).cells (rmD 5).slots (some (.int a.1)) (mkW J K a.2.1 a.2.2)) 0 0 179 [(0, .ref 209), (1, .int x1), (2, .int x2), (4, .int x4_1568), (5, .int x5)] [.int s_1570, .int x3] (mkW J K I F)) h (fun s_1570 h => ?_) (fun j179_1569 hj179_1569 h => ?_)
      · refine G_ior (pc2 := 180) dX11_posts_179 rfl ?_
        refine B_istore_n (pc2 := 181) (fun x3_1571 => [(3, .int x3_1571), (0, .ref 209), (1, .int x1), (2, .int x2), (4, .int x4_1568), (5, .int x5)]) h dX11_posts_180 rfl (by decide) (fun _ => rfl) rfl (fun x3_1571 h => ?_)
        refine B_iinc (pc2 := 184) 5 (fun x5_1572 => [(5, .int x5_1572), (3, .int x3_1571), (0, .ref 209), (1, .int x1), (2, .int x2), (4, .int x4_1568)]) h rfl dX11_posts_181 ic_1 (by decide) (fun _ => rfl) rfl (fun x5_1572 h => ?_)
        refine G_goto (tgt := 54) dX11_posts_184 (by decide) ?_
        refine G_sub (ls' := [(0, .ref 209), (1, .int x1), (2, .int x2), (3, .int x3_1571), (4, .int x4_1568), (5, .int x5_1572)]) [2, 3, 4, 1, 5, 0] rfl ?_
        exact ih x3_1571 x4_1568 x5_1572 h
      refine B_icmp_ne (tgt := 175) (pc2 := 171) h dX11_posts_168 (by decide) rfl (fun _ h => ?_) (fun _ h => ?_)
      · refine G_iconst (pc2 := 176) dX11_posts_175 ic_1 rfl ?_
        refine G_iload (pc2 := 178) 4 rfl dX11_posts_176 rfl ?_
        refine G_ishl (pc2 := 179) dX11_posts_178 rfl ?_
        refine G_sub (ls' := [(0, .ref 209), (1, .int x1), (2, .int x2), (4, .int x4_1568), (5, .int x5)]) [0, 1, 2, 4, 5] rfl ?_
        exact hj179_1569 ((1 : Int32) <<< (x4_1568 &&& 31)) h
      · refine G_iconst (pc2 := 172) dX11_posts_171 ic_0 rfl ?_
        refine G_goto (tgt := 179) dX11_posts_172 (by decide) ?_
        refine G_sub (ls' := [(0, .ref 209), (1, .int x1), (2, .int x2), (4, .int x4_1568), (5, .int x5)]) [0, 1, 2, 4, 5] rfl ?_
        exact hj179_1569 (0 : Int32) h
set_option maxRecDepth 100000 in
set_option maxHeartbeats 4000000 in
theorem c_X11_posts {x1 : Int32} {x2 : Int32} {I : WI} {F : WF} {J : WI} {K : WF} {a : Int32 × WI × WF} (h : f_X11_posts x1 x2 I F = some a) : CT md_X11_posts yX11_posts (rmD 5) [.ref 209, .int x1, .int x2] (mkW J K I F) (some (.int a.1)) (mkW J K a.2.1 a.2.2) := CT_of pn_X11 ⟨rfl, rfl⟩ (Nat.le_of_ble_eq_true rfl) (fun X => by
  show GG X md_X11_posts (rmD 5) _ 0 0 0 [(0, .ref 209), (1, .int x1), (2, .int x2)] [] (mkW J K I F)
  unfold f_X11_posts at h
  refine G_aload_n (pc2 := 1) 0 rfl dX11_posts_0 rfl rfl ?_
  refine G_iconst (pc2 := 2) dX11_posts_1 ic_0 rfl ?_
  refine P_209_0 (pc2 := 5) h kw_902 dX11_posts_2 rfl (fun I_1524 h => ?_)
  refine G_aload_n (pc2 := 6) 0 rfl dX11_posts_5 rfl rfl ?_
  refine G_iload_n (pc2 := 7) 1 rfl dX11_posts_6 rfl rfl ?_
  obtain ⟨c_1525, hc_1525, h⟩ := ob_e h
  refine B_callV (pc2 := 10) si_X11_186 (c_X11_isJumper hc_1525) (qo_209 _ _ _ _) rfl rfl rfl (st := []) (stq := [.int c_1525]) rfl (by decide) (by decide) (Nat.le_of_ble_eq_true rfl) mkW_ll dX11_posts_7 rfl rfl ?_ ⟨rfl, rfl⟩
  refine B_if_eq (tgt := 26) (pc2 := 13) h dX11_posts_10 (by decide) rfl (fun _ h => ?_) (fun _ h => ?_)
  · refine G_ldc (pc2 := 28) kw_1094 dX11_posts_26 rfl ?_
    have ha := Option.some.inj h
    subst ha
    exact G_iret rfl dX11_posts_28
  · refine G_iload_n (pc2 := 14) 2 rfl dX11_posts_13 rfl rfl ?_
    refine G_iconst (pc2 := 15) dX11_posts_14 ic_m1 rfl ?_
    refine jn_e (Gj := True) (fun (j : Unit → Option (Int32 × WI × WF)) => ∀ (_u : Unit), j _u = some a → GG X md_X11_posts (rmD 5) (gv_Z X (rmD 5).cells (rmD 5).slots (some (.int a.1)) (mkW J K a.2.1 a.2.2)) 0 0 29 [(0, .ref 209), (1, .int x1), (2, .int x2)] [] (mkW J K I_1524 F)) h (fun _u h => ?_) (fun j29_1526 hj29_1526 h => ?_)
    · refine G_aload_n (pc2 := 30) 0 rfl dX11_posts_29 rfl rfl ?_
      refine G_iload_n (pc2 := 31) 1 rfl dX11_posts_30 rfl rfl ?_
      obtain ⟨c_1551, hc_1551, h⟩ := ob_e h
      refine B_callV (pc2 := 34) si_X11_232 (c_X11_givesPosts hc_1551) (qo_209 _ _ _ _) rfl rfl rfl (st := []) (stq := []) rfl (by decide) (by decide) (Nat.le_of_ble_eq_true rfl) mkW_ll dX11_posts_31 rfl rfl ?_ ⟨rfl, rfl⟩
      refine G_iload_n (pc2 := 35) 2 rfl dX11_posts_34 rfl rfl ?_
      refine G_iconst (pc2 := 36) dX11_posts_35 ic_m1 rfl ?_
      refine B_icmp_ne (tgt := 46) (pc2 := 39) h dX11_posts_36 (by decide) rfl (fun _ h => ?_) (fun _ h => ?_)
      · refine G_iconst (pc2 := 47) dX11_posts_46 ic_0 rfl ?_
        refine B_istore_n (pc2 := 48) (fun x3_1552 => [(3, .int x3_1552), (0, .ref 209), (1, .int x1), (2, .int x2)]) h dX11_posts_47 rfl (by decide) (fun _ => rfl) rfl (fun x3_1552 h => ?_)
        refine G_iconst (pc2 := 49) dX11_posts_48 ic_m1 rfl ?_
        refine B_istore (pc2 := 51) (fun x4_1553 => [(4, .int x4_1553), (3, .int x3_1552), (0, .ref 209), (1, .int x1), (2, .int x2)]) h dX11_posts_49 (by decide) (fun _ => rfl) rfl (fun x4_1553 h => ?_)
        refine G_iconst (pc2 := 52) dX11_posts_51 ic_0 rfl ?_
        refine B_istore (pc2 := 54) (fun x5_1554 => [(5, .int x5_1554), (4, .int x4_1553), (3, .int x3_1552), (0, .ref 209), (1, .int x1), (2, .int x2)]) h dX11_posts_52 (by decide) (fun _ => rfl) rfl (fun x5_1554 h => ?_)
        refine G_sub (ls' := [(0, .ref 209), (1, .int x1), (2, .int x2), (3, .int x3_1552), (4, .int x4_1553), (5, .int x5_1554)]) [3, 4, 5, 2, 1, 0] rfl ?_
        refine g_L_X11_posts_54 (fun x4_1573 h => ?_) FU x3_1552 x4_1553 x5_1554 h
        refine G_iload (pc2 := 189) 0 rfl dX11_posts_187 rfl ?_
        have ha := Option.some.inj h
        subst ha
        exact G_iret rfl dX11_posts_189
      · refine G_aload_n (pc2 := 40) 0 rfl dX11_posts_39 rfl rfl ?_
        refine T_209_21 (pc2 := 43) kw_923 dX11_posts_40 rfl ?_
        refine G_iconst (pc2 := 44) dX11_posts_43 ic_0 rfl ?_
        refine AMc (pc2 := 45) (fa_222 _ _ _ _) cl_0 rfl dX11_posts_44 rfl ?_
        have ha := Option.some.inj h
        subst ha
        exact G_iret rfl dX11_posts_45
    refine B_icmp_eq (tgt := 29) (pc2 := 18) h dX11_posts_15 (by decide) rfl (fun _ h => ?_) (fun _ h => ?_)
    · exact hj29_1526 () h
    · refine G_aload_n (pc2 := 19) 0 rfl dX11_posts_18 rfl rfl ?_
      refine G_iload_n (pc2 := 20) 2 rfl dX11_posts_19 rfl rfl ?_
      obtain ⟨c_1574, hc_1574, h⟩ := ob_e h
      refine B_callV (pc2 := 23) si_X11_179 (c_X11_isBridge hc_1574) (qo_209 _ _ _ _) rfl rfl rfl (st := []) (stq := [.int c_1574]) rfl (by decide) (by decide) (Nat.le_of_ble_eq_true rfl) mkW_ll dX11_posts_20 rfl rfl ?_ ⟨rfl, rfl⟩
      refine B_if_ne (tgt := 29) (pc2 := 26) h dX11_posts_23 (by decide) rfl (fun _ h => ?_) (fun _ h => ?_)
      · exact hj29_1526 () h
      · refine G_ldc (pc2 := 28) kw_1094 dX11_posts_26 rfl ?_
        have ha := Option.some.inj h
        subst ha
        exact G_iret rfl dX11_posts_28)
def L_X11_tires_41 (k : Option (Int32 × WI)) (x1 : Int32) (x2 : Int32) (x3 : Int32) (I : WI) (F : WF) : Nat → Int32 → Option (Int32 × WI)
  | 0, _ => none
  | n + 1, x4 =>
  ixG ((33 : Int32) + x3) 134 (
  if (99 : Int32) < ((F 3 ((33 : Int32) + x3).toNatClampNeg) + x4) then (k)
  else (ixG ((33 : Int32) + x3) 134 (
  Option.bind (f_X11_timeBy x3 ((F 3 ((33 : Int32) + x3).toNatClampNeg) + x4) I F) fun c_1581 =>
  Option.bind (f_X11_flightOf x1 x2 I F) fun c_1582 =>
  if c_1581 ≤ c_1582 then (bnd (x4 + (1 : Int32)) fun x4_1583 =>
  L_X11_tires_41 k x1 x2 x3 I F n x4_1583)
  else (some (x4, I)))))
def f_X11_tires (x1 : Int32) (x2 : Int32) (I : WI) (F : WF) : Option (Int32 × WI) :=
  bnd (upd I 0 (0 : Int32)) fun I_1575 =>
  Option.bind (f_X11_isJumper x1 I_1575 F) fun c_1576 =>
  if c_1576 = 0 then (some ((-1000000001 : Int32), I_1575))
  else (Option.bind (f_X11_isBridge x2 I_1575 F) fun c_1577 =>
  if c_1577 = 0 then (some ((-1000000001 : Int32), I_1575))
  else (Option.bind (f_X11_keeperAt x2 I_1575 F) fun c_1578 =>
  bnd c_1578 fun x3_1579 =>
  if x3_1579 = (-1 : Int32) then (some ((-1000000003 : Int32), I_1575))
  else (bnd (0 : Int32) fun x4_1580 =>
  L_X11_tires_41 (some ((-1 : Int32), I_1575)) x1 x2 x3_1579 I_1575 F FU x4_1580)))
set_option maxRecDepth 100000 in
set_option maxHeartbeats 4000000 in
theorem g_L_X11_tires_41 {X : XT} {x1 : Int32} {x2 : Int32} {x3 : Int32} {I : WI} {F : WF} {J : WI} {K : WF} {a : Int32 × WI} {k : Option (Int32 × WI)} (hk : (k = some a → GG X md_X11_tires (rmD 3) (gv_Z X (rmD 3).cells (rmD 3).slots (some (.int a.1)) (mkW J K a.2 F)) 0 0 93 [] [] (mkW J K I F))) : ∀ (n : Nat) (x4 : Int32), L_X11_tires_41 k x1 x2 x3 I F n x4 = some a → GG X md_X11_tires (rmD 3) (gv_Z X (rmD 3).cells (rmD 3).slots (some (.int a.1)) (mkW J K a.2 F)) 0 0 41 [(0, .ref 209), (1, .int x1), (2, .int x2), (3, .int x3), (4, .int x4)] [] (mkW J K I F) := by
  intro n
  induction n with
  | zero =>
    intro x4 h
    rw [L_X11_tires_41] at h
    cases h
  | succ n ih =>
    intro x4 h
    rw [L_X11_tires_41] at h
    refine G_aload_n (pc2 := 42) 0 rfl dX11_tires_41 rfl rfl ?_
    refine T_209_9 (pc2 := 45) kw_911 dX11_tires_42 rfl ?_
    refine G_bipush (pc2 := 47) dX11_tires_45 ib_33 rfl ?_
    refine G_iload_n (pc2 := 48) 3 rfl dX11_tires_47 rfl rfl ?_
    refine G_iadd (pc2 := 49) dX11_tires_48 rfl ?_
    refine AM (pc2 := 50) (fa_213 _ _ _ _) h dX11_tires_49 rfl (fun h => ?_)
    refine G_iload (pc2 := 52) 4 rfl dX11_tires_50 rfl ?_
    refine G_iadd (pc2 := 53) dX11_tires_52 rfl ?_
    refine G_bipush (pc2 := 55) dX11_tires_53 ib_99 rfl ?_
    refine B_icmp_gt (tgt := 93) (pc2 := 58) h dX11_tires_55 (by decide) rfl (fun _ h => ?_) (fun _ h => ?_)
    · refine G_sub (ls' := []) [] rfl ?_
      exact hk  h
    · refine G_aload_n (pc2 := 59) 0 rfl dX11_tires_58 rfl rfl ?_
      refine G_iload_n (pc2 := 60) 3 rfl dX11_tires_59 rfl rfl ?_
      refine G_aload_n (pc2 := 61) 0 rfl dX11_tires_60 rfl rfl ?_
      refine T_209_9 (pc2 := 64) kw_911 dX11_tires_61 rfl ?_
      refine G_bipush (pc2 := 66) dX11_tires_64 ib_33 rfl ?_
      refine G_iload_n (pc2 := 67) 3 rfl dX11_tires_66 rfl rfl ?_
      refine G_iadd (pc2 := 68) dX11_tires_67 rfl ?_
      refine AM (pc2 := 69) (fa_213 _ _ _ _) h dX11_tires_68 rfl (fun h => ?_)
      refine G_iload (pc2 := 71) 4 rfl dX11_tires_69 rfl ?_
      refine G_iadd (pc2 := 72) dX11_tires_71 rfl ?_
      obtain ⟨c_1581, hc_1581, h⟩ := ob_e h
      refine B_callV (pc2 := 75) si_X11_135 (c_X11_timeBy hc_1581) (qo_209 _ _ _ _) rfl rfl rfl (st := []) (stq := [.int c_1581]) rfl (by decide) (by decide) (Nat.le_of_ble_eq_true rfl) mkW_ll dX11_tires_72 rfl rfl ?_ ⟨rfl, rfl⟩
      refine G_aload_n (pc2 := 76) 0 rfl dX11_tires_75 rfl rfl ?_
      refine G_iload_n (pc2 := 77) 1 rfl dX11_tires_76 rfl rfl ?_
      refine G_iload_n (pc2 := 78) 2 rfl dX11_tires_77 rfl rfl ?_
      obtain ⟨c_1582, hc_1582, h⟩ := ob_e h
      refine B_callV (pc2 := 81) si_X11_144 (c_X11_flightOf hc_1582) (qo_209 _ _ _ _) rfl rfl rfl (st := [.int c_1581]) (stq := [.int c_1582, .int c_1581]) rfl (by decide) (by decide) (Nat.le_of_ble_eq_true rfl) mkW_ll dX11_tires_78 rfl rfl ?_ ⟨rfl, rfl⟩
      refine B_icmp_le (tgt := 87) (pc2 := 84) h dX11_tires_81 (by decide) rfl (fun _ h => ?_) (fun _ h => ?_)
      · refine B_iinc (pc2 := 90) 4 (fun x4_1583 => [(4, .int x4_1583), (0, .ref 209), (1, .int x1), (2, .int x2), (3, .int x3)]) h rfl dX11_tires_87 ic_1 (by decide) (fun _ => rfl) rfl (fun x4_1583 h => ?_)
        refine G_goto (tgt := 41) dX11_tires_90 (by decide) ?_
        refine G_sub (ls' := [(0, .ref 209), (1, .int x1), (2, .int x2), (3, .int x3), (4, .int x4_1583)]) [1, 2, 3, 4, 0] rfl ?_
        exact ih x4_1583 h
      · refine G_iload (pc2 := 86) 4 rfl dX11_tires_84 rfl ?_
        have ha := Option.some.inj h
        subst ha
        exact G_iret rfl dX11_tires_86
set_option maxRecDepth 100000 in
set_option maxHeartbeats 4000000 in
theorem c_X11_tires {x1 : Int32} {x2 : Int32} {I : WI} {F : WF} {J : WI} {K : WF} {a : Int32 × WI} (h : f_X11_tires x1 x2 I F = some a) : CT md_X11_tires yX11_tires (rmD 3) [.ref 209, .int x1, .int x2] (mkW J K I F) (some (.int a.1)) (mkW J K a.2 F) := CT_of pn_X11 ⟨rfl, rfl⟩ (Nat.le_of_ble_eq_true rfl) (fun X => by
  show GG X md_X11_tires (rmD 3) _ 0 0 0 [(0, .ref 209), (1, .int x1), (2, .int x2)] [] (mkW J K I F)
  unfold f_X11_tires at h
  refine G_aload_n (pc2 := 1) 0 rfl dX11_tires_0 rfl rfl ?_
  refine G_iconst (pc2 := 2) dX11_tires_1 ic_0 rfl ?_
  refine P_209_0 (pc2 := 5) h kw_902 dX11_tires_2 rfl (fun I_1575 h => ?_)
  refine G_aload_n (pc2 := 6) 0 rfl dX11_tires_5 rfl rfl ?_
  refine G_iload_n (pc2 := 7) 1 rfl dX11_tires_6 rfl rfl ?_
  obtain ⟨c_1576, hc_1576, h⟩ := ob_e h
  refine B_callV (pc2 := 10) si_X11_186 (c_X11_isJumper hc_1576) (qo_209 _ _ _ _) rfl rfl rfl (st := []) (stq := [.int c_1576]) rfl (by decide) (by decide) (Nat.le_of_ble_eq_true rfl) mkW_ll dX11_tires_7 rfl rfl ?_ ⟨rfl, rfl⟩
  refine B_if_eq (tgt := 21) (pc2 := 13) h dX11_tires_10 (by decide) rfl (fun _ h => ?_) (fun _ h => ?_)
  · refine G_ldc (pc2 := 23) kw_1094 dX11_tires_21 rfl ?_
    have ha := Option.some.inj h
    subst ha
    exact G_iret rfl dX11_tires_23
  · refine G_aload_n (pc2 := 14) 0 rfl dX11_tires_13 rfl rfl ?_
    refine G_iload_n (pc2 := 15) 2 rfl dX11_tires_14 rfl rfl ?_
    obtain ⟨c_1577, hc_1577, h⟩ := ob_e h
    refine B_callV (pc2 := 18) si_X11_179 (c_X11_isBridge hc_1577) (qo_209 _ _ _ _) rfl rfl rfl (st := []) (stq := [.int c_1577]) rfl (by decide) (by decide) (Nat.le_of_ble_eq_true rfl) mkW_ll dX11_tires_15 rfl rfl ?_ ⟨rfl, rfl⟩
    refine B_if_ne (tgt := 24) (pc2 := 21) h dX11_tires_18 (by decide) rfl (fun _ h => ?_) (fun _ h => ?_)
    · refine G_aload_n (pc2 := 25) 0 rfl dX11_tires_24 rfl rfl ?_
      refine G_iload_n (pc2 := 26) 2 rfl dX11_tires_25 rfl rfl ?_
      obtain ⟨c_1578, hc_1578, h⟩ := ob_e h
      refine B_callV (pc2 := 29) si_X11_138 (c_X11_keeperAt hc_1578) (qo_209 _ _ _ _) rfl rfl rfl (st := []) (stq := [.int c_1578]) rfl (by decide) (by decide) (Nat.le_of_ble_eq_true rfl) mkW_ll dX11_tires_26 rfl rfl ?_ ⟨rfl, rfl⟩
      refine B_istore_n (pc2 := 30) (fun x3_1579 => [(3, .int x3_1579), (0, .ref 209), (1, .int x1), (2, .int x2)]) h dX11_tires_29 rfl (by decide) (fun _ => rfl) rfl (fun x3_1579 h => ?_)
      refine G_iload_n (pc2 := 31) 0 rfl dX11_tires_30 rfl rfl ?_
      refine G_iconst (pc2 := 32) dX11_tires_31 ic_m1 rfl ?_
      refine B_icmp_ne (tgt := 38) (pc2 := 35) h dX11_tires_32 (by decide) rfl (fun _ h => ?_) (fun _ h => ?_)
      · refine G_iconst (pc2 := 39) dX11_tires_38 ic_0 rfl ?_
        refine B_istore (pc2 := 41) (fun x4_1580 => [(4, .int x4_1580), (3, .int x3_1579), (0, .ref 209), (1, .int x1), (2, .int x2)]) h dX11_tires_39 (by decide) (fun _ => rfl) rfl (fun x4_1580 h => ?_)
        refine G_sub (ls' := [(0, .ref 209), (1, .int x1), (2, .int x2), (3, .int x3_1579), (4, .int x4_1580)]) [2, 3, 4, 1, 0] rfl ?_
        refine g_L_X11_tires_41 (fun h => ?_) FU x4_1580 h
        refine G_iconst (pc2 := 94) dX11_tires_93 ic_m1 rfl ?_
        have ha := Option.some.inj h
        subst ha
        exact G_iret rfl dX11_tires_94
      · refine G_ldc (pc2 := 37) kw_1147 dX11_tires_35 rfl ?_
        have ha := Option.some.inj h
        subst ha
        exact G_iret rfl dX11_tires_37
    · refine G_ldc (pc2 := 23) kw_1094 dX11_tires_21 rfl ?_
      have ha := Option.some.inj h
      subst ha
      exact G_iret rfl dX11_tires_23)
def L_X11_ones_4 (k : Int32 → Option (Int32)) (x0 : Int32) : Nat → Int32 → Int32 → Option (Int32)
  | 0, _, _ => none
  | n + 1, x1, x2 =>
  if (9 : Int32) ≤ x2 then (k x1)
  else (bnd (x1 + ((x0 >>> (x2 &&& 31)) &&& (1 : Int32))) fun x1_1593 =>
  bnd (x2 + (1 : Int32)) fun x2_1594 =>
  L_X11_ones_4 k x0 n x1_1593 x2_1594)
def f_X11_ones (x0 : Int32) : Option (Int32) :=
  bnd (0 : Int32) fun x1_1591 =>
  bnd (0 : Int32) fun x2_1592 =>
  L_X11_ones_4 (fun x1_1595 => some x1_1595) x0 FU x1_1591 x2_1592
set_option maxRecDepth 100000 in
set_option maxHeartbeats 4000000 in
theorem g_L_X11_ones_4 {X : XT} {x0 : Int32} {w : List va_E} {a : Int32} {k : Int32 → Option (Int32)} (hk : ∀ (e1 : Int32), (k e1 = some a → GG X md_X11_ones (rmD 1) (gv_Z X (rmD 1).cells (rmD 1).slots (some (.int a)) w) 0 0 24 [(1, .int e1)] [] w)) : ∀ (n : Nat) (x1 : Int32) (x2 : Int32), L_X11_ones_4 k x0 n x1 x2 = some a → GG X md_X11_ones (rmD 1) (gv_Z X (rmD 1).cells (rmD 1).slots (some (.int a)) w) 0 0 4 [(0, .int x0), (1, .int x1), (2, .int x2)] [] w := by
  intro n
  induction n with
  | zero =>
    intro x1 x2 h
    rw [L_X11_ones_4] at h
    cases h
  | succ n ih =>
    intro x1 x2 h
    rw [L_X11_ones_4] at h
    refine G_iload_n (pc2 := 5) 2 rfl dX11_ones_4 rfl rfl ?_
    refine G_bipush (pc2 := 7) dX11_ones_5 ib_9 rfl ?_
    refine B_icmp_ge (tgt := 24) (pc2 := 10) h dX11_ones_7 (by decide) rfl (fun _ h => ?_) (fun _ h => ?_)
    · refine G_sub (ls' := [(1, .int x1)]) [1] rfl ?_
      exact hk x1 h
    · refine G_iload_n (pc2 := 11) 1 rfl dX11_ones_10 rfl rfl ?_
      refine G_iload_n (pc2 := 12) 0 rfl dX11_ones_11 rfl rfl ?_
      refine G_iload_n (pc2 := 13) 2 rfl dX11_ones_12 rfl rfl ?_
      refine G_ishr (pc2 := 14) dX11_ones_13 rfl ?_
      refine G_iconst (pc2 := 15) dX11_ones_14 ic_1 rfl ?_
      refine G_iand (pc2 := 16) dX11_ones_15 rfl ?_
      refine G_iadd (pc2 := 17) dX11_ones_16 rfl ?_
      refine B_istore_n (pc2 := 18) (fun x1_1593 => [(1, .int x1_1593), (0, .int x0), (2, .int x2)]) h dX11_ones_17 rfl (by decide) (fun _ => rfl) rfl (fun x1_1593 h => ?_)
      refine B_iinc (pc2 := 21) 2 (fun x2_1594 => [(2, .int x2_1594), (1, .int x1_1593), (0, .int x0)]) h rfl dX11_ones_18 ic_1 (by decide) (fun _ => rfl) rfl (fun x2_1594 h => ?_)
      refine G_goto (tgt := 4) dX11_ones_21 (by decide) ?_
      refine G_sub (ls' := [(0, .int x0), (1, .int x1_1593), (2, .int x2_1594)]) [2, 1, 0] rfl ?_
      exact ih x1_1593 x2_1594 h
set_option maxRecDepth 100000 in
set_option maxHeartbeats 4000000 in
theorem c_X11_ones {x0 : Int32} {w : List va_E} {a : Int32} (h : f_X11_ones x0 = some a) : CT md_X11_ones yX11_ones (rmD 1) [.int x0] w (some (.int a)) w := CT_of pn_X11 ⟨rfl, rfl⟩ (Nat.le_of_ble_eq_true rfl) (fun X => by
  show GG X md_X11_ones (rmD 1) _ 0 0 0 [(0, .int x0)] [] w
  unfold f_X11_ones at h
  refine G_iconst (pc2 := 1) dX11_ones_0 ic_0 rfl ?_
  refine B_istore_n (pc2 := 2) (fun x1_1591 => [(1, .int x1_1591), (0, .int x0)]) h dX11_ones_1 rfl (by decide) (fun _ => rfl) rfl (fun x1_1591 h => ?_)
  refine G_iconst (pc2 := 3) dX11_ones_2 ic_0 rfl ?_
  refine B_istore_n (pc2 := 4) (fun x2_1592 => [(2, .int x2_1592), (1, .int x1_1591), (0, .int x0)]) h dX11_ones_3 rfl (by decide) (fun _ => rfl) rfl (fun x2_1592 h => ?_)
  refine G_sub (ls' := [(0, .int x0), (1, .int x1_1591), (2, .int x2_1592)]) [2, 1, 0] rfl ?_
  refine g_L_X11_ones_4 (fun x1_1595 h => ?_) FU x1_1591 x2_1592 h
  refine G_iload_n (pc2 := 25) 0 rfl dX11_ones_24 rfl rfl ?_
  have ha := Option.some.inj h
  subst ha
  exact G_iret rfl dX11_ones_25)
def L_X11_parted_40 (k : Int32 → WF → Option (Int32 × WI × WF)) (x1 : Int32) (x2 : Int32) (I : WI) : Nat → Int32 → Int32 → WF → Option (Int32 × WI × WF)
  | 0, _, _, _ => none
  | n + 1, x3, x4, F =>
  if x4 < 0 then (k x3 F)
  else (Option.bind (f_X11_ones x4) fun c_1596 =>
  Option.bind (f_X11_ones x3) fun c_1597 =>
  bnd (fun (s_1599 : Int32) (F_1600 : WF) => bnd s_1599 fun x3_1601 =>
  bnd (x4 + (-1 : Int32)) fun x4_1602 =>
  L_X11_parted_40 k x1 x2 I n x3_1601 x4_1602 F_1600) fun j81_1598 =>
  bnd (fun (F_1604 : WF) => j81_1598 x3 F_1604) fun j80_1603 =>
  if c_1597 < c_1596 then (j80_1603 F)
  else (Option.bind (f_X11_allBridges I F) fun c_1605 =>
  Option.bind (f_X11_isWay x1 x2 (c_1605 &&& (x4 ^^^ (-1 : Int32))) I F) fun c_1606 =>
  if c_1606.1 = 0 then (j81_1598 x4 c_1606.2)
  else (j80_1603 c_1606.2)))
def f_X11_parted (x1 : Int32) (x2 : Int32) (I : WI) (F : WF) : Option (Int32 × WI × WF) :=
  bnd (upd I 0 (0 : Int32)) fun I_1584 =>
  Option.bind (f_X11_isPlace x1 I_1584 F) fun c_1585 =>
  if c_1585 = 0 then (some ((-1000000001 : Int32), I_1584, F))
  else (Option.bind (f_X11_isPlace x2 I_1584 F) fun c_1586 =>
  if c_1586 = 0 then (some ((-1000000001 : Int32), I_1584, F))
  else (if x1 = x2 then (some ((-1000000001 : Int32), I_1584, F))
  else (Option.bind (f_X11_allBridges I_1584 F) fun c_1587 =>
  bnd c_1587 fun x3_1588 =>
  Option.bind (f_X11_allBridges I_1584 F) fun c_1589 =>
  bnd c_1589 fun x4_1590 =>
  L_X11_parted_40 (fun x3_1607 F_1608 => some (x3_1607, I_1584, F_1608)) x1 x2 I_1584 FU x3_1588 x4_1590 F)))
set_option maxRecDepth 100000 in
set_option maxHeartbeats 4000000 in
theorem g_L_X11_parted_40 {X : XT} {x1 : Int32} {x2 : Int32} {I : WI} {J : WI} {K : WF} {a : Int32 × WI × WF} {k : Int32 → WF → Option (Int32 × WI × WF)} (hk : ∀ (e3 : Int32) (F' : WF), (k e3 F' = some a → GG X md_X11_parted (rmD 4) (gv_Z X (rmD 4).cells (rmD 4).slots (some (.int a.1)) (mkW J K a.2.1 a.2.2)) 0 0 88 [(3, .int e3)] [] (mkW J K I F'))) : ∀ (n : Nat) (x3 : Int32) (x4 : Int32) (F : WF), L_X11_parted_40 k x1 x2 I n x3 x4 F = some a → GG X md_X11_parted (rmD 4) (gv_Z X (rmD 4).cells (rmD 4).slots (some (.int a.1)) (mkW J K a.2.1 a.2.2)) 0 0 40 [(0, .ref 209), (1, .int x1), (2, .int x2), (3, .int x3), (4, .int x4)] [] (mkW J K I F) := by
  intro n
  induction n with
  | zero =>
    intro x3 x4 F h
    rw [L_X11_parted_40] at h
    cases h
  | succ n ih =>
    intro x3 x4 F h
    rw [L_X11_parted_40] at h
    refine G_iload (pc2 := 42) 4 rfl dX11_parted_40 rfl ?_
    refine B_if_lt (tgt := 88) (pc2 := 45) h dX11_parted_42 (by decide) rfl (fun _ h => ?_) (fun _ h => ?_)
    · refine G_sub (ls' := [(3, .int x3)]) [3] rfl ?_
      exact hk x3 F h
    · refine G_iload (pc2 := 47) 4 rfl dX11_parted_45 rfl ?_
      obtain ⟨c_1596, hc_1596, h⟩ := ob_e h
      refine B_callS (pc2 := 50) si_X11_235 (c_X11_ones hc_1596) rfl (st := []) (stq := [.int c_1596]) rfl (by decide) (by decide) (Nat.le_of_ble_eq_true rfl) rfl dX11_parted_47 rfl rfl ?_ ⟨rfl, rfl⟩
      refine G_iload_n (pc2 := 51) 3 rfl dX11_parted_50 rfl rfl ?_
      obtain ⟨c_1597, hc_1597, h⟩ := ob_e h
      refine B_callS (pc2 := 54) si_X11_235 (c_X11_ones hc_1597) rfl (st := [.int c_1596]) (stq := [.int c_1597, .int c_1596]) rfl (by decide) (by decide) (Nat.le_of_ble_eq_true rfl) rfl dX11_parted_51 rfl rfl ?_ ⟨rfl, rfl⟩
      refine jn_e (Gj := True) (fun (j : Int32 → WF → Option (Int32 × WI × WF)) => ∀ (s_1599 : Int32) (F_1600 : WF), j s_1599 F_1600 = some a → GG X md_X11_parted (rmD 4) (gv_Z X (rmD 4).cells (rmD 4).slots (some (.int a.1)) (mkW J K a.2.1 a.2.2)) 0 0 81 [(0, .ref 209), (1, .int x1), (2, .int x2), (4, .int x4)] [.int s_1599] (mkW J K I F_1600)) h (fun s_1599 F_1600 h => ?_) (fun j81_1598 hj81_1598 h => ?_)
      · refine B_istore_n (pc2 := 82) (fun x3_1601 => [(3, .int x3_1601), (0, .ref 209), (1, .int x1), (2, .int x2), (4, .int x4)]) h dX11_parted_81 rfl (by decide) (fun _ => rfl) rfl (fun x3_1601 h => ?_)
        refine B_iinc (pc2 := 85) 4 (fun x4_1602 => [(4, .int x4_1602), (3, .int x3_1601), (0, .ref 209), (1, .int x1), (2, .int x2)]) h rfl dX11_parted_82 ic_m1 (by decide) (fun _ => rfl) rfl (fun x4_1602 h => ?_)
        refine G_goto (tgt := 40) dX11_parted_85 (by decide) ?_
        refine G_sub (ls' := [(0, .ref 209), (1, .int x1), (2, .int x2), (3, .int x3_1601), (4, .int x4_1602)]) [2, 3, 4, 1, 0] rfl ?_
        exact ih x3_1601 x4_1602 F_1600 h
      refine jn_e (Gj := True) (fun (j : WF → Option (Int32 × WI × WF)) => ∀ (F_1604 : WF), j F_1604 = some a → GG X md_X11_parted (rmD 4) (gv_Z X (rmD 4).cells (rmD 4).slots (some (.int a.1)) (mkW J K a.2.1 a.2.2)) 0 0 80 [(0, .ref 209), (1, .int x1), (2, .int x2), (3, .int x3), (4, .int x4)] [] (mkW J K I F_1604)) h (fun F_1604 h => ?_) (fun j80_1603 hj80_1603 h => ?_)
      · refine G_iload_n (pc2 := 81) 3 rfl dX11_parted_80 rfl rfl ?_
        refine G_sub (ls' := [(0, .ref 209), (1, .int x1), (2, .int x2), (4, .int x4)]) [0, 1, 2, 4] rfl ?_
        exact hj81_1598 x3 F_1604 h
      refine B_icmp_gt (tgt := 80) (pc2 := 57) h dX11_parted_54 (by decide) rfl (fun _ h => ?_) (fun _ h => ?_)
      · exact hj80_1603 F h
      · refine G_aload_n (pc2 := 58) 0 rfl dX11_parted_57 rfl rfl ?_
        refine G_iload_n (pc2 := 59) 1 rfl dX11_parted_58 rfl rfl ?_
        refine G_iload_n (pc2 := 60) 2 rfl dX11_parted_59 rfl rfl ?_
        refine G_aload_n (pc2 := 61) 0 rfl dX11_parted_60 rfl rfl ?_
        obtain ⟨c_1605, hc_1605, h⟩ := ob_e h
        refine B_callV (pc2 := 64) si_X11_157 (c_X11_allBridges hc_1605) (qo_209 _ _ _ _) rfl rfl rfl (st := [.int x2, .int x1, .ref 209]) (stq := [.int c_1605, .int x2, .int x1, .ref 209]) rfl (by decide) (by decide) (Nat.le_of_ble_eq_true rfl) mkW_ll dX11_parted_61 rfl rfl ?_ ⟨rfl, rfl⟩
        refine G_iload (pc2 := 66) 4 rfl dX11_parted_64 rfl ?_
        refine G_iconst (pc2 := 67) dX11_parted_66 ic_m1 rfl ?_
        refine G_ixor (pc2 := 68) dX11_parted_67 rfl ?_
        refine G_iand (pc2 := 69) dX11_parted_68 rfl ?_
        obtain ⟨c_1606, hc_1606, h⟩ := ob_e h
        refine B_callV (pc2 := 72) si_X11_161 (c_X11_isWay hc_1606) (qo_209 _ _ _ _) rfl rfl rfl (st := []) (stq := [.int c_1606.1]) rfl (by decide) (by decide) (Nat.le_of_ble_eq_true rfl) mkW_ll dX11_parted_69 rfl rfl ?_ ⟨rfl, rfl⟩
        refine B_if_ne (tgt := 80) (pc2 := 75) h dX11_parted_72 (by decide) rfl (fun _ h => ?_) (fun _ h => ?_)
        · exact hj80_1603 c_1606.2 h
        · refine G_iload (pc2 := 77) 4 rfl dX11_parted_75 rfl ?_
          refine G_goto (tgt := 81) dX11_parted_77 (by decide) ?_
          refine G_sub (ls' := [(0, .ref 209), (1, .int x1), (2, .int x2), (4, .int x4)]) [0, 1, 2, 4] rfl ?_
          exact hj81_1598 x4 c_1606.2 h
set_option maxRecDepth 100000 in
set_option maxHeartbeats 4000000 in
theorem c_X11_parted {x1 : Int32} {x2 : Int32} {I : WI} {F : WF} {J : WI} {K : WF} {a : Int32 × WI × WF} (h : f_X11_parted x1 x2 I F = some a) : CT md_X11_parted yX11_parted (rmD 4) [.ref 209, .int x1, .int x2] (mkW J K I F) (some (.int a.1)) (mkW J K a.2.1 a.2.2) := CT_of pn_X11 ⟨rfl, rfl⟩ (Nat.le_of_ble_eq_true rfl) (fun X => by
  show GG X md_X11_parted (rmD 4) _ 0 0 0 [(0, .ref 209), (1, .int x1), (2, .int x2)] [] (mkW J K I F)
  unfold f_X11_parted at h
  refine G_aload_n (pc2 := 1) 0 rfl dX11_parted_0 rfl rfl ?_
  refine G_iconst (pc2 := 2) dX11_parted_1 ic_0 rfl ?_
  refine P_209_0 (pc2 := 5) h kw_902 dX11_parted_2 rfl (fun I_1584 h => ?_)
  refine G_aload_n (pc2 := 6) 0 rfl dX11_parted_5 rfl rfl ?_
  refine G_iload_n (pc2 := 7) 1 rfl dX11_parted_6 rfl rfl ?_
  obtain ⟨c_1585, hc_1585, h⟩ := ob_e h
  refine B_callV (pc2 := 10) si_X11_223 (c_X11_isPlace hc_1585) (qo_209 _ _ _ _) rfl rfl rfl (st := []) (stq := [.int c_1585]) rfl (by decide) (by decide) (Nat.le_of_ble_eq_true rfl) mkW_ll dX11_parted_7 rfl rfl ?_ ⟨rfl, rfl⟩
  refine B_if_eq (tgt := 26) (pc2 := 13) h dX11_parted_10 (by decide) rfl (fun _ h => ?_) (fun _ h => ?_)
  · refine G_ldc (pc2 := 28) kw_1094 dX11_parted_26 rfl ?_
    have ha := Option.some.inj h
    subst ha
    exact G_iret rfl dX11_parted_28
  · refine G_aload_n (pc2 := 14) 0 rfl dX11_parted_13 rfl rfl ?_
    refine G_iload_n (pc2 := 15) 2 rfl dX11_parted_14 rfl rfl ?_
    obtain ⟨c_1586, hc_1586, h⟩ := ob_e h
    refine B_callV (pc2 := 18) si_X11_223 (c_X11_isPlace hc_1586) (qo_209 _ _ _ _) rfl rfl rfl (st := []) (stq := [.int c_1586]) rfl (by decide) (by decide) (Nat.le_of_ble_eq_true rfl) mkW_ll dX11_parted_15 rfl rfl ?_ ⟨rfl, rfl⟩
    refine B_if_eq (tgt := 26) (pc2 := 21) h dX11_parted_18 (by decide) rfl (fun _ h => ?_) (fun _ h => ?_)
    · refine G_ldc (pc2 := 28) kw_1094 dX11_parted_26 rfl ?_
      have ha := Option.some.inj h
      subst ha
      exact G_iret rfl dX11_parted_28
    · refine G_iload_n (pc2 := 22) 1 rfl dX11_parted_21 rfl rfl ?_
      refine G_iload_n (pc2 := 23) 2 rfl dX11_parted_22 rfl rfl ?_
      refine B_icmp_ne (tgt := 29) (pc2 := 26) h dX11_parted_23 (by decide) rfl (fun _ h => ?_) (fun _ h => ?_)
      · refine G_aload_n (pc2 := 30) 0 rfl dX11_parted_29 rfl rfl ?_
        obtain ⟨c_1587, hc_1587, h⟩ := ob_e h
        refine B_callV (pc2 := 33) si_X11_157 (c_X11_allBridges hc_1587) (qo_209 _ _ _ _) rfl rfl rfl (st := []) (stq := [.int c_1587]) rfl (by decide) (by decide) (Nat.le_of_ble_eq_true rfl) mkW_ll dX11_parted_30 rfl rfl ?_ ⟨rfl, rfl⟩
        refine B_istore_n (pc2 := 34) (fun x3_1588 => [(3, .int x3_1588), (0, .ref 209), (1, .int x1), (2, .int x2)]) h dX11_parted_33 rfl (by decide) (fun _ => rfl) rfl (fun x3_1588 h => ?_)
        refine G_aload_n (pc2 := 35) 1 rfl dX11_parted_34 rfl rfl ?_
        obtain ⟨c_1589, hc_1589, h⟩ := ob_e h
        refine B_callV (pc2 := 38) si_X11_157 (c_X11_allBridges hc_1589) (qo_209 _ _ _ _) rfl rfl rfl (st := []) (stq := [.int c_1589]) rfl (by decide) (by decide) (Nat.le_of_ble_eq_true rfl) mkW_ll dX11_parted_35 rfl rfl ?_ ⟨rfl, rfl⟩
        refine B_istore (pc2 := 40) (fun x4_1590 => [(4, .int x4_1590), (3, .int x3_1588), (0, .ref 209), (1, .int x1), (2, .int x2)]) h dX11_parted_38 (by decide) (fun _ => rfl) rfl (fun x4_1590 h => ?_)
        refine G_sub (ls' := [(0, .ref 209), (1, .int x1), (2, .int x2), (3, .int x3_1588), (4, .int x4_1590)]) [2, 3, 4, 1, 0] rfl ?_
        refine g_L_X11_parted_40 (fun x3_1607 F_1608 h => ?_) FU x3_1588 x4_1590 F h
        refine G_iload_n (pc2 := 89) 0 rfl dX11_parted_88 rfl rfl ?_
        have ha := Option.some.inj h
        subst ha
        exact G_iret rfl dX11_parted_89
      · refine G_ldc (pc2 := 28) kw_1094 dX11_parted_26 rfl ?_
        have ha := Option.some.inj h
        subst ha
        exact G_iret rfl dX11_parted_28)
def L_X11_chanceOf_7 (k : Int64 → Option (Int64)) (x0 : Int32) (x1 : Int32) : Nat → Int64 → Int32 → Option (Int64)
  | 0, _, _ => none
  | n + 1, x2, x4 =>
  if x0 ≤ x4 then (k x2)
  else (bnd ((x2 * x1.toInt64) / (100 : Int64)) fun x2_1616 =>
  bnd (x4 + (1 : Int32)) fun x4_1617 =>
  L_X11_chanceOf_7 k x0 x1 n x2_1616 x4_1617)
def f_X11_chanceOf (x0 : Int32) (x1 : Int32) : Option (Int64) :=
  bnd (1000000000 : Int64) fun x2_1614 =>
  bnd (0 : Int32) fun x4_1615 =>
  L_X11_chanceOf_7 (fun x2_1618 => some x2_1618) x0 x1 FU x2_1614 x4_1615
set_option maxRecDepth 100000 in
set_option maxHeartbeats 4000000 in
theorem g_L_X11_chanceOf_7 {X : XT} {x0 : Int32} {x1 : Int32} {w : List va_E} {a : Int64} {k : Int64 → Option (Int64)} (hk : ∀ (e2 : Int64), (k e2 = some a → GG X md_X11_chanceOf (rmD 1) (gv_Z X (rmD 1).cells (rmD 1).slots (some (.long a)) w) 0 0 28 [(2, .long e2)] [] w)) : ∀ (n : Nat) (x2 : Int64) (x4 : Int32), L_X11_chanceOf_7 k x0 x1 n x2 x4 = some a → GG X md_X11_chanceOf (rmD 1) (gv_Z X (rmD 1).cells (rmD 1).slots (some (.long a)) w) 0 0 7 [(0, .int x0), (1, .int x1), (2, .long x2), (4, .int x4)] [] w := by
  intro n
  induction n with
  | zero =>
    intro x2 x4 h
    rw [L_X11_chanceOf_7] at h
    cases h
  | succ n ih =>
    intro x2 x4 h
    rw [L_X11_chanceOf_7] at h
    refine G_iload (pc2 := 9) 3 rfl dX11_chanceOf_7 rfl ?_
    refine G_iload_n (pc2 := 10) 0 rfl dX11_chanceOf_9 rfl rfl ?_
    refine B_icmp_ge (tgt := 28) (pc2 := 13) h dX11_chanceOf_10 (by decide) rfl (fun _ h => ?_) (fun _ h => ?_)
    · refine G_sub (ls' := [(2, .long x2)]) [2] rfl ?_
      exact hk x2 h
    · refine G_lload_n (pc2 := 14) 2 rfl dX11_chanceOf_13 rfl rfl ?_
      refine G_iload_n (pc2 := 15) 1 rfl dX11_chanceOf_14 rfl rfl ?_
      refine G_i2l (pc2 := 16) dX11_chanceOf_15 rfl ?_
      refine G_lmul (pc2 := 17) dX11_chanceOf_16 rfl ?_
      refine G_ldc2 (pc2 := 20) kw_1218 dX11_chanceOf_17 rfl ?_
      refine G_ldiv (pc2 := 21) dX11_chanceOf_20 (by decide) rfl ?_
      refine B_lstore_n (pc2 := 22) (fun x2_1616 => [(2, .long x2_1616), (0, .int x0), (1, .int x1), (4, .int x4)]) h dX11_chanceOf_21 rfl (by decide) (fun _ => rfl) rfl (fun x2_1616 h => ?_)
      refine B_iinc (pc2 := 25) 3 (fun x4_1617 => [(4, .int x4_1617), (2, .long x2_1616), (0, .int x0), (1, .int x1)]) h rfl dX11_chanceOf_22 ic_1 (by decide) (fun _ => rfl) rfl (fun x4_1617 h => ?_)
      refine G_goto (tgt := 7) dX11_chanceOf_25 (by decide) ?_
      refine G_sub (ls' := [(0, .int x0), (1, .int x1), (2, .long x2_1616), (4, .int x4_1617)]) [2, 3, 1, 0] rfl ?_
      exact ih x2_1616 x4_1617 h
set_option maxRecDepth 100000 in
set_option maxHeartbeats 4000000 in
theorem c_X11_chanceOf {x0 : Int32} {x1 : Int32} {w : List va_E} {a : Int64} (h : f_X11_chanceOf x0 x1 = some a) : CT md_X11_chanceOf yX11_chanceOf (rmD 1) [.int x0, .int x1] w (some (.long a)) w := CT_of pn_X11 ⟨rfl, rfl⟩ (Nat.le_of_ble_eq_true rfl) (fun X => by
  show GG X md_X11_chanceOf (rmD 1) _ 0 0 0 [(0, .int x0), (1, .int x1)] [] w
  unfold f_X11_chanceOf at h
  refine G_ldc2 (pc2 := 3) kw_1249 dX11_chanceOf_0 rfl ?_
  refine B_lstore_n (pc2 := 4) (fun x2_1614 => [(2, .long x2_1614), (0, .int x0), (1, .int x1)]) h dX11_chanceOf_3 rfl (by decide) (fun _ => rfl) rfl (fun x2_1614 h => ?_)
  refine G_iconst (pc2 := 5) dX11_chanceOf_4 ic_0 rfl ?_
  refine B_istore (pc2 := 7) (fun x4_1615 => [(4, .int x4_1615), (2, .long x2_1614), (0, .int x0), (1, .int x1)]) h dX11_chanceOf_5 (by decide) (fun _ => rfl) rfl (fun x4_1615 h => ?_)
  refine G_sub (ls' := [(0, .int x0), (1, .int x1), (2, .long x2_1614), (4, .int x4_1615)]) [2, 3, 1, 0] rfl ?_
  refine g_L_X11_chanceOf_7 (fun x2_1618 h => ?_) FU x2_1614 x4_1615 h
  refine G_lload_n (pc2 := 29) 0 rfl dX11_chanceOf_28 rfl rfl ?_
  have ha := Option.some.inj h
  subst ha
  exact G_lret rfl dX11_chanceOf_29)
end
