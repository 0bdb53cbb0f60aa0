noncomputable section
def L_X10_passHours_56 (k : WI → WF → Option (Int32 × WI × WF)) (x1 : Int32) (x2 : Int32) : Nat → Int32 → WI → WF → Option (Int32 × WI × WF)
  | 0, _, _, _ => none
  | n + 1, x3, I, F =>
  if x1 ≤ x3 then (k I F)
  else (bnd (fun (I_572 : WI) (F_573 : WF) => Option.bind (f_X1_oneHour_12 I_572 F_573) fun c_588 =>
  bnd (x3 + (1 : Int32)) fun x3_589 =>
  L_X10_passHours_56 k x1 x2 n x3_589 c_588.1 c_588.2) fun j72_571 =>
  if x2 = 0 then (j72_571 I F)
  else (Option.bind (f_X1_drawnJump_12 I F) fun c_602 =>
  j72_571 c_602.1 c_602.2))
def f_X10_passHours (x1 : Int32) (x2 : Int32) (I : WI) (F : WF) : Option (Int32 × WI × WF) :=
  if x1 < (1 : Int32) then (some ((-1000000002 : Int32), I, F))
  else (if x1 ≤ (60 : Int32) then (if (I 48) = 0 then (some ((-1000000003 : Int32), I, F))
  else (if (I 0) ≤ (9000 : Int32) then (Option.bind (f_X3_remember_42_22 I F) fun c_569 =>
  bnd (0 : Int32) fun x3_570 =>
  L_X10_passHours_56 (fun I_603 F_604 => some ((I_603 0), I_603, F_604)) x1 x2 FU x3_570 c_569.1 c_569.2)
  else (some ((-1000000004 : Int32), I, F))))
  else (some ((-1000000002 : Int32), I, F)))
set_option maxRecDepth 100000 in
set_option maxHeartbeats 4000000 in
theorem g_L_X10_passHours_56 {X : XT} {x1 : Int32} {x2 : Int32} {J : WI} {K : WF} {a : Int32 × WI × WF} {k : WI → WF → Option (Int32 × WI × WF)} (hk : ∀ (I' : WI) (F' : WF), (k I' F' = some a → GG X md_X10_passHours (rmD 6) (gv_Z X (rmD 6).cells (rmD 6).slots (some (.int a.1)) (mkW a.2.1 a.2.2 J K)) 0 0 85 [(0, .ref 0)] [] (mkW I' F' J K))) : ∀ (n : Nat) (x3 : Int32) (I : WI) (F : WF), L_X10_passHours_56 k x1 x2 n x3 I F = some a → GG X md_X10_passHours (rmD 6) (gv_Z X (rmD 6).cells (rmD 6).slots (some (.int a.1)) (mkW a.2.1 a.2.2 J K)) 0 0 56 [(0, .ref 0), (1, .int x1), (2, .int x2), (3, .int x3)] [] (mkW I F J K) := by
  intro n
  induction n with
  | zero =>
    intro x3 I F h
    rw [L_X10_passHours_56] at h
    cases h
  | succ n ih =>
    intro x3 I F h
    rw [L_X10_passHours_56] at h
    refine G_iload_n (pc2 := 57) 3 rfl dX10_passHours_56 rfl rfl ?_
    refine G_iload_n (pc2 := 58) 1 rfl dX10_passHours_57 rfl rfl ?_
    refine B_icmp_ge (tgt := 85) (pc2 := 61) h dX10_passHours_58 (by decide) rfl (fun _ h => ?_) (fun _ h => ?_)
    · refine G_sub (ls' := [(0, .ref 0)]) [0] rfl ?_
      exact hk I F h
    · refine G_iload_n (pc2 := 62) 2 rfl dX10_passHours_61 rfl rfl ?_
      refine jn_e (Gj := True) (fun (j : WI → WF → Option (Int32 × WI × WF)) => ∀ (I_572 : WI) (F_573 : WF), j I_572 F_573 = some a → GG X md_X10_passHours (rmD 6) (gv_Z X (rmD 6).cells (rmD 6).slots (some (.int a.1)) (mkW a.2.1 a.2.2 J K)) 0 0 72 [(0, .ref 0), (1, .int x1), (2, .int x2), (3, .int x3)] [] (mkW I_572 F_573 J K)) h (fun I_572 F_573 h => ?_) (fun j72_571 hj72_571 h => ?_)
      · refine G_aload_n (pc2 := 73) 0 rfl dX10_passHours_72 rfl rfl ?_
        refine T_0_1 (pc2 := 76) kw_401 dX10_passHours_73 rfl ?_
        obtain ⟨c_588, hc_588, h⟩ := ob_e h
        refine B_callV (pc2 := 79) si_X10_251 (c_X1_oneHour_12 hc_588) (qo_12 _ _ _ _) rfl rfl rfl (st := []) (stq := []) rfl (by decide) (by decide) (Nat.le_of_ble_eq_true rfl) mkW_ll dX10_passHours_76 rfl rfl ?_ ⟨rfl, rfl⟩
        refine B_iinc (pc2 := 82) 3 (fun x3_589 => [(3, .int x3_589), (0, .ref 0), (1, .int x1), (2, .int x2)]) h rfl dX10_passHours_79 ic_1 (by decide) (fun _ => rfl) rfl (fun x3_589 h => ?_)
        refine G_goto (tgt := 56) dX10_passHours_82 (by decide) ?_
        refine G_sub (ls' := [(0, .ref 0), (1, .int x1), (2, .int x2), (3, .int x3_589)]) [1, 2, 3, 0] rfl ?_
        exact ih x3_589 c_588.1 c_588.2 h
      refine B_if_eq (tgt := 72) (pc2 := 65) h dX10_passHours_62 (by decide) rfl (fun _ h => ?_) (fun _ h => ?_)
      · exact hj72_571 I F h
      · refine G_aload_n (pc2 := 66) 0 rfl dX10_passHours_65 rfl rfl ?_
        refine T_0_1 (pc2 := 69) kw_401 dX10_passHours_66 rfl ?_
        obtain ⟨c_602, hc_602, h⟩ := ob_e h
        refine B_callV (pc2 := 72) si_X10_248 (c_X1_drawnJump_12 hc_602) (qo_12 _ _ _ _) rfl rfl rfl (st := []) (stq := []) rfl (by decide) (by decide) (Nat.le_of_ble_eq_true rfl) mkW_ll dX10_passHours_69 rfl rfl ?_ ⟨rfl, rfl⟩
        exact hj72_571 c_602.1 c_602.2 h
set_option maxRecDepth 100000 in
set_option maxHeartbeats 4000000 in
theorem c_X10_passHours {x1 : Int32} {x2 : Int32} {I : WI} {F : WF} {J : WI} {K : WF} {a : Int32 × WI × WF} (h : f_X10_passHours x1 x2 I F = some a) : CT md_X10_passHours yX10_passHours (rmD 6) [.ref 0, .int x1, .int x2] (mkW I F J K) (some (.int a.1)) (mkW a.2.1 a.2.2 J K) := CT_of pn_X10 ⟨rfl, rfl⟩ (Nat.le_of_ble_eq_true rfl) (fun X => by
  show GG X md_X10_passHours (rmD 6) _ 0 0 0 [(0, .ref 0), (1, .int x1), (2, .int x2)] [] (mkW I F J K)
  unfold f_X10_passHours at h
  refine G_iload_n (pc2 := 1) 1 rfl dX10_passHours_0 rfl rfl ?_
  refine G_iconst (pc2 := 2) dX10_passHours_1 ic_1 rfl ?_
  refine B_icmp_lt (tgt := 11) (pc2 := 5) h dX10_passHours_2 (by decide) rfl (fun _ h => ?_) (fun _ h => ?_)
  · refine G_ldc (pc2 := 13) kw_435 dX10_passHours_11 rfl ?_
    have ha := Option.some.inj h
    subst ha
    exact G_iret rfl dX10_passHours_13
  · refine G_iload_n (pc2 := 6) 1 rfl dX10_passHours_5 rfl rfl ?_
    refine G_bipush (pc2 := 8) dX10_passHours_6 ib_60 rfl ?_
    refine B_icmp_le (tgt := 14) (pc2 := 11) h dX10_passHours_8 (by decide) rfl (fun _ h => ?_) (fun _ h => ?_)
    · refine G_aload_n (pc2 := 15) 0 rfl dX10_passHours_14 rfl rfl ?_
      refine T_0_2 (pc2 := 18) kw_402 dX10_passHours_15 rfl ?_
      refine T_13_0 (pc2 := 21) kw_99 dX10_passHours_18 rfl ?_
      refine B_if_ne (tgt := 27) (pc2 := 24) h dX10_passHours_21 (by decide) rfl (fun _ h => ?_) (fun _ h => ?_)
      · refine G_aload_n (pc2 := 28) 0 rfl dX10_passHours_27 rfl rfl ?_
        refine T_0_3 (pc2 := 31) kw_403 dX10_passHours_28 rfl ?_
        refine T_22_0 (pc2 := 34) kw_209 dX10_passHours_31 rfl ?_
        refine G_sipush (pc2 := 37) dX10_passHours_34 is_9000 rfl ?_
        refine B_icmp_le (tgt := 43) (pc2 := 40) h dX10_passHours_37 (by decide) rfl (fun _ h => ?_) (fun _ h => ?_)
        · refine G_aload_n (pc2 := 44) 0 rfl dX10_passHours_43 rfl rfl ?_
          refine T_0_8 (pc2 := 47) kw_408 dX10_passHours_44 rfl ?_
          refine G_aload_n (pc2 := 48) 0 rfl dX10_passHours_47 rfl rfl ?_
          refine T_0_3 (pc2 := 51) kw_403 dX10_passHours_48 rfl ?_
          obtain ⟨c_569, hc_569, h⟩ := ob_e h
          refine B_callV (pc2 := 54) si_X10_236 (c_X3_remember_42_22 hc_569) (qo_42 _ _ _ _) rfl rfl rfl (st := []) (stq := []) rfl (by decide) (by decide) (Nat.le_of_ble_eq_true rfl) mkW_ll dX10_passHours_51 rfl rfl ?_ ⟨rfl, rfl⟩
          refine G_iconst (pc2 := 55) dX10_passHours_54 ic_0 rfl ?_
          refine B_istore_n (pc2 := 56) (fun x3_570 => [(3, .int x3_570), (0, .ref 0), (1, .int x1), (2, .int x2)]) h dX10_passHours_55 rfl (by decide) (fun _ => rfl) rfl (fun x3_570 h => ?_)
          refine G_sub (ls' := [(0, .ref 0), (1, .int x1), (2, .int x2), (3, .int x3_570)]) [1, 2, 3, 0] rfl ?_
          refine g_L_X10_passHours_56 (fun I_603 F_604 h => ?_) FU x3_570 c_569.1 c_569.2 h
          refine G_aload_n (pc2 := 86) 0 rfl dX10_passHours_85 rfl rfl ?_
          refine T_0_3 (pc2 := 89) kw_403 dX10_passHours_86 rfl ?_
          refine T_22_0 (pc2 := 92) kw_209 dX10_passHours_89 rfl ?_
          have ha := Option.some.inj h
          subst ha
          exact G_iret rfl dX10_passHours_92
        · refine G_ldc (pc2 := 42) kw_436 dX10_passHours_40 rfl ?_
          have ha := Option.some.inj h
          subst ha
          exact G_iret rfl dX10_passHours_42
      · refine G_ldc (pc2 := 26) kw_671 dX10_passHours_24 rfl ?_
        have ha := Option.some.inj h
        subst ha
        exact G_iret rfl dX10_passHours_26
    · refine G_ldc (pc2 := 13) kw_435 dX10_passHours_11 rfl ?_
      have ha := Option.some.inj h
      subst ha
      exact G_iret rfl dX10_passHours_13)
def f_X10_hour (x1 : Int32) (I : WI) (F : WF) : Option (Int32 × WI × WF) :=
  Option.bind (f_X10_passHours x1 (0 : Int32) I F) fun c_605 =>
  some (c_605.1, c_605.2.1, c_605.2.2)
set_option maxRecDepth 100000 in
set_option maxHeartbeats 4000000 in
theorem c_X10_hour {x1 : Int32} {I : WI} {F : WF} {J : WI} {K : WF} {a : Int32 × WI × WF} (h : f_X10_hour x1 I F = some a) : CT md_X10_hour yX10_hour (rmD 7) [.ref 0, .int x1] (mkW I F J K) (some (.int a.1)) (mkW a.2.1 a.2.2 J K) := CT_of pn_X10 ⟨rfl, rfl⟩ (Nat.le_of_ble_eq_true rfl) (fun X => by
  show GG X md_X10_hour (rmD 7) _ 0 0 0 [(0, .ref 0), (1, .int x1)] [] (mkW I F J K)
  unfold f_X10_hour at h
  refine G_aload_n (pc2 := 1) 0 rfl dX10_hour_0 rfl rfl ?_
  refine G_iload_n (pc2 := 2) 1 rfl dX10_hour_1 rfl rfl ?_
  refine G_iconst (pc2 := 3) dX10_hour_2 ic_0 rfl ?_
  obtain ⟨c_605, hc_605, h⟩ := ob_e h
  refine B_callV (pc2 := 6) si_X10_244 (c_X10_passHours hc_605) (qo_0 _ _ _ _) rfl rfl rfl (st := []) (stq := [.int c_605.1]) rfl (by decide) (by decide) (Nat.le_of_ble_eq_true rfl) mkW_ll dX10_hour_3 rfl rfl ?_ ⟨rfl, rfl⟩
  have ha := Option.some.inj h
  subst ha
  exact G_iret rfl dX10_hour_6)
def f_X10_drift (x1 : Int32) (I : WI) (F : WF) : Option (Int32 × WI × WF) :=
  Option.bind (f_X10_passHours x1 (1 : Int32) I F) fun c_606 =>
  some (c_606.1, c_606.2.1, c_606.2.2)
set_option maxRecDepth 100000 in
set_option maxHeartbeats 4000000 in
theorem c_X10_drift {x1 : Int32} {I : WI} {F : WF} {J : WI} {K : WF} {a : Int32 × WI × WF} (h : f_X10_drift x1 I F = some a) : CT md_X10_drift yX10_drift (rmD 7) [.ref 0, .int x1] (mkW I F J K) (some (.int a.1)) (mkW a.2.1 a.2.2 J K) := CT_of pn_X10 ⟨rfl, rfl⟩ (Nat.le_of_ble_eq_true rfl) (fun X => by
  show GG X md_X10_drift (rmD 7) _ 0 0 0 [(0, .ref 0), (1, .int x1)] [] (mkW I F J K)
  unfold f_X10_drift at h
  refine G_aload_n (pc2 := 1) 0 rfl dX10_drift_0 rfl rfl ?_
  refine G_iload_n (pc2 := 2) 1 rfl dX10_drift_1 rfl rfl ?_
  refine G_iconst (pc2 := 3) dX10_drift_2 ic_1 rfl ?_
  obtain ⟨c_606, hc_606, h⟩ := ob_e h
  refine B_callV (pc2 := 6) si_X10_244 (c_X10_passHours hc_606) (qo_0 _ _ _ _) rfl rfl rfl (st := []) (stq := [.int c_606.1]) rfl (by decide) (by decide) (Nat.le_of_ble_eq_true rfl) mkW_ll dX10_drift_3 rfl rfl ?_ ⟨rfl, rfl⟩
  have ha := Option.some.inj h
  subst ha
  exact G_iret rfl dX10_drift_6)
def f_X6_copyFrom_22_44 (I : WI) (F : WF) : Option (WI × WF) :=
  bnd (upd I 0 (I 2)) fun I_608 =>
  bnd (upd I_608 1 (I_608 3)) fun I_609 =>
  bnd (uF F 0 (va_cpy (F 8) (F 0) 0 0 9)) fun F_610 =>
  bnd (uF F_610 1 (va_cpy (F_610 9) (F_610 1) 0 0 9)) fun F_611 =>
  bnd (uF F_611 2 (va_cpy (F_611 10) (F_611 2) 0 0 9)) fun F_612 =>
  bnd (uF F_612 3 (va_cpy (F_612 11) (F_612 3) 0 0 6)) fun F_613 =>
  bnd (uF F_613 4 (va_cpy (F_613 12) (F_613 4) 0 0 6)) fun F_614 =>
  bnd (uF F_614 5 (va_cpy (F_614 13) (F_614 5) 0 0 6)) fun F_615 =>
  bnd (uF F_615 6 (va_cpy (F_615 14) (F_615 6) 0 0 6)) fun F_616 =>
  bnd (uF F_616 7 (va_cpy (F_616 15) (F_616 7) 0 0 20)) fun F_617 =>
  some (I_609, F_617)
set_option maxRecDepth 100000 in
set_option maxHeartbeats 4000000 in
theorem c_X6_copyFrom_22_44 {I : WI} {F : WF} {J : WI} {K : WF} {a : WI × WF} (h : f_X6_copyFrom_22_44  I F = some a) : CT md_X6_copyFrom yX6_copyFrom (rmD 1) [.ref 22, .ref 44] (mkW I F J K) none (mkW a.1 a.2 J K) := CT_of pn_X6 ⟨rfl, rfl⟩ (Nat.le_of_ble_eq_true rfl) (fun X => by
  show GG X md_X6_copyFrom (rmD 1) _ 0 0 0 [(0, .ref 22), (1, .ref 44)] [] (mkW I F J K)
  unfold f_X6_copyFrom_22_44 at h
  refine G_aload_n (pc2 := 1) 0 rfl dX6_copyFrom_0 rfl rfl ?_
  refine G_aload_n (pc2 := 2) 1 rfl dX6_copyFrom_1 rfl rfl ?_
  refine T_44_0 (pc2 := 5) kw_207 dX6_copyFrom_2 rfl ?_
  refine P_22_0 (pc2 := 8) h kw_207 dX6_copyFrom_5 rfl (fun I_608 h => ?_)
  refine G_aload_n (pc2 := 9) 0 rfl dX6_copyFrom_8 rfl rfl ?_
  refine G_aload_n (pc2 := 10) 1 rfl dX6_copyFrom_9 rfl rfl ?_
  refine T_44_1 (pc2 := 13) kw_210 dX6_copyFrom_10 rfl ?_
  refine P_22_1 (pc2 := 16) h kw_210 dX6_copyFrom_13 rfl (fun I_609 h => ?_)
  refine G_aload_n (pc2 := 17) 1 rfl dX6_copyFrom_16 rfl rfl ?_
  refine T_44_2 (pc2 := 20) kw_212 dX6_copyFrom_17 rfl ?_
  refine G_iconst (pc2 := 21) dX6_copyFrom_20 ic_0 rfl ?_
  refine G_aload_n (pc2 := 22) 0 rfl dX6_copyFrom_21 rfl rfl ?_
  refine T_22_2 (pc2 := 25) kw_212 dX6_copyFrom_22 rfl ?_
  refine G_iconst (pc2 := 26) dX6_copyFrom_25 ic_0 rfl ?_
  refine G_bipush (pc2 := 28) dX6_copyFrom_26 ib_9 rfl ?_
  refine YC (pc2 := 31) (fa_45 _ _ _ _) (fa_23 _ _ _ _) h kw_680 (by decide) cl_9 ⟨by decide, by decide⟩ (Nat.le_of_ble_eq_true rfl) dX6_copyFrom_28 rfl (fun F_610 h => ?_)
  refine G_aload_n (pc2 := 32) 1 rfl dX6_copyFrom_31 rfl rfl ?_
  refine T_44_3 (pc2 := 35) kw_215 dX6_copyFrom_32 rfl ?_
  refine G_iconst (pc2 := 36) dX6_copyFrom_35 ic_0 rfl ?_
  refine G_aload_n (pc2 := 37) 0 rfl dX6_copyFrom_36 rfl rfl ?_
  refine T_22_3 (pc2 := 40) kw_215 dX6_copyFrom_37 rfl ?_
  refine G_iconst (pc2 := 41) dX6_copyFrom_40 ic_0 rfl ?_
  refine G_bipush (pc2 := 43) dX6_copyFrom_41 ib_9 rfl ?_
  refine YC (pc2 := 46) (fa_46 _ _ _ _) (fa_24 _ _ _ _) h kw_680 (by decide) cl_9 ⟨by decide, by decide⟩ (Nat.le_of_ble_eq_true rfl) dX6_copyFrom_43 rfl (fun F_611 h => ?_)
  refine G_aload_n (pc2 := 47) 1 rfl dX6_copyFrom_46 rfl rfl ?_
  refine T_44_4 (pc2 := 50) kw_218 dX6_copyFrom_47 rfl ?_
  refine G_iconst (pc2 := 51) dX6_copyFrom_50 ic_0 rfl ?_
  refine G_aload_n (pc2 := 52) 0 rfl dX6_copyFrom_51 rfl rfl ?_
  refine T_22_4 (pc2 := 55) kw_218 dX6_copyFrom_52 rfl ?_
  refine G_iconst (pc2 := 56) dX6_copyFrom_55 ic_0 rfl ?_
  refine G_bipush (pc2 := 58) dX6_copyFrom_56 ib_9 rfl ?_
  refine YC (pc2 := 61) (fa_47 _ _ _ _) (fa_25 _ _ _ _) h kw_680 (by decide) cl_9 ⟨by decide, by decide⟩ (Nat.le_of_ble_eq_true rfl) dX6_copyFrom_58 rfl (fun F_612 h => ?_)
  refine G_aload_n (pc2 := 62) 1 rfl dX6_copyFrom_61 rfl rfl ?_
  refine T_44_5 (pc2 := 65) kw_221 dX6_copyFrom_62 rfl ?_
  refine G_iconst (pc2 := 66) dX6_copyFrom_65 ic_0 rfl ?_
  refine G_aload_n (pc2 := 67) 0 rfl dX6_copyFrom_66 rfl rfl ?_
  refine T_22_5 (pc2 := 70) kw_221 dX6_copyFrom_67 rfl ?_
  refine G_iconst (pc2 := 71) dX6_copyFrom_70 ic_0 rfl ?_
  refine G_bipush (pc2 := 73) dX6_copyFrom_71 ib_6 rfl ?_
  refine YC (pc2 := 76) (fa_48 _ _ _ _) (fa_26 _ _ _ _) h kw_680 (by decide) cl_6 ⟨by decide, by decide⟩ (Nat.le_of_ble_eq_true rfl) dX6_copyFrom_73 rfl (fun F_613 h => ?_)
  refine G_aload_n (pc2 := 77) 1 rfl dX6_copyFrom_76 rfl rfl ?_
  refine T_44_6 (pc2 := 80) kw_225 dX6_copyFrom_77 rfl ?_
  refine G_iconst (pc2 := 81) dX6_copyFrom_80 ic_0 rfl ?_
  refine G_aload_n (pc2 := 82) 0 rfl dX6_copyFrom_81 rfl rfl ?_
  refine T_22_6 (pc2 := 85) kw_225 dX6_copyFrom_82 rfl ?_
  refine G_iconst (pc2 := 86) dX6_copyFrom_85 ic_0 rfl ?_
  refine G_bipush (pc2 := 88) dX6_copyFrom_86 ib_6 rfl ?_
  refine YC (pc2 := 91) (fa_49 _ _ _ _) (fa_27 _ _ _ _) h kw_680 (by decide) cl_6 ⟨by decide, by decide⟩ (Nat.le_of_ble_eq_true rfl) dX6_copyFrom_88 rfl (fun F_614 h => ?_)
  refine G_aload_n (pc2 := 92) 1 rfl dX6_copyFrom_91 rfl rfl ?_
  refine T_44_7 (pc2 := 95) kw_228 dX6_copyFrom_92 rfl ?_
  refine G_iconst (pc2 := 96) dX6_copyFrom_95 ic_0 rfl ?_
  refine G_aload_n (pc2 := 97) 0 rfl dX6_copyFrom_96 rfl rfl ?_
  refine T_22_7 (pc2 := 100) kw_228 dX6_copyFrom_97 rfl ?_
  refine G_iconst (pc2 := 101) dX6_copyFrom_100 ic_0 rfl ?_
  refine G_bipush (pc2 := 103) dX6_copyFrom_101 ib_6 rfl ?_
  refine YC (pc2 := 106) (fa_50 _ _ _ _) (fa_28 _ _ _ _) h kw_680 (by decide) cl_6 ⟨by decide, by decide⟩ (Nat.le_of_ble_eq_true rfl) dX6_copyFrom_103 rfl (fun F_615 h => ?_)
  refine G_aload_n (pc2 := 107) 1 rfl dX6_copyFrom_106 rfl rfl ?_
  refine T_44_8 (pc2 := 110) kw_231 dX6_copyFrom_107 rfl ?_
  refine G_iconst (pc2 := 111) dX6_copyFrom_110 ic_0 rfl ?_
  refine G_aload_n (pc2 := 112) 0 rfl dX6_copyFrom_111 rfl rfl ?_
  refine T_22_8 (pc2 := 115) kw_231 dX6_copyFrom_112 rfl ?_
  refine G_iconst (pc2 := 116) dX6_copyFrom_115 ic_0 rfl ?_
  refine G_bipush (pc2 := 118) dX6_copyFrom_116 ib_6 rfl ?_
  refine YC (pc2 := 121) (fa_51 _ _ _ _) (fa_29 _ _ _ _) h kw_680 (by decide) cl_6 ⟨by decide, by decide⟩ (Nat.le_of_ble_eq_true rfl) dX6_copyFrom_118 rfl (fun F_616 h => ?_)
  refine G_aload_n (pc2 := 122) 1 rfl dX6_copyFrom_121 rfl rfl ?_
  refine T_44_9 (pc2 := 125) kw_234 dX6_copyFrom_122 rfl ?_
  refine G_iconst (pc2 := 126) dX6_copyFrom_125 ic_0 rfl ?_
  refine G_aload_n (pc2 := 127) 0 rfl dX6_copyFrom_126 rfl rfl ?_
  refine T_22_9 (pc2 := 130) kw_234 dX6_copyFrom_127 rfl ?_
  refine G_iconst (pc2 := 131) dX6_copyFrom_130 ic_0 rfl ?_
  refine G_bipush (pc2 := 133) dX6_copyFrom_131 ib_20 rfl ?_
  refine YC (pc2 := 136) (fa_52 _ _ _ _) (fa_30 _ _ _ _) h kw_680 (by decide) cl_20 ⟨by decide, by decide⟩ (Nat.le_of_ble_eq_true rfl) dX6_copyFrom_133 rfl (fun F_617 h => ?_)
  have ha := Option.some.inj h
  subst ha
  exact G_vret rfl dX6_copyFrom_136)
def f_X6_copyFrom_22_53 (I : WI) (F : WF) : Option (WI × WF) :=
  bnd (upd I 0 (I 4)) fun I_621 =>
  bnd (upd I_621 1 (I_621 5)) fun I_622 =>
  bnd (uF F 0 (va_cpy (F 16) (F 0) 0 0 9)) fun F_623 =>
  bnd (uF F_623 1 (va_cpy (F_623 17) (F_623 1) 0 0 9)) fun F_624 =>
  bnd (uF F_624 2 (va_cpy (F_624 18) (F_624 2) 0 0 9)) fun F_625 =>
  bnd (uF F_625 3 (va_cpy (F_625 19) (F_625 3) 0 0 6)) fun F_626 =>
  bnd (uF F_626 4 (va_cpy (F_626 20) (F_626 4) 0 0 6)) fun F_627 =>
  bnd (uF F_627 5 (va_cpy (F_627 21) (F_627 5) 0 0 6)) fun F_628 =>
  bnd (uF F_628 6 (va_cpy (F_628 22) (F_628 6) 0 0 6)) fun F_629 =>
  bnd (uF F_629 7 (va_cpy (F_629 23) (F_629 7) 0 0 20)) fun F_630 =>
  some (I_622, F_630)
set_option maxRecDepth 100000 in
set_option maxHeartbeats 4000000 in
theorem c_X6_copyFrom_22_53 {I : WI} {F : WF} {J : WI} {K : WF} {a : WI × WF} (h : f_X6_copyFrom_22_53  I F = some a) : CT md_X6_copyFrom yX6_copyFrom (rmD 1) [.ref 22, .ref 53] (mkW I F J K) none (mkW a.1 a.2 J K) := CT_of pn_X6 ⟨rfl, rfl⟩ (Nat.le_of_ble_eq_true rfl) (fun X => by
  show GG X md_X6_copyFrom (rmD 1) _ 0 0 0 [(0, .ref 22), (1, .ref 53)] [] (mkW I F J K)
  unfold f_X6_copyFrom_22_53 at h
  refine G_aload_n (pc2 := 1) 0 rfl dX6_copyFrom_0 rfl rfl ?_
  refine G_aload_n (pc2 := 2) 1 rfl dX6_copyFrom_1 rfl rfl ?_
  refine T_53_0 (pc2 := 5) kw_207 dX6_copyFrom_2 rfl ?_
  refine P_22_0 (pc2 := 8) h kw_207 dX6_copyFrom_5 rfl (fun I_621 h => ?_)
  refine G_aload_n (pc2 := 9) 0 rfl dX6_copyFrom_8 rfl rfl ?_
  refine G_aload_n (pc2 := 10) 1 rfl dX6_copyFrom_9 rfl rfl ?_
  refine T_53_1 (pc2 := 13) kw_210 dX6_copyFrom_10 rfl ?_
  refine P_22_1 (pc2 := 16) h kw_210 dX6_copyFrom_13 rfl (fun I_622 h => ?_)
  refine G_aload_n (pc2 := 17) 1 rfl dX6_copyFrom_16 rfl rfl ?_
  refine T_53_2 (pc2 := 20) kw_212 dX6_copyFrom_17 rfl ?_
  refine G_iconst (pc2 := 21) dX6_copyFrom_20 ic_0 rfl ?_
  refine G_aload_n (pc2 := 22) 0 rfl dX6_copyFrom_21 rfl rfl ?_
  refine T_22_2 (pc2 := 25) kw_212 dX6_copyFrom_22 rfl ?_
  refine G_iconst (pc2 := 26) dX6_copyFrom_25 ic_0 rfl ?_
  refine G_bipush (pc2 := 28) dX6_copyFrom_26 ib_9 rfl ?_
  refine YC (pc2 := 31) (fa_54 _ _ _ _) (fa_23 _ _ _ _) h kw_680 (by decide) cl_9 ⟨by decide, by decide⟩ (Nat.le_of_ble_eq_true rfl) dX6_copyFrom_28 rfl (fun F_623 h => ?_)
  refine G_aload_n (pc2 := 32) 1 rfl dX6_copyFrom_31 rfl rfl ?_
  refine T_53_3 (pc2 := 35) kw_215 dX6_copyFrom_32 rfl ?_
  refine G_iconst (pc2 := 36) dX6_copyFrom_35 ic_0 rfl ?_
  refine G_aload_n (pc2 := 37) 0 rfl dX6_copyFrom_36 rfl rfl ?_
  refine T_22_3 (pc2 := 40) kw_215 dX6_copyFrom_37 rfl ?_
  refine G_iconst (pc2 := 41) dX6_copyFrom_40 ic_0 rfl ?_
  refine G_bipush (pc2 := 43) dX6_copyFrom_41 ib_9 rfl ?_
  refine YC (pc2 := 46) (fa_55 _ _ _ _) (fa_24 _ _ _ _) h kw_680 (by decide) cl_9 ⟨by decide, by decide⟩ (Nat.le_of_ble_eq_true rfl) dX6_copyFrom_43 rfl (fun F_624 h => ?_)
  refine G_aload_n (pc2 := 47) 1 rfl dX6_copyFrom_46 rfl rfl ?_
  refine T_53_4 (pc2 := 50) kw_218 dX6_copyFrom_47 rfl ?_
  refine G_iconst (pc2 := 51) dX6_copyFrom_50 ic_0 rfl ?_
  refine G_aload_n (pc2 := 52) 0 rfl dX6_copyFrom_51 rfl rfl ?_
  refine T_22_4 (pc2 := 55) kw_218 dX6_copyFrom_52 rfl ?_
  refine G_iconst (pc2 := 56) dX6_copyFrom_55 ic_0 rfl ?_
  refine G_bipush (pc2 := 58) dX6_copyFrom_56 ib_9 rfl ?_
  refine YC (pc2 := 61) (fa_56 _ _ _ _) (fa_25 _ _ _ _) h kw_680 (by decide) cl_9 ⟨by decide, by decide⟩ (Nat.le_of_ble_eq_true rfl) dX6_copyFrom_58 rfl (fun F_625 h => ?_)
  refine G_aload_n (pc2 := 62) 1 rfl dX6_copyFrom_61 rfl rfl ?_
  refine T_53_5 (pc2 := 65) kw_221 dX6_copyFrom_62 rfl ?_
  refine G_iconst (pc2 := 66) dX6_copyFrom_65 ic_0 rfl ?_
  refine G_aload_n (pc2 := 67) 0 rfl dX6_copyFrom_66 rfl rfl ?_
  refine T_22_5 (pc2 := 70) kw_221 dX6_copyFrom_67 rfl ?_
  refine G_iconst (pc2 := 71) dX6_copyFrom_70 ic_0 rfl ?_
  refine G_bipush (pc2 := 73) dX6_copyFrom_71 ib_6 rfl ?_
  refine YC (pc2 := 76) (fa_57 _ _ _ _) (fa_26 _ _ _ _) h kw_680 (by decide) cl_6 ⟨by decide, by decide⟩ (Nat.le_of_ble_eq_true rfl) dX6_copyFrom_73 rfl (fun F_626 h => ?_)
  refine G_aload_n (pc2 := 77) 1 rfl dX6_copyFrom_76 rfl rfl ?_
  refine T_53_6 (pc2 := 80) kw_225 dX6_copyFrom_77 rfl ?_
  refine G_iconst (pc2 := 81) dX6_copyFrom_80 ic_0 rfl ?_
  refine G_aload_n (pc2 := 82) 0 rfl dX6_copyFrom_81 rfl rfl ?_
  refine T_22_6 (pc2 := 85) kw_225 dX6_copyFrom_82 rfl ?_
  refine G_iconst (pc2 := 86) dX6_copyFrom_85 ic_0 rfl ?_
  refine G_bipush (pc2 := 88) dX6_copyFrom_86 ib_6 rfl ?_
  refine YC (pc2 := 91) (fa_58 _ _ _ _) (fa_27 _ _ _ _) h kw_680 (by decide) cl_6 ⟨by decide, by decide⟩ (Nat.le_of_ble_eq_true rfl) dX6_copyFrom_88 rfl (fun F_627 h => ?_)
  refine G_aload_n (pc2 := 92) 1 rfl dX6_copyFrom_91 rfl rfl ?_
  refine T_53_7 (pc2 := 95) kw_228 dX6_copyFrom_92 rfl ?_
  refine G_iconst (pc2 := 96) dX6_copyFrom_95 ic_0 rfl ?_
  refine G_aload_n (pc2 := 97) 0 rfl dX6_copyFrom_96 rfl rfl ?_
  refine T_22_7 (pc2 := 100) kw_228 dX6_copyFrom_97 rfl ?_
  refine G_iconst (pc2 := 101) dX6_copyFrom_100 ic_0 rfl ?_
  refine G_bipush (pc2 := 103) dX6_copyFrom_101 ib_6 rfl ?_
  refine YC (pc2 := 106) (fa_59 _ _ _ _) (fa_28 _ _ _ _) h kw_680 (by decide) cl_6 ⟨by decide, by decide⟩ (Nat.le_of_ble_eq_true rfl) dX6_copyFrom_103 rfl (fun F_628 h => ?_)
  refine G_aload_n (pc2 := 107) 1 rfl dX6_copyFrom_106 rfl rfl ?_
  refine T_53_8 (pc2 := 110) kw_231 dX6_copyFrom_107 rfl ?_
  refine G_iconst (pc2 := 111) dX6_copyFrom_110 ic_0 rfl ?_
  refine G_aload_n (pc2 := 112) 0 rfl dX6_copyFrom_111 rfl rfl ?_
  refine T_22_8 (pc2 := 115) kw_231 dX6_copyFrom_112 rfl ?_
  refine G_iconst (pc2 := 116) dX6_copyFrom_115 ic_0 rfl ?_
  refine G_bipush (pc2 := 118) dX6_copyFrom_116 ib_6 rfl ?_
  refine YC (pc2 := 121) (fa_60 _ _ _ _) (fa_29 _ _ _ _) h kw_680 (by decide) cl_6 ⟨by decide, by decide⟩ (Nat.le_of_ble_eq_true rfl) dX6_copyFrom_118 rfl (fun F_629 h => ?_)
  refine G_aload_n (pc2 := 122) 1 rfl dX6_copyFrom_121 rfl rfl ?_
  refine T_53_9 (pc2 := 125) kw_234 dX6_copyFrom_122 rfl ?_
  refine G_iconst (pc2 := 126) dX6_copyFrom_125 ic_0 rfl ?_
  refine G_aload_n (pc2 := 127) 0 rfl dX6_copyFrom_126 rfl rfl ?_
  refine T_22_9 (pc2 := 130) kw_234 dX6_copyFrom_127 rfl ?_
  refine G_iconst (pc2 := 131) dX6_copyFrom_130 ic_0 rfl ?_
  refine G_bipush (pc2 := 133) dX6_copyFrom_131 ib_20 rfl ?_
  refine YC (pc2 := 136) (fa_61 _ _ _ _) (fa_30 _ _ _ _) h kw_680 (by decide) cl_20 ⟨by decide, by decide⟩ (Nat.le_of_ble_eq_true rfl) dX6_copyFrom_133 rfl (fun F_630 h => ?_)
  have ha := Option.some.inj h
  subst ha
  exact G_vret rfl dX6_copyFrom_136)
def f_X6_copyFrom_22_62 (I : WI) (F : WF) : Option (WI × WF) :=
  bnd (upd I 0 (I 6)) fun I_634 =>
  bnd (upd I_634 1 (I_634 7)) fun I_635 =>
  bnd (uF F 0 (va_cpy (F 24) (F 0) 0 0 9)) fun F_636 =>
  bnd (uF F_636 1 (va_cpy (F_636 25) (F_636 1) 0 0 9)) fun F_637 =>
  bnd (uF F_637 2 (va_cpy (F_637 26) (F_637 2) 0 0 9)) fun F_638 =>
  bnd (uF F_638 3 (va_cpy (F_638 27) (F_638 3) 0 0 6)) fun F_639 =>
  bnd (uF F_639 4 (va_cpy (F_639 28) (F_639 4) 0 0 6)) fun F_640 =>
  bnd (uF F_640 5 (va_cpy (F_640 29) (F_640 5) 0 0 6)) fun F_641 =>
  bnd (uF F_641 6 (va_cpy (F_641 30) (F_641 6) 0 0 6)) fun F_642 =>
  bnd (uF F_642 7 (va_cpy (F_642 31) (F_642 7) 0 0 20)) fun F_643 =>
  some (I_635, F_643)
set_option maxRecDepth 100000 in
set_option maxHeartbeats 4000000 in
theorem c_X6_copyFrom_22_62 {I : WI} {F : WF} {J : WI} {K : WF} {a : WI × WF} (h : f_X6_copyFrom_22_62  I F = some a) : CT md_X6_copyFrom yX6_copyFrom (rmD 1) [.ref 22, .ref 62] (mkW I F J K) none (mkW a.1 a.2 J K) := CT_of pn_X6 ⟨rfl, rfl⟩ (Nat.le_of_ble_eq_true rfl) (fun X => by
  show GG X md_X6_copyFrom (rmD 1) _ 0 0 0 [(0, .ref 22), (1, .ref 62)] [] (mkW I F J K)
  unfold f_X6_copyFrom_22_62 at h
  refine G_aload_n (pc2 := 1) 0 rfl dX6_copyFrom_0 rfl rfl ?_
  refine G_aload_n (pc2 := 2) 1 rfl dX6_copyFrom_1 rfl rfl ?_
  refine T_62_0 (pc2 := 5) kw_207 dX6_copyFrom_2 rfl ?_
  refine P_22_0 (pc2 := 8) h kw_207 dX6_copyFrom_5 rfl (fun I_634 h => ?_)
  refine G_aload_n (pc2 := 9) 0 rfl dX6_copyFrom_8 rfl rfl ?_
  refine G_aload_n (pc2 := 10) 1 rfl dX6_copyFrom_9 rfl rfl ?_
  refine T_62_1 (pc2 := 13) kw_210 dX6_copyFrom_10 rfl ?_
  refine P_22_1 (pc2 := 16) h kw_210 dX6_copyFrom_13 rfl (fun I_635 h => ?_)
  refine G_aload_n (pc2 := 17) 1 rfl dX6_copyFrom_16 rfl rfl ?_
  refine T_62_2 (pc2 := 20) kw_212 dX6_copyFrom_17 rfl ?_
  refine G_iconst (pc2 := 21) dX6_copyFrom_20 ic_0 rfl ?_
  refine G_aload_n (pc2 := 22) 0 rfl dX6_copyFrom_21 rfl rfl ?_
  refine T_22_2 (pc2 := 25) kw_212 dX6_copyFrom_22 rfl ?_
  refine G_iconst (pc2 := 26) dX6_copyFrom_25 ic_0 rfl ?_
  refine G_bipush (pc2 := 28) dX6_copyFrom_26 ib_9 rfl ?_
  refine YC (pc2 := 31) (fa_63 _ _ _ _) (fa_23 _ _ _ _) h kw_680 (by decide) cl_9 ⟨by decide, by decide⟩ (Nat.le_of_ble_eq_true rfl) dX6_copyFrom_28 rfl (fun F_636 h => ?_)
  refine G_aload_n (pc2 := 32) 1 rfl dX6_copyFrom_31 rfl rfl ?_
  refine T_62_3 (pc2 := 35) kw_215 dX6_copyFrom_32 rfl ?_
  refine G_iconst (pc2 := 36) dX6_copyFrom_35 ic_0 rfl ?_
  refine G_aload_n (pc2 := 37) 0 rfl dX6_copyFrom_36 rfl rfl ?_
  refine T_22_3 (pc2 := 40) kw_215 dX6_copyFrom_37 rfl ?_
  refine G_iconst (pc2 := 41) dX6_copyFrom_40 ic_0 rfl ?_
  refine G_bipush (pc2 := 43) dX6_copyFrom_41 ib_9 rfl ?_
  refine YC (pc2 := 46) (fa_64 _ _ _ _) (fa_24 _ _ _ _) h kw_680 (by decide) cl_9 ⟨by decide, by decide⟩ (Nat.le_of_ble_eq_true rfl) dX6_copyFrom_43 rfl (fun F_637 h => ?_)
  refine G_aload_n (pc2 := 47) 1 rfl dX6_copyFrom_46 rfl rfl ?_
  refine T_62_4 (pc2 := 50) kw_218 dX6_copyFrom_47 rfl ?_
  refine G_iconst (pc2 := 51) dX6_copyFrom_50 ic_0 rfl ?_
  refine G_aload_n (pc2 := 52) 0 rfl dX6_copyFrom_51 rfl rfl ?_
  refine T_22_4 (pc2 := 55) kw_218 dX6_copyFrom_52 rfl ?_
  refine G_iconst (pc2 := 56) dX6_copyFrom_55 ic_0 rfl ?_
  refine G_bipush (pc2 := 58) dX6_copyFrom_56 ib_9 rfl ?_
  refine YC (pc2 := 61) (fa_65 _ _ _ _) (fa_25 _ _ _ _) h kw_680 (by decide) cl_9 ⟨by decide, by decide⟩ (Nat.le_of_ble_eq_true rfl) dX6_copyFrom_58 rfl (fun F_638 h => ?_)
  refine G_aload_n (pc2 := 62) 1 rfl dX6_copyFrom_61 rfl rfl ?_
  refine T_62_5 (pc2 := 65) kw_221 dX6_copyFrom_62 rfl ?_
  refine G_iconst (pc2 := 66) dX6_copyFrom_65 ic_0 rfl ?_
  refine G_aload_n (pc2 := 67) 0 rfl dX6_copyFrom_66 rfl rfl ?_
  refine T_22_5 (pc2 := 70) kw_221 dX6_copyFrom_67 rfl ?_
  refine G_iconst (pc2 := 71) dX6_copyFrom_70 ic_0 rfl ?_
  refine G_bipush (pc2 := 73) dX6_copyFrom_71 ib_6 rfl ?_
  refine YC (pc2 := 76) (fa_66 _ _ _ _) (fa_26 _ _ _ _) h kw_680 (by decide) cl_6 ⟨by decide, by decide⟩ (Nat.le_of_ble_eq_true rfl) dX6_copyFrom_73 rfl (fun F_639 h => ?_)
  refine G_aload_n (pc2 := 77) 1 rfl dX6_copyFrom_76 rfl rfl ?_
  refine T_62_6 (pc2 := 80) kw_225 dX6_copyFrom_77 rfl ?_
  refine G_iconst (pc2 := 81) dX6_copyFrom_80 ic_0 rfl ?_
  refine G_aload_n (pc2 := 82) 0 rfl dX6_copyFrom_81 rfl rfl ?_
  refine T_22_6 (pc2 := 85) kw_225 dX6_copyFrom_82 rfl ?_
  refine G_iconst (pc2 := 86) dX6_copyFrom_85 ic_0 rfl ?_
  refine G_bipush (pc2 := 88) dX6_copyFrom_86 ib_6 rfl ?_
  refine YC (pc2 := 91) (fa_67 _ _ _ _) (fa_27 _ _ _ _) h kw_680 (by decide) cl_6 ⟨by decide, by decide⟩ (Nat.le_of_ble_eq_true rfl) dX6_copyFrom_88 rfl (fun F_640 h => ?_)
  refine G_aload_n (pc2 := 92) 1 rfl dX6_copyFrom_91 rfl rfl ?_
  refine T_62_7 (pc2 := 95) kw_228 dX6_copyFrom_92 rfl ?_
  refine G_iconst (pc2 := 96) dX6_copyFrom_95 ic_0 rfl ?_
  refine G_aload_n (pc2 := 97) 0 rfl dX6_copyFrom_96 rfl rfl ?_
  refine T_22_7 (pc2 := 100) kw_228 dX6_copyFrom_97 rfl ?_
  refine G_iconst (pc2 := 101) dX6_copyFrom_100 ic_0 rfl ?_
  refine G_bipush (pc2 := 103) dX6_copyFrom_101 ib_6 rfl ?_
  refine YC (pc2 := 106) (fa_68 _ _ _ _) (fa_28 _ _ _ _) h kw_680 (by decide) cl_6 ⟨by decide, by decide⟩ (Nat.le_of_ble_eq_true rfl) dX6_copyFrom_103 rfl (fun F_641 h => ?_)
  refine G_aload_n (pc2 := 107) 1 rfl dX6_copyFrom_106 rfl rfl ?_
  refine T_62_8 (pc2 := 110) kw_231 dX6_copyFrom_107 rfl ?_
  refine G_iconst (pc2 := 111) dX6_copyFrom_110 ic_0 rfl ?_
  refine G_aload_n (pc2 := 112) 0 rfl dX6_copyFrom_111 rfl rfl ?_
  refine T_22_8 (pc2 := 115) kw_231 dX6_copyFrom_112 rfl ?_
  refine G_iconst (pc2 := 116) dX6_copyFrom_115 ic_0 rfl ?_
  refine G_bipush (pc2 := 118) dX6_copyFrom_116 ib_6 rfl ?_
  refine YC (pc2 := 121) (fa_69 _ _ _ _) (fa_29 _ _ _ _) h kw_680 (by decide) cl_6 ⟨by decide, by decide⟩ (Nat.le_of_ble_eq_true rfl) dX6_copyFrom_118 rfl (fun F_642 h => ?_)
  refine G_aload_n (pc2 := 122) 1 rfl dX6_copyFrom_121 rfl rfl ?_
  refine T_62_9 (pc2 := 125) kw_234 dX6_copyFrom_122 rfl ?_
  refine G_iconst (pc2 := 126) dX6_copyFrom_125 ic_0 rfl ?_
  refine G_aload_n (pc2 := 127) 0 rfl dX6_copyFrom_126 rfl rfl ?_
  refine T_22_9 (pc2 := 130) kw_234 dX6_copyFrom_127 rfl ?_
  refine G_iconst (pc2 := 131) dX6_copyFrom_130 ic_0 rfl ?_
  refine G_bipush (pc2 := 133) dX6_copyFrom_131 ib_20 rfl ?_
  refine YC (pc2 := 136) (fa_70 _ _ _ _) (fa_30 _ _ _ _) h kw_680 (by decide) cl_20 ⟨by decide, by decide⟩ (Nat.le_of_ble_eq_true rfl) dX6_copyFrom_133 rfl (fun F_643 h => ?_)
  have ha := Option.some.inj h
  subst ha
  exact G_vret rfl dX6_copyFrom_136)
def f_X6_copyFrom_22_71 (I : WI) (F : WF) : Option (WI × WF) :=
  bnd (upd I 0 (I 8)) fun I_647 =>
  bnd (upd I_647 1 (I_647 9)) fun I_648 =>
  bnd (uF F 0 (va_cpy (F 32) (F 0) 0 0 9)) fun F_649 =>
  bnd (uF F_649 1 (va_cpy (F_649 33) (F_649 1) 0 0 9)) fun F_650 =>
  bnd (uF F_650 2 (va_cpy (F_650 34) (F_650 2) 0 0 9)) fun F_651 =>
  bnd (uF F_651 3 (va_cpy (F_651 35) (F_651 3) 0 0 6)) fun F_652 =>
  bnd (uF F_652 4 (va_cpy (F_652 36) (F_652 4) 0 0 6)) fun F_653 =>
  bnd (uF F_653 5 (va_cpy (F_653 37) (F_653 5) 0 0 6)) fun F_654 =>
  bnd (uF F_654 6 (va_cpy (F_654 38) (F_654 6) 0 0 6)) fun F_655 =>
  bnd (uF F_655 7 (va_cpy (F_655 39) (F_655 7) 0 0 20)) fun F_656 =>
  some (I_648, F_656)
set_option maxRecDepth 100000 in
set_option maxHeartbeats 4000000 in
theorem c_X6_copyFrom_22_71 {I : WI} {F : WF} {J : WI} {K : WF} {a : WI × WF} (h : f_X6_copyFrom_22_71  I F = some a) : CT md_X6_copyFrom yX6_copyFrom (rmD 1) [.ref 22, .ref 71] (mkW I F J K) none (mkW a.1 a.2 J K) := CT_of pn_X6 ⟨rfl, rfl⟩ (Nat.le_of_ble_eq_true rfl) (fun X => by
  show GG X md_X6_copyFrom (rmD 1) _ 0 0 0 [(0, .ref 22), (1, .ref 71)] [] (mkW I F J K)
  unfold f_X6_copyFrom_22_71 at h
  refine G_aload_n (pc2 := 1) 0 rfl dX6_copyFrom_0 rfl rfl ?_
  refine G_aload_n (pc2 := 2) 1 rfl dX6_copyFrom_1 rfl rfl ?_
  refine T_71_0 (pc2 := 5) kw_207 dX6_copyFrom_2 rfl ?_
  refine P_22_0 (pc2 := 8) h kw_207 dX6_copyFrom_5 rfl (fun I_647 h => ?_)
  refine G_aload_n (pc2 := 9) 0 rfl dX6_copyFrom_8 rfl rfl ?_
  refine G_aload_n (pc2 := 10) 1 rfl dX6_copyFrom_9 rfl rfl ?_
  refine T_71_1 (pc2 := 13) kw_210 dX6_copyFrom_10 rfl ?_
  refine P_22_1 (pc2 := 16) h kw_210 dX6_copyFrom_13 rfl (fun I_648 h => ?_)
  refine G_aload_n (pc2 := 17) 1 rfl dX6_copyFrom_16 rfl rfl ?_
  refine T_71_2 (pc2 := 20) kw_212 dX6_copyFrom_17 rfl ?_
  refine G_iconst (pc2 := 21) dX6_copyFrom_20 ic_0 rfl ?_
  refine G_aload_n (pc2 := 22) 0 rfl dX6_copyFrom_21 rfl rfl ?_
  refine T_22_2 (pc2 := 25) kw_212 dX6_copyFrom_22 rfl ?_
  refine G_iconst (pc2 := 26) dX6_copyFrom_25 ic_0 rfl ?_
  refine G_bipush (pc2 := 28) dX6_copyFrom_26 ib_9 rfl ?_
  refine YC (pc2 := 31) (fa_72 _ _ _ _) (fa_23 _ _ _ _) h kw_680 (by decide) cl_9 ⟨by decide, by decide⟩ (Nat.le_of_ble_eq_true rfl) dX6_copyFrom_28 rfl (fun F_649 h => ?_)
  refine G_aload_n (pc2 := 32) 1 rfl dX6_copyFrom_31 rfl rfl ?_
  refine T_71_3 (pc2 := 35) kw_215 dX6_copyFrom_32 rfl ?_
  refine G_iconst (pc2 := 36) dX6_copyFrom_35 ic_0 rfl ?_
  refine G_aload_n (pc2 := 37) 0 rfl dX6_copyFrom_36 rfl rfl ?_
  refine T_22_3 (pc2 := 40) kw_215 dX6_copyFrom_37 rfl ?_
  refine G_iconst (pc2 := 41) dX6_copyFrom_40 ic_0 rfl ?_
  refine G_bipush (pc2 := 43) dX6_copyFrom_41 ib_9 rfl ?_
  refine YC (pc2 := 46) (fa_73 _ _ _ _) (fa_24 _ _ _ _) h kw_680 (by decide) cl_9 ⟨by decide, by decide⟩ (Nat.le_of_ble_eq_true rfl) dX6_copyFrom_43 rfl (fun F_650 h => ?_)
  refine G_aload_n (pc2 := 47) 1 rfl dX6_copyFrom_46 rfl rfl ?_
  refine T_71_4 (pc2 := 50) kw_218 dX6_copyFrom_47 rfl ?_
  refine G_iconst (pc2 := 51) dX6_copyFrom_50 ic_0 rfl ?_
  refine G_aload_n (pc2 := 52) 0 rfl dX6_copyFrom_51 rfl rfl ?_
  refine T_22_4 (pc2 := 55) kw_218 dX6_copyFrom_52 rfl ?_
  refine G_iconst (pc2 := 56) dX6_copyFrom_55 ic_0 rfl ?_
  refine G_bipush (pc2 := 58) dX6_copyFrom_56 ib_9 rfl ?_
  refine YC (pc2 := 61) (fa_74 _ _ _ _) (fa_25 _ _ _ _) h kw_680 (by decide) cl_9 ⟨by decide, by decide⟩ (Nat.le_of_ble_eq_true rfl) dX6_copyFrom_58 rfl (fun F_651 h => ?_)
  refine G_aload_n (pc2 := 62) 1 rfl dX6_copyFrom_61 rfl rfl ?_
  refine T_71_5 (pc2 := 65) kw_221 dX6_copyFrom_62 rfl ?_
  refine G_iconst (pc2 := 66) dX6_copyFrom_65 ic_0 rfl ?_
  refine G_aload_n (pc2 := 67) 0 rfl dX6_copyFrom_66 rfl rfl ?_
  refine T_22_5 (pc2 := 70) kw_221 dX6_copyFrom_67 rfl ?_
  refine G_iconst (pc2 := 71) dX6_copyFrom_70 ic_0 rfl ?_
  refine G_bipush (pc2 := 73) dX6_copyFrom_71 ib_6 rfl ?_
  refine YC (pc2 := 76) (fa_75 _ _ _ _) (fa_26 _ _ _ _) h kw_680 (by decide) cl_6 ⟨by decide, by decide⟩ (Nat.le_of_ble_eq_true rfl) dX6_copyFrom_73 rfl (fun F_652 h => ?_)
  refine G_aload_n (pc2 := 77) 1 rfl dX6_copyFrom_76 rfl rfl ?_
  refine T_71_6 (pc2 := 80) kw_225 dX6_copyFrom_77 rfl ?_
  refine G_iconst (pc2 := 81) dX6_copyFrom_80 ic_0 rfl ?_
  refine G_aload_n (pc2 := 82) 0 rfl dX6_copyFrom_81 rfl rfl ?_
  refine T_22_6 (pc2 := 85) kw_225 dX6_copyFrom_82 rfl ?_
  refine G_iconst (pc2 := 86) dX6_copyFrom_85 ic_0 rfl ?_
  refine G_bipush (pc2 := 88) dX6_copyFrom_86 ib_6 rfl ?_
  refine YC (pc2 := 91) (fa_76 _ _ _ _) (fa_27 _ _ _ _) h kw_680 (by decide) cl_6 ⟨by decide, by decide⟩ (Nat.le_of_ble_eq_true rfl) dX6_copyFrom_88 rfl (fun F_653 h => ?_)
  refine G_aload_n (pc2 := 92) 1 rfl dX6_copyFrom_91 rfl rfl ?_
  refine T_71_7 (pc2 := 95) kw_228 dX6_copyFrom_92 rfl ?_
  refine G_iconst (pc2 := 96) dX6_copyFrom_95 ic_0 rfl ?_
  refine G_aload_n (pc2 := 97) 0 rfl dX6_copyFrom_96 rfl rfl ?_
  refine T_22_7 (pc2 := 100) kw_228 dX6_copyFrom_97 rfl ?_
  refine G_iconst (pc2 := 101) dX6_copyFrom_100 ic_0 rfl ?_
  refine G_bipush (pc2 := 103) dX6_copyFrom_101 ib_6 rfl ?_
  refine YC (pc2 := 106) (fa_77 _ _ _ _) (fa_28 _ _ _ _) h kw_680 (by decide) cl_6 ⟨by decide, by decide⟩ (Nat.le_of_ble_eq_true rfl) dX6_copyFrom_103 rfl (fun F_654 h => ?_)
  refine G_aload_n (pc2 := 107) 1 rfl dX6_copyFrom_106 rfl rfl ?_
  refine T_71_8 (pc2 := 110) kw_231 dX6_copyFrom_107 rfl ?_
  refine G_iconst (pc2 := 111) dX6_copyFrom_110 ic_0 rfl ?_
  refine G_aload_n (pc2 := 112) 0 rfl dX6_copyFrom_111 rfl rfl ?_
  refine T_22_8 (pc2 := 115) kw_231 dX6_copyFrom_112 rfl ?_
  refine G_iconst (pc2 := 116) dX6_copyFrom_115 ic_0 rfl ?_
  refine G_bipush (pc2 := 118) dX6_copyFrom_116 ib_6 rfl ?_
  refine YC (pc2 := 121) (fa_78 _ _ _ _) (fa_29 _ _ _ _) h kw_680 (by decide) cl_6 ⟨by decide, by decide⟩ (Nat.le_of_ble_eq_true rfl) dX6_copyFrom_118 rfl (fun F_655 h => ?_)
  refine G_aload_n (pc2 := 122) 1 rfl dX6_copyFrom_121 rfl rfl ?_
  refine T_71_9 (pc2 := 125) kw_234 dX6_copyFrom_122 rfl ?_
  refine G_iconst (pc2 := 126) dX6_copyFrom_125 ic_0 rfl ?_
  refine G_aload_n (pc2 := 127) 0 rfl dX6_copyFrom_126 rfl rfl ?_
  refine T_22_9 (pc2 := 130) kw_234 dX6_copyFrom_127 rfl ?_
  refine G_iconst (pc2 := 131) dX6_copyFrom_130 ic_0 rfl ?_
  refine G_bipush (pc2 := 133) dX6_copyFrom_131 ib_20 rfl ?_
  refine YC (pc2 := 136) (fa_79 _ _ _ _) (fa_30 _ _ _ _) h kw_680 (by decide) cl_20 ⟨by decide, by decide⟩ (Nat.le_of_ble_eq_true rfl) dX6_copyFrom_133 rfl (fun F_656 h => ?_)
  have ha := Option.some.inj h
  subst ha
  exact G_vret rfl dX6_copyFrom_136)
def f_X6_copyFrom_22_80 (I : WI) (F : WF) : Option (WI × WF) :=
  bnd (upd I 0 (I 10)) fun I_660 =>
  bnd (upd I_660 1 (I_660 11)) fun I_661 =>
  bnd (uF F 0 (va_cpy (F 40) (F 0) 0 0 9)) fun F_662 =>
  bnd (uF F_662 1 (va_cpy (F_662 41) (F_662 1) 0 0 9)) fun F_663 =>
  bnd (uF F_663 2 (va_cpy (F_663 42) (F_663 2) 0 0 9)) fun F_664 =>
  bnd (uF F_664 3 (va_cpy (F_664 43) (F_664 3) 0 0 6)) fun F_665 =>
  bnd (uF F_665 4 (va_cpy (F_665 44) (F_665 4) 0 0 6)) fun F_666 =>
  bnd (uF F_666 5 (va_cpy (F_666 45) (F_666 5) 0 0 6)) fun F_667 =>
  bnd (uF F_667 6 (va_cpy (F_667 46) (F_667 6) 0 0 6)) fun F_668 =>
  bnd (uF F_668 7 (va_cpy (F_668 47) (F_668 7) 0 0 20)) fun F_669 =>
  some (I_661, F_669)
set_option maxRecDepth 100000 in
set_option maxHeartbeats 4000000 in
theorem c_X6_copyFrom_22_80 {I : WI} {F : WF} {J : WI} {K : WF} {a : WI × WF} (h : f_X6_copyFrom_22_80  I F = some a) : CT md_X6_copyFrom yX6_copyFrom (rmD 1) [.ref 22, .ref 80] (mkW I F J K) none (mkW a.1 a.2 J K) := CT_of pn_X6 ⟨rfl, rfl⟩ (Nat.le_of_ble_eq_true rfl) (fun X => by
  show GG X md_X6_copyFrom (rmD 1) _ 0 0 0 [(0, .ref 22), (1, .ref 80)] [] (mkW I F J K)
  unfold f_X6_copyFrom_22_80 at h
  refine G_aload_n (pc2 := 1) 0 rfl dX6_copyFrom_0 rfl rfl ?_
  refine G_aload_n (pc2 := 2) 1 rfl dX6_copyFrom_1 rfl rfl ?_
  refine T_80_0 (pc2 := 5) kw_207 dX6_copyFrom_2 rfl ?_
  refine P_22_0 (pc2 := 8) h kw_207 dX6_copyFrom_5 rfl (fun I_660 h => ?_)
  refine G_aload_n (pc2 := 9) 0 rfl dX6_copyFrom_8 rfl rfl ?_
  refine G_aload_n (pc2 := 10) 1 rfl dX6_copyFrom_9 rfl rfl ?_
  refine T_80_1 (pc2 := 13) kw_210 dX6_copyFrom_10 rfl ?_
  refine P_22_1 (pc2 := 16) h kw_210 dX6_copyFrom_13 rfl (fun I_661 h => ?_)
  refine G_aload_n (pc2 := 17) 1 rfl dX6_copyFrom_16 rfl rfl ?_
  refine T_80_2 (pc2 := 20) kw_212 dX6_copyFrom_17 rfl ?_
  refine G_iconst (pc2 := 21) dX6_copyFrom_20 ic_0 rfl ?_
  refine G_aload_n (pc2 := 22) 0 rfl dX6_copyFrom_21 rfl rfl ?_
  refine T_22_2 (pc2 := 25) kw_212 dX6_copyFrom_22 rfl ?_
  refine G_iconst (pc2 := 26) dX6_copyFrom_25 ic_0 rfl ?_
  refine G_bipush (pc2 := 28) dX6_copyFrom_26 ib_9 rfl ?_
  refine YC (pc2 := 31) (fa_81 _ _ _ _) (fa_23 _ _ _ _) h kw_680 (by decide) cl_9 ⟨by decide, by decide⟩ (Nat.le_of_ble_eq_true rfl) dX6_copyFrom_28 rfl (fun F_662 h => ?_)
  refine G_aload_n (pc2 := 32) 1 rfl dX6_copyFrom_31 rfl rfl ?_
  refine T_80_3 (pc2 := 35) kw_215 dX6_copyFrom_32 rfl ?_
  refine G_iconst (pc2 := 36) dX6_copyFrom_35 ic_0 rfl ?_
  refine G_aload_n (pc2 := 37) 0 rfl dX6_copyFrom_36 rfl rfl ?_
  refine T_22_3 (pc2 := 40) kw_215 dX6_copyFrom_37 rfl ?_
  refine G_iconst (pc2 := 41) dX6_copyFrom_40 ic_0 rfl ?_
  refine G_bipush (pc2 := 43) dX6_copyFrom_41 ib_9 rfl ?_
  refine YC (pc2 := 46) (fa_82 _ _ _ _) (fa_24 _ _ _ _) h kw_680 (by decide) cl_9 ⟨by decide, by decide⟩ (Nat.le_of_ble_eq_true rfl) dX6_copyFrom_43 rfl (fun F_663 h => ?_)
  refine G_aload_n (pc2 := 47) 1 rfl dX6_copyFrom_46 rfl rfl ?_
  refine T_80_4 (pc2 := 50) kw_218 dX6_copyFrom_47 rfl ?_
  refine G_iconst (pc2 := 51) dX6_copyFrom_50 ic_0 rfl ?_
  refine G_aload_n (pc2 := 52) 0 rfl dX6_copyFrom_51 rfl rfl ?_
  refine T_22_4 (pc2 := 55) kw_218 dX6_copyFrom_52 rfl ?_
  refine G_iconst (pc2 := 56) dX6_copyFrom_55 ic_0 rfl ?_
  refine G_bipush (pc2 := 58) dX6_copyFrom_56 ib_9 rfl ?_
  refine YC (pc2 := 61) (fa_83 _ _ _ _) (fa_25 _ _ _ _) h kw_680 (by decide) cl_9 ⟨by decide, by decide⟩ (Nat.le_of_ble_eq_true rfl) dX6_copyFrom_58 rfl (fun F_664 h => ?_)
  refine G_aload_n (pc2 := 62) 1 rfl dX6_copyFrom_61 rfl rfl ?_
  refine T_80_5 (pc2 := 65) kw_221 dX6_copyFrom_62 rfl ?_
  refine G_iconst (pc2 := 66) dX6_copyFrom_65 ic_0 rfl ?_
  refine G_aload_n (pc2 := 67) 0 rfl dX6_copyFrom_66 rfl rfl ?_
  refine T_22_5 (pc2 := 70) kw_221 dX6_copyFrom_67 rfl ?_
  refine G_iconst (pc2 := 71) dX6_copyFrom_70 ic_0 rfl ?_
  refine G_bipush (pc2 := 73) dX6_copyFrom_71 ib_6 rfl ?_
  refine YC (pc2 := 76) (fa_84 _ _ _ _) (fa_26 _ _ _ _) h kw_680 (by decide) cl_6 ⟨by decide, by decide⟩ (Nat.le_of_ble_eq_true rfl) dX6_copyFrom_73 rfl (fun F_665 h => ?_)
  refine G_aload_n (pc2 := 77) 1 rfl dX6_copyFrom_76 rfl rfl ?_
  refine T_80_6 (pc2 := 80) kw_225 dX6_copyFrom_77 rfl ?_
  refine G_iconst (pc2 := 81) dX6_copyFrom_80 ic_0 rfl ?_
  refine G_aload_n (pc2 := 82) 0 rfl dX6_copyFrom_81 rfl rfl ?_
  refine T_22_6 (pc2 := 85) kw_225 dX6_copyFrom_82 rfl ?_
  refine G_iconst (pc2 := 86) dX6_copyFrom_85 ic_0 rfl ?_
  refine G_bipush (pc2 := 88) dX6_copyFrom_86 ib_6 rfl ?_
  refine YC (pc2 := 91) (fa_85 _ _ _ _) (fa_27 _ _ _ _) h kw_680 (by decide) cl_6 ⟨by decide, by decide⟩ (Nat.le_of_ble_eq_true rfl) dX6_copyFrom_88 rfl (fun F_666 h => ?_)
  refine G_aload_n (pc2 := 92) 1 rfl dX6_copyFrom_91 rfl rfl ?_
  refine T_80_7 (pc2 := 95) kw_228 dX6_copyFrom_92 rfl ?_
  refine G_iconst (pc2 := 96) dX6_copyFrom_95 ic_0 rfl ?_
  refine G_aload_n (pc2 := 97) 0 rfl dX6_copyFrom_96 rfl rfl ?_
  refine T_22_7 (pc2 := 100) kw_228 dX6_copyFrom_97 rfl ?_
  refine G_iconst (pc2 := 101) dX6_copyFrom_100 ic_0 rfl ?_
  refine G_bipush (pc2 := 103) dX6_copyFrom_101 ib_6 rfl ?_
  refine YC (pc2 := 106) (fa_86 _ _ _ _) (fa_28 _ _ _ _) h kw_680 (by decide) cl_6 ⟨by decide, by decide⟩ (Nat.le_of_ble_eq_true rfl) dX6_copyFrom_103 rfl (fun F_667 h => ?_)
  refine G_aload_n (pc2 := 107) 1 rfl dX6_copyFrom_106 rfl rfl ?_
  refine T_80_8 (pc2 := 110) kw_231 dX6_copyFrom_107 rfl ?_
  refine G_iconst (pc2 := 111) dX6_copyFrom_110 ic_0 rfl ?_
  refine G_aload_n (pc2 := 112) 0 rfl dX6_copyFrom_111 rfl rfl ?_
  refine T_22_8 (pc2 := 115) kw_231 dX6_copyFrom_112 rfl ?_
  refine G_iconst (pc2 := 116) dX6_copyFrom_115 ic_0 rfl ?_
  refine G_bipush (pc2 := 118) dX6_copyFrom_116 ib_6 rfl ?_
  refine YC (pc2 := 121) (fa_87 _ _ _ _) (fa_29 _ _ _ _) h kw_680 (by decide) cl_6 ⟨by decide, by decide⟩ (Nat.le_of_ble_eq_true rfl) dX6_copyFrom_118 rfl (fun F_668 h => ?_)
  refine G_aload_n (pc2 := 122) 1 rfl dX6_copyFrom_121 rfl rfl ?_
  refine T_80_9 (pc2 := 125) kw_234 dX6_copyFrom_122 rfl ?_
  refine G_iconst (pc2 := 126) dX6_copyFrom_125 ic_0 rfl ?_
  refine G_aload_n (pc2 := 127) 0 rfl dX6_copyFrom_126 rfl rfl ?_
  refine T_22_9 (pc2 := 130) kw_234 dX6_copyFrom_127 rfl ?_
  refine G_iconst (pc2 := 131) dX6_copyFrom_130 ic_0 rfl ?_
  refine G_bipush (pc2 := 133) dX6_copyFrom_131 ib_20 rfl ?_
  refine YC (pc2 := 136) (fa_88 _ _ _ _) (fa_30 _ _ _ _) h kw_680 (by decide) cl_20 ⟨by decide, by decide⟩ (Nat.le_of_ble_eq_true rfl) dX6_copyFrom_133 rfl (fun F_669 h => ?_)
  have ha := Option.some.inj h
  subst ha
  exact G_vret rfl dX6_copyFrom_136)
def f_X6_copyFrom_22_89 (I : WI) (F : WF) : Option (WI × WF) :=
  bnd (upd I 0 (I 12)) fun I_673 =>
  bnd (upd I_673 1 (I_673 13)) fun I_674 =>
  bnd (uF F 0 (va_cpy (F 48) (F 0) 0 0 9)) fun F_675 =>
  bnd (uF F_675 1 (va_cpy (F_675 49) (F_675 1) 0 0 9)) fun F_676 =>
  bnd (uF F_676 2 (va_cpy (F_676 50) (F_676 2) 0 0 9)) fun F_677 =>
  bnd (uF F_677 3 (va_cpy (F_677 51) (F_677 3) 0 0 6)) fun F_678 =>
  bnd (uF F_678 4 (va_cpy (F_678 52) (F_678 4) 0 0 6)) fun F_679 =>
  bnd (uF F_679 5 (va_cpy (F_679 53) (F_679 5) 0 0 6)) fun F_680 =>
  bnd (uF F_680 6 (va_cpy (F_680 54) (F_680 6) 0 0 6)) fun F_681 =>
  bnd (uF F_681 7 (va_cpy (F_681 55) (F_681 7) 0 0 20)) fun F_682 =>
  some (I_674, F_682)
set_option maxRecDepth 100000 in
set_option maxHeartbeats 4000000 in
theorem c_X6_copyFrom_22_89 {I : WI} {F : WF} {J : WI} {K : WF} {a : WI × WF} (h : f_X6_copyFrom_22_89  I F = some a) : CT md_X6_copyFrom yX6_copyFrom (rmD 1) [.ref 22, .ref 89] (mkW I F J K) none (mkW a.1 a.2 J K) := CT_of pn_X6 ⟨rfl, rfl⟩ (Nat.le_of_ble_eq_true rfl) (fun X => by
  show GG X md_X6_copyFrom (rmD 1) _ 0 0 0 [(0, .ref 22), (1, .ref 89)] [] (mkW I F J K)
  unfold f_X6_copyFrom_22_89 at h
  refine G_aload_n (pc2 := 1) 0 rfl dX6_copyFrom_0 rfl rfl ?_
  refine G_aload_n (pc2 := 2) 1 rfl dX6_copyFrom_1 rfl rfl ?_
  refine T_89_0 (pc2 := 5) kw_207 dX6_copyFrom_2 rfl ?_
  refine P_22_0 (pc2 := 8) h kw_207 dX6_copyFrom_5 rfl (fun I_673 h => ?_)
  refine G_aload_n (pc2 := 9) 0 rfl dX6_copyFrom_8 rfl rfl ?_
  refine G_aload_n (pc2 := 10) 1 rfl dX6_copyFrom_9 rfl rfl ?_
  refine T_89_1 (pc2 := 13) kw_210 dX6_copyFrom_10 rfl ?_
  refine P_22_1 (pc2 := 16) h kw_210 dX6_copyFrom_13 rfl (fun I_674 h => ?_)
  refine G_aload_n (pc2 := 17) 1 rfl dX6_copyFrom_16 rfl rfl ?_
  refine T_89_2 (pc2 := 20) kw_212 dX6_copyFrom_17 rfl ?_
  refine G_iconst (pc2 := 21) dX6_copyFrom_20 ic_0 rfl ?_
  refine G_aload_n (pc2 := 22) 0 rfl dX6_copyFrom_21 rfl rfl ?_
  refine T_22_2 (pc2 := 25) kw_212 dX6_copyFrom_22 rfl ?_
  refine G_iconst (pc2 := 26) dX6_copyFrom_25 ic_0 rfl ?_
  refine G_bipush (pc2 := 28) dX6_copyFrom_26 ib_9 rfl ?_
  refine YC (pc2 := 31) (fa_90 _ _ _ _) (fa_23 _ _ _ _) h kw_680 (by decide) cl_9 ⟨by decide, by decide⟩ (Nat.le_of_ble_eq_true rfl) dX6_copyFrom_28 rfl (fun F_675 h => ?_)
  refine G_aload_n (pc2 := 32) 1 rfl dX6_copyFrom_31 rfl rfl ?_
  refine T_89_3 (pc2 := 35) kw_215 dX6_copyFrom_32 rfl ?_
  refine G_iconst (pc2 := 36) dX6_copyFrom_35 ic_0 rfl ?_
  refine G_aload_n (pc2 := 37) 0 rfl dX6_copyFrom_36 rfl rfl ?_
  refine T_22_3 (pc2 := 40) kw_215 dX6_copyFrom_37 rfl ?_
  refine G_iconst (pc2 := 41) dX6_copyFrom_40 ic_0 rfl ?_
  refine G_bipush (pc2 := 43) dX6_copyFrom_41 ib_9 rfl ?_
  refine YC (pc2 := 46) (fa_91 _ _ _ _) (fa_24 _ _ _ _) h kw_680 (by decide) cl_9 ⟨by decide, by decide⟩ (Nat.le_of_ble_eq_true rfl) dX6_copyFrom_43 rfl (fun F_676 h => ?_)
  refine G_aload_n (pc2 := 47) 1 rfl dX6_copyFrom_46 rfl rfl ?_
  refine T_89_4 (pc2 := 50) kw_218 dX6_copyFrom_47 rfl ?_
  refine G_iconst (pc2 := 51) dX6_copyFrom_50 ic_0 rfl ?_
  refine G_aload_n (pc2 := 52) 0 rfl dX6_copyFrom_51 rfl rfl ?_
  refine T_22_4 (pc2 := 55) kw_218 dX6_copyFrom_52 rfl ?_
  refine G_iconst (pc2 := 56) dX6_copyFrom_55 ic_0 rfl ?_
  refine G_bipush (pc2 := 58) dX6_copyFrom_56 ib_9 rfl ?_
  refine YC (pc2 := 61) (fa_92 _ _ _ _) (fa_25 _ _ _ _) h kw_680 (by decide) cl_9 ⟨by decide, by decide⟩ (Nat.le_of_ble_eq_true rfl) dX6_copyFrom_58 rfl (fun F_677 h => ?_)
  refine G_aload_n (pc2 := 62) 1 rfl dX6_copyFrom_61 rfl rfl ?_
  refine T_89_5 (pc2 := 65) kw_221 dX6_copyFrom_62 rfl ?_
  refine G_iconst (pc2 := 66) dX6_copyFrom_65 ic_0 rfl ?_
  refine G_aload_n (pc2 := 67) 0 rfl dX6_copyFrom_66 rfl rfl ?_
  refine T_22_5 (pc2 := 70) kw_221 dX6_copyFrom_67 rfl ?_
  refine G_iconst (pc2 := 71) dX6_copyFrom_70 ic_0 rfl ?_
  refine G_bipush (pc2 := 73) dX6_copyFrom_71 ib_6 rfl ?_
  refine YC (pc2 := 76) (fa_93 _ _ _ _) (fa_26 _ _ _ _) h kw_680 (by decide) cl_6 ⟨by decide, by decide⟩ (Nat.le_of_ble_eq_true rfl) dX6_copyFrom_73 rfl (fun F_678 h => ?_)
  refine G_aload_n (pc2 := 77) 1 rfl dX6_copyFrom_76 rfl rfl ?_
  refine T_89_6 (pc2 := 80) kw_225 dX6_copyFrom_77 rfl ?_
  refine G_iconst (pc2 := 81) dX6_copyFrom_80 ic_0 rfl ?_
  refine G_aload_n (pc2 := 82) 0 rfl dX6_copyFrom_81 rfl rfl ?_
  refine T_22_6 (pc2 := 85) kw_225 dX6_copyFrom_82 rfl ?_
  refine G_iconst (pc2 := 86) dX6_copyFrom_85 ic_0 rfl ?_
  refine G_bipush (pc2 := 88) dX6_copyFrom_86 ib_6 rfl ?_
  refine YC (pc2 := 91) (fa_94 _ _ _ _) (fa_27 _ _ _ _) h kw_680 (by decide) cl_6 ⟨by decide, by decide⟩ (Nat.le_of_ble_eq_true rfl) dX6_copyFrom_88 rfl (fun F_679 h => ?_)
  refine G_aload_n (pc2 := 92) 1 rfl dX6_copyFrom_91 rfl rfl ?_
  refine T_89_7 (pc2 := 95) kw_228 dX6_copyFrom_92 rfl ?_
  refine G_iconst (pc2 := 96) dX6_copyFrom_95 ic_0 rfl ?_
  refine G_aload_n (pc2 := 97) 0 rfl dX6_copyFrom_96 rfl rfl ?_
  refine T_22_7 (pc2 := 100) kw_228 dX6_copyFrom_97 rfl ?_
  refine G_iconst (pc2 := 101) dX6_copyFrom_100 ic_0 rfl ?_
  refine G_bipush (pc2 := 103) dX6_copyFrom_101 ib_6 rfl ?_
  refine YC (pc2 := 106) (fa_95 _ _ _ _) (fa_28 _ _ _ _) h kw_680 (by decide) cl_6 ⟨by decide, by decide⟩ (Nat.le_of_ble_eq_true rfl) dX6_copyFrom_103 rfl (fun F_680 h => ?_)
  refine G_aload_n (pc2 := 107) 1 rfl dX6_copyFrom_106 rfl rfl ?_
  refine T_89_8 (pc2 := 110) kw_231 dX6_copyFrom_107 rfl ?_
  refine G_iconst (pc2 := 111) dX6_copyFrom_110 ic_0 rfl ?_
  refine G_aload_n (pc2 := 112) 0 rfl dX6_copyFrom_111 rfl rfl ?_
  refine T_22_8 (pc2 := 115) kw_231 dX6_copyFrom_112 rfl ?_
  refine G_iconst (pc2 := 116) dX6_copyFrom_115 ic_0 rfl ?_
  refine G_bipush (pc2 := 118) dX6_copyFrom_116 ib_6 rfl ?_
  refine YC (pc2 := 121) (fa_96 _ _ _ _) (fa_29 _ _ _ _) h kw_680 (by decide) cl_6 ⟨by decide, by decide⟩ (Nat.le_of_ble_eq_true rfl) dX6_copyFrom_118 rfl (fun F_681 h => ?_)
  refine G_aload_n (pc2 := 122) 1 rfl dX6_copyFrom_121 rfl rfl ?_
  refine T_89_9 (pc2 := 125) kw_234 dX6_copyFrom_122 rfl ?_
  refine G_iconst (pc2 := 126) dX6_copyFrom_125 ic_0 rfl ?_
  refine G_aload_n (pc2 := 127) 0 rfl dX6_copyFrom_126 rfl rfl ?_
  refine T_22_9 (pc2 := 130) kw_234 dX6_copyFrom_127 rfl ?_
  refine G_iconst (pc2 := 131) dX6_copyFrom_130 ic_0 rfl ?_
  refine G_bipush (pc2 := 133) dX6_copyFrom_131 ib_20 rfl ?_
  refine YC (pc2 := 136) (fa_97 _ _ _ _) (fa_30 _ _ _ _) h kw_680 (by decide) cl_20 ⟨by decide, by decide⟩ (Nat.le_of_ble_eq_true rfl) dX6_copyFrom_133 rfl (fun F_682 h => ?_)
  have ha := Option.some.inj h
  subst ha
  exact G_vret rfl dX6_copyFrom_136)
def f_X6_copyFrom_22_98 (I : WI) (F : WF) : Option (WI × WF) :=
  bnd (upd I 0 (I 14)) fun I_686 =>
  bnd (upd I_686 1 (I_686 15)) fun I_687 =>
  bnd (uF F 0 (va_cpy (F 56) (F 0) 0 0 9)) fun F_688 =>
  bnd (uF F_688 1 (va_cpy (F_688 57) (F_688 1) 0 0 9)) fun F_689 =>
  bnd (uF F_689 2 (va_cpy (F_689 58) (F_689 2) 0 0 9)) fun F_690 =>
  bnd (uF F_690 3 (va_cpy (F_690 59) (F_690 3) 0 0 6)) fun F_691 =>
  bnd (uF F_691 4 (va_cpy (F_691 60) (F_691 4) 0 0 6)) fun F_692 =>
  bnd (uF F_692 5 (va_cpy (F_692 61) (F_692 5) 0 0 6)) fun F_693 =>
  bnd (uF F_693 6 (va_cpy (F_693 62) (F_693 6) 0 0 6)) fun F_694 =>
  bnd (uF F_694 7 (va_cpy (F_694 63) (F_694 7) 0 0 20)) fun F_695 =>
  some (I_687, F_695)
set_option maxRecDepth 100000 in
set_option maxHeartbeats 4000000 in
theorem c_X6_copyFrom_22_98 {I : WI} {F : WF} {J : WI} {K : WF} {a : WI × WF} (h : f_X6_copyFrom_22_98  I F = some a) : CT md_X6_copyFrom yX6_copyFrom (rmD 1) [.ref 22, .ref 98] (mkW I F J K) none (mkW a.1 a.2 J K) := CT_of pn_X6 ⟨rfl, rfl⟩ (Nat.le_of_ble_eq_true rfl) (fun X => by
  show GG X md_X6_copyFrom (rmD 1) _ 0 0 0 [(0, .ref 22), (1, .ref 98)] [] (mkW I F J K)
  unfold f_X6_copyFrom_22_98 at h
  refine G_aload_n (pc2 := 1) 0 rfl dX6_copyFrom_0 rfl rfl ?_
  refine G_aload_n (pc2 := 2) 1 rfl dX6_copyFrom_1 rfl rfl ?_
  refine T_98_0 (pc2 := 5) kw_207 dX6_copyFrom_2 rfl ?_
  refine P_22_0 (pc2 := 8) h kw_207 dX6_copyFrom_5 rfl (fun I_686 h => ?_)
  refine G_aload_n (pc2 := 9) 0 rfl dX6_copyFrom_8 rfl rfl ?_
  refine G_aload_n (pc2 := 10) 1 rfl dX6_copyFrom_9 rfl rfl ?_
  refine T_98_1 (pc2 := 13) kw_210 dX6_copyFrom_10 rfl ?_
  refine P_22_1 (pc2 := 16) h kw_210 dX6_copyFrom_13 rfl (fun I_687 h => ?_)
  refine G_aload_n (pc2 := 17) 1 rfl dX6_copyFrom_16 rfl rfl ?_
  refine T_98_2 (pc2 := 20) kw_212 dX6_copyFrom_17 rfl ?_
  refine G_iconst (pc2 := 21) dX6_copyFrom_20 ic_0 rfl ?_
  refine G_aload_n (pc2 := 22) 0 rfl dX6_copyFrom_21 rfl rfl ?_
  refine T_22_2 (pc2 := 25) kw_212 dX6_copyFrom_22 rfl ?_
  refine G_iconst (pc2 := 26) dX6_copyFrom_25 ic_0 rfl ?_
  refine G_bipush (pc2 := 28) dX6_copyFrom_26 ib_9 rfl ?_
  refine YC (pc2 := 31) (fa_99 _ _ _ _) (fa_23 _ _ _ _) h kw_680 (by decide) cl_9 ⟨by decide, by decide⟩ (Nat.le_of_ble_eq_true rfl) dX6_copyFrom_28 rfl (fun F_688 h => ?_)
  refine G_aload_n (pc2 := 32) 1 rfl dX6_copyFrom_31 rfl rfl ?_
  refine T_98_3 (pc2 := 35) kw_215 dX6_copyFrom_32 rfl ?_
  refine G_iconst (pc2 := 36) dX6_copyFrom_35 ic_0 rfl ?_
  refine G_aload_n (pc2 := 37) 0 rfl dX6_copyFrom_36 rfl rfl ?_
  refine T_22_3 (pc2 := 40) kw_215 dX6_copyFrom_37 rfl ?_
  refine G_iconst (pc2 := 41) dX6_copyFrom_40 ic_0 rfl ?_
  refine G_bipush (pc2 := 43) dX6_copyFrom_41 ib_9 rfl ?_
  refine YC (pc2 := 46) (fa_100 _ _ _ _) (fa_24 _ _ _ _) h kw_680 (by decide) cl_9 ⟨by decide, by decide⟩ (Nat.le_of_ble_eq_true rfl) dX6_copyFrom_43 rfl (fun F_689 h => ?_)
  refine G_aload_n (pc2 := 47) 1 rfl dX6_copyFrom_46 rfl rfl ?_
  refine T_98_4 (pc2 := 50) kw_218 dX6_copyFrom_47 rfl ?_
  refine G_iconst (pc2 := 51) dX6_copyFrom_50 ic_0 rfl ?_
  refine G_aload_n (pc2 := 52) 0 rfl dX6_copyFrom_51 rfl rfl ?_
  refine T_22_4 (pc2 := 55) kw_218 dX6_copyFrom_52 rfl ?_
  refine G_iconst (pc2 := 56) dX6_copyFrom_55 ic_0 rfl ?_
  refine G_bipush (pc2 := 58) dX6_copyFrom_56 ib_9 rfl ?_
  refine YC (pc2 := 61) (fa_101 _ _ _ _) (fa_25 _ _ _ _) h kw_680 (by decide) cl_9 ⟨by decide, by decide⟩ (Nat.le_of_ble_eq_true rfl) dX6_copyFrom_58 rfl (fun F_690 h => ?_)
  refine G_aload_n (pc2 := 62) 1 rfl dX6_copyFrom_61 rfl rfl ?_
  refine T_98_5 (pc2 := 65) kw_221 dX6_copyFrom_62 rfl ?_
  refine G_iconst (pc2 := 66) dX6_copyFrom_65 ic_0 rfl ?_
  refine G_aload_n (pc2 := 67) 0 rfl dX6_copyFrom_66 rfl rfl ?_
  refine T_22_5 (pc2 := 70) kw_221 dX6_copyFrom_67 rfl ?_
  refine G_iconst (pc2 := 71) dX6_copyFrom_70 ic_0 rfl ?_
  refine G_bipush (pc2 := 73) dX6_copyFrom_71 ib_6 rfl ?_
  refine YC (pc2 := 76) (fa_102 _ _ _ _) (fa_26 _ _ _ _) h kw_680 (by decide) cl_6 ⟨by decide, by decide⟩ (Nat.le_of_ble_eq_true rfl) dX6_copyFrom_73 rfl (fun F_691 h => ?_)
  refine G_aload_n (pc2 := 77) 1 rfl dX6_copyFrom_76 rfl rfl ?_
  refine T_98_6 (pc2 := 80) kw_225 dX6_copyFrom_77 rfl ?_
  refine G_iconst (pc2 := 81) dX6_copyFrom_80 ic_0 rfl ?_
  refine G_aload_n (pc2 := 82) 0 rfl dX6_copyFrom_81 rfl rfl ?_
  refine T_22_6 (pc2 := 85) kw_225 dX6_copyFrom_82 rfl ?_
  refine G_iconst (pc2 := 86) dX6_copyFrom_85 ic_0 rfl ?_
  refine G_bipush (pc2 := 88) dX6_copyFrom_86 ib_6 rfl ?_
  refine YC (pc2 := 91) (fa_103 _ _ _ _) (fa_27 _ _ _ _) h kw_680 (by decide) cl_6 ⟨by decide, by decide⟩ (Nat.le_of_ble_eq_true rfl) dX6_copyFrom_88 rfl (fun F_692 h => ?_)
  refine G_aload_n (pc2 := 92) 1 rfl dX6_copyFrom_91 rfl rfl ?_
  refine T_98_7 (pc2 := 95) kw_228 dX6_copyFrom_92 rfl ?_
  refine G_iconst (pc2 := 96) dX6_copyFrom_95 ic_0 rfl ?_
  refine G_aload_n (pc2 := 97) 0 rfl dX6_copyFrom_96 rfl rfl ?_
  refine T_22_7 (pc2 := 100) kw_228 dX6_copyFrom_97 rfl ?_
  refine G_iconst (pc2 := 101) dX6_copyFrom_100 ic_0 rfl ?_
  refine G_bipush (pc2 := 103) dX6_copyFrom_101 ib_6 rfl ?_
  refine YC (pc2 := 106) (fa_104 _ _ _ _) (fa_28 _ _ _ _) h kw_680 (by decide) cl_6 ⟨by decide, by decide⟩ (Nat.le_of_ble_eq_true rfl) dX6_copyFrom_103 rfl (fun F_693 h => ?_)
  refine G_aload_n (pc2 := 107) 1 rfl dX6_copyFrom_106 rfl rfl ?_
  refine T_98_8 (pc2 := 110) kw_231 dX6_copyFrom_107 rfl ?_
  refine G_iconst (pc2 := 111) dX6_copyFrom_110 ic_0 rfl ?_
  refine G_aload_n (pc2 := 112) 0 rfl dX6_copyFrom_111 rfl rfl ?_
  refine T_22_8 (pc2 := 115) kw_231 dX6_copyFrom_112 rfl ?_
  refine G_iconst (pc2 := 116) dX6_copyFrom_115 ic_0 rfl ?_
  refine G_bipush (pc2 := 118) dX6_copyFrom_116 ib_6 rfl ?_
  refine YC (pc2 := 121) (fa_105 _ _ _ _) (fa_29 _ _ _ _) h kw_680 (by decide) cl_6 ⟨by decide, by decide⟩ (Nat.le_of_ble_eq_true rfl) dX6_copyFrom_118 rfl (fun F_694 h => ?_)
  refine G_aload_n (pc2 := 122) 1 rfl dX6_copyFrom_121 rfl rfl ?_
  refine T_98_9 (pc2 := 125) kw_234 dX6_copyFrom_122 rfl ?_
  refine G_iconst (pc2 := 126) dX6_copyFrom_125 ic_0 rfl ?_
  refine G_aload_n (pc2 := 127) 0 rfl dX6_copyFrom_126 rfl rfl ?_
  refine T_22_9 (pc2 := 130) kw_234 dX6_copyFrom_127 rfl ?_
  refine G_iconst (pc2 := 131) dX6_copyFrom_130 ic_0 rfl ?_
  refine G_bipush (pc2 := 133) dX6_copyFrom_131 ib_20 rfl ?_
  refine YC (pc2 := 136) (fa_106 _ _ _ _) (fa_30 _ _ _ _) h kw_680 (by decide) cl_20 ⟨by decide, by decide⟩ (Nat.le_of_ble_eq_true rfl) dX6_copyFrom_133 rfl (fun F_695 h => ?_)
  have ha := Option.some.inj h
  subst ha
  exact G_vret rfl dX6_copyFrom_136)
def f_X6_copyFrom_22_107 (I : WI) (F : WF) : Option (WI × WF) :=
  bnd (upd I 0 (I 16)) fun I_699 =>
  bnd (upd I_699 1 (I_699 17)) fun I_700 =>
  bnd (uF F 0 (va_cpy (F 64) (F 0) 0 0 9)) fun F_701 =>
  bnd (uF F_701 1 (va_cpy (F_701 65) (F_701 1) 0 0 9)) fun F_702 =>
  bnd (uF F_702 2 (va_cpy (F_702 66) (F_702 2) 0 0 9)) fun F_703 =>
  bnd (uF F_703 3 (va_cpy (F_703 67) (F_703 3) 0 0 6)) fun F_704 =>
  bnd (uF F_704 4 (va_cpy (F_704 68) (F_704 4) 0 0 6)) fun F_705 =>
  bnd (uF F_705 5 (va_cpy (F_705 69) (F_705 5) 0 0 6)) fun F_706 =>
  bnd (uF F_706 6 (va_cpy (F_706 70) (F_706 6) 0 0 6)) fun F_707 =>
  bnd (uF F_707 7 (va_cpy (F_707 71) (F_707 7) 0 0 20)) fun F_708 =>
  some (I_700, F_708)
set_option maxRecDepth 100000 in
set_option maxHeartbeats 4000000 in
theorem c_X6_copyFrom_22_107 {I : WI} {F : WF} {J : WI} {K : WF} {a : WI × WF} (h : f_X6_copyFrom_22_107  I F = some a) : CT md_X6_copyFrom yX6_copyFrom (rmD 1) [.ref 22, .ref 107] (mkW I F J K) none (mkW a.1 a.2 J K) := CT_of pn_X6 ⟨rfl, rfl⟩ (Nat.le_of_ble_eq_true rfl) (fun X => by
  show GG X md_X6_copyFrom (rmD 1) _ 0 0 0 [(0, .ref 22), (1, .ref 107)] [] (mkW I F J K)
  unfold f_X6_copyFrom_22_107 at h
  refine G_aload_n (pc2 := 1) 0 rfl dX6_copyFrom_0 rfl rfl ?_
  refine G_aload_n (pc2 := 2) 1 rfl dX6_copyFrom_1 rfl rfl ?_
  refine T_107_0 (pc2 := 5) kw_207 dX6_copyFrom_2 rfl ?_
  refine P_22_0 (pc2 := 8) h kw_207 dX6_copyFrom_5 rfl (fun I_699 h => ?_)
  refine G_aload_n (pc2 := 9) 0 rfl dX6_copyFrom_8 rfl rfl ?_
  refine G_aload_n (pc2 := 10) 1 rfl dX6_copyFrom_9 rfl rfl ?_
  refine T_107_1 (pc2 := 13) kw_210 dX6_copyFrom_10 rfl ?_
  refine P_22_1 (pc2 := 16) h kw_210 dX6_copyFrom_13 rfl (fun I_700 h => ?_)
  refine G_aload_n (pc2 := 17) 1 rfl dX6_copyFrom_16 rfl rfl ?_
  refine T_107_2 (pc2 := 20) kw_212 dX6_copyFrom_17 rfl ?_
  refine G_iconst (pc2 := 21) dX6_copyFrom_20 ic_0 rfl ?_
  refine G_aload_n (pc2 := 22) 0 rfl dX6_copyFrom_21 rfl rfl ?_
  refine T_22_2 (pc2 := 25) kw_212 dX6_copyFrom_22 rfl ?_
  refine G_iconst (pc2 := 26) dX6_copyFrom_25 ic_0 rfl ?_
  refine G_bipush (pc2 := 28) dX6_copyFrom_26 ib_9 rfl ?_
  refine YC (pc2 := 31) (fa_108 _ _ _ _) (fa_23 _ _ _ _) h kw_680 (by decide) cl_9 ⟨by decide, by decide⟩ (Nat.le_of_ble_eq_true rfl) dX6_copyFrom_28 rfl (fun F_701 h => ?_)
  refine G_aload_n (pc2 := 32) 1 rfl dX6_copyFrom_31 rfl rfl ?_
  refine T_107_3 (pc2 := 35) kw_215 dX6_copyFrom_32 rfl ?_
  refine G_iconst (pc2 := 36) dX6_copyFrom_35 ic_0 rfl ?_
  refine G_aload_n (pc2 := 37) 0 rfl dX6_copyFrom_36 rfl rfl ?_
  refine T_22_3 (pc2 := 40) kw_215 dX6_copyFrom_37 rfl ?_
  refine G_iconst (pc2 := 41) dX6_copyFrom_40 ic_0 rfl ?_
  refine G_bipush (pc2 := 43) dX6_copyFrom_41 ib_9 rfl ?_
  refine YC (pc2 := 46) (fa_109 _ _ _ _) (fa_24 _ _ _ _) h kw_680 (by decide) cl_9 ⟨by decide, by decide⟩ (Nat.le_of_ble_eq_true rfl) dX6_copyFrom_43 rfl (fun F_702 h => ?_)
  refine G_aload_n (pc2 := 47) 1 rfl dX6_copyFrom_46 rfl rfl ?_
  refine T_107_4 (pc2 := 50) kw_218 dX6_copyFrom_47 rfl ?_
  refine G_iconst (pc2 := 51) dX6_copyFrom_50 ic_0 rfl ?_
  refine G_aload_n (pc2 := 52) 0 rfl dX6_copyFrom_51 rfl rfl ?_
  refine T_22_4 (pc2 := 55) kw_218 dX6_copyFrom_52 rfl ?_
  refine G_iconst (pc2 := 56) dX6_copyFrom_55 ic_0 rfl ?_
  refine G_bipush (pc2 := 58) dX6_copyFrom_56 ib_9 rfl ?_
  refine YC (pc2 := 61) (fa_110 _ _ _ _) (fa_25 _ _ _ _) h kw_680 (by decide) cl_9 ⟨by decide, by decide⟩ (Nat.le_of_ble_eq_true rfl) dX6_copyFrom_58 rfl (fun F_703 h => ?_)
  refine G_aload_n (pc2 := 62) 1 rfl dX6_copyFrom_61 rfl rfl ?_
  refine T_107_5 (pc2 := 65) kw_221 dX6_copyFrom_62 rfl ?_
  refine G_iconst (pc2 := 66) dX6_copyFrom_65 ic_0 rfl ?_
  refine G_aload_n (pc2 := 67) 0 rfl dX6_copyFrom_66 rfl rfl ?_
  refine T_22_5 (pc2 := 70) kw_221 dX6_copyFrom_67 rfl ?_
  refine G_iconst (pc2 := 71) dX6_copyFrom_70 ic_0 rfl ?_
  refine G_bipush (pc2 := 73) dX6_copyFrom_71 ib_6 rfl ?_
  refine YC (pc2 := 76) (fa_111 _ _ _ _) (fa_26 _ _ _ _) h kw_680 (by decide) cl_6 ⟨by decide, by decide⟩ (Nat.le_of_ble_eq_true rfl) dX6_copyFrom_73 rfl (fun F_704 h => ?_)
  refine G_aload_n (pc2 := 77) 1 rfl dX6_copyFrom_76 rfl rfl ?_
  refine T_107_6 (pc2 := 80) kw_225 dX6_copyFrom_77 rfl ?_
  refine G_iconst (pc2 := 81) dX6_copyFrom_80 ic_0 rfl ?_
  refine G_aload_n (pc2 := 82) 0 rfl dX6_copyFrom_81 rfl rfl ?_
  refine T_22_6 (pc2 := 85) kw_225 dX6_copyFrom_82 rfl ?_
  refine G_iconst (pc2 := 86) dX6_copyFrom_85 ic_0 rfl ?_
  refine G_bipush (pc2 := 88) dX6_copyFrom_86 ib_6 rfl ?_
  refine YC (pc2 := 91) (fa_112 _ _ _ _) (fa_27 _ _ _ _) h kw_680 (by decide) cl_6 ⟨by decide, by decide⟩ (Nat.le_of_ble_eq_true rfl) dX6_copyFrom_88 rfl (fun F_705 h => ?_)
  refine G_aload_n (pc2 := 92) 1 rfl dX6_copyFrom_91 rfl rfl ?_
  refine T_107_7 (pc2 := 95) kw_228 dX6_copyFrom_92 rfl ?_
  refine G_iconst (pc2 := 96) dX6_copyFrom_95 ic_0 rfl ?_
  refine G_aload_n (pc2 := 97) 0 rfl dX6_copyFrom_96 rfl rfl ?_
  refine T_22_7 (pc2 := 100) kw_228 dX6_copyFrom_97 rfl ?_
  refine G_iconst (pc2 := 101) dX6_copyFrom_100 ic_0 rfl ?_
  refine G_bipush (pc2 := 103) dX6_copyFrom_101 ib_6 rfl ?_
  refine YC (pc2 := 106) (fa_113 _ _ _ _) (fa_28 _ _ _ _) h kw_680 (by decide) cl_6 ⟨by decide, by decide⟩ (Nat.le_of_ble_eq_true rfl) dX6_copyFrom_103 rfl (fun F_706 h => ?_)
  refine G_aload_n (pc2 := 107) 1 rfl dX6_copyFrom_106 rfl rfl ?_
  refine T_107_8 (pc2 := 110) kw_231 dX6_copyFrom_107 rfl ?_
  refine G_iconst (pc2 := 111) dX6_copyFrom_110 ic_0 rfl ?_
  refine G_aload_n (pc2 := 112) 0 rfl dX6_copyFrom_111 rfl rfl ?_
  refine T_22_8 (pc2 := 115) kw_231 dX6_copyFrom_112 rfl ?_
  refine G_iconst (pc2 := 116) dX6_copyFrom_115 ic_0 rfl ?_
  refine G_bipush (pc2 := 118) dX6_copyFrom_116 ib_6 rfl ?_
  refine YC (pc2 := 121) (fa_114 _ _ _ _) (fa_29 _ _ _ _) h kw_680 (by decide) cl_6 ⟨by decide, by decide⟩ (Nat.le_of_ble_eq_true rfl) dX6_copyFrom_118 rfl (fun F_707 h => ?_)
  refine G_aload_n (pc2 := 122) 1 rfl dX6_copyFrom_121 rfl rfl ?_
  refine T_107_9 (pc2 := 125) kw_234 dX6_copyFrom_122 rfl ?_
  refine G_iconst (pc2 := 126) dX6_copyFrom_125 ic_0 rfl ?_
  refine G_aload_n (pc2 := 127) 0 rfl dX6_copyFrom_126 rfl rfl ?_
  refine T_22_9 (pc2 := 130) kw_234 dX6_copyFrom_127 rfl ?_
  refine G_iconst (pc2 := 131) dX6_copyFrom_130 ic_0 rfl ?_
  refine G_bipush (pc2 := 133) dX6_copyFrom_131 ib_20 rfl ?_
  refine YC (pc2 := 136) (fa_115 _ _ _ _) (fa_30 _ _ _ _) h kw_680 (by decide) cl_20 ⟨by decide, by decide⟩ (Nat.le_of_ble_eq_true rfl) dX6_copyFrom_133 rfl (fun F_708 h => ?_)
  have ha := Option.some.inj h
  subst ha
  exact G_vret rfl dX6_copyFrom_136)
def f_X6_copyFrom_22_116 (I : WI) (F : WF) : Option (WI × WF) :=
  bnd (upd I 0 (I 18)) fun I_712 =>
  bnd (upd I_712 1 (I_712 19)) fun I_713 =>
  bnd (uF F 0 (va_cpy (F 72) (F 0) 0 0 9)) fun F_714 =>
  bnd (uF F_714 1 (va_cpy (F_714 73) (F_714 1) 0 0 9)) fun F_715 =>
  bnd (uF F_715 2 (va_cpy (F_715 74) (F_715 2) 0 0 9)) fun F_716 =>
  bnd (uF F_716 3 (va_cpy (F_716 75) (F_716 3) 0 0 6)) fun F_717 =>
  bnd (uF F_717 4 (va_cpy (F_717 76) (F_717 4) 0 0 6)) fun F_718 =>
  bnd (uF F_718 5 (va_cpy (F_718 77) (F_718 5) 0 0 6)) fun F_719 =>
  bnd (uF F_719 6 (va_cpy (F_719 78) (F_719 6) 0 0 6)) fun F_720 =>
  bnd (uF F_720 7 (va_cpy (F_720 79) (F_720 7) 0 0 20)) fun F_721 =>
  some (I_713, F_721)
set_option maxRecDepth 100000 in
set_option maxHeartbeats 4000000 in
theorem c_X6_copyFrom_22_116 {I : WI} {F : WF} {J : WI} {K : WF} {a : WI × WF} (h : f_X6_copyFrom_22_116  I F = some a) : CT md_X6_copyFrom yX6_copyFrom (rmD 1) [.ref 22, .ref 116] (mkW I F J K) none (mkW a.1 a.2 J K) := CT_of pn_X6 ⟨rfl, rfl⟩ (Nat.le_of_ble_eq_true rfl) (fun X => by
  show GG X md_X6_copyFrom (rmD 1) _ 0 0 0 [(0, .ref 22), (1, .ref 116)] [] (mkW I F J K)
  unfold f_X6_copyFrom_22_116 at h
  refine G_aload_n (pc2 := 1) 0 rfl dX6_copyFrom_0 rfl rfl ?_
  refine G_aload_n (pc2 := 2) 1 rfl dX6_copyFrom_1 rfl rfl ?_
  refine T_116_0 (pc2 := 5) kw_207 dX6_copyFrom_2 rfl ?_
  refine P_22_0 (pc2 := 8) h kw_207 dX6_copyFrom_5 rfl (fun I_712 h => ?_)
  refine G_aload_n (pc2 := 9) 0 rfl dX6_copyFrom_8 rfl rfl ?_
  refine G_aload_n (pc2 := 10) 1 rfl dX6_copyFrom_9 rfl rfl ?_
  refine T_116_1 (pc2 := 13) kw_210 dX6_copyFrom_10 rfl ?_
  refine P_22_1 (pc2 := 16) h kw_210 dX6_copyFrom_13 rfl (fun I_713 h => ?_)
  refine G_aload_n (pc2 := 17) 1 rfl dX6_copyFrom_16 rfl rfl ?_
  refine T_116_2 (pc2 := 20) kw_212 dX6_copyFrom_17 rfl ?_
  refine G_iconst (pc2 := 21) dX6_copyFrom_20 ic_0 rfl ?_
  refine G_aload_n (pc2 := 22) 0 rfl dX6_copyFrom_21 rfl rfl ?_
  refine T_22_2 (pc2 := 25) kw_212 dX6_copyFrom_22 rfl ?_
  refine G_iconst (pc2 := 26) dX6_copyFrom_25 ic_0 rfl ?_
  refine G_bipush (pc2 := 28) dX6_copyFrom_26 ib_9 rfl ?_
  refine YC (pc2 := 31) (fa_117 _ _ _ _) (fa_23 _ _ _ _) h kw_680 (by decide) cl_9 ⟨by decide, by decide⟩ (Nat.le_of_ble_eq_true rfl) dX6_copyFrom_28 rfl (fun F_714 h => ?_)
  refine G_aload_n (pc2 := 32) 1 rfl dX6_copyFrom_31 rfl rfl ?_
  refine T_116_3 (pc2 := 35) kw_215 dX6_copyFrom_32 rfl ?_
  refine G_iconst (pc2 := 36) dX6_copyFrom_35 ic_0 rfl ?_
  refine G_aload_n (pc2 := 37) 0 rfl dX6_copyFrom_36 rfl rfl ?_
  refine T_22_3 (pc2 := 40) kw_215 dX6_copyFrom_37 rfl ?_
  refine G_iconst (pc2 := 41) dX6_copyFrom_40 ic_0 rfl ?_
  refine G_bipush (pc2 := 43) dX6_copyFrom_41 ib_9 rfl ?_
  refine YC (pc2 := 46) (fa_118 _ _ _ _) (fa_24 _ _ _ _) h kw_680 (by decide) cl_9 ⟨by decide, by decide⟩ (Nat.le_of_ble_eq_true rfl) dX6_copyFrom_43 rfl (fun F_715 h => ?_)
  refine G_aload_n (pc2 := 47) 1 rfl dX6_copyFrom_46 rfl rfl ?_
  refine T_116_4 (pc2 := 50) kw_218 dX6_copyFrom_47 rfl ?_
  refine G_iconst (pc2 := 51) dX6_copyFrom_50 ic_0 rfl ?_
  refine G_aload_n (pc2 := 52) 0 rfl dX6_copyFrom_51 rfl rfl ?_
  refine T_22_4 (pc2 := 55) kw_218 dX6_copyFrom_52 rfl ?_
  refine G_iconst (pc2 := 56) dX6_copyFrom_55 ic_0 rfl ?_
  refine G_bipush (pc2 := 58) dX6_copyFrom_56 ib_9 rfl ?_
  refine YC (pc2 := 61) (fa_119 _ _ _ _) (fa_25 _ _ _ _) h kw_680 (by decide) cl_9 ⟨by decide, by decide⟩ (Nat.le_of_ble_eq_true rfl) dX6_copyFrom_58 rfl (fun F_716 h => ?_)
  refine G_aload_n (pc2 := 62) 1 rfl dX6_copyFrom_61 rfl rfl ?_
  refine T_116_5 (pc2 := 65) kw_221 dX6_copyFrom_62 rfl ?_
  refine G_iconst (pc2 := 66) dX6_copyFrom_65 ic_0 rfl ?_
  refine G_aload_n (pc2 := 67) 0 rfl dX6_copyFrom_66 rfl rfl ?_
  refine T_22_5 (pc2 := 70) kw_221 dX6_copyFrom_67 rfl ?_
  refine G_iconst (pc2 := 71) dX6_copyFrom_70 ic_0 rfl ?_
  refine G_bipush (pc2 := 73) dX6_copyFrom_71 ib_6 rfl ?_
  refine YC (pc2 := 76) (fa_120 _ _ _ _) (fa_26 _ _ _ _) h kw_680 (by decide) cl_6 ⟨by decide, by decide⟩ (Nat.le_of_ble_eq_true rfl) dX6_copyFrom_73 rfl (fun F_717 h => ?_)
  refine G_aload_n (pc2 := 77) 1 rfl dX6_copyFrom_76 rfl rfl ?_
  refine T_116_6 (pc2 := 80) kw_225 dX6_copyFrom_77 rfl ?_
  refine G_iconst (pc2 := 81) dX6_copyFrom_80 ic_0 rfl ?_
  refine G_aload_n (pc2 := 82) 0 rfl dX6_copyFrom_81 rfl rfl ?_
  refine T_22_6 (pc2 := 85) kw_225 dX6_copyFrom_82 rfl ?_
  refine G_iconst (pc2 := 86) dX6_copyFrom_85 ic_0 rfl ?_
  refine G_bipush (pc2 := 88) dX6_copyFrom_86 ib_6 rfl ?_
  refine YC (pc2 := 91) (fa_121 _ _ _ _) (fa_27 _ _ _ _) h kw_680 (by decide) cl_6 ⟨by decide, by decide⟩ (Nat.le_of_ble_eq_true rfl) dX6_copyFrom_88 rfl (fun F_718 h => ?_)
  refine G_aload_n (pc2 := 92) 1 rfl dX6_copyFrom_91 rfl rfl ?_
  refine T_116_7 (pc2 := 95) kw_228 dX6_copyFrom_92 rfl ?_
  refine G_iconst (pc2 := 96) dX6_copyFrom_95 ic_0 rfl ?_
  refine G_aload_n (pc2 := 97) 0 rfl dX6_copyFrom_96 rfl rfl ?_
  refine T_22_7 (pc2 := 100) kw_228 dX6_copyFrom_97 rfl ?_
  refine G_iconst (pc2 := 101) dX6_copyFrom_100 ic_0 rfl ?_
  refine G_bipush (pc2 := 103) dX6_copyFrom_101 ib_6 rfl ?_
  refine YC (pc2 := 106) (fa_122 _ _ _ _) (fa_28 _ _ _ _) h kw_680 (by decide) cl_6 ⟨by decide, by decide⟩ (Nat.le_of_ble_eq_true rfl) dX6_copyFrom_103 rfl (fun F_719 h => ?_)
  refine G_aload_n (pc2 := 107) 1 rfl dX6_copyFrom_106 rfl rfl ?_
  refine T_116_8 (pc2 := 110) kw_231 dX6_copyFrom_107 rfl ?_
  refine G_iconst (pc2 := 111) dX6_copyFrom_110 ic_0 rfl ?_
  refine G_aload_n (pc2 := 112) 0 rfl dX6_copyFrom_111 rfl rfl ?_
  refine T_22_8 (pc2 := 115) kw_231 dX6_copyFrom_112 rfl ?_
  refine G_iconst (pc2 := 116) dX6_copyFrom_115 ic_0 rfl ?_
  refine G_bipush (pc2 := 118) dX6_copyFrom_116 ib_6 rfl ?_
  refine YC (pc2 := 121) (fa_123 _ _ _ _) (fa_29 _ _ _ _) h kw_680 (by decide) cl_6 ⟨by decide, by decide⟩ (Nat.le_of_ble_eq_true rfl) dX6_copyFrom_118 rfl (fun F_720 h => ?_)
  refine G_aload_n (pc2 := 122) 1 rfl dX6_copyFrom_121 rfl rfl ?_
  refine T_116_9 (pc2 := 125) kw_234 dX6_copyFrom_122 rfl ?_
  refine G_iconst (pc2 := 126) dX6_copyFrom_125 ic_0 rfl ?_
  refine G_aload_n (pc2 := 127) 0 rfl dX6_copyFrom_126 rfl rfl ?_
  refine T_22_9 (pc2 := 130) kw_234 dX6_copyFrom_127 rfl ?_
  refine G_iconst (pc2 := 131) dX6_copyFrom_130 ic_0 rfl ?_
  refine G_bipush (pc2 := 133) dX6_copyFrom_131 ib_20 rfl ?_
  refine YC (pc2 := 136) (fa_124 _ _ _ _) (fa_30 _ _ _ _) h kw_680 (by decide) cl_20 ⟨by decide, by decide⟩ (Nat.le_of_ble_eq_true rfl) dX6_copyFrom_133 rfl (fun F_721 h => ?_)
  have ha := Option.some.inj h
  subst ha
  exact G_vret rfl dX6_copyFrom_136)
def f_X6_copyFrom_22_125 (I : WI) (F : WF) : Option (WI × WF) :=
  bnd (upd I 0 (I 20)) fun I_725 =>
  bnd (upd I_725 1 (I_725 21)) fun I_726 =>
  bnd (uF F 0 (va_cpy (F 80) (F 0) 0 0 9)) fun F_727 =>
  bnd (uF F_727 1 (va_cpy (F_727 81) (F_727 1) 0 0 9)) fun F_728 =>
  bnd (uF F_728 2 (va_cpy (F_728 82) (F_728 2) 0 0 9)) fun F_729 =>
  bnd (uF F_729 3 (va_cpy (F_729 83) (F_729 3) 0 0 6)) fun F_730 =>
  bnd (uF F_730 4 (va_cpy (F_730 84) (F_730 4) 0 0 6)) fun F_731 =>
  bnd (uF F_731 5 (va_cpy (F_731 85) (F_731 5) 0 0 6)) fun F_732 =>
  bnd (uF F_732 6 (va_cpy (F_732 86) (F_732 6) 0 0 6)) fun F_733 =>
  bnd (uF F_733 7 (va_cpy (F_733 87) (F_733 7) 0 0 20)) fun F_734 =>
  some (I_726, F_734)
set_option maxRecDepth 100000 in
set_option maxHeartbeats 4000000 in
theorem c_X6_copyFrom_22_125 {I : WI} {F : WF} {J : WI} {K : WF} {a : WI × WF} (h : f_X6_copyFrom_22_125  I F = some a) : CT md_X6_copyFrom yX6_copyFrom (rmD 1) [.ref 22, .ref 125] (mkW I F J K) none (mkW a.1 a.2 J K) := CT_of pn_X6 ⟨rfl, rfl⟩ (Nat.le_of_ble_eq_true rfl) (fun X => by
  show GG X md_X6_copyFrom (rmD 1) _ 0 0 0 [(0, .ref 22), (1, .ref 125)] [] (mkW I F J K)
  unfold f_X6_copyFrom_22_125 at h
  refine G_aload_n (pc2 := 1) 0 rfl dX6_copyFrom_0 rfl rfl ?_
  refine G_aload_n (pc2 := 2) 1 rfl dX6_copyFrom_1 rfl rfl ?_
  refine T_125_0 (pc2 := 5) kw_207 dX6_copyFrom_2 rfl ?_
  refine P_22_0 (pc2 := 8) h kw_207 dX6_copyFrom_5 rfl (fun I_725 h => ?_)
  refine G_aload_n (pc2 := 9) 0 rfl dX6_copyFrom_8 rfl rfl ?_
  refine G_aload_n (pc2 := 10) 1 rfl dX6_copyFrom_9 rfl rfl ?_
  refine T_125_1 (pc2 := 13) kw_210 dX6_copyFrom_10 rfl ?_
  refine P_22_1 (pc2 := 16) h kw_210 dX6_copyFrom_13 rfl (fun I_726 h => ?_)
  refine G_aload_n (pc2 := 17) 1 rfl dX6_copyFrom_16 rfl rfl ?_
  refine T_125_2 (pc2 := 20) kw_212 dX6_copyFrom_17 rfl ?_
  refine G_iconst (pc2 := 21) dX6_copyFrom_20 ic_0 rfl ?_
  refine G_aload_n (pc2 := 22) 0 rfl dX6_copyFrom_21 rfl rfl ?_
  refine T_22_2 (pc2 := 25) kw_212 dX6_copyFrom_22 rfl ?_
  refine G_iconst (pc2 := 26) dX6_copyFrom_25 ic_0 rfl ?_
  refine G_bipush (pc2 := 28) dX6_copyFrom_26 ib_9 rfl ?_
  refine YC (pc2 := 31) (fa_126 _ _ _ _) (fa_23 _ _ _ _) h kw_680 (by decide) cl_9 ⟨by decide, by decide⟩ (Nat.le_of_ble_eq_true rfl) dX6_copyFrom_28 rfl (fun F_727 h => ?_)
  refine G_aload_n (pc2 := 32) 1 rfl dX6_copyFrom_31 rfl rfl ?_
  refine T_125_3 (pc2 := 35) kw_215 dX6_copyFrom_32 rfl ?_
  refine G_iconst (pc2 := 36) dX6_copyFrom_35 ic_0 rfl ?_
  refine G_aload_n (pc2 := 37) 0 rfl dX6_copyFrom_36 rfl rfl ?_
  refine T_22_3 (pc2 := 40) kw_215 dX6_copyFrom_37 rfl ?_
  refine G_iconst (pc2 := 41) dX6_copyFrom_40 ic_0 rfl ?_
  refine G_bipush (pc2 := 43) dX6_copyFrom_41 ib_9 rfl ?_
  refine YC (pc2 := 46) (fa_127 _ _ _ _) (fa_24 _ _ _ _) h kw_680 (by decide) cl_9 ⟨by decide, by decide⟩ (Nat.le_of_ble_eq_true rfl) dX6_copyFrom_43 rfl (fun F_728 h => ?_)
  refine G_aload_n (pc2 := 47) 1 rfl dX6_copyFrom_46 rfl rfl ?_
  refine T_125_4 (pc2 := 50) kw_218 dX6_copyFrom_47 rfl ?_
  refine G_iconst (pc2 := 51) dX6_copyFrom_50 ic_0 rfl ?_
  refine G_aload_n (pc2 := 52) 0 rfl dX6_copyFrom_51 rfl rfl ?_
  refine T_22_4 (pc2 := 55) kw_218 dX6_copyFrom_52 rfl ?_
  refine G_iconst (pc2 := 56) dX6_copyFrom_55 ic_0 rfl ?_
  refine G_bipush (pc2 := 58) dX6_copyFrom_56 ib_9 rfl ?_
  refine YC (pc2 := 61) (fa_128 _ _ _ _) (fa_25 _ _ _ _) h kw_680 (by decide) cl_9 ⟨by decide, by decide⟩ (Nat.le_of_ble_eq_true rfl) dX6_copyFrom_58 rfl (fun F_729 h => ?_)
  refine G_aload_n (pc2 := 62) 1 rfl dX6_copyFrom_61 rfl rfl ?_
  refine T_125_5 (pc2 := 65) kw_221 dX6_copyFrom_62 rfl ?_
  refine G_iconst (pc2 := 66) dX6_copyFrom_65 ic_0 rfl ?_
  refine G_aload_n (pc2 := 67) 0 rfl dX6_copyFrom_66 rfl rfl ?_
  refine T_22_5 (pc2 := 70) kw_221 dX6_copyFrom_67 rfl ?_
  refine G_iconst (pc2 := 71) dX6_copyFrom_70 ic_0 rfl ?_
  refine G_bipush (pc2 := 73) dX6_copyFrom_71 ib_6 rfl ?_
  refine YC (pc2 := 76) (fa_129 _ _ _ _) (fa_26 _ _ _ _) h kw_680 (by decide) cl_6 ⟨by decide, by decide⟩ (Nat.le_of_ble_eq_true rfl) dX6_copyFrom_73 rfl (fun F_730 h => ?_)
  refine G_aload_n (pc2 := 77) 1 rfl dX6_copyFrom_76 rfl rfl ?_
  refine T_125_6 (pc2 := 80) kw_225 dX6_copyFrom_77 rfl ?_
  refine G_iconst (pc2 := 81) dX6_copyFrom_80 ic_0 rfl ?_
  refine G_aload_n (pc2 := 82) 0 rfl dX6_copyFrom_81 rfl rfl ?_
  refine T_22_6 (pc2 := 85) kw_225 dX6_copyFrom_82 rfl ?_
  refine G_iconst (pc2 := 86) dX6_copyFrom_85 ic_0 rfl ?_
  refine G_bipush (pc2 := 88) dX6_copyFrom_86 ib_6 rfl ?_
  refine YC (pc2 := 91) (fa_130 _ _ _ _) (fa_27 _ _ _ _) h kw_680 (by decide) cl_6 ⟨by decide, by decide⟩ (Nat.le_of_ble_eq_true rfl) dX6_copyFrom_88 rfl (fun F_731 h => ?_)
  refine G_aload_n (pc2 := 92) 1 rfl dX6_copyFrom_91 rfl rfl ?_
  refine T_125_7 (pc2 := 95) kw_228 dX6_copyFrom_92 rfl ?_
  refine G_iconst (pc2 := 96) dX6_copyFrom_95 ic_0 rfl ?_
  refine G_aload_n (pc2 := 97) 0 rfl dX6_copyFrom_96 rfl rfl ?_
  refine T_22_7 (pc2 := 100) kw_228 dX6_copyFrom_97 rfl ?_
  refine G_iconst (pc2 := 101) dX6_copyFrom_100 ic_0 rfl ?_
  refine G_bipush (pc2 := 103) dX6_copyFrom_101 ib_6 rfl ?_
  refine YC (pc2 := 106) (fa_131 _ _ _ _) (fa_28 _ _ _ _) h kw_680 (by decide) cl_6 ⟨by decide, by decide⟩ (Nat.le_of_ble_eq_true rfl) dX6_copyFrom_103 rfl (fun F_732 h => ?_)
  refine G_aload_n (pc2 := 107) 1 rfl dX6_copyFrom_106 rfl rfl ?_
  refine T_125_8 (pc2 := 110) kw_231 dX6_copyFrom_107 rfl ?_
  refine G_iconst (pc2 := 111) dX6_copyFrom_110 ic_0 rfl ?_
  refine G_aload_n (pc2 := 112) 0 rfl dX6_copyFrom_111 rfl rfl ?_
  refine T_22_8 (pc2 := 115) kw_231 dX6_copyFrom_112 rfl ?_
  refine G_iconst (pc2 := 116) dX6_copyFrom_115 ic_0 rfl ?_
  refine G_bipush (pc2 := 118) dX6_copyFrom_116 ib_6 rfl ?_
  refine YC (pc2 := 121) (fa_132 _ _ _ _) (fa_29 _ _ _ _) h kw_680 (by decide) cl_6 ⟨by decide, by decide⟩ (Nat.le_of_ble_eq_true rfl) dX6_copyFrom_118 rfl (fun F_733 h => ?_)
  refine G_aload_n (pc2 := 122) 1 rfl dX6_copyFrom_121 rfl rfl ?_
  refine T_125_9 (pc2 := 125) kw_234 dX6_copyFrom_122 rfl ?_
  refine G_iconst (pc2 := 126) dX6_copyFrom_125 ic_0 rfl ?_
  refine G_aload_n (pc2 := 127) 0 rfl dX6_copyFrom_126 rfl rfl ?_
  refine T_22_9 (pc2 := 130) kw_234 dX6_copyFrom_127 rfl ?_
  refine G_iconst (pc2 := 131) dX6_copyFrom_130 ic_0 rfl ?_
  refine G_bipush (pc2 := 133) dX6_copyFrom_131 ib_20 rfl ?_
  refine YC (pc2 := 136) (fa_133 _ _ _ _) (fa_30 _ _ _ _) h kw_680 (by decide) cl_20 ⟨by decide, by decide⟩ (Nat.le_of_ble_eq_true rfl) dX6_copyFrom_133 rfl (fun F_734 h => ?_)
  have ha := Option.some.inj h
  subst ha
  exact G_vret rfl dX6_copyFrom_136)
def f_X6_copyFrom_22_134 (I : WI) (F : WF) : Option (WI × WF) :=
  bnd (upd I 0 (I 22)) fun I_738 =>
  bnd (upd I_738 1 (I_738 23)) fun I_739 =>
  bnd (uF F 0 (va_cpy (F 88) (F 0) 0 0 9)) fun F_740 =>
  bnd (uF F_740 1 (va_cpy (F_740 89) (F_740 1) 0 0 9)) fun F_741 =>
  bnd (uF F_741 2 (va_cpy (F_741 90) (F_741 2) 0 0 9)) fun F_742 =>
  bnd (uF F_742 3 (va_cpy (F_742 91) (F_742 3) 0 0 6)) fun F_743 =>
  bnd (uF F_743 4 (va_cpy (F_743 92) (F_743 4) 0 0 6)) fun F_744 =>
  bnd (uF F_744 5 (va_cpy (F_744 93) (F_744 5) 0 0 6)) fun F_745 =>
  bnd (uF F_745 6 (va_cpy (F_745 94) (F_745 6) 0 0 6)) fun F_746 =>
  bnd (uF F_746 7 (va_cpy (F_746 95) (F_746 7) 0 0 20)) fun F_747 =>
  some (I_739, F_747)
set_option maxRecDepth 100000 in
set_option maxHeartbeats 4000000 in
theorem c_X6_copyFrom_22_134 {I : WI} {F : WF} {J : WI} {K : WF} {a : WI × WF} (h : f_X6_copyFrom_22_134  I F = some a) : CT md_X6_copyFrom yX6_copyFrom (rmD 1) [.ref 22, .ref 134] (mkW I F J K) none (mkW a.1 a.2 J K) := CT_of pn_X6 ⟨rfl, rfl⟩ (Nat.le_of_ble_eq_true rfl) (fun X => by
  show GG X md_X6_copyFrom (rmD 1) _ 0 0 0 [(0, .ref 22), (1, .ref 134)] [] (mkW I F J K)
  unfold f_X6_copyFrom_22_134 at h
  refine G_aload_n (pc2 := 1) 0 rfl dX6_copyFrom_0 rfl rfl ?_
  refine G_aload_n (pc2 := 2) 1 rfl dX6_copyFrom_1 rfl rfl ?_
  refine T_134_0 (pc2 := 5) kw_207 dX6_copyFrom_2 rfl ?_
  refine P_22_0 (pc2 := 8) h kw_207 dX6_copyFrom_5 rfl (fun I_738 h => ?_)
  refine G_aload_n (pc2 := 9) 0 rfl dX6_copyFrom_8 rfl rfl ?_
  refine G_aload_n (pc2 := 10) 1 rfl dX6_copyFrom_9 rfl rfl ?_
  refine T_134_1 (pc2 := 13) kw_210 dX6_copyFrom_10 rfl ?_
  refine P_22_1 (pc2 := 16) h kw_210 dX6_copyFrom_13 rfl (fun I_739 h => ?_)
  refine G_aload_n (pc2 := 17) 1 rfl dX6_copyFrom_16 rfl rfl ?_
  refine T_134_2 (pc2 := 20) kw_212 dX6_copyFrom_17 rfl ?_
  refine G_iconst (pc2 := 21) dX6_copyFrom_20 ic_0 rfl ?_
  refine G_aload_n (pc2 := 22) 0 rfl dX6_copyFrom_21 rfl rfl ?_
  refine T_22_2 (pc2 := 25) kw_212 dX6_copyFrom_22 rfl ?_
  refine G_iconst (pc2 := 26) dX6_copyFrom_25 ic_0 rfl ?_
  refine G_bipush (pc2 := 28) dX6_copyFrom_26 ib_9 rfl ?_
  refine YC (pc2 := 31) (fa_135 _ _ _ _) (fa_23 _ _ _ _) h kw_680 (by decide) cl_9 ⟨by decide, by decide⟩ (Nat.le_of_ble_eq_true rfl) dX6_copyFrom_28 rfl (fun F_740 h => ?_)
  refine G_aload_n (pc2 := 32) 1 rfl dX6_copyFrom_31 rfl rfl ?_
  refine T_134_3 (pc2 := 35) kw_215 dX6_copyFrom_32 rfl ?_
  refine G_iconst (pc2 := 36) dX6_copyFrom_35 ic_0 rfl ?_
  refine G_aload_n (pc2 := 37) 0 rfl dX6_copyFrom_36 rfl rfl ?_
  refine T_22_3 (pc2 := 40) kw_215 dX6_copyFrom_37 rfl ?_
  refine G_iconst (pc2 := 41) dX6_copyFrom_40 ic_0 rfl ?_
  refine G_bipush (pc2 := 43) dX6_copyFrom_41 ib_9 rfl ?_
  refine YC (pc2 := 46) (fa_136 _ _ _ _) (fa_24 _ _ _ _) h kw_680 (by decide) cl_9 ⟨by decide, by decide⟩ (Nat.le_of_ble_eq_true rfl) dX6_copyFrom_43 rfl (fun F_741 h => ?_)
  refine G_aload_n (pc2 := 47) 1 rfl dX6_copyFrom_46 rfl rfl ?_
  refine T_134_4 (pc2 := 50) kw_218 dX6_copyFrom_47 rfl ?_
  refine G_iconst (pc2 := 51) dX6_copyFrom_50 ic_0 rfl ?_
  refine G_aload_n (pc2 := 52) 0 rfl dX6_copyFrom_51 rfl rfl ?_
  refine T_22_4 (pc2 := 55) kw_218 dX6_copyFrom_52 rfl ?_
  refine G_iconst (pc2 := 56) dX6_copyFrom_55 ic_0 rfl ?_
  refine G_bipush (pc2 := 58) dX6_copyFrom_56 ib_9 rfl ?_
  refine YC (pc2 := 61) (fa_137 _ _ _ _) (fa_25 _ _ _ _) h kw_680 (by decide) cl_9 ⟨by decide, by decide⟩ (Nat.le_of_ble_eq_true rfl) dX6_copyFrom_58 rfl (fun F_742 h => ?_)
  refine G_aload_n (pc2 := 62) 1 rfl dX6_copyFrom_61 rfl rfl ?_
  refine T_134_5 (pc2 := 65) kw_221 dX6_copyFrom_62 rfl ?_
  refine G_iconst (pc2 := 66) dX6_copyFrom_65 ic_0 rfl ?_
  refine G_aload_n (pc2 := 67) 0 rfl dX6_copyFrom_66 rfl rfl ?_
  refine T_22_5 (pc2 := 70) kw_221 dX6_copyFrom_67 rfl ?_
  refine G_iconst (pc2 := 71) dX6_copyFrom_70 ic_0 rfl ?_
  refine G_bipush (pc2 := 73) dX6_copyFrom_71 ib_6 rfl ?_
  refine YC (pc2 := 76) (fa_138 _ _ _ _) (fa_26 _ _ _ _) h kw_680 (by decide) cl_6 ⟨by decide, by decide⟩ (Nat.le_of_ble_eq_true rfl) dX6_copyFrom_73 rfl (fun F_743 h => ?_)
  refine G_aload_n (pc2 := 77) 1 rfl dX6_copyFrom_76 rfl rfl ?_
  refine T_134_6 (pc2 := 80) kw_225 dX6_copyFrom_77 rfl ?_
  refine G_iconst (pc2 := 81) dX6_copyFrom_80 ic_0 rfl ?_
  refine G_aload_n (pc2 := 82) 0 rfl dX6_copyFrom_81 rfl rfl ?_
  refine T_22_6 (pc2 := 85) kw_225 dX6_copyFrom_82 rfl ?_
  refine G_iconst (pc2 := 86) dX6_copyFrom_85 ic_0 rfl ?_
  refine G_bipush (pc2 := 88) dX6_copyFrom_86 ib_6 rfl ?_
  refine YC (pc2 := 91) (fa_139 _ _ _ _) (fa_27 _ _ _ _) h kw_680 (by decide) cl_6 ⟨by decide, by decide⟩ (Nat.le_of_ble_eq_true rfl) dX6_copyFrom_88 rfl (fun F_744 h => ?_)
  refine G_aload_n (pc2 := 92) 1 rfl dX6_copyFrom_91 rfl rfl ?_
  refine T_134_7 (pc2 := 95) kw_228 dX6_copyFrom_92 rfl ?_
  refine G_iconst (pc2 := 96) dX6_copyFrom_95 ic_0 rfl ?_
  refine G_aload_n (pc2 := 97) 0 rfl dX6_copyFrom_96 rfl rfl ?_
  refine T_22_7 (pc2 := 100) kw_228 dX6_copyFrom_97 rfl ?_
  refine G_iconst (pc2 := 101) dX6_copyFrom_100 ic_0 rfl ?_
  refine G_bipush (pc2 := 103) dX6_copyFrom_101 ib_6 rfl ?_
  refine YC (pc2 := 106) (fa_140 _ _ _ _) (fa_28 _ _ _ _) h kw_680 (by decide) cl_6 ⟨by decide, by decide⟩ (Nat.le_of_ble_eq_true rfl) dX6_copyFrom_103 rfl (fun F_745 h => ?_)
  refine G_aload_n (pc2 := 107) 1 rfl dX6_copyFrom_106 rfl rfl ?_
  refine T_134_8 (pc2 := 110) kw_231 dX6_copyFrom_107 rfl ?_
  refine G_iconst (pc2 := 111) dX6_copyFrom_110 ic_0 rfl ?_
  refine G_aload_n (pc2 := 112) 0 rfl dX6_copyFrom_111 rfl rfl ?_
  refine T_22_8 (pc2 := 115) kw_231 dX6_copyFrom_112 rfl ?_
  refine G_iconst (pc2 := 116) dX6_copyFrom_115 ic_0 rfl ?_
  refine G_bipush (pc2 := 118) dX6_copyFrom_116 ib_6 rfl ?_
  refine YC (pc2 := 121) (fa_141 _ _ _ _) (fa_29 _ _ _ _) h kw_680 (by decide) cl_6 ⟨by decide, by decide⟩ (Nat.le_of_ble_eq_true rfl) dX6_copyFrom_118 rfl (fun F_746 h => ?_)
  refine G_aload_n (pc2 := 122) 1 rfl dX6_copyFrom_121 rfl rfl ?_
  refine T_134_9 (pc2 := 125) kw_234 dX6_copyFrom_122 rfl ?_
  refine G_iconst (pc2 := 126) dX6_copyFrom_125 ic_0 rfl ?_
  refine G_aload_n (pc2 := 127) 0 rfl dX6_copyFrom_126 rfl rfl ?_
  refine T_22_9 (pc2 := 130) kw_234 dX6_copyFrom_127 rfl ?_
  refine G_iconst (pc2 := 131) dX6_copyFrom_130 ic_0 rfl ?_
  refine G_bipush (pc2 := 133) dX6_copyFrom_131 ib_20 rfl ?_
  refine YC (pc2 := 136) (fa_142 _ _ _ _) (fa_30 _ _ _ _) h kw_680 (by decide) cl_20 ⟨by decide, by decide⟩ (Nat.le_of_ble_eq_true rfl) dX6_copyFrom_133 rfl (fun F_747 h => ?_)
  have ha := Option.some.inj h
  subst ha
  exact G_vret rfl dX6_copyFrom_136)
def f_X6_copyFrom_22_143 (I : WI) (F : WF) : Option (WI × WF) :=
  bnd (upd I 0 (I 24)) fun I_751 =>
  bnd (upd I_751 1 (I_751 25)) fun I_752 =>
  bnd (uF F 0 (va_cpy (F 96) (F 0) 0 0 9)) fun F_753 =>
  bnd (uF F_753 1 (va_cpy (F_753 97) (F_753 1) 0 0 9)) fun F_754 =>
  bnd (uF F_754 2 (va_cpy (F_754 98) (F_754 2) 0 0 9)) fun F_755 =>
  bnd (uF F_755 3 (va_cpy (F_755 99) (F_755 3) 0 0 6)) fun F_756 =>
  bnd (uF F_756 4 (va_cpy (F_756 100) (F_756 4) 0 0 6)) fun F_757 =>
  bnd (uF F_757 5 (va_cpy (F_757 101) (F_757 5) 0 0 6)) fun F_758 =>
  bnd (uF F_758 6 (va_cpy (F_758 102) (F_758 6) 0 0 6)) fun F_759 =>
  bnd (uF F_759 7 (va_cpy (F_759 103) (F_759 7) 0 0 20)) fun F_760 =>
  some (I_752, F_760)
set_option maxRecDepth 100000 in
set_option maxHeartbeats 4000000 in
theorem c_X6_copyFrom_22_143 {I : WI} {F : WF} {J : WI} {K : WF} {a : WI × WF} (h : f_X6_copyFrom_22_143  I F = some a) : CT md_X6_copyFrom yX6_copyFrom (rmD 1) [.ref 22, .ref 143] (mkW I F J K) none (mkW a.1 a.2 J K) := CT_of pn_X6 ⟨rfl, rfl⟩ (Nat.le_of_ble_eq_true rfl) (fun X => by
  show GG X md_X6_copyFrom (rmD 1) _ 0 0 0 [(0, .ref 22), (1, .ref 143)] [] (mkW I F J K)
  unfold f_X6_copyFrom_22_143 at h
  refine G_aload_n (pc2 := 1) 0 rfl dX6_copyFrom_0 rfl rfl ?_
  refine G_aload_n (pc2 := 2) 1 rfl dX6_copyFrom_1 rfl rfl ?_
  refine T_143_0 (pc2 := 5) kw_207 dX6_copyFrom_2 rfl ?_
  refine P_22_0 (pc2 := 8) h kw_207 dX6_copyFrom_5 rfl (fun I_751 h => ?_)
  refine G_aload_n (pc2 := 9) 0 rfl dX6_copyFrom_8 rfl rfl ?_
  refine G_aload_n (pc2 := 10) 1 rfl dX6_copyFrom_9 rfl rfl ?_
  refine T_143_1 (pc2 := 13) kw_210 dX6_copyFrom_10 rfl ?_
  refine P_22_1 (pc2 := 16) h kw_210 dX6_copyFrom_13 rfl (fun I_752 h => ?_)
  refine G_aload_n (pc2 := 17) 1 rfl dX6_copyFrom_16 rfl rfl ?_
  refine T_143_2 (pc2 := 20) kw_212 dX6_copyFrom_17 rfl ?_
  refine G_iconst (pc2 := 21) dX6_copyFrom_20 ic_0 rfl ?_
  refine G_aload_n (pc2 := 22) 0 rfl dX6_copyFrom_21 rfl rfl ?_
  refine T_22_2 (pc2 := 25) kw_212 dX6_copyFrom_22 rfl ?_
  refine G_iconst (pc2 := 26) dX6_copyFrom_25 ic_0 rfl ?_
  refine G_bipush (pc2 := 28) dX6_copyFrom_26 ib_9 rfl ?_
  refine YC (pc2 := 31) (fa_144 _ _ _ _) (fa_23 _ _ _ _) h kw_680 (by decide) cl_9 ⟨by decide, by decide⟩ (Nat.le_of_ble_eq_true rfl) dX6_copyFrom_28 rfl (fun F_753 h => ?_)
  refine G_aload_n (pc2 := 32) 1 rfl dX6_copyFrom_31 rfl rfl ?_
  refine T_143_3 (pc2 := 35) kw_215 dX6_copyFrom_32 rfl ?_
  refine G_iconst (pc2 := 36) dX6_copyFrom_35 ic_0 rfl ?_
  refine G_aload_n (pc2 := 37) 0 rfl dX6_copyFrom_36 rfl rfl ?_
  refine T_22_3 (pc2 := 40) kw_215 dX6_copyFrom_37 rfl ?_
  refine G_iconst (pc2 := 41) dX6_copyFrom_40 ic_0 rfl ?_
  refine G_bipush (pc2 := 43) dX6_copyFrom_41 ib_9 rfl ?_
  refine YC (pc2 := 46) (fa_145 _ _ _ _) (fa_24 _ _ _ _) h kw_680 (by decide) cl_9 ⟨by decide, by decide⟩ (Nat.le_of_ble_eq_true rfl) dX6_copyFrom_43 rfl (fun F_754 h => ?_)
  refine G_aload_n (pc2 := 47) 1 rfl dX6_copyFrom_46 rfl rfl ?_
  refine T_143_4 (pc2 := 50) kw_218 dX6_copyFrom_47 rfl ?_
  refine G_iconst (pc2 := 51) dX6_copyFrom_50 ic_0 rfl ?_
  refine G_aload_n (pc2 := 52) 0 rfl dX6_copyFrom_51 rfl rfl ?_
  refine T_22_4 (pc2 := 55) kw_218 dX6_copyFrom_52 rfl ?_
  refine G_iconst (pc2 := 56) dX6_copyFrom_55 ic_0 rfl ?_
  refine G_bipush (pc2 := 58) dX6_copyFrom_56 ib_9 rfl ?_
  refine YC (pc2 := 61) (fa_146 _ _ _ _) (fa_25 _ _ _ _) h kw_680 (by decide) cl_9 ⟨by decide, by decide⟩ (Nat.le_of_ble_eq_true rfl) dX6_copyFrom_58 rfl (fun F_755 h => ?_)
  refine G_aload_n (pc2 := 62) 1 rfl dX6_copyFrom_61 rfl rfl ?_
  refine T_143_5 (pc2 := 65) kw_221 dX6_copyFrom_62 rfl ?_
  refine G_iconst (pc2 := 66) dX6_copyFrom_65 ic_0 rfl ?_
  refine G_aload_n (pc2 := 67) 0 rfl dX6_copyFrom_66 rfl rfl ?_
  refine T_22_5 (pc2 := 70) kw_221 dX6_copyFrom_67 rfl ?_
  refine G_iconst (pc2 := 71) dX6_copyFrom_70 ic_0 rfl ?_
  refine G_bipush (pc2 := 73) dX6_copyFrom_71 ib_6 rfl ?_
  refine YC (pc2 := 76) (fa_147 _ _ _ _) (fa_26 _ _ _ _) h kw_680 (by decide) cl_6 ⟨by decide, by decide⟩ (Nat.le_of_ble_eq_true rfl) dX6_copyFrom_73 rfl (fun F_756 h => ?_)
  refine G_aload_n (pc2 := 77) 1 rfl dX6_copyFrom_76 rfl rfl ?_
  refine T_143_6 (pc2 := 80) kw_225 dX6_copyFrom_77 rfl ?_
  refine G_iconst (pc2 := 81) dX6_copyFrom_80 ic_0 rfl ?_
  refine G_aload_n (pc2 := 82) 0 rfl dX6_copyFrom_81 rfl rfl ?_
  refine T_22_6 (pc2 := 85) kw_225 dX6_copyFrom_82 rfl ?_
  refine G_iconst (pc2 := 86) dX6_copyFrom_85 ic_0 rfl ?_
  refine G_bipush (pc2 := 88) dX6_copyFrom_86 ib_6 rfl ?_
  refine YC (pc2 := 91) (fa_148 _ _ _ _) (fa_27 _ _ _ _) h kw_680 (by decide) cl_6 ⟨by decide, by decide⟩ (Nat.le_of_ble_eq_true rfl) dX6_copyFrom_88 rfl (fun F_757 h => ?_)
  refine G_aload_n (pc2 := 92) 1 rfl dX6_copyFrom_91 rfl rfl ?_
  refine T_143_7 (pc2 := 95) kw_228 dX6_copyFrom_92 rfl ?_
  refine G_iconst (pc2 := 96) dX6_copyFrom_95 ic_0 rfl ?_
  refine G_aload_n (pc2 := 97) 0 rfl dX6_copyFrom_96 rfl rfl ?_
  refine T_22_7 (pc2 := 100) kw_228 dX6_copyFrom_97 rfl ?_
  refine G_iconst (pc2 := 101) dX6_copyFrom_100 ic_0 rfl ?_
  refine G_bipush (pc2 := 103) dX6_copyFrom_101 ib_6 rfl ?_
  refine YC (pc2 := 106) (fa_149 _ _ _ _) (fa_28 _ _ _ _) h kw_680 (by decide) cl_6 ⟨by decide, by decide⟩ (Nat.le_of_ble_eq_true rfl) dX6_copyFrom_103 rfl (fun F_758 h => ?_)
  refine G_aload_n (pc2 := 107) 1 rfl dX6_copyFrom_106 rfl rfl ?_
  refine T_143_8 (pc2 := 110) kw_231 dX6_copyFrom_107 rfl ?_
  refine G_iconst (pc2 := 111) dX6_copyFrom_110 ic_0 rfl ?_
  refine G_aload_n (pc2 := 112) 0 rfl dX6_copyFrom_111 rfl rfl ?_
  refine T_22_8 (pc2 := 115) kw_231 dX6_copyFrom_112 rfl ?_
  refine G_iconst (pc2 := 116) dX6_copyFrom_115 ic_0 rfl ?_
  refine G_bipush (pc2 := 118) dX6_copyFrom_116 ib_6 rfl ?_
  refine YC (pc2 := 121) (fa_150 _ _ _ _) (fa_29 _ _ _ _) h kw_680 (by decide) cl_6 ⟨by decide, by decide⟩ (Nat.le_of_ble_eq_true rfl) dX6_copyFrom_118 rfl (fun F_759 h => ?_)
  refine G_aload_n (pc2 := 122) 1 rfl dX6_copyFrom_121 rfl rfl ?_
  refine T_143_9 (pc2 := 125) kw_234 dX6_copyFrom_122 rfl ?_
  refine G_iconst (pc2 := 126) dX6_copyFrom_125 ic_0 rfl ?_
  refine G_aload_n (pc2 := 127) 0 rfl dX6_copyFrom_126 rfl rfl ?_
  refine T_22_9 (pc2 := 130) kw_234 dX6_copyFrom_127 rfl ?_
  refine G_iconst (pc2 := 131) dX6_copyFrom_130 ic_0 rfl ?_
  refine G_bipush (pc2 := 133) dX6_copyFrom_131 ib_20 rfl ?_
  refine YC (pc2 := 136) (fa_151 _ _ _ _) (fa_30 _ _ _ _) h kw_680 (by decide) cl_20 ⟨by decide, by decide⟩ (Nat.le_of_ble_eq_true rfl) dX6_copyFrom_133 rfl (fun F_760 h => ?_)
  have ha := Option.some.inj h
  subst ha
  exact G_vret rfl dX6_copyFrom_136)
def f_X6_copyFrom_22_152 (I : WI) (F : WF) : Option (WI × WF) :=
  bnd (upd I 0 (I 26)) fun I_764 =>
  bnd (upd I_764 1 (I_764 27)) fun I_765 =>
  bnd (uF F 0 (va_cpy (F 104) (F 0) 0 0 9)) fun F_766 =>
  bnd (uF F_766 1 (va_cpy (F_766 105) (F_766 1) 0 0 9)) fun F_767 =>
  bnd (uF F_767 2 (va_cpy (F_767 106) (F_767 2) 0 0 9)) fun F_768 =>
  bnd (uF F_768 3 (va_cpy (F_768 107) (F_768 3) 0 0 6)) fun F_769 =>
  bnd (uF F_769 4 (va_cpy (F_769 108) (F_769 4) 0 0 6)) fun F_770 =>
  bnd (uF F_770 5 (va_cpy (F_770 109) (F_770 5) 0 0 6)) fun F_771 =>
  bnd (uF F_771 6 (va_cpy (F_771 110) (F_771 6) 0 0 6)) fun F_772 =>
  bnd (uF F_772 7 (va_cpy (F_772 111) (F_772 7) 0 0 20)) fun F_773 =>
  some (I_765, F_773)
set_option maxRecDepth 100000 in
set_option maxHeartbeats 4000000 in
theorem c_X6_copyFrom_22_152 {I : WI} {F : WF} {J : WI} {K : WF} {a : WI × WF} (h : f_X6_copyFrom_22_152  I F = some a) : CT md_X6_copyFrom yX6_copyFrom (rmD 1) [.ref 22, .ref 152] (mkW I F J K) none (mkW a.1 a.2 J K) := CT_of pn_X6 ⟨rfl, rfl⟩ (Nat.le_of_ble_eq_true rfl) (fun X => by
  show GG X md_X6_copyFrom (rmD 1) _ 0 0 0 [(0, .ref 22), (1, .ref 152)] [] (mkW I F J K)
  unfold f_X6_copyFrom_22_152 at h
  refine G_aload_n (pc2 := 1) 0 rfl dX6_copyFrom_0 rfl rfl ?_
  refine G_aload_n (pc2 := 2) 1 rfl dX6_copyFrom_1 rfl rfl ?_
  refine T_152_0 (pc2 := 5) kw_207 dX6_copyFrom_2 rfl ?_
  refine P_22_0 (pc2 := 8) h kw_207 dX6_copyFrom_5 rfl (fun I_764 h => ?_)
  refine G_aload_n (pc2 := 9) 0 rfl dX6_copyFrom_8 rfl rfl ?_
  refine G_aload_n (pc2 := 10) 1 rfl dX6_copyFrom_9 rfl rfl ?_
  refine T_152_1 (pc2 := 13) kw_210 dX6_copyFrom_10 rfl ?_
  refine P_22_1 (pc2 := 16) h kw_210 dX6_copyFrom_13 rfl (fun I_765 h => ?_)
  refine G_aload_n (pc2 := 17) 1 rfl dX6_copyFrom_16 rfl rfl ?_
  refine T_152_2 (pc2 := 20) kw_212 dX6_copyFrom_17 rfl ?_
  refine G_iconst (pc2 := 21) dX6_copyFrom_20 ic_0 rfl ?_
  refine G_aload_n (pc2 := 22) 0 rfl dX6_copyFrom_21 rfl rfl ?_
  refine T_22_2 (pc2 := 25) kw_212 dX6_copyFrom_22 rfl ?_
  refine G_iconst (pc2 := 26) dX6_copyFrom_25 ic_0 rfl ?_
  refine G_bipush (pc2 := 28) dX6_copyFrom_26 ib_9 rfl ?_
  refine YC (pc2 := 31) (fa_153 _ _ _ _) (fa_23 _ _ _ _) h kw_680 (by decide) cl_9 ⟨by decide, by decide⟩ (Nat.le_of_ble_eq_true rfl) dX6_copyFrom_28 rfl (fun F_766 h => ?_)
  refine G_aload_n (pc2 := 32) 1 rfl dX6_copyFrom_31 rfl rfl ?_
  refine T_152_3 (pc2 := 35) kw_215 dX6_copyFrom_32 rfl ?_
  refine G_iconst (pc2 := 36) dX6_copyFrom_35 ic_0 rfl ?_
  refine G_aload_n (pc2 := 37) 0 rfl dX6_copyFrom_36 rfl rfl ?_
  refine T_22_3 (pc2 := 40) kw_215 dX6_copyFrom_37 rfl ?_
  refine G_iconst (pc2 := 41) dX6_copyFrom_40 ic_0 rfl ?_
  refine G_bipush (pc2 := 43) dX6_copyFrom_41 ib_9 rfl ?_
  refine YC (pc2 := 46) (fa_154 _ _ _ _) (fa_24 _ _ _ _) h kw_680 (by decide) cl_9 ⟨by decide, by decide⟩ (Nat.le_of_ble_eq_true rfl) dX6_copyFrom_43 rfl (fun F_767 h => ?_)
  refine G_aload_n (pc2 := 47) 1 rfl dX6_copyFrom_46 rfl rfl ?_
  refine T_152_4 (pc2 := 50) kw_218 dX6_copyFrom_47 rfl ?_
  refine G_iconst (pc2 := 51) dX6_copyFrom_50 ic_0 rfl ?_
  refine G_aload_n (pc2 := 52) 0 rfl dX6_copyFrom_51 rfl rfl ?_
  refine T_22_4 (pc2 := 55) kw_218 dX6_copyFrom_52 rfl ?_
  refine G_iconst (pc2 := 56) dX6_copyFrom_55 ic_0 rfl ?_
  refine G_bipush (pc2 := 58) dX6_copyFrom_56 ib_9 rfl ?_
  refine YC (pc2 := 61) (fa_155 _ _ _ _) (fa_25 _ _ _ _) h kw_680 (by decide) cl_9 ⟨by decide, by decide⟩ (Nat.le_of_ble_eq_true rfl) dX6_copyFrom_58 rfl (fun F_768 h => ?_)
  refine G_aload_n (pc2 := 62) 1 rfl dX6_copyFrom_61 rfl rfl ?_
  refine T_152_5 (pc2 := 65) kw_221 dX6_copyFrom_62 rfl ?_
  refine G_iconst (pc2 := 66) dX6_copyFrom_65 ic_0 rfl ?_
  refine G_aload_n (pc2 := 67) 0 rfl dX6_copyFrom_66 rfl rfl ?_
  refine T_22_5 (pc2 := 70) kw_221 dX6_copyFrom_67 rfl ?_
  refine G_iconst (pc2 := 71) dX6_copyFrom_70 ic_0 rfl ?_
  refine G_bipush (pc2 := 73) dX6_copyFrom_71 ib_6 rfl ?_
  refine YC (pc2 := 76) (fa_156 _ _ _ _) (fa_26 _ _ _ _) h kw_680 (by decide) cl_6 ⟨by decide, by decide⟩ (Nat.le_of_ble_eq_true rfl) dX6_copyFrom_73 rfl (fun F_769 h => ?_)
  refine G_aload_n (pc2 := 77) 1 rfl dX6_copyFrom_76 rfl rfl ?_
  refine T_152_6 (pc2 := 80) kw_225 dX6_copyFrom_77 rfl ?_
  refine G_iconst (pc2 := 81) dX6_copyFrom_80 ic_0 rfl ?_
  refine G_aload_n (pc2 := 82) 0 rfl dX6_copyFrom_81 rfl rfl ?_
  refine T_22_6 (pc2 := 85) kw_225 dX6_copyFrom_82 rfl ?_
  refine G_iconst (pc2 := 86) dX6_copyFrom_85 ic_0 rfl ?_
  refine G_bipush (pc2 := 88) dX6_copyFrom_86 ib_6 rfl ?_
  refine YC (pc2 := 91) (fa_157 _ _ _ _) (fa_27 _ _ _ _) h kw_680 (by decide) cl_6 ⟨by decide, by decide⟩ (Nat.le_of_ble_eq_true rfl) dX6_copyFrom_88 rfl (fun F_770 h => ?_)
  refine G_aload_n (pc2 := 92) 1 rfl dX6_copyFrom_91 rfl rfl ?_
  refine T_152_7 (pc2 := 95) kw_228 dX6_copyFrom_92 rfl ?_
  refine G_iconst (pc2 := 96) dX6_copyFrom_95 ic_0 rfl ?_
  refine G_aload_n (pc2 := 97) 0 rfl dX6_copyFrom_96 rfl rfl ?_
  refine T_22_7 (pc2 := 100) kw_228 dX6_copyFrom_97 rfl ?_
  refine G_iconst (pc2 := 101) dX6_copyFrom_100 ic_0 rfl ?_
  refine G_bipush (pc2 := 103) dX6_copyFrom_101 ib_6 rfl ?_
  refine YC (pc2 := 106) (fa_158 _ _ _ _) (fa_28 _ _ _ _) h kw_680 (by decide) cl_6 ⟨by decide, by decide⟩ (Nat.le_of_ble_eq_true rfl) dX6_copyFrom_103 rfl (fun F_771 h => ?_)
  refine G_aload_n (pc2 := 107) 1 rfl dX6_copyFrom_106 rfl rfl ?_
  refine T_152_8 (pc2 := 110) kw_231 dX6_copyFrom_107 rfl ?_
  refine G_iconst (pc2 := 111) dX6_copyFrom_110 ic_0 rfl ?_
  refine G_aload_n (pc2 := 112) 0 rfl dX6_copyFrom_111 rfl rfl ?_
  refine T_22_8 (pc2 := 115) kw_231 dX6_copyFrom_112 rfl ?_
  refine G_iconst (pc2 := 116) dX6_copyFrom_115 ic_0 rfl ?_
  refine G_bipush (pc2 := 118) dX6_copyFrom_116 ib_6 rfl ?_
  refine YC (pc2 := 121) (fa_159 _ _ _ _) (fa_29 _ _ _ _) h kw_680 (by decide) cl_6 ⟨by decide, by decide⟩ (Nat.le_of_ble_eq_true rfl) dX6_copyFrom_118 rfl (fun F_772 h => ?_)
  refine G_aload_n (pc2 := 122) 1 rfl dX6_copyFrom_121 rfl rfl ?_
  refine T_152_9 (pc2 := 125) kw_234 dX6_copyFrom_122 rfl ?_
  refine G_iconst (pc2 := 126) dX6_copyFrom_125 ic_0 rfl ?_
  refine G_aload_n (pc2 := 127) 0 rfl dX6_copyFrom_126 rfl rfl ?_
  refine T_22_9 (pc2 := 130) kw_234 dX6_copyFrom_127 rfl ?_
  refine G_iconst (pc2 := 131) dX6_copyFrom_130 ic_0 rfl ?_
  refine G_bipush (pc2 := 133) dX6_copyFrom_131 ib_20 rfl ?_
  refine YC (pc2 := 136) (fa_160 _ _ _ _) (fa_30 _ _ _ _) h kw_680 (by decide) cl_20 ⟨by decide, by decide⟩ (Nat.le_of_ble_eq_true rfl) dX6_copyFrom_133 rfl (fun F_773 h => ?_)
  have ha := Option.some.inj h
  subst ha
  exact G_vret rfl dX6_copyFrom_136)
def f_X6_copyFrom_22_161 (I : WI) (F : WF) : Option (WI × WF) :=
  bnd (upd I 0 (I 28)) fun I_777 =>
  bnd (upd I_777 1 (I_777 29)) fun I_778 =>
  bnd (uF F 0 (va_cpy (F 112) (F 0) 0 0 9)) fun F_779 =>
  bnd (uF F_779 1 (va_cpy (F_779 113) (F_779 1) 0 0 9)) fun F_780 =>
  bnd (uF F_780 2 (va_cpy (F_780 114) (F_780 2) 0 0 9)) fun F_781 =>
  bnd (uF F_781 3 (va_cpy (F_781 115) (F_781 3) 0 0 6)) fun F_782 =>
  bnd (uF F_782 4 (va_cpy (F_782 116) (F_782 4) 0 0 6)) fun F_783 =>
  bnd (uF F_783 5 (va_cpy (F_783 117) (F_783 5) 0 0 6)) fun F_784 =>
  bnd (uF F_784 6 (va_cpy (F_784 118) (F_784 6) 0 0 6)) fun F_785 =>
  bnd (uF F_785 7 (va_cpy (F_785 119) (F_785 7) 0 0 20)) fun F_786 =>
  some (I_778, F_786)
set_option maxRecDepth 100000 in
set_option maxHeartbeats 4000000 in
theorem c_X6_copyFrom_22_161 {I : WI} {F : WF} {J : WI} {K : WF} {a : WI × WF} (h : f_X6_copyFrom_22_161  I F = some a) : CT md_X6_copyFrom yX6_copyFrom (rmD 1) [.ref 22, .ref 161] (mkW I F J K) none (mkW a.1 a.2 J K) := CT_of pn_X6 ⟨rfl, rfl⟩ (Nat.le_of_ble_eq_true rfl) (fun X => by
  show GG X md_X6_copyFrom (rmD 1) _ 0 0 0 [(0, .ref 22), (1, .ref 161)] [] (mkW I F J K)
  unfold f_X6_copyFrom_22_161 at h
  refine G_aload_n (pc2 := 1) 0 rfl dX6_copyFrom_0 rfl rfl ?_
  refine G_aload_n (pc2 := 2) 1 rfl dX6_copyFrom_1 rfl rfl ?_
  refine T_161_0 (pc2 := 5) kw_207 dX6_copyFrom_2 rfl ?_
  refine P_22_0 (pc2 := 8) h kw_207 dX6_copyFrom_5 rfl (fun I_777 h => ?_)
  refine G_aload_n (pc2 := 9) 0 rfl dX6_copyFrom_8 rfl rfl ?_
  refine G_aload_n (pc2 := 10) 1 rfl dX6_copyFrom_9 rfl rfl ?_
  refine T_161_1 (pc2 := 13) kw_210 dX6_copyFrom_10 rfl ?_
  refine P_22_1 (pc2 := 16) h kw_210 dX6_copyFrom_13 rfl (fun I_778 h => ?_)
  refine G_aload_n (pc2 := 17) 1 rfl dX6_copyFrom_16 rfl rfl ?_
  refine T_161_2 (pc2 := 20) kw_212 dX6_copyFrom_17 rfl ?_
  refine G_iconst (pc2 := 21) dX6_copyFrom_20 ic_0 rfl ?_
  refine G_aload_n (pc2 := 22) 0 rfl dX6_copyFrom_21 rfl rfl ?_
  refine T_22_2 (pc2 := 25) kw_212 dX6_copyFrom_22 rfl ?_
  refine G_iconst (pc2 := 26) dX6_copyFrom_25 ic_0 rfl ?_
  refine G_bipush (pc2 := 28) dX6_copyFrom_26 ib_9 rfl ?_
  refine YC (pc2 := 31) (fa_162 _ _ _ _) (fa_23 _ _ _ _) h kw_680 (by decide) cl_9 ⟨by decide, by decide⟩ (Nat.le_of_ble_eq_true rfl) dX6_copyFrom_28 rfl (fun F_779 h => ?_)
  refine G_aload_n (pc2 := 32) 1 rfl dX6_copyFrom_31 rfl rfl ?_
  refine T_161_3 (pc2 := 35) kw_215 dX6_copyFrom_32 rfl ?_
  refine G_iconst (pc2 := 36) dX6_copyFrom_35 ic_0 rfl ?_
  refine G_aload_n (pc2 := 37) 0 rfl dX6_copyFrom_36 rfl rfl ?_
  refine T_22_3 (pc2 := 40) kw_215 dX6_copyFrom_37 rfl ?_
  refine G_iconst (pc2 := 41) dX6_copyFrom_40 ic_0 rfl ?_
  refine G_bipush (pc2 := 43) dX6_copyFrom_41 ib_9 rfl ?_
  refine YC (pc2 := 46) (fa_163 _ _ _ _) (fa_24 _ _ _ _) h kw_680 (by decide) cl_9 ⟨by decide, by decide⟩ (Nat.le_of_ble_eq_true rfl) dX6_copyFrom_43 rfl (fun F_780 h => ?_)
  refine G_aload_n (pc2 := 47) 1 rfl dX6_copyFrom_46 rfl rfl ?_
  refine T_161_4 (pc2 := 50) kw_218 dX6_copyFrom_47 rfl ?_
  refine G_iconst (pc2 := 51) dX6_copyFrom_50 ic_0 rfl ?_
  refine G_aload_n (pc2 := 52) 0 rfl dX6_copyFrom_51 rfl rfl ?_
  refine T_22_4 (pc2 := 55) kw_218 dX6_copyFrom_52 rfl ?_
  refine G_iconst (pc2 := 56) dX6_copyFrom_55 ic_0 rfl ?_
  refine G_bipush (pc2 := 58) dX6_copyFrom_56 ib_9 rfl ?_
  refine YC (pc2 := 61) (fa_164 _ _ _ _) (fa_25 _ _ _ _) h kw_680 (by decide) cl_9 ⟨by decide, by decide⟩ (Nat.le_of_ble_eq_true rfl) dX6_copyFrom_58 rfl (fun F_781 h => ?_)
  refine G_aload_n (pc2 := 62) 1 rfl dX6_copyFrom_61 rfl rfl ?_
  refine T_161_5 (pc2 := 65) kw_221 dX6_copyFrom_62 rfl ?_
  refine G_iconst (pc2 := 66) dX6_copyFrom_65 ic_0 rfl ?_
  refine G_aload_n (pc2 := 67) 0 rfl dX6_copyFrom_66 rfl rfl ?_
  refine T_22_5 (pc2 := 70) kw_221 dX6_copyFrom_67 rfl ?_
  refine G_iconst (pc2 := 71) dX6_copyFrom_70 ic_0 rfl ?_
  refine G_bipush (pc2 := 73) dX6_copyFrom_71 ib_6 rfl ?_
  refine YC (pc2 := 76) (fa_165 _ _ _ _) (fa_26 _ _ _ _) h kw_680 (by decide) cl_6 ⟨by decide, by decide⟩ (Nat.le_of_ble_eq_true rfl) dX6_copyFrom_73 rfl (fun F_782 h => ?_)
  refine G_aload_n (pc2 := 77) 1 rfl dX6_copyFrom_76 rfl rfl ?_
  refine T_161_6 (pc2 := 80) kw_225 dX6_copyFrom_77 rfl ?_
  refine G_iconst (pc2 := 81) dX6_copyFrom_80 ic_0 rfl ?_
  refine G_aload_n (pc2 := 82) 0 rfl dX6_copyFrom_81 rfl rfl ?_
  refine T_22_6 (pc2 := 85) kw_225 dX6_copyFrom_82 rfl ?_
  refine G_iconst (pc2 := 86) dX6_copyFrom_85 ic_0 rfl ?_
  refine G_bipush (pc2 := 88) dX6_copyFrom_86 ib_6 rfl ?_
  refine YC (pc2 := 91) (fa_166 _ _ _ _) (fa_27 _ _ _ _) h kw_680 (by decide) cl_6 ⟨by decide, by decide⟩ (Nat.le_of_ble_eq_true rfl) dX6_copyFrom_88 rfl (fun F_783 h => ?_)
  refine G_aload_n (pc2 := 92) 1 rfl dX6_copyFrom_91 rfl rfl ?_
  refine T_161_7 (pc2 := 95) kw_228 dX6_copyFrom_92 rfl ?_
  refine G_iconst (pc2 := 96) dX6_copyFrom_95 ic_0 rfl ?_
  refine G_aload_n (pc2 := 97) 0 rfl dX6_copyFrom_96 rfl rfl ?_
  refine T_22_7 (pc2 := 100) kw_228 dX6_copyFrom_97 rfl ?_
  refine G_iconst (pc2 := 101) dX6_copyFrom_100 ic_0 rfl ?_
  refine G_bipush (pc2 := 103) dX6_copyFrom_101 ib_6 rfl ?_
  refine YC (pc2 := 106) (fa_167 _ _ _ _) (fa_28 _ _ _ _) h kw_680 (by decide) cl_6 ⟨by decide, by decide⟩ (Nat.le_of_ble_eq_true rfl) dX6_copyFrom_103 rfl (fun F_784 h => ?_)
  refine G_aload_n (pc2 := 107) 1 rfl dX6_copyFrom_106 rfl rfl ?_
  refine T_161_8 (pc2 := 110) kw_231 dX6_copyFrom_107 rfl ?_
  refine G_iconst (pc2 := 111) dX6_copyFrom_110 ic_0 rfl ?_
  refine G_aload_n (pc2 := 112) 0 rfl dX6_copyFrom_111 rfl rfl ?_
  refine T_22_8 (pc2 := 115) kw_231 dX6_copyFrom_112 rfl ?_
  refine G_iconst (pc2 := 116) dX6_copyFrom_115 ic_0 rfl ?_
  refine G_bipush (pc2 := 118) dX6_copyFrom_116 ib_6 rfl ?_
  refine YC (pc2 := 121) (fa_168 _ _ _ _) (fa_29 _ _ _ _) h kw_680 (by decide) cl_6 ⟨by decide, by decide⟩ (Nat.le_of_ble_eq_true rfl) dX6_copyFrom_118 rfl (fun F_785 h => ?_)
  refine G_aload_n (pc2 := 122) 1 rfl dX6_copyFrom_121 rfl rfl ?_
  refine T_161_9 (pc2 := 125) kw_234 dX6_copyFrom_122 rfl ?_
  refine G_iconst (pc2 := 126) dX6_copyFrom_125 ic_0 rfl ?_
  refine G_aload_n (pc2 := 127) 0 rfl dX6_copyFrom_126 rfl rfl ?_
  refine T_22_9 (pc2 := 130) kw_234 dX6_copyFrom_127 rfl ?_
  refine G_iconst (pc2 := 131) dX6_copyFrom_130 ic_0 rfl ?_
  refine G_bipush (pc2 := 133) dX6_copyFrom_131 ib_20 rfl ?_
  refine YC (pc2 := 136) (fa_169 _ _ _ _) (fa_30 _ _ _ _) h kw_680 (by decide) cl_20 ⟨by decide, by decide⟩ (Nat.le_of_ble_eq_true rfl) dX6_copyFrom_133 rfl (fun F_786 h => ?_)
  have ha := Option.some.inj h
  subst ha
  exact G_vret rfl dX6_copyFrom_136)
def f_X6_copyFrom_22_170 (I : WI) (F : WF) : Option (WI × WF) :=
  bnd (upd I 0 (I 30)) fun I_790 =>
  bnd (upd I_790 1 (I_790 31)) fun I_791 =>
  bnd (uF F 0 (va_cpy (F 120) (F 0) 0 0 9)) fun F_792 =>
  bnd (uF F_792 1 (va_cpy (F_792 121) (F_792 1) 0 0 9)) fun F_793 =>
  bnd (uF F_793 2 (va_cpy (F_793 122) (F_793 2) 0 0 9)) fun F_794 =>
  bnd (uF F_794 3 (va_cpy (F_794 123) (F_794 3) 0 0 6)) fun F_795 =>
  bnd (uF F_795 4 (va_cpy (F_795 124) (F_795 4) 0 0 6)) fun F_796 =>
  bnd (uF F_796 5 (va_cpy (F_796 125) (F_796 5) 0 0 6)) fun F_797 =>
  bnd (uF F_797 6 (va_cpy (F_797 126) (F_797 6) 0 0 6)) fun F_798 =>
  bnd (uF F_798 7 (va_cpy (F_798 127) (F_798 7) 0 0 20)) fun F_799 =>
  some (I_791, F_799)
set_option maxRecDepth 100000 in
set_option maxHeartbeats 4000000 in
theorem c_X6_copyFrom_22_170 {I : WI} {F : WF} {J : WI} {K : WF} {a : WI × WF} (h : f_X6_copyFrom_22_170  I F = some a) : CT md_X6_copyFrom yX6_copyFrom (rmD 1) [.ref 22, .ref 170] (mkW I F J K) none (mkW a.1 a.2 J K) := CT_of pn_X6 ⟨rfl, rfl⟩ (Nat.le_of_ble_eq_true rfl) (fun X => by
  show GG X md_X6_copyFrom (rmD 1) _ 0 0 0 [(0, .ref 22), (1, .ref 170)] [] (mkW I F J K)
  unfold f_X6_copyFrom_22_170 at h
  refine G_aload_n (pc2 := 1) 0 rfl dX6_copyFrom_0 rfl rfl ?_
  refine G_aload_n (pc2 := 2) 1 rfl dX6_copyFrom_1 rfl rfl ?_
  refine T_170_0 (pc2 := 5) kw_207 dX6_copyFrom_2 rfl ?_
  refine P_22_0 (pc2 := 8) h kw_207 dX6_copyFrom_5 rfl (fun I_790 h => ?_)
  refine G_aload_n (pc2 := 9) 0 rfl dX6_copyFrom_8 rfl rfl ?_
  refine G_aload_n (pc2 := 10) 1 rfl dX6_copyFrom_9 rfl rfl ?_
  refine T_170_1 (pc2 := 13) kw_210 dX6_copyFrom_10 rfl ?_
  refine P_22_1 (pc2 := 16) h kw_210 dX6_copyFrom_13 rfl (fun I_791 h => ?_)
  refine G_aload_n (pc2 := 17) 1 rfl dX6_copyFrom_16 rfl rfl ?_
  refine T_170_2 (pc2 := 20) kw_212 dX6_copyFrom_17 rfl ?_
  refine G_iconst (pc2 := 21) dX6_copyFrom_20 ic_0 rfl ?_
  refine G_aload_n (pc2 := 22) 0 rfl dX6_copyFrom_21 rfl rfl ?_
  refine T_22_2 (pc2 := 25) kw_212 dX6_copyFrom_22 rfl ?_
  refine G_iconst (pc2 := 26) dX6_copyFrom_25 ic_0 rfl ?_
  refine G_bipush (pc2 := 28) dX6_copyFrom_26 ib_9 rfl ?_
  refine YC (pc2 := 31) (fa_171 _ _ _ _) (fa_23 _ _ _ _) h kw_680 (by decide) cl_9 ⟨by decide, by decide⟩ (Nat.le_of_ble_eq_true rfl) dX6_copyFrom_28 rfl (fun F_792 h => ?_)
  refine G_aload_n (pc2 := 32) 1 rfl dX6_copyFrom_31 rfl rfl ?_
  refine T_170_3 (pc2 := 35) kw_215 dX6_copyFrom_32 rfl ?_
  refine G_iconst (pc2 := 36) dX6_copyFrom_35 ic_0 rfl ?_
  refine G_aload_n (pc2 := 37) 0 rfl dX6_copyFrom_36 rfl rfl ?_
  refine T_22_3 (pc2 := 40) kw_215 dX6_copyFrom_37 rfl ?_
  refine G_iconst (pc2 := 41) dX6_copyFrom_40 ic_0 rfl ?_
  refine G_bipush (pc2 := 43) dX6_copyFrom_41 ib_9 rfl ?_
  refine YC (pc2 := 46) (fa_172 _ _ _ _) (fa_24 _ _ _ _) h kw_680 (by decide) cl_9 ⟨by decide, by decide⟩ (Nat.le_of_ble_eq_true rfl) dX6_copyFrom_43 rfl (fun F_793 h => ?_)
  refine G_aload_n (pc2 := 47) 1 rfl dX6_copyFrom_46 rfl rfl ?_
  refine T_170_4 (pc2 := 50) kw_218 dX6_copyFrom_47 rfl ?_
  refine G_iconst (pc2 := 51) dX6_copyFrom_50 ic_0 rfl ?_
  refine G_aload_n (pc2 := 52) 0 rfl dX6_copyFrom_51 rfl rfl ?_
  refine T_22_4 (pc2 := 55) kw_218 dX6_copyFrom_52 rfl ?_
  refine G_iconst (pc2 := 56) dX6_copyFrom_55 ic_0 rfl ?_
  refine G_bipush (pc2 := 58) dX6_copyFrom_56 ib_9 rfl ?_
  refine YC (pc2 := 61) (fa_173 _ _ _ _) (fa_25 _ _ _ _) h kw_680 (by decide) cl_9 ⟨by decide, by decide⟩ (Nat.le_of_ble_eq_true rfl) dX6_copyFrom_58 rfl (fun F_794 h => ?_)
  refine G_aload_n (pc2 := 62) 1 rfl dX6_copyFrom_61 rfl rfl ?_
  refine T_170_5 (pc2 := 65) kw_221 dX6_copyFrom_62 rfl ?_
  refine G_iconst (pc2 := 66) dX6_copyFrom_65 ic_0 rfl ?_
  refine G_aload_n (pc2 := 67) 0 rfl dX6_copyFrom_66 rfl rfl ?_
  refine T_22_5 (pc2 := 70) kw_221 dX6_copyFrom_67 rfl ?_
  refine G_iconst (pc2 := 71) dX6_copyFrom_70 ic_0 rfl ?_
  refine G_bipush (pc2 := 73) dX6_copyFrom_71 ib_6 rfl ?_
  refine YC (pc2 := 76) (fa_174 _ _ _ _) (fa_26 _ _ _ _) h kw_680 (by decide) cl_6 ⟨by decide, by decide⟩ (Nat.le_of_ble_eq_true rfl) dX6_copyFrom_73 rfl (fun F_795 h => ?_)
  refine G_aload_n (pc2 := 77) 1 rfl dX6_copyFrom_76 rfl rfl ?_
  refine T_170_6 (pc2 := 80) kw_225 dX6_copyFrom_77 rfl ?_
  refine G_iconst (pc2 := 81) dX6_copyFrom_80 ic_0 rfl ?_
  refine G_aload_n (pc2 := 82) 0 rfl dX6_copyFrom_81 rfl rfl ?_
  refine T_22_6 (pc2 := 85) kw_225 dX6_copyFrom_82 rfl ?_
  refine G_iconst (pc2 := 86) dX6_copyFrom_85 ic_0 rfl ?_
  refine G_bipush (pc2 := 88) dX6_copyFrom_86 ib_6 rfl ?_
  refine YC (pc2 := 91) (fa_175 _ _ _ _) (fa_27 _ _ _ _) h kw_680 (by decide) cl_6 ⟨by decide, by decide⟩ (Nat.le_of_ble_eq_true rfl) dX6_copyFrom_88 rfl (fun F_796 h => ?_)
  refine G_aload_n (pc2 := 92) 1 rfl dX6_copyFrom_91 rfl rfl ?_
  refine T_170_7 (pc2 := 95) kw_228 dX6_copyFrom_92 rfl ?_
  refine G_iconst (pc2 := 96) dX6_copyFrom_95 ic_0 rfl ?_
  refine G_aload_n (pc2 := 97) 0 rfl dX6_copyFrom_96 rfl rfl ?_
  refine T_22_7 (pc2 := 100) kw_228 dX6_copyFrom_97 rfl ?_
  refine G_iconst (pc2 := 101) dX6_copyFrom_100 ic_0 rfl ?_
  refine G_bipush (pc2 := 103) dX6_copyFrom_101 ib_6 rfl ?_
  refine YC (pc2 := 106) (fa_176 _ _ _ _) (fa_28 _ _ _ _) h kw_680 (by decide) cl_6 ⟨by decide, by decide⟩ (Nat.le_of_ble_eq_true rfl) dX6_copyFrom_103 rfl (fun F_797 h => ?_)
  refine G_aload_n (pc2 := 107) 1 rfl dX6_copyFrom_106 rfl rfl ?_
  refine T_170_8 (pc2 := 110) kw_231 dX6_copyFrom_107 rfl ?_
  refine G_iconst (pc2 := 111) dX6_copyFrom_110 ic_0 rfl ?_
  refine G_aload_n (pc2 := 112) 0 rfl dX6_copyFrom_111 rfl rfl ?_
  refine T_22_8 (pc2 := 115) kw_231 dX6_copyFrom_112 rfl ?_
  refine G_iconst (pc2 := 116) dX6_copyFrom_115 ic_0 rfl ?_
  refine G_bipush (pc2 := 118) dX6_copyFrom_116 ib_6 rfl ?_
  refine YC (pc2 := 121) (fa_177 _ _ _ _) (fa_29 _ _ _ _) h kw_680 (by decide) cl_6 ⟨by decide, by decide⟩ (Nat.le_of_ble_eq_true rfl) dX6_copyFrom_118 rfl (fun F_798 h => ?_)
  refine G_aload_n (pc2 := 122) 1 rfl dX6_copyFrom_121 rfl rfl ?_
  refine T_170_9 (pc2 := 125) kw_234 dX6_copyFrom_122 rfl ?_
  refine G_iconst (pc2 := 126) dX6_copyFrom_125 ic_0 rfl ?_
  refine G_aload_n (pc2 := 127) 0 rfl dX6_copyFrom_126 rfl rfl ?_
  refine T_22_9 (pc2 := 130) kw_234 dX6_copyFrom_127 rfl ?_
  refine G_iconst (pc2 := 131) dX6_copyFrom_130 ic_0 rfl ?_
  refine G_bipush (pc2 := 133) dX6_copyFrom_131 ib_20 rfl ?_
  refine YC (pc2 := 136) (fa_178 _ _ _ _) (fa_30 _ _ _ _) h kw_680 (by decide) cl_20 ⟨by decide, by decide⟩ (Nat.le_of_ble_eq_true rfl) dX6_copyFrom_133 rfl (fun F_799 h => ?_)
  have ha := Option.some.inj h
  subst ha
  exact G_vret rfl dX6_copyFrom_136)
def f_X6_copyFrom_22_179 (I : WI) (F : WF) : Option (WI × WF) :=
  bnd (upd I 0 (I 32)) fun I_803 =>
  bnd (upd I_803 1 (I_803 33)) fun I_804 =>
  bnd (uF F 0 (va_cpy (F 128) (F 0) 0 0 9)) fun F_805 =>
  bnd (uF F_805 1 (va_cpy (F_805 129) (F_805 1) 0 0 9)) fun F_806 =>
  bnd (uF F_806 2 (va_cpy (F_806 130) (F_806 2) 0 0 9)) fun F_807 =>
  bnd (uF F_807 3 (va_cpy (F_807 131) (F_807 3) 0 0 6)) fun F_808 =>
  bnd (uF F_808 4 (va_cpy (F_808 132) (F_808 4) 0 0 6)) fun F_809 =>
  bnd (uF F_809 5 (va_cpy (F_809 133) (F_809 5) 0 0 6)) fun F_810 =>
  bnd (uF F_810 6 (va_cpy (F_810 134) (F_810 6) 0 0 6)) fun F_811 =>
  bnd (uF F_811 7 (va_cpy (F_811 135) (F_811 7) 0 0 20)) fun F_812 =>
  some (I_804, F_812)
set_option maxRecDepth 100000 in
set_option maxHeartbeats 4000000 in
theorem c_X6_copyFrom_22_179 {I : WI} {F : WF} {J : WI} {K : WF} {a : WI × WF} (h : f_X6_copyFrom_22_179  I F = some a) : CT md_X6_copyFrom yX6_copyFrom (rmD 1) [.ref 22, .ref 179] (mkW I F J K) none (mkW a.1 a.2 J K) := CT_of pn_X6 ⟨rfl, rfl⟩ (Nat.le_of_ble_eq_true rfl) (fun X => by
  show GG X md_X6_copyFrom (rmD 1) _ 0 0 0 [(0, .ref 22), (1, .ref 179)] [] (mkW I F J K)
  unfold f_X6_copyFrom_22_179 at h
  refine G_aload_n (pc2 := 1) 0 rfl dX6_copyFrom_0 rfl rfl ?_
  refine G_aload_n (pc2 := 2) 1 rfl dX6_copyFrom_1 rfl rfl ?_
  refine T_179_0 (pc2 := 5) kw_207 dX6_copyFrom_2 rfl ?_
  refine P_22_0 (pc2 := 8) h kw_207 dX6_copyFrom_5 rfl (fun I_803 h => ?_)
  refine G_aload_n (pc2 := 9) 0 rfl dX6_copyFrom_8 rfl rfl ?_
  refine G_aload_n (pc2 := 10) 1 rfl dX6_copyFrom_9 rfl rfl ?_
  refine T_179_1 (pc2 := 13) kw_210 dX6_copyFrom_10 rfl ?_
  refine P_22_1 (pc2 := 16) h kw_210 dX6_copyFrom_13 rfl (fun I_804 h => ?_)
  refine G_aload_n (pc2 := 17) 1 rfl dX6_copyFrom_16 rfl rfl ?_
  refine T_179_2 (pc2 := 20) kw_212 dX6_copyFrom_17 rfl ?_
  refine G_iconst (pc2 := 21) dX6_copyFrom_20 ic_0 rfl ?_
  refine G_aload_n (pc2 := 22) 0 rfl dX6_copyFrom_21 rfl rfl ?_
  refine T_22_2 (pc2 := 25) kw_212 dX6_copyFrom_22 rfl ?_
  refine G_iconst (pc2 := 26) dX6_copyFrom_25 ic_0 rfl ?_
  refine G_bipush (pc2 := 28) dX6_copyFrom_26 ib_9 rfl ?_
  refine YC (pc2 := 31) (fa_180 _ _ _ _) (fa_23 _ _ _ _) h kw_680 (by decide) cl_9 ⟨by decide, by decide⟩ (Nat.le_of_ble_eq_true rfl) dX6_copyFrom_28 rfl (fun F_805 h => ?_)
  refine G_aload_n (pc2 := 32) 1 rfl dX6_copyFrom_31 rfl rfl ?_
  refine T_179_3 (pc2 := 35) kw_215 dX6_copyFrom_32 rfl ?_
  refine G_iconst (pc2 := 36) dX6_copyFrom_35 ic_0 rfl ?_
  refine G_aload_n (pc2 := 37) 0 rfl dX6_copyFrom_36 rfl rfl ?_
  refine T_22_3 (pc2 := 40) kw_215 dX6_copyFrom_37 rfl ?_
  refine G_iconst (pc2 := 41) dX6_copyFrom_40 ic_0 rfl ?_
  refine G_bipush (pc2 := 43) dX6_copyFrom_41 ib_9 rfl ?_
  refine YC (pc2 := 46) (fa_181 _ _ _ _) (fa_24 _ _ _ _) h kw_680 (by decide) cl_9 ⟨by decide, by decide⟩ (Nat.le_of_ble_eq_true rfl) dX6_copyFrom_43 rfl (fun F_806 h => ?_)
  refine G_aload_n (pc2 := 47) 1 rfl dX6_copyFrom_46 rfl rfl ?_
  refine T_179_4 (pc2 := 50) kw_218 dX6_copyFrom_47 rfl ?_
  refine G_iconst (pc2 := 51) dX6_copyFrom_50 ic_0 rfl ?_
  refine G_aload_n (pc2 := 52) 0 rfl dX6_copyFrom_51 rfl rfl ?_
  refine T_22_4 (pc2 := 55) kw_218 dX6_copyFrom_52 rfl ?_
  refine G_iconst (pc2 := 56) dX6_copyFrom_55 ic_0 rfl ?_
  refine G_bipush (pc2 := 58) dX6_copyFrom_56 ib_9 rfl ?_
  refine YC (pc2 := 61) (fa_182 _ _ _ _) (fa_25 _ _ _ _) h kw_680 (by decide) cl_9 ⟨by decide, by decide⟩ (Nat.le_of_ble_eq_true rfl) dX6_copyFrom_58 rfl (fun F_807 h => ?_)
  refine G_aload_n (pc2 := 62) 1 rfl dX6_copyFrom_61 rfl rfl ?_
  refine T_179_5 (pc2 := 65) kw_221 dX6_copyFrom_62 rfl ?_
  refine G_iconst (pc2 := 66) dX6_copyFrom_65 ic_0 rfl ?_
  refine G_aload_n (pc2 := 67) 0 rfl dX6_copyFrom_66 rfl rfl ?_
  refine T_22_5 (pc2 := 70) kw_221 dX6_copyFrom_67 rfl ?_
  refine G_iconst (pc2 := 71) dX6_copyFrom_70 ic_0 rfl ?_
  refine G_bipush (pc2 := 73) dX6_copyFrom_71 ib_6 rfl ?_
  refine YC (pc2 := 76) (fa_183 _ _ _ _) (fa_26 _ _ _ _) h kw_680 (by decide) cl_6 ⟨by decide, by decide⟩ (Nat.le_of_ble_eq_true rfl) dX6_copyFrom_73 rfl (fun F_808 h => ?_)
  refine G_aload_n (pc2 := 77) 1 rfl dX6_copyFrom_76 rfl rfl ?_
  refine T_179_6 (pc2 := 80) kw_225 dX6_copyFrom_77 rfl ?_
  refine G_iconst (pc2 := 81) dX6_copyFrom_80 ic_0 rfl ?_
  refine G_aload_n (pc2 := 82) 0 rfl dX6_copyFrom_81 rfl rfl ?_
  refine T_22_6 (pc2 := 85) kw_225 dX6_copyFrom_82 rfl ?_
  refine G_iconst (pc2 := 86) dX6_copyFrom_85 ic_0 rfl ?_
  refine G_bipush (pc2 := 88) dX6_copyFrom_86 ib_6 rfl ?_
  refine YC (pc2 := 91) (fa_184 _ _ _ _) (fa_27 _ _ _ _) h kw_680 (by decide) cl_6 ⟨by decide, by decide⟩ (Nat.le_of_ble_eq_true rfl) dX6_copyFrom_88 rfl (fun F_809 h => ?_)
  refine G_aload_n (pc2 := 92) 1 rfl dX6_copyFrom_91 rfl rfl ?_
  refine T_179_7 (pc2 := 95) kw_228 dX6_copyFrom_92 rfl ?_
  refine G_iconst (pc2 := 96) dX6_copyFrom_95 ic_0 rfl ?_
  refine G_aload_n (pc2 := 97) 0 rfl dX6_copyFrom_96 rfl rfl ?_
  refine T_22_7 (pc2 := 100) kw_228 dX6_copyFrom_97 rfl ?_
  refine G_iconst (pc2 := 101) dX6_copyFrom_100 ic_0 rfl ?_
  refine G_bipush (pc2 := 103) dX6_copyFrom_101 ib_6 rfl ?_
  refine YC (pc2 := 106) (fa_185 _ _ _ _) (fa_28 _ _ _ _) h kw_680 (by decide) cl_6 ⟨by decide, by decide⟩ (Nat.le_of_ble_eq_true rfl) dX6_copyFrom_103 rfl (fun F_810 h => ?_)
  refine G_aload_n (pc2 := 107) 1 rfl dX6_copyFrom_106 rfl rfl ?_
  refine T_179_8 (pc2 := 110) kw_231 dX6_copyFrom_107 rfl ?_
  refine G_iconst (pc2 := 111) dX6_copyFrom_110 ic_0 rfl ?_
  refine G_aload_n (pc2 := 112) 0 rfl dX6_copyFrom_111 rfl rfl ?_
  refine T_22_8 (pc2 := 115) kw_231 dX6_copyFrom_112 rfl ?_
  refine G_iconst (pc2 := 116) dX6_copyFrom_115 ic_0 rfl ?_
  refine G_bipush (pc2 := 118) dX6_copyFrom_116 ib_6 rfl ?_
  refine YC (pc2 := 121) (fa_186 _ _ _ _) (fa_29 _ _ _ _) h kw_680 (by decide) cl_6 ⟨by decide, by decide⟩ (Nat.le_of_ble_eq_true rfl) dX6_copyFrom_118 rfl (fun F_811 h => ?_)
  refine G_aload_n (pc2 := 122) 1 rfl dX6_copyFrom_121 rfl rfl ?_
  refine T_179_9 (pc2 := 125) kw_234 dX6_copyFrom_122 rfl ?_
  refine G_iconst (pc2 := 126) dX6_copyFrom_125 ic_0 rfl ?_
  refine G_aload_n (pc2 := 127) 0 rfl dX6_copyFrom_126 rfl rfl ?_
  refine T_22_9 (pc2 := 130) kw_234 dX6_copyFrom_127 rfl ?_
  refine G_iconst (pc2 := 131) dX6_copyFrom_130 ic_0 rfl ?_
  refine G_bipush (pc2 := 133) dX6_copyFrom_131 ib_20 rfl ?_
  refine YC (pc2 := 136) (fa_187 _ _ _ _) (fa_30 _ _ _ _) h kw_680 (by decide) cl_20 ⟨by decide, by decide⟩ (Nat.le_of_ble_eq_true rfl) dX6_copyFrom_133 rfl (fun F_812 h => ?_)
  have ha := Option.some.inj h
  subst ha
  exact G_vret rfl dX6_copyFrom_136)
def f_X3_bringBack_42_22 (I : WI) (F : WF) : Option (WI × WF) :=
  bnd (upd I 62 ((((I 62) + (16 : Int32)) - (1 : Int32)) - (((I 62) + (16 : Int32)) - (1 : Int32)) / (16 : Int32) * (16 : Int32))) fun I_607 =>
  if (I_607 62) = (0 : Int32) then (Option.bind (f_X6_copyFrom_22_44 I_607 F) fun c_618 =>
  bnd (upd c_618.1 61 ((c_618.1 61) - (1 : Int32))) fun I_619 =>
  some (I_619, c_618.2))
  else if (I_607 62) = (1 : Int32) then (Option.bind (f_X6_copyFrom_22_53 I_607 F) fun c_631 =>
  bnd (upd c_631.1 61 ((c_631.1 61) - (1 : Int32))) fun I_632 =>
  some (I_632, c_631.2))
  else if (I_607 62) = (2 : Int32) then (Option.bind (f_X6_copyFrom_22_62 I_607 F) fun c_644 =>
  bnd (upd c_644.1 61 ((c_644.1 61) - (1 : Int32))) fun I_645 =>
  some (I_645, c_644.2))
  else if (I_607 62) = (3 : Int32) then (Option.bind (f_X6_copyFrom_22_71 I_607 F) fun c_657 =>
  bnd (upd c_657.1 61 ((c_657.1 61) - (1 : Int32))) fun I_658 =>
  some (I_658, c_657.2))
  else if (I_607 62) = (4 : Int32) then (Option.bind (f_X6_copyFrom_22_80 I_607 F) fun c_670 =>
  bnd (upd c_670.1 61 ((c_670.1 61) - (1 : Int32))) fun I_671 =>
  some (I_671, c_670.2))
  else if (I_607 62) = (5 : Int32) then (Option.bind (f_X6_copyFrom_22_89 I_607 F) fun c_683 =>
  bnd (upd c_683.1 61 ((c_683.1 61) - (1 : Int32))) fun I_684 =>
  some (I_684, c_683.2))
  else if (I_607 62) = (6 : Int32) then (Option.bind (f_X6_copyFrom_22_98 I_607 F) fun c_696 =>
  bnd (upd c_696.1 61 ((c_696.1 61) - (1 : Int32))) fun I_697 =>
  some (I_697, c_696.2))
  else if (I_607 62) = (7 : Int32) then (Option.bind (f_X6_copyFrom_22_107 I_607 F) fun c_709 =>
  bnd (upd c_709.1 61 ((c_709.1 61) - (1 : Int32))) fun I_710 =>
  some (I_710, c_709.2))
  else if (I_607 62) = (8 : Int32) then (Option.bind (f_X6_copyFrom_22_116 I_607 F) fun c_722 =>
  bnd (upd c_722.1 61 ((c_722.1 61) - (1 : Int32))) fun I_723 =>
  some (I_723, c_722.2))
  else if (I_607 62) = (9 : Int32) then (Option.bind (f_X6_copyFrom_22_125 I_607 F) fun c_735 =>
  bnd (upd c_735.1 61 ((c_735.1 61) - (1 : Int32))) fun I_736 =>
  some (I_736, c_735.2))
  else if (I_607 62) = (10 : Int32) then (Option.bind (f_X6_copyFrom_22_134 I_607 F) fun c_748 =>
  bnd (upd c_748.1 61 ((c_748.1 61) - (1 : Int32))) fun I_749 =>
  some (I_749, c_748.2))
  else if (I_607 62) = (11 : Int32) then (Option.bind (f_X6_copyFrom_22_143 I_607 F) fun c_761 =>
  bnd (upd c_761.1 61 ((c_761.1 61) - (1 : Int32))) fun I_762 =>
  some (I_762, c_761.2))
  else if (I_607 62) = (12 : Int32) then (Option.bind (f_X6_copyFrom_22_152 I_607 F) fun c_774 =>
  bnd (upd c_774.1 61 ((c_774.1 61) - (1 : Int32))) fun I_775 =>
  some (I_775, c_774.2))
  else if (I_607 62) = (13 : Int32) then (Option.bind (f_X6_copyFrom_22_161 I_607 F) fun c_787 =>
  bnd (upd c_787.1 61 ((c_787.1 61) - (1 : Int32))) fun I_788 =>
  some (I_788, c_787.2))
  else if (I_607 62) = (14 : Int32) then (Option.bind (f_X6_copyFrom_22_170 I_607 F) fun c_800 =>
  bnd (upd c_800.1 61 ((c_800.1 61) - (1 : Int32))) fun I_801 =>
  some (I_801, c_800.2))
  else if (I_607 62) = (15 : Int32) then (Option.bind (f_X6_copyFrom_22_179 I_607 F) fun c_813 =>
  bnd (upd c_813.1 61 ((c_813.1 61) - (1 : Int32))) fun I_814 =>
  some (I_814, c_813.2))
  else none
set_option maxRecDepth 100000 in
set_option maxHeartbeats 4000000 in
theorem c_X3_bringBack_42_22 {I : WI} {F : WF} {J : WI} {K : WF} {a : WI × WF} (h : f_X3_bringBack_42_22  I F = some a) : CT md_X3_bringBack yX3_bringBack (rmD 2) [.ref 42, .ref 22] (mkW I F J K) none (mkW a.1 a.2 J K) := CT_of pn_X3 ⟨rfl, rfl⟩ (Nat.le_of_ble_eq_true rfl) (fun X => by
  show GG X md_X3_bringBack (rmD 2) _ 0 0 0 [(0, .ref 42), (1, .ref 22)] [] (mkW I F J K)
  unfold f_X3_bringBack_42_22 at h
  refine G_aload_n (pc2 := 1) 0 rfl dX3_bringBack_0 rfl rfl ?_
  refine G_aload_n (pc2 := 2) 0 rfl dX3_bringBack_1 rfl rfl ?_
  refine T_42_2 (pc2 := 5) kw_372 dX3_bringBack_2 rfl ?_
  refine G_bipush (pc2 := 7) dX3_bringBack_5 ib_16 rfl ?_
  refine G_iadd (pc2 := 8) dX3_bringBack_7 rfl ?_
  refine G_iconst (pc2 := 9) dX3_bringBack_8 ic_1 rfl ?_
  refine G_isub (pc2 := 10) dX3_bringBack_9 rfl ?_
  refine G_bipush (pc2 := 12) dX3_bringBack_10 ib_16 rfl ?_
  refine G_irem (pc2 := 13) dX3_bringBack_12 (by decide) rfl ?_
  refine P_42_2 (pc2 := 16) h kw_372 dX3_bringBack_13 rfl (fun I_607 h => ?_)
  refine G_aload_n (pc2 := 17) 1 rfl dX3_bringBack_16 rfl rfl ?_
  refine G_aload_n (pc2 := 18) 0 rfl dX3_bringBack_17 rfl rfl ?_
  refine T_42_1 (pc2 := 21) kw_371 dX3_bringBack_18 rfl ?_
  refine G_aload_n (pc2 := 22) 0 rfl dX3_bringBack_21 rfl rfl ?_
  refine T_42_2 (pc2 := 25) kw_372 dX3_bringBack_22 rfl ?_
  by_cases qx_620 : (I_607 62) = (0 : Int32)
  · have h := ite_t h qx_620
    refine AA (pc2 := 26) (C := RX6) (fun _ => rfl) (qr_43 _ _ _ _) (0 : Int32) qx_620 rfl rfl dX3_bringBack_25 rfl ?_
    obtain ⟨c_618, hc_618, h⟩ := ob_e h
    refine B_callV (pc2 := 29) si_X3_25 (c_X6_copyFrom_22_44 hc_618) (qo_22 _ _ _ _) rfl rfl rfl (st := []) (stq := []) rfl (by decide) (by decide) (Nat.le_of_ble_eq_true rfl) mkW_ll dX3_bringBack_26 rfl rfl ?_ ⟨rfl, rfl⟩
    refine G_aload_n (pc2 := 30) 0 rfl dX3_bringBack_29 rfl rfl ?_
    refine G_dup (pc2 := 31) rfl dX3_bringBack_30 rfl ?_
    refine T_42_0 (pc2 := 34) kw_369 dX3_bringBack_31 rfl ?_
    refine G_iconst (pc2 := 35) dX3_bringBack_34 ic_1 rfl ?_
    refine G_isub (pc2 := 36) dX3_bringBack_35 rfl ?_
    refine P_42_0 (pc2 := 39) h kw_369 dX3_bringBack_36 rfl (fun I_619 h => ?_)
    have ha := Option.some.inj h
    subst ha
    exact G_vret rfl dX3_bringBack_39
  have h := ite_f h qx_620
  by_cases qx_633 : (I_607 62) = (1 : Int32)
  · have h := ite_t h qx_633
    refine AA (pc2 := 26) (C := RX6) (fun _ => rfl) (qr_43 _ _ _ _) (1 : Int32) qx_633 rfl rfl dX3_bringBack_25 rfl ?_
    obtain ⟨c_631, hc_631, h⟩ := ob_e h
    refine B_callV (pc2 := 29) si_X3_25 (c_X6_copyFrom_22_53 hc_631) (qo_22 _ _ _ _) rfl rfl rfl (st := []) (stq := []) rfl (by decide) (by decide) (Nat.le_of_ble_eq_true rfl) mkW_ll dX3_bringBack_26 rfl rfl ?_ ⟨rfl, rfl⟩
    refine G_aload_n (pc2 := 30) 0 rfl dX3_bringBack_29 rfl rfl ?_
    refine G_dup (pc2 := 31) rfl dX3_bringBack_30 rfl ?_
    refine T_42_0 (pc2 := 34) kw_369 dX3_bringBack_31 rfl ?_
    refine G_iconst (pc2 := 35) dX3_bringBack_34 ic_1 rfl ?_
    refine G_isub (pc2 := 36) dX3_bringBack_35 rfl ?_
    refine P_42_0 (pc2 := 39) h kw_369 dX3_bringBack_36 rfl (fun I_632 h => ?_)
    have ha := Option.some.inj h
    subst ha
    exact G_vret rfl dX3_bringBack_39
  have h := ite_f h qx_633
  by_cases qx_646 : (I_607 62) = (2 : Int32)
  · have h := ite_t h qx_646
    refine AA (pc2 := 26) (C := RX6) (fun _ => rfl) (qr_43 _ _ _ _) (2 : Int32) qx_646 rfl rfl dX3_bringBack_25 rfl ?_
    obtain ⟨c_644, hc_644, h⟩ := ob_e h
    refine B_callV (pc2 := 29) si_X3_25 (c_X6_copyFrom_22_62 hc_644) (qo_22 _ _ _ _) rfl rfl rfl (st := []) (stq := []) rfl (by decide) (by decide) (Nat.le_of_ble_eq_true rfl) mkW_ll dX3_bringBack_26 rfl rfl ?_ ⟨rfl, rfl⟩
    refine G_aload_n (pc2 := 30) 0 rfl dX3_bringBack_29 rfl rfl ?_
    refine G_dup (pc2 := 31) rfl dX3_bringBack_30 rfl ?_
    refine T_42_0 (pc2 := 34) kw_369 dX3_bringBack_31 rfl ?_
    refine G_iconst (pc2 := 35) dX3_bringBack_34 ic_1 rfl ?_
    refine G_isub (pc2 := 36) dX3_bringBack_35 rfl ?_
    refine P_42_0 (pc2 := 39) h kw_369 dX3_bringBack_36 rfl (fun I_645 h => ?_)
    have ha := Option.some.inj h
    subst ha
    exact G_vret rfl dX3_bringBack_39
  have h := ite_f h qx_646
  by_cases qx_659 : (I_607 62) = (3 : Int32)
  · have h := ite_t h qx_659
    refine AA (pc2 := 26) (C := RX6) (fun _ => rfl) (qr_43 _ _ _ _) (3 : Int32) qx_659 rfl rfl dX3_bringBack_25 rfl ?_
    obtain ⟨c_657, hc_657, h⟩ := ob_e h
    refine B_callV (pc2 := 29) si_X3_25 (c_X6_copyFrom_22_71 hc_657) (qo_22 _ _ _ _) rfl rfl rfl (st := []) (stq := []) rfl (by decide) (by decide) (Nat.le_of_ble_eq_true rfl) mkW_ll dX3_bringBack_26 rfl rfl ?_ ⟨rfl, rfl⟩
    refine G_aload_n (pc2 := 30) 0 rfl dX3_bringBack_29 rfl rfl ?_
    refine G_dup (pc2 := 31) rfl dX3_bringBack_30 rfl ?_
    refine T_42_0 (pc2 := 34) kw_369 dX3_bringBack_31 rfl ?_
    refine G_iconst (pc2 := 35) dX3_bringBack_34 ic_1 rfl ?_
    refine G_isub (pc2 := 36) dX3_bringBack_35 rfl ?_
    refine P_42_0 (pc2 := 39) h kw_369 dX3_bringBack_36 rfl (fun I_658 h => ?_)
    have ha := Option.some.inj h
    subst ha
    exact G_vret rfl dX3_bringBack_39
  have h := ite_f h qx_659
  by_cases qx_672 : (I_607 62) = (4 : Int32)
  · have h := ite_t h qx_672
    refine AA (pc2 := 26) (C := RX6) (fun _ => rfl) (qr_43 _ _ _ _) (4 : Int32) qx_672 rfl rfl dX3_bringBack_25 rfl ?_
    obtain ⟨c_670, hc_670, h⟩ := ob_e h
    refine B_callV (pc2 := 29) si_X3_25 (c_X6_copyFrom_22_80 hc_670) (qo_22 _ _ _ _) rfl rfl rfl (st := []) (stq := []) rfl (by decide) (by decide) (Nat.le_of_ble_eq_true rfl) mkW_ll dX3_bringBack_26 rfl rfl ?_ ⟨rfl, rfl⟩
    refine G_aload_n (pc2 := 30) 0 rfl dX3_bringBack_29 rfl rfl ?_
    refine G_dup (pc2 := 31) rfl dX3_bringBack_30 rfl ?_
    refine T_42_0 (pc2 := 34) kw_369 dX3_bringBack_31 rfl ?_
    refine G_iconst (pc2 := 35) dX3_bringBack_34 ic_1 rfl ?_
    refine G_isub (pc2 := 36) dX3_bringBack_35 rfl ?_
    refine P_42_0 (pc2 := 39) h kw_369 dX3_bringBack_36 rfl (fun I_671 h => ?_)
    have ha := Option.some.inj h
    subst ha
    exact G_vret rfl dX3_bringBack_39
  have h := ite_f h qx_672
  by_cases qx_685 : (I_607 62) = (5 : Int32)
  · have h := ite_t h qx_685
    refine AA (pc2 := 26) (C := RX6) (fun _ => rfl) (qr_43 _ _ _ _) (5 : Int32) qx_685 rfl rfl dX3_bringBack_25 rfl ?_
    obtain ⟨c_683, hc_683, h⟩ := ob_e h
    refine B_callV (pc2 := 29) si_X3_25 (c_X6_copyFrom_22_89 hc_683) (qo_22 _ _ _ _) rfl rfl rfl (st := []) (stq := []) rfl (by decide) (by decide) (Nat.le_of_ble_eq_true rfl) mkW_ll dX3_bringBack_26 rfl rfl ?_ ⟨rfl, rfl⟩
    refine G_aload_n (pc2 := 30) 0 rfl dX3_bringBack_29 rfl rfl ?_
    refine G_dup (pc2 := 31) rfl dX3_bringBack_30 rfl ?_
    refine T_42_0 (pc2 := 34) kw_369 dX3_bringBack_31 rfl ?_
    refine G_iconst (pc2 := 35) dX3_bringBack_34 ic_1 rfl ?_
    refine G_isub (pc2 := 36) dX3_bringBack_35 rfl ?_
    refine P_42_0 (pc2 := 39) h kw_369 dX3_bringBack_36 rfl (fun I_684 h => ?_)
    have ha := Option.some.inj h
    subst ha
    exact G_vret rfl dX3_bringBack_39
  have h := ite_f h qx_685
  by_cases qx_698 : (I_607 62) = (6 : Int32)
  · have h := ite_t h qx_698
    refine AA (pc2 := 26) (C := RX6) (fun _ => rfl) (qr_43 _ _ _ _) (6 : Int32) qx_698 rfl rfl dX3_bringBack_25 rfl ?_
    obtain ⟨c_696, hc_696, h⟩ := ob_e h
    refine B_callV (pc2 := 29) si_X3_25 (c_X6_copyFrom_22_98 hc_696) (qo_22 _ _ _ _) rfl rfl rfl (st := []) (stq := []) rfl (by decide) (by decide) (Nat.le_of_ble_eq_true rfl) mkW_ll dX3_bringBack_26 rfl rfl ?_ ⟨rfl, rfl⟩
    refine G_aload_n (pc2 := 30) 0 rfl dX3_bringBack_29 rfl rfl ?_
    refine G_dup (pc2 := 31) rfl dX3_bringBack_30 rfl ?_
    refine T_42_0 (pc2 := 34) kw_369 dX3_bringBack_31 rfl ?_
    refine G_iconst (pc2 := 35) dX3_bringBack_34 ic_1 rfl ?_
    refine G_isub (pc2 := 36) dX3_bringBack_35 rfl ?_
    refine P_42_0 (pc2 := 39) h kw_369 dX3_bringBack_36 rfl (fun I_697 h => ?_)
    have ha := Option.some.inj h
    subst ha
    exact G_vret rfl dX3_bringBack_39
  have h := ite_f h qx_698
  by_cases qx_711 : (I_607 62) = (7 : Int32)
  · have h := ite_t h qx_711
    refine AA (pc2 := 26) (C := RX6) (fun _ => rfl) (qr_43 _ _ _ _) (7 : Int32) qx_711 rfl rfl dX3_bringBack_25 rfl ?_
    obtain ⟨c_709, hc_709, h⟩ := ob_e h
    refine B_callV (pc2 := 29) si_X3_25 (c_X6_copyFrom_22_107 hc_709) (qo_22 _ _ _ _) rfl rfl rfl (st := []) (stq := []) rfl (by decide) (by decide) (Nat.le_of_ble_eq_true rfl) mkW_ll dX3_bringBack_26 rfl rfl ?_ ⟨rfl, rfl⟩
    refine G_aload_n (pc2 := 30) 0 rfl dX3_bringBack_29 rfl rfl ?_
    refine G_dup (pc2 := 31) rfl dX3_bringBack_30 rfl ?_
    refine T_42_0 (pc2 := 34) kw_369 dX3_bringBack_31 rfl ?_
    refine G_iconst (pc2 := 35) dX3_bringBack_34 ic_1 rfl ?_
    refine G_isub (pc2 := 36) dX3_bringBack_35 rfl ?_
    refine P_42_0 (pc2 := 39) h kw_369 dX3_bringBack_36 rfl (fun I_710 h => ?_)
    have ha := Option.some.inj h
    subst ha
    exact G_vret rfl dX3_bringBack_39
  have h := ite_f h qx_711
  by_cases qx_724 : (I_607 62) = (8 : Int32)
  · have h := ite_t h qx_724
    refine AA (pc2 := 26) (C := RX6) (fun _ => rfl) (qr_43 _ _ _ _) (8 : Int32) qx_724 rfl rfl dX3_bringBack_25 rfl ?_
    obtain ⟨c_722, hc_722, h⟩ := ob_e h
    refine B_callV (pc2 := 29) si_X3_25 (c_X6_copyFrom_22_116 hc_722) (qo_22 _ _ _ _) rfl rfl rfl (st := []) (stq := []) rfl (by decide) (by decide) (Nat.le_of_ble_eq_true rfl) mkW_ll dX3_bringBack_26 rfl rfl ?_ ⟨rfl, rfl⟩
    refine G_aload_n (pc2 := 30) 0 rfl dX3_bringBack_29 rfl rfl ?_
    refine G_dup (pc2 := 31) rfl dX3_bringBack_30 rfl ?_
    refine T_42_0 (pc2 := 34) kw_369 dX3_bringBack_31 rfl ?_
    refine G_iconst (pc2 := 35) dX3_bringBack_34 ic_1 rfl ?_
    refine G_isub (pc2 := 36) dX3_bringBack_35 rfl ?_
    refine P_42_0 (pc2 := 39) h kw_369 dX3_bringBack_36 rfl (fun I_723 h => ?_)
    have ha := Option.some.inj h
    subst ha
    exact G_vret rfl dX3_bringBack_39
  have h := ite_f h qx_724
  by_cases qx_737 : (I_607 62) = (9 : Int32)
  · have h := ite_t h qx_737
    refine AA (pc2 := 26) (C := RX6) (fun _ => rfl) (qr_43 _ _ _ _) (9 : Int32) qx_737 rfl rfl dX3_bringBack_25 rfl ?_
    obtain ⟨c_735, hc_735, h⟩ := ob_e h
    refine B_callV (pc2 := 29) si_X3_25 (c_X6_copyFrom_22_125 hc_735) (qo_22 _ _ _ _) rfl rfl rfl (st := []) (stq := []) rfl (by decide) (by decide) (Nat.le_of_ble_eq_true rfl) mkW_ll dX3_bringBack_26 rfl rfl ?_ ⟨rfl, rfl⟩
    refine G_aload_n (pc2 := 30) 0 rfl dX3_bringBack_29 rfl rfl ?_
    refine G_dup (pc2 := 31) rfl dX3_bringBack_30 rfl ?_
    refine T_42_0 (pc2 := 34) kw_369 dX3_bringBack_31 rfl ?_
    refine G_iconst (pc2 := 35) dX3_bringBack_34 ic_1 rfl ?_
    refine G_isub (pc2 := 36) dX3_bringBack_35 rfl ?_
    refine P_42_0 (pc2 := 39) h kw_369 dX3_bringBack_36 rfl (fun I_736 h => ?_)
    have ha := Option.some.inj h
    subst ha
    exact G_vret rfl dX3_bringBack_39
  have h := ite_f h qx_737
  by_cases qx_750 : (I_607 62) = (10 : Int32)
  · have h := ite_t h qx_750
    refine AA (pc2 := 26) (C := RX6) (fun _ => rfl) (qr_43 _ _ _ _) (10 : Int32) qx_750 rfl rfl dX3_bringBack_25 rfl ?_
    obtain ⟨c_748, hc_748, h⟩ := ob_e h
    refine B_callV (pc2 := 29) si_X3_25 (c_X6_copyFrom_22_134 hc_748) (qo_22 _ _ _ _) rfl rfl rfl (st := []) (stq := []) rfl (by decide) (by decide) (Nat.le_of_ble_eq_true rfl) mkW_ll dX3_bringBack_26 rfl rfl ?_ ⟨rfl, rfl⟩
    refine G_aload_n (pc2 := 30) 0 rfl dX3_bringBack_29 rfl rfl ?_
    refine G_dup (pc2 := 31) rfl dX3_bringBack_30 rfl ?_
    refine T_42_0 (pc2 := 34) kw_369 dX3_bringBack_31 rfl ?_
    refine G_iconst (pc2 := 35) dX3_bringBack_34 ic_1 rfl ?_
    refine G_isub (pc2 := 36) dX3_bringBack_35 rfl ?_
    refine P_42_0 (pc2 := 39) h kw_369 dX3_bringBack_36 rfl (fun I_749 h => ?_)
    have ha := Option.some.inj h
    subst ha
    exact G_vret rfl dX3_bringBack_39
  have h := ite_f h qx_750
  by_cases qx_763 : (I_607 62) = (11 : Int32)
  · have h := ite_t h qx_763
    refine AA (pc2 := 26) (C := RX6) (fun _ => rfl) (qr_43 _ _ _ _) (11 : Int32) qx_763 rfl rfl dX3_bringBack_25 rfl ?_
    obtain ⟨c_761, hc_761, h⟩ := ob_e h
    refine B_callV (pc2 := 29) si_X3_25 (c_X6_copyFrom_22_143 hc_761) (qo_22 _ _ _ _) rfl rfl rfl (st := []) (stq := []) rfl (by decide) (by decide) (Nat.le_of_ble_eq_true rfl) mkW_ll dX3_bringBack_26 rfl rfl ?_ ⟨rfl, rfl⟩
    refine G_aload_n (pc2 := 30) 0 rfl dX3_bringBack_29 rfl rfl ?_
    refine G_dup (pc2 := 31) rfl dX3_bringBack_30 rfl ?_
    refine T_42_0 (pc2 := 34) kw_369 dX3_bringBack_31 rfl ?_
    refine G_iconst (pc2 := 35) dX3_bringBack_34 ic_1 rfl ?_
    refine G_isub (pc2 := 36) dX3_bringBack_35 rfl ?_
    refine P_42_0 (pc2 := 39) h kw_369 dX3_bringBack_36 rfl (fun I_762 h => ?_)
    have ha := Option.some.inj h
    subst ha
    exact G_vret rfl dX3_bringBack_39
  have h := ite_f h qx_763
  by_cases qx_776 : (I_607 62) = (12 : Int32)
  · have h := ite_t h qx_776
    refine AA (pc2 := 26) (C := RX6) (fun _ => rfl) (qr_43 _ _ _ _) (12 : Int32) qx_776 rfl rfl dX3_bringBack_25 rfl ?_
    obtain ⟨c_774, hc_774, h⟩ := ob_e h
    refine B_callV (pc2 := 29) si_X3_25 (c_X6_copyFrom_22_152 hc_774) (qo_22 _ _ _ _) rfl rfl rfl (st := []) (stq := []) rfl (by decide) (by decide) (Nat.le_of_ble_eq_true rfl) mkW_ll dX3_bringBack_26 rfl rfl ?_ ⟨rfl, rfl⟩
    refine G_aload_n (pc2 := 30) 0 rfl dX3_bringBack_29 rfl rfl ?_
    refine G_dup (pc2 := 31) rfl dX3_bringBack_30 rfl ?_
    refine T_42_0 (pc2 := 34) kw_369 dX3_bringBack_31 rfl ?_
    refine G_iconst (pc2 := 35) dX3_bringBack_34 ic_1 rfl ?_
    refine G_isub (pc2 := 36) dX3_bringBack_35 rfl ?_
    refine P_42_0 (pc2 := 39) h kw_369 dX3_bringBack_36 rfl (fun I_775 h => ?_)
    have ha := Option.some.inj h
    subst ha
    exact G_vret rfl dX3_bringBack_39
  have h := ite_f h qx_776
  by_cases qx_789 : (I_607 62) = (13 : Int32)
  · have h := ite_t h qx_789
    refine AA (pc2 := 26) (C := RX6) (fun _ => rfl) (qr_43 _ _ _ _) (13 : Int32) qx_789 rfl rfl dX3_bringBack_25 rfl ?_
    obtain ⟨c_787, hc_787, h⟩ := ob_e h
    refine B_callV (pc2 := 29) si_X3_25 (c_X6_copyFrom_22_161 hc_787) (qo_22 _ _ _ _) rfl rfl rfl (st := []) (stq := []) rfl (by decide) (by decide) (Nat.le_of_ble_eq_true rfl) mkW_ll dX3_bringBack_26 rfl rfl ?_ ⟨rfl, rfl⟩
    refine G_aload_n (pc2 := 30) 0 rfl dX3_bringBack_29 rfl rfl ?_
    refine G_dup (pc2 := 31) rfl dX3_bringBack_30 rfl ?_
    refine T_42_0 (pc2 := 34) kw_369 dX3_bringBack_31 rfl ?_
    refine G_iconst (pc2 := 35) dX3_bringBack_34 ic_1 rfl ?_
    refine G_isub (pc2 := 36) dX3_bringBack_35 rfl ?_
    refine P_42_0 (pc2 := 39) h kw_369 dX3_bringBack_36 rfl (fun I_788 h => ?_)
    have ha := Option.some.inj h
    subst ha
    exact G_vret rfl dX3_bringBack_39
  have h := ite_f h qx_789
  by_cases qx_802 : (I_607 62) = (14 : Int32)
  · have h := ite_t h qx_802
    refine AA (pc2 := 26) (C := RX6) (fun _ => rfl) (qr_43 _ _ _ _) (14 : Int32) qx_802 rfl rfl dX3_bringBack_25 rfl ?_
    obtain ⟨c_800, hc_800, h⟩ := ob_e h
    refine B_callV (pc2 := 29) si_X3_25 (c_X6_copyFrom_22_170 hc_800) (qo_22 _ _ _ _) rfl rfl rfl (st := []) (stq := []) rfl (by decide) (by decide) (Nat.le_of_ble_eq_true rfl) mkW_ll dX3_bringBack_26 rfl rfl ?_ ⟨rfl, rfl⟩
    refine G_aload_n (pc2 := 30) 0 rfl dX3_bringBack_29 rfl rfl ?_
    refine G_dup (pc2 := 31) rfl dX3_bringBack_30 rfl ?_
    refine T_42_0 (pc2 := 34) kw_369 dX3_bringBack_31 rfl ?_
    refine G_iconst (pc2 := 35) dX3_bringBack_34 ic_1 rfl ?_
    refine G_isub (pc2 := 36) dX3_bringBack_35 rfl ?_
    refine P_42_0 (pc2 := 39) h kw_369 dX3_bringBack_36 rfl (fun I_801 h => ?_)
    have ha := Option.some.inj h
    subst ha
    exact G_vret rfl dX3_bringBack_39
  have h := ite_f h qx_802
  by_cases qx_815 : (I_607 62) = (15 : Int32)
  · have h := ite_t h qx_815
    refine AA (pc2 := 26) (C := RX6) (fun _ => rfl) (qr_43 _ _ _ _) (15 : Int32) qx_815 rfl rfl dX3_bringBack_25 rfl ?_
    obtain ⟨c_813, hc_813, h⟩ := ob_e h
    refine B_callV (pc2 := 29) si_X3_25 (c_X6_copyFrom_22_179 hc_813) (qo_22 _ _ _ _) rfl rfl rfl (st := []) (stq := []) rfl (by decide) (by decide) (Nat.le_of_ble_eq_true rfl) mkW_ll dX3_bringBack_26 rfl rfl ?_ ⟨rfl, rfl⟩
    refine G_aload_n (pc2 := 30) 0 rfl dX3_bringBack_29 rfl rfl ?_
    refine G_dup (pc2 := 31) rfl dX3_bringBack_30 rfl ?_
    refine T_42_0 (pc2 := 34) kw_369 dX3_bringBack_31 rfl ?_
    refine G_iconst (pc2 := 35) dX3_bringBack_34 ic_1 rfl ?_
    refine G_isub (pc2 := 36) dX3_bringBack_35 rfl ?_
    refine P_42_0 (pc2 := 39) h kw_369 dX3_bringBack_36 rfl (fun I_814 h => ?_)
    have ha := Option.some.inj h
    subst ha
    exact G_vret rfl dX3_bringBack_39
  have h := ite_f h qx_815
  cases h)
def f_X10_undo (I : WI) (F : WF) : Option (Int32 × WI × WF) :=
  if (I 61) = 0 then (some ((-1000000003 : Int32), I, F))
  else (Option.bind (f_X3_bringBack_42_22 I F) fun c_816 =>
  some ((c_816.1 61), c_816.1, c_816.2))
set_option maxRecDepth 100000 in
set_option maxHeartbeats 4000000 in
theorem c_X10_undo {I : WI} {F : WF} {J : WI} {K : WF} {a : Int32 × WI × WF} (h : f_X10_undo  I F = some a) : CT md_X10_undo yX10_undo (rmD 3) [.ref 0] (mkW I F J K) (some (.int a.1)) (mkW a.2.1 a.2.2 J K) := CT_of pn_X10 ⟨rfl, rfl⟩ (Nat.le_of_ble_eq_true rfl) (fun X => by
  show GG X md_X10_undo (rmD 3) _ 0 0 0 [(0, .ref 0)] [] (mkW I F J K)
  unfold f_X10_undo at h
  refine G_aload_n (pc2 := 1) 0 rfl dX10_undo_0 rfl rfl ?_
  refine T_0_8 (pc2 := 4) kw_408 dX10_undo_1 rfl ?_
  refine T_42_0 (pc2 := 7) kw_370 dX10_undo_4 rfl ?_
  refine B_if_ne (tgt := 13) (pc2 := 10) h dX10_undo_7 (by decide) rfl (fun _ h => ?_) (fun _ h => ?_)
  · refine G_aload_n (pc2 := 14) 0 rfl dX10_undo_13 rfl rfl ?_
    refine T_0_8 (pc2 := 17) kw_408 dX10_undo_14 rfl ?_
    refine G_aload_n (pc2 := 18) 0 rfl dX10_undo_17 rfl rfl ?_
    refine T_0_3 (pc2 := 21) kw_403 dX10_undo_18 rfl ?_
    obtain ⟨c_816, hc_816, h⟩ := ob_e h
    refine B_callV (pc2 := 24) si_X10_254 (c_X3_bringBack_42_22 hc_816) (qo_42 _ _ _ _) rfl rfl rfl (st := []) (stq := []) rfl (by decide) (by decide) (Nat.le_of_ble_eq_true rfl) mkW_ll dX10_undo_21 rfl rfl ?_ ⟨rfl, rfl⟩
    refine G_aload_n (pc2 := 25) 0 rfl dX10_undo_24 rfl rfl ?_
    refine T_0_8 (pc2 := 28) kw_408 dX10_undo_25 rfl ?_
    refine T_42_0 (pc2 := 31) kw_370 dX10_undo_28 rfl ?_
    have ha := Option.some.inj h
    subst ha
    exact G_iret rfl dX10_undo_31
  · refine G_ldc (pc2 := 12) kw_671 dX10_undo_10 rfl ?_
    have ha := Option.some.inj h
    subst ha
    exact G_iret rfl dX10_undo_12)
def f_X7_hasPlace_13 (x1 : Int32) (I : WI) (F : WF) : Option (Int32) :=
  if x1 < 0 then (some (0 : Int32))
  else (if (I 48) ≤ x1 then (some (0 : Int32))
  else (some (1 : Int32)))
set_option maxRecDepth 100000 in
set_option maxHeartbeats 4000000 in
theorem c_X7_hasPlace_13 {x1 : Int32} {I : WI} {F : WF} {J : WI} {K : WF} {a : Int32} (h : f_X7_hasPlace_13 x1 I F = some a) : CT md_X7_hasPlace yX7_hasPlace (rmD 1) [.ref 13, .int x1] (mkW I F J K) (some (.int a)) (mkW I F J K) := CT_of pn_X7 ⟨rfl, rfl⟩ (Nat.le_of_ble_eq_true rfl) (fun X => by
  show GG X md_X7_hasPlace (rmD 1) _ 0 0 0 [(0, .ref 13), (1, .int x1)] [] (mkW I F J K)
  unfold f_X7_hasPlace_13 at h
  refine G_iload_n (pc2 := 1) 1 rfl dX7_hasPlace_0 rfl rfl ?_
  refine B_if_lt (tgt := 16) (pc2 := 4) h dX7_hasPlace_1 (by decide) rfl (fun _ h => ?_) (fun _ h => ?_)
  · refine G_iconst (pc2 := 17) dX7_hasPlace_16 ic_0 rfl ?_
    have ha := Option.some.inj h
    subst ha
    exact G_zret (v := (0 : Int32)) rfl (by decide) dX7_hasPlace_17
  · refine G_iload_n (pc2 := 5) 1 rfl dX7_hasPlace_4 rfl rfl ?_
    refine G_aload_n (pc2 := 6) 0 rfl dX7_hasPlace_5 rfl rfl ?_
    refine T_13_0 (pc2 := 9) kw_96 dX7_hasPlace_6 rfl ?_
    refine B_icmp_ge (tgt := 16) (pc2 := 12) h dX7_hasPlace_9 (by decide) rfl (fun _ h => ?_) (fun _ h => ?_)
    · refine G_iconst (pc2 := 17) dX7_hasPlace_16 ic_0 rfl ?_
      have ha := Option.some.inj h
      subst ha
      exact G_zret (v := (0 : Int32)) rfl (by decide) dX7_hasPlace_17
    · refine G_iconst (pc2 := 13) dX7_hasPlace_12 ic_1 rfl ?_
      refine G_goto (tgt := 17) dX7_hasPlace_13 (by decide) ?_
      have ha := Option.some.inj h
      subst ha
      exact G_zret (v := (1 : Int32)) rfl (by decide) dX7_hasPlace_17)
def L_X9_firstOfFewest_31_12 (k : Option (Int32 × WF)) (x1 : Int32) (x3 : Int32) (x4 : Int32) (I : WI) (F : WF) : Nat → Int32 → Option (Int32 × WF)
  | 0, _ => none
  | n + 1, x5 =>
  if (I 49) ≤ x5 then (k)
  else (if x4 ≤ 0 then (k)
  else (Option.bind (f_X9_isIn x5 x3) fun c_824 =>
  bnd (fun (s_826 : Int32) => bnd s_826 fun x6_827 =>
  bnd (fun (_u : Unit) => bnd (x5 + (1 : Int32)) fun x5_829 =>
  L_X9_firstOfFewest_31_12 k x1 x3 x4 I F n x5_829) fun j88_828 =>
  if x6_827 = 0 then (j88_828 ())
  else (Option.bind (f_X7_beyond_13 x5 x1 I F) fun c_830 =>
  ixG c_830 8 (
  if (F 169 c_830.toNatClampNeg) = (x4 - (1 : Int32)) then (some (x5, F))
  else (j88_828 ())))) fun j56_825 =>
  bnd (fun (_u : Unit) => j56_825 (0 : Int32)) fun j55_831 =>
  if c_824 = 0 then (j55_831 ())
  else (Option.bind (f_X7_touches_13 x5 x1 I F) fun c_832 =>
  if c_832 = 0 then (j55_831 ())
  else (j56_825 (1 : Int32)))))
def f_X9_firstOfFewest_31 (x1 : Int32) (x2 : Int32) (x3 : Int32) (I : WI) (F : WF) : Option (Int32 × WF) :=
  Option.bind (f_X9_fewest_31 x1 x2 x3 I F) fun c_821 =>
  bnd c_821.1 fun x4_822 =>
  bnd (0 : Int32) fun x5_823 =>
  L_X9_firstOfFewest_31_12 (some ((-1 : Int32), c_821.2)) x1 x3 x4_822 I c_821.2 FU x5_823
set_option maxRecDepth 100000 in
set_option maxHeartbeats 4000000 in
theorem g_L_X9_firstOfFewest_31_12 {X : XT} {x1 : Int32} {x3 : Int32} {x4 : Int32} {I : WI} {F : WF} {J : WI} {K : WF} {a : Int32 × WF} {k : Option (Int32 × WF)} (hk : (k = some a → GG X md_X9_firstOfFewest (rmD 4) (gv_Z X (rmD 4).cells (rmD 4).slots (some (.int a.1)) (mkW I a.2 J K)) 0 0 94 [] [] (mkW I F J K))) : ∀ (n : Nat) (x5 : Int32), L_X9_firstOfFewest_31_12 k x1 x3 x4 I F n x5 = some a → GG X md_X9_firstOfFewest (rmD 4) (gv_Z X (rmD 4).cells (rmD 4).slots (some (.int a.1)) (mkW I a.2 J K)) 0 0 12 [(0, .ref 31), (1, .int x1), (3, .int x3), (4, .int x4), (5, .int x5)] [] (mkW I F J K) := by
  intro n
  induction n with
  | zero =>
    intro x5 h
    rw [L_X9_firstOfFewest_31_12] at h
    cases h
  | succ n ih =>
    intro x5 h
    rw [L_X9_firstOfFewest_31_12] at h
    refine G_iload (pc2 := 14) 4 rfl dX9_firstOfFewest_12 rfl ?_
    refine G_aload_n (pc2 := 15) 0 rfl dX9_firstOfFewest_14 rfl rfl ?_
    refine T_31_2 (pc2 := 18) kw_280 dX9_firstOfFewest_15 rfl ?_
    refine T_13_1 (pc2 := 21) kw_103 dX9_firstOfFewest_18 rfl ?_
    refine B_icmp_ge (tgt := 94) (pc2 := 24) h dX9_firstOfFewest_21 (by decide) rfl (fun _ h => ?_) (fun _ h => ?_)
    · refine G_sub (ls' := []) [] rfl ?_
      exact hk  h
    · refine G_iload (pc2 := 26) 3 rfl dX9_firstOfFewest_24 rfl ?_
      refine B_if_le (tgt := 94) (pc2 := 29) h dX9_firstOfFewest_26 (by decide) rfl (fun _ h => ?_) (fun _ h => ?_)
      · refine G_sub (ls' := []) [] rfl ?_
        exact hk  h
      · refine G_iload (pc2 := 31) 4 rfl dX9_firstOfFewest_29 rfl ?_
        refine G_iload_n (pc2 := 32) 2 rfl dX9_firstOfFewest_31 rfl rfl ?_
        obtain ⟨c_824, hc_824, h⟩ := ob_e h
        refine B_callS (pc2 := 35) si_X9_33 (c_X9_isIn hc_824) rfl (st := []) (stq := [.int c_824]) rfl (by decide) (by decide) (Nat.le_of_ble_eq_true rfl) rfl dX9_firstOfFewest_32 rfl rfl ?_ ⟨rfl, rfl⟩
        refine jn_e (Gj := True) (fun (j : Int32 → Option (Int32 × WF)) => ∀ (s_826 : Int32), j s_826 = some a → GG X md_X9_firstOfFewest (rmD 4) (gv_Z X (rmD 4).cells (rmD 4).slots (some (.int a.1)) (mkW I a.2 J K)) 0 0 56 [(0, .ref 31), (1, .int x1), (3, .int x3), (4, .int x4), (5, .int x5)] [.int s_826] (mkW I F J K)) h (fun s_826 h => ?_) (fun j56_825 hj56_825 h => ?_)
        · refine B_istore (pc2 := 58) (fun x6_827 => [(6, .int x6_827), (0, .ref 31), (1, .int x1), (3, .int x3), (4, .int x4), (5, .int x5)]) h dX9_firstOfFewest_56 (by decide) (fun _ => rfl) rfl (fun x6_827 h => ?_)
          refine G_iload (pc2 := 60) 0 rfl dX9_firstOfFewest_58 rfl ?_
          refine jn_e (Gj := True) (fun (j : Unit → Option (Int32 × WF)) => ∀ (_u : Unit), j _u = some a → GG X md_X9_firstOfFewest (rmD 4) (gv_Z X (rmD 4).cells (rmD 4).slots (some (.int a.1)) (mkW I a.2 J K)) 0 0 88 [(0, .ref 31), (1, .int x1), (3, .int x3), (4, .int x4), (5, .int x5)] [] (mkW I F J K)) h (fun _u h => ?_) (fun j88_828 hj88_828 h => ?_)
          · refine B_iinc (pc2 := 91) 4 (fun x5_829 => [(5, .int x5_829), (0, .ref 31), (1, .int x1), (3, .int x3), (4, .int x4)]) h rfl dX9_firstOfFewest_88 ic_1 (by decide) (fun _ => rfl) rfl (fun x5_829 h => ?_)
            refine G_goto (tgt := 12) dX9_firstOfFewest_91 (by decide) ?_
            refine G_sub (ls' := [(0, .ref 31), (1, .int x1), (3, .int x3), (4, .int x4), (5, .int x5_829)]) [1, 2, 3, 4, 0] rfl ?_
            exact ih x5_829 h
          refine B_if_eq (tgt := 88) (pc2 := 63) h dX9_firstOfFewest_60 (by decide) rfl (fun _ h => ?_) (fun _ h => ?_)
          · refine G_sub (ls' := [(0, .ref 31), (1, .int x1), (3, .int x3), (4, .int x4), (5, .int x5)]) [1, 2, 3, 4, 5] rfl ?_
            exact hj88_828 () h
          · refine G_aload_n (pc2 := 64) 1 rfl dX9_firstOfFewest_63 rfl rfl ?_
            refine T_31_3 (pc2 := 67) kw_281 dX9_firstOfFewest_64 rfl ?_
            refine G_aload_n (pc2 := 68) 1 rfl dX9_firstOfFewest_67 rfl rfl ?_
            refine T_31_2 (pc2 := 71) kw_280 dX9_firstOfFewest_68 rfl ?_
            refine G_iload (pc2 := 73) 5 rfl dX9_firstOfFewest_71 rfl ?_
            refine G_iload_n (pc2 := 74) 2 rfl dX9_firstOfFewest_73 rfl rfl ?_
            obtain ⟨c_830, hc_830, h⟩ := ob_e h
            refine B_callV (pc2 := 77) si_X9_40 (c_X7_beyond_13 hc_830) (qo_13 _ _ _ _) rfl rfl rfl (st := [.ref 32]) (stq := [.int c_830, .ref 32]) rfl (by decide) (by decide) (Nat.le_of_ble_eq_true rfl) mkW_ll dX9_firstOfFewest_74 rfl rfl ?_ ⟨rfl, rfl⟩
            refine AC (pc2 := 78) (fa_32 _ _ _ _) h dX9_firstOfFewest_77 rfl (fun h => ?_)
            refine G_iload (pc2 := 80) 4 rfl dX9_firstOfFewest_78 rfl ?_
            refine G_iconst (pc2 := 81) dX9_firstOfFewest_80 ic_1 rfl ?_
            refine G_isub (pc2 := 82) dX9_firstOfFewest_81 rfl ?_
            refine B_icmp_ne (tgt := 88) (pc2 := 85) h dX9_firstOfFewest_82 (by decide) rfl (fun _ h => ?_) (fun _ h => ?_)
            · refine G_sub (ls' := [(0, .ref 31), (1, .int x1), (3, .int x3), (4, .int x4), (5, .int x5)]) [1, 2, 3, 4, 5] rfl ?_
              exact hj88_828 () h
            · refine G_iload (pc2 := 87) 5 rfl dX9_firstOfFewest_85 rfl ?_
              have ha := Option.some.inj h
              subst ha
              exact G_iret rfl dX9_firstOfFewest_87
        refine jn_e (Gj := True) (fun (j : Unit → Option (Int32 × WF)) => ∀ (_u : Unit), j _u = some a → GG X md_X9_firstOfFewest (rmD 4) (gv_Z X (rmD 4).cells (rmD 4).slots (some (.int a.1)) (mkW I a.2 J K)) 0 0 55 [(0, .ref 31), (1, .int x1), (3, .int x3), (4, .int x4), (5, .int x5)] [] (mkW I F J K)) h (fun _u h => ?_) (fun j55_831 hj55_831 h => ?_)
        · refine G_iconst (pc2 := 56) dX9_firstOfFewest_55 ic_0 rfl ?_
          exact hj56_825 (0 : Int32) h
        refine B_if_eq (tgt := 55) (pc2 := 38) h dX9_firstOfFewest_35 (by decide) rfl (fun _ h => ?_) (fun _ h => ?_)
        · exact hj55_831 () h
        · refine G_aload_n (pc2 := 39) 0 rfl dX9_firstOfFewest_38 rfl rfl ?_
          refine T_31_2 (pc2 := 42) kw_280 dX9_firstOfFewest_39 rfl ?_
          refine G_iload (pc2 := 44) 4 rfl dX9_firstOfFewest_42 rfl ?_
          refine G_iload_n (pc2 := 45) 1 rfl dX9_firstOfFewest_44 rfl rfl ?_
          obtain ⟨c_832, hc_832, h⟩ := ob_e h
          refine B_callV (pc2 := 48) si_X9_37 (c_X7_touches_13 hc_832) (qo_13 _ _ _ _) rfl rfl rfl (st := []) (stq := [.int c_832]) rfl (by decide) (by decide) (Nat.le_of_ble_eq_true rfl) mkW_ll dX9_firstOfFewest_45 rfl rfl ?_ ⟨rfl, rfl⟩
          refine B_if_eq (tgt := 55) (pc2 := 51) h dX9_firstOfFewest_48 (by decide) rfl (fun _ h => ?_) (fun _ h => ?_)
          · exact hj55_831 () h
          · refine G_iconst (pc2 := 52) dX9_firstOfFewest_51 ic_1 rfl ?_
            refine G_goto (tgt := 56) dX9_firstOfFewest_52 (by decide) ?_
            exact hj56_825 (1 : Int32) h
set_option maxRecDepth 100000 in
set_option maxHeartbeats 4000000 in
theorem c_X9_firstOfFewest_31 {x1 : Int32} {x2 : Int32} {x3 : Int32} {I : WI} {F : WF} {J : WI} {K : WF} {a : Int32 × WF} (h : f_X9_firstOfFewest_31 x1 x2 x3 I F = some a) : CT md_X9_firstOfFewest yX9_firstOfFewest (rmD 4) [.ref 31, .int x1, .int x2, .int x3] (mkW I F J K) (some (.int a.1)) (mkW I a.2 J K) := CT_of pn_X9 ⟨rfl, rfl⟩ (Nat.le_of_ble_eq_true rfl) (fun X => by
  show GG X md_X9_firstOfFewest (rmD 4) _ 0 0 0 [(0, .ref 31), (1, .int x1), (2, .int x2), (3, .int x3)] [] (mkW I F J K)
  unfold f_X9_firstOfFewest_31 at h
  refine G_aload_n (pc2 := 1) 0 rfl dX9_firstOfFewest_0 rfl rfl ?_
  refine G_iload_n (pc2 := 2) 1 rfl dX9_firstOfFewest_1 rfl rfl ?_
  refine G_iload_n (pc2 := 3) 2 rfl dX9_firstOfFewest_2 rfl rfl ?_
  refine G_iload_n (pc2 := 4) 3 rfl dX9_firstOfFewest_3 rfl rfl ?_
  obtain ⟨c_821, hc_821, h⟩ := ob_e h
  refine B_callV (pc2 := 7) si_X9_23 (c_X9_fewest_31 hc_821) (qo_31 _ _ _ _) rfl rfl rfl (st := []) (stq := [.int c_821.1]) rfl (by decide) (by decide) (Nat.le_of_ble_eq_true rfl) mkW_ll dX9_firstOfFewest_4 rfl rfl ?_ ⟨rfl, rfl⟩
  refine B_istore (pc2 := 9) (fun x4_822 => [(4, .int x4_822), (0, .ref 31), (1, .int x1), (2, .int x2), (3, .int x3)]) h dX9_firstOfFewest_7 (by decide) (fun _ => rfl) rfl (fun x4_822 h => ?_)
  refine G_iconst (pc2 := 10) dX9_firstOfFewest_9 ic_0 rfl ?_
  refine B_istore (pc2 := 12) (fun x5_823 => [(5, .int x5_823), (4, .int x4_822), (0, .ref 31), (1, .int x1), (2, .int x2), (3, .int x3)]) h dX9_firstOfFewest_10 (by decide) (fun _ => rfl) rfl (fun x5_823 h => ?_)
  refine G_sub (ls' := [(0, .ref 31), (1, .int x1), (3, .int x3), (4, .int x4_822), (5, .int x5_823)]) [2, 3, 5, 1, 0] rfl ?_
  refine g_L_X9_firstOfFewest_31_12 (fun h => ?_) FU x5_823 h
  refine G_iconst (pc2 := 95) dX9_firstOfFewest_94 ic_m1 rfl ?_
  have ha := Option.some.inj h
  subst ha
  exact G_iret rfl dX9_firstOfFewest_95)
end
