noncomputable section
def f_X11_in (x0 : Int32) (x1 : Int32) (x2 : Int32) : Option (Int32) :=
  if x0 < x1 then (some (0 : Int32))
  else (if x2 < x0 then (some (0 : Int32))
  else (some (1 : Int32)))
set_option maxRecDepth 100000 in
set_option maxHeartbeats 4000000 in
theorem c_X11_in {x0 : Int32} {x1 : Int32} {x2 : Int32} {w : List va_E} {a : Int32} (h : f_X11_in x0 x1 x2 = some a) : CT md_X11_in yX11_in (rmD 1) [.int x0, .int x1, .int x2] w (some (.int a)) w := CT_of pn_X11 ⟨rfl, rfl⟩ (Nat.le_of_ble_eq_true rfl) (fun X => by
  show GG X md_X11_in (rmD 1) _ 0 0 0 [(0, .int x0), (1, .int x1), (2, .int x2)] [] w
  unfold f_X11_in at h
  refine G_iload_n (pc2 := 1) 0 rfl dX11_in_0 rfl rfl ?_
  refine G_iload_n (pc2 := 2) 1 rfl dX11_in_1 rfl rfl ?_
  refine B_icmp_lt (tgt := 14) (pc2 := 5) h dX11_in_2 (by decide) rfl (fun _ h => ?_) (fun _ h => ?_)
  · refine G_iconst (pc2 := 15) dX11_in_14 ic_0 rfl ?_
    have ha := Option.some.inj h
    subst ha
    exact G_zret (v := (0 : Int32)) rfl (by decide) dX11_in_15
  · refine G_iload_n (pc2 := 6) 0 rfl dX11_in_5 rfl rfl ?_
    refine G_iload_n (pc2 := 7) 2 rfl dX11_in_6 rfl rfl ?_
    refine B_icmp_gt (tgt := 14) (pc2 := 10) h dX11_in_7 (by decide) rfl (fun _ h => ?_) (fun _ h => ?_)
    · refine G_iconst (pc2 := 15) dX11_in_14 ic_0 rfl ?_
      have ha := Option.some.inj h
      subst ha
      exact G_zret (v := (0 : Int32)) rfl (by decide) dX11_in_15
    · refine G_iconst (pc2 := 11) dX11_in_10 ic_1 rfl ?_
      refine G_goto (tgt := 15) dX11_in_11 (by decide) ?_
      have ha := Option.some.inj h
      subst ha
      exact G_zret (v := (1 : Int32)) rfl (by decide) dX11_in_15)
def f_X11_feed (x1 : Int32) (I : WI) (F : WF) : Option (Int32 × WI × WF) :=
  bnd (upd I 0 (0 : Int32)) fun I_1054 =>
  Option.bind (f_X11_in x1 (0 : Int32) (255 : Int32)) fun c_1055 =>
  if c_1055 = 0 then (some ((-1000000002 : Int32), I_1054, F))
  else (if (I_1054 1) = (240 : Int32) then (some ((-1000000004 : Int32), I_1054, F))
  else (ixG (I_1054 1) 240 (bnd (uF F 0 (upd (F 0) (I_1054 1).toNatClampNeg x1)) fun F_1056 =>
  bnd (upd I_1054 1 ((I_1054 1) + (1 : Int32))) fun I_1057 =>
  some ((I_1057 1), I_1057, F_1056))))
set_option maxRecDepth 100000 in
set_option maxHeartbeats 4000000 in
theorem c_X11_feed {x1 : Int32} {I : WI} {F : WF} {J : WI} {K : WF} {a : Int32 × WI × WF} (h : f_X11_feed x1 I F = some a) : CT md_X11_feed yX11_feed (rmD 2) [.ref 209, .int x1] (mkW J K I F) (some (.int a.1)) (mkW J K a.2.1 a.2.2) := CT_of pn_X11 ⟨rfl, rfl⟩ (Nat.le_of_ble_eq_true rfl) (fun X => by
  show GG X md_X11_feed (rmD 2) _ 0 0 0 [(0, .ref 209), (1, .int x1)] [] (mkW J K I F)
  unfold f_X11_feed at h
  refine G_aload_n (pc2 := 1) 0 rfl dX11_feed_0 rfl rfl ?_
  refine G_iconst (pc2 := 2) dX11_feed_1 ic_0 rfl ?_
  refine P_209_0 (pc2 := 5) h kw_902 dX11_feed_2 rfl (fun I_1054 h => ?_)
  refine G_iload_n (pc2 := 6) 1 rfl dX11_feed_5 rfl rfl ?_
  refine G_iconst (pc2 := 7) dX11_feed_6 ic_0 rfl ?_
  refine G_sipush (pc2 := 10) dX11_feed_7 is_255 rfl ?_
  obtain ⟨c_1055, hc_1055, h⟩ := ob_e h
  refine B_callS (pc2 := 13) si_X11_66 (c_X11_in hc_1055) rfl (st := []) (stq := [.int c_1055]) rfl (by decide) (by decide) (Nat.le_of_ble_eq_true rfl) rfl dX11_feed_10 rfl rfl ?_ ⟨rfl, rfl⟩
  refine B_if_ne (tgt := 19) (pc2 := 16) h dX11_feed_13 (by decide) rfl (fun _ h => ?_) (fun _ h => ?_)
  · refine G_aload_n (pc2 := 20) 0 rfl dX11_feed_19 rfl rfl ?_
    refine T_209_2 (pc2 := 23) kw_904 dX11_feed_20 rfl ?_
    refine G_sipush (pc2 := 26) dX11_feed_23 is_240 rfl ?_
    refine B_icmp_ne (tgt := 32) (pc2 := 29) h dX11_feed_26 (by decide) rfl (fun _ h => ?_) (fun _ h => ?_)
    · refine G_aload_n (pc2 := 33) 0 rfl dX11_feed_32 rfl rfl ?_
      refine T_209_1 (pc2 := 36) kw_903 dX11_feed_33 rfl ?_
      refine G_aload_n (pc2 := 37) 0 rfl dX11_feed_36 rfl rfl ?_
      refine T_209_2 (pc2 := 40) kw_904 dX11_feed_37 rfl ?_
      refine G_iload_n (pc2 := 41) 1 rfl dX11_feed_40 rfl rfl ?_
      refine SM (pc2 := 42) (fa_210 _ _ _ _) h dX11_feed_41 rfl (fun F_1056 h => ?_)
      refine G_aload_n (pc2 := 43) 0 rfl dX11_feed_42 rfl rfl ?_
      refine G_dup (pc2 := 44) rfl dX11_feed_43 rfl ?_
      refine T_209_2 (pc2 := 47) kw_904 dX11_feed_44 rfl ?_
      refine G_iconst (pc2 := 48) dX11_feed_47 ic_1 rfl ?_
      refine G_iadd (pc2 := 49) dX11_feed_48 rfl ?_
      refine P_209_2 (pc2 := 52) h kw_904 dX11_feed_49 rfl (fun I_1057 h => ?_)
      refine G_aload_n (pc2 := 53) 0 rfl dX11_feed_52 rfl rfl ?_
      refine T_209_2 (pc2 := 56) kw_904 dX11_feed_53 rfl ?_
      have ha := Option.some.inj h
      subst ha
      exact G_iret rfl dX11_feed_56
    · refine G_ldc (pc2 := 31) kw_990 dX11_feed_29 rfl ?_
      have ha := Option.some.inj h
      subst ha
      exact G_iret rfl dX11_feed_31
  · refine G_ldc (pc2 := 18) kw_989 dX11_feed_16 rfl ?_
    have ha := Option.some.inj h
    subst ha
    exact G_iret rfl dX11_feed_18)
def f_X11_letterAt (x1 : Int32) (I : WI) (F : WF) : Option (Int32) :=
  if (I 1) ≤ x1 then (some (-1 : Int32))
  else (ixG x1 240 (
  some (F 0 x1.toNatClampNeg)))
set_option maxRecDepth 100000 in
set_option maxHeartbeats 4000000 in
theorem c_X11_letterAt {x1 : Int32} {I : WI} {F : WF} {J : WI} {K : WF} {a : Int32} (h : f_X11_letterAt x1 I F = some a) : CT md_X11_letterAt yX11_letterAt (rmD 1) [.ref 209, .int x1] (mkW J K I F) (some (.int a)) (mkW J K I F) := CT_of pn_X11 ⟨rfl, rfl⟩ (Nat.le_of_ble_eq_true rfl) (fun X => by
  show GG X md_X11_letterAt (rmD 1) _ 0 0 0 [(0, .ref 209), (1, .int x1)] [] (mkW J K I F)
  unfold f_X11_letterAt at h
  refine G_iload_n (pc2 := 1) 1 rfl dX11_letterAt_0 rfl rfl ?_
  refine G_aload_n (pc2 := 2) 0 rfl dX11_letterAt_1 rfl rfl ?_
  refine T_209_2 (pc2 := 5) kw_904 dX11_letterAt_2 rfl ?_
  refine B_icmp_ge (tgt := 17) (pc2 := 8) h dX11_letterAt_5 (by decide) rfl (fun _ h => ?_) (fun _ h => ?_)
  · refine G_iconst (pc2 := 18) dX11_letterAt_17 ic_m1 rfl ?_
    have ha := Option.some.inj h
    subst ha
    exact G_iret rfl dX11_letterAt_18
  · refine G_aload_n (pc2 := 9) 0 rfl dX11_letterAt_8 rfl rfl ?_
    refine T_209_1 (pc2 := 12) kw_903 dX11_letterAt_9 rfl ?_
    refine G_iload_n (pc2 := 13) 1 rfl dX11_letterAt_12 rfl rfl ?_
    refine AM (pc2 := 14) (fa_210 _ _ _ _) h dX11_letterAt_13 rfl (fun h => ?_)
    refine G_goto (tgt := 18) dX11_letterAt_14 (by decide) ?_
    have ha := Option.some.inj h
    subst ha
    exact G_iret rfl dX11_letterAt_18)
def L_X11_blanks_0 (k : WI → Option (WI))  (F : WF) : Nat → WI → Option (WI)
  | 0, _ => none
  | n + 1, I =>
  Option.bind (f_X11_letterAt (I 2) I F) fun c_1067 =>
  if c_1067 = (32 : Int32) then (bnd (upd I 2 ((I 2) + (1 : Int32))) fun I_1068 =>
  L_X11_blanks_0 k F n I_1068)
  else (k I)
def f_X11_blanks (I : WI) (F : WF) : Option (WI) :=
  Option.bind (f_X11_letterAt (I 2) I F) fun c_1065 =>
  if c_1065 = (32 : Int32) then (bnd (upd I 2 ((I 2) + (1 : Int32))) fun I_1066 =>
  L_X11_blanks_0 (fun I_1069 => some I_1069) F FU I_1066)
  else (some I)
set_option maxRecDepth 100000 in
set_option maxHeartbeats 4000000 in
theorem g_L_X11_blanks_0 {X : XT} {F : WF} {J : WI} {K : WF} {a : WI} {k : WI → Option (WI)} (hk : ∀ (I' : WI), (k I' = some a → GG X md_X11_blanks (rmD 2) (gv_Z X (rmD 2).cells (rmD 2).slots none (mkW J K a F)) 0 0 26 [] [] (mkW J K I' F))) : ∀ (n : Nat) (I : WI), L_X11_blanks_0 k F n I = some a → GG X md_X11_blanks (rmD 2) (gv_Z X (rmD 2).cells (rmD 2).slots none (mkW J K a F)) 0 0 0 [(0, .ref 209)] [] (mkW J K I F) := by
  intro n
  induction n with
  | zero =>
    intro I h
    rw [L_X11_blanks_0] at h
    cases h
  | succ n ih =>
    intro I h
    rw [L_X11_blanks_0] at h
    refine G_aload_n (pc2 := 1) 0 rfl dX11_blanks_0 rfl rfl ?_
    refine G_aload_n (pc2 := 2) 0 rfl dX11_blanks_1 rfl rfl ?_
    refine T_209_3 (pc2 := 5) kw_905 dX11_blanks_2 rfl ?_
    obtain ⟨c_1067, hc_1067, h⟩ := ob_e h
    refine B_callV (pc2 := 8) si_X11_78 (c_X11_letterAt hc_1067) (qo_209 _ _ _ _) rfl rfl rfl (st := []) (stq := [.int c_1067]) rfl (by decide) (by decide) (Nat.le_of_ble_eq_true rfl) mkW_ll dX11_blanks_5 rfl rfl ?_ ⟨rfl, rfl⟩
    refine G_bipush (pc2 := 10) dX11_blanks_8 ib_32 rfl ?_
    refine B_icmp_ne (tgt := 26) (pc2 := 13) h dX11_blanks_10 (by decide) rfl (fun _ h => ?_) (fun _ h => ?_)
    · refine G_sub (ls' := []) [] rfl ?_
      exact hk I h
    · refine G_aload_n (pc2 := 14) 0 rfl dX11_blanks_13 rfl rfl ?_
      refine G_dup (pc2 := 15) rfl dX11_blanks_14 rfl ?_
      refine T_209_3 (pc2 := 18) kw_905 dX11_blanks_15 rfl ?_
      refine G_iconst (pc2 := 19) dX11_blanks_18 ic_1 rfl ?_
      refine G_iadd (pc2 := 20) dX11_blanks_19 rfl ?_
      refine P_209_3 (pc2 := 23) h kw_905 dX11_blanks_20 rfl (fun I_1068 h => ?_)
      refine G_goto (tgt := 0) dX11_blanks_23 (by decide) ?_
      exact ih I_1068 h
set_option maxRecDepth 100000 in
set_option maxHeartbeats 4000000 in
theorem c_X11_blanks {I : WI} {F : WF} {J : WI} {K : WF} {a : WI} (h : f_X11_blanks  I F = some a) : CT md_X11_blanks yX11_blanks (rmD 2) [.ref 209] (mkW J K I F) none (mkW J K a F) := CT_of pn_X11 ⟨rfl, rfl⟩ (Nat.le_of_ble_eq_true rfl) (fun X => by
  show GG X md_X11_blanks (rmD 2) _ 0 0 0 [(0, .ref 209)] [] (mkW J K I F)
  unfold f_X11_blanks at h
  refine G_aload_n (pc2 := 1) 0 rfl dX11_blanks_0 rfl rfl ?_
  refine G_aload_n (pc2 := 2) 0 rfl dX11_blanks_1 rfl rfl ?_
  refine T_209_3 (pc2 := 5) kw_905 dX11_blanks_2 rfl ?_
  obtain ⟨c_1065, hc_1065, h⟩ := ob_e h
  refine B_callV (pc2 := 8) si_X11_78 (c_X11_letterAt hc_1065) (qo_209 _ _ _ _) rfl rfl rfl (st := []) (stq := [.int c_1065]) rfl (by decide) (by decide) (Nat.le_of_ble_eq_true rfl) mkW_ll dX11_blanks_5 rfl rfl ?_ ⟨rfl, rfl⟩
  refine G_bipush (pc2 := 10) dX11_blanks_8 ib_32 rfl ?_
  refine B_icmp_ne (tgt := 26) (pc2 := 13) h dX11_blanks_10 (by decide) rfl (fun _ h => ?_) (fun _ h => ?_)
  · have ha := Option.some.inj h
    subst ha
    exact G_vret rfl dX11_blanks_26
  · refine G_aload_n (pc2 := 14) 0 rfl dX11_blanks_13 rfl rfl ?_
    refine G_dup (pc2 := 15) rfl dX11_blanks_14 rfl ?_
    refine T_209_3 (pc2 := 18) kw_905 dX11_blanks_15 rfl ?_
    refine G_iconst (pc2 := 19) dX11_blanks_18 ic_1 rfl ?_
    refine G_iadd (pc2 := 20) dX11_blanks_19 rfl ?_
    refine P_209_3 (pc2 := 23) h kw_905 dX11_blanks_20 rfl (fun I_1066 h => ?_)
    refine G_goto (tgt := 0) dX11_blanks_23 (by decide) ?_
    refine g_L_X11_blanks_0 (fun I_1069 h => ?_) FU I_1066 h
    have ha := Option.some.inj h
    subst ha
    exact G_vret rfl dX11_blanks_26)
def f_X11_isWell (I : WI) (F : WF) : Option (Int32) :=
  if (I 3) = 0 then (some (1 : Int32))
  else (some (0 : Int32))
set_option maxRecDepth 100000 in
set_option maxHeartbeats 4000000 in
theorem c_X11_isWell {I : WI} {F : WF} {J : WI} {K : WF} {a : Int32} (h : f_X11_isWell  I F = some a) : CT md_X11_isWell yX11_isWell (rmD 1) [.ref 209] (mkW J K I F) (some (.int a)) (mkW J K I F) := CT_of pn_X11 ⟨rfl, rfl⟩ (Nat.le_of_ble_eq_true rfl) (fun X => by
  show GG X md_X11_isWell (rmD 1) _ 0 0 0 [(0, .ref 209)] [] (mkW J K I F)
  unfold f_X11_isWell at h
  refine G_aload_n (pc2 := 1) 0 rfl dX11_isWell_0 rfl rfl ?_
  refine T_209_4 (pc2 := 4) kw_906 dX11_isWell_1 rfl ?_
  refine B_if_ne (tgt := 11) (pc2 := 7) h dX11_isWell_4 (by decide) rfl (fun _ h => ?_) (fun _ h => ?_)
  · refine G_iconst (pc2 := 12) dX11_isWell_11 ic_0 rfl ?_
    have ha := Option.some.inj h
    subst ha
    exact G_zret (v := (0 : Int32)) rfl (by decide) dX11_isWell_12
  · refine G_iconst (pc2 := 8) dX11_isWell_7 ic_1 rfl ?_
    refine G_goto (tgt := 12) dX11_isWell_8 (by decide) ?_
    have ha := Option.some.inj h
    subst ha
    exact G_zret (v := (1 : Int32)) rfl (by decide) dX11_isWell_12)
def f_X11_isMore (x1 : Int32) (I : WI) (F : WF) : Option (Int32) :=
  bnd (fun (s_1081 : Int32) => bnd s_1081 fun x2_1082 =>
  if x2_1082 = 0 then (bnd (fun (_u : Unit) => if x1 = (106 : Int32) then (if (F 1 3) = (6 : Int32) then (some (1 : Int32))
  else (some (0 : Int32)))
  else (some (0 : Int32))) fun j59_1083 =>
  if x1 = (107 : Int32) then (if (F 1 2) = (9 : Int32) then (some (1 : Int32))
  else (j59_1083 ()))
  else (j59_1083 ()))
  else (some (1 : Int32))) fun j37_1080 =>
  bnd (fun (_u : Unit) => j37_1080 (1 : Int32)) fun j32_1084 =>
  bnd (fun (_u : Unit) => bnd (fun (_u : Unit) => j37_1080 (0 : Int32)) fun j36_1086 =>
  if x1 = (98 : Int32) then (if (F 1 1) = (9 : Int32) then (j32_1084 ())
  else (j36_1086 ()))
  else (j36_1086 ())) fun j15_1085 =>
  if x1 = (110 : Int32) then (if 0 < (F 1 0) then (j32_1084 ())
  else (j15_1085 ()))
  else (j15_1085 ())
set_option maxRecDepth 100000 in
set_option maxHeartbeats 4000000 in
theorem c_X11_isMore {x1 : Int32} {I : WI} {F : WF} {J : WI} {K : WF} {a : Int32} (h : f_X11_isMore x1 I F = some a) : CT md_X11_isMore yX11_isMore (rmD 1) [.ref 209, .int x1] (mkW J K I F) (some (.int a)) (mkW J K I F) := CT_of pn_X11 ⟨rfl, rfl⟩ (Nat.le_of_ble_eq_true rfl) (fun X => by
  show GG X md_X11_isMore (rmD 1) _ 0 0 0 [(0, .ref 209), (1, .int x1)] [] (mkW J K I F)
  unfold f_X11_isMore at h
  refine G_iload_n (pc2 := 1) 1 rfl dX11_isMore_0 rfl rfl ?_
  refine G_bipush (pc2 := 3) dX11_isMore_1 ib_110 rfl ?_
  refine jn_e (Gj := True) (fun (j : Int32 → Option (Int32)) => ∀ (s_1081 : Int32), j s_1081 = some a → GG X md_X11_isMore (rmD 1) (gv_Z X (rmD 1).cells (rmD 1).slots (some (.int a)) (mkW J K I F)) 0 0 37 [(0, .ref 209), (1, .int x1)] [.int s_1081] (mkW J K I F)) h (fun s_1081 h => ?_) (fun j37_1080 hj37_1080 h => ?_)
  · refine B_istore_n (pc2 := 38) (fun x2_1082 => [(2, .int x2_1082), (0, .ref 209), (1, .int x1)]) h dX11_isMore_37 rfl (by decide) (fun _ => rfl) rfl (fun x2_1082 h => ?_)
    refine G_iload_n (pc2 := 39) 0 rfl dX11_isMore_38 rfl rfl ?_
    refine B_if_ne (tgt := 76) (pc2 := 42) h dX11_isMore_39 (by decide) rfl (fun _ h => ?_) (fun _ h => ?_)
    · refine G_iconst (pc2 := 77) dX11_isMore_76 ic_1 rfl ?_
      refine G_goto (tgt := 81) dX11_isMore_77 (by decide) ?_
      have ha := Option.some.inj h
      subst ha
      exact G_zret (v := (1 : Int32)) rfl (by decide) dX11_isMore_81
    · refine G_iload_n (pc2 := 43) 2 rfl dX11_isMore_42 rfl rfl ?_
      refine G_bipush (pc2 := 45) dX11_isMore_43 ib_107 rfl ?_
      refine jn_e (Gj := True) (fun (j : Unit → Option (Int32)) => ∀ (_u : Unit), j _u = some a → GG X md_X11_isMore (rmD 1) (gv_Z X (rmD 1).cells (rmD 1).slots (some (.int a)) (mkW J K I F)) 0 0 59 [(0, .ref 209), (1, .int x1)] [] (mkW J K I F)) h (fun _u h => ?_) (fun j59_1083 hj59_1083 h => ?_)
      · refine G_iload_n (pc2 := 60) 1 rfl dX11_isMore_59 rfl rfl ?_
        refine G_bipush (pc2 := 62) dX11_isMore_60 ib_106 rfl ?_
        refine B_icmp_ne (tgt := 80) (pc2 := 65) h dX11_isMore_62 (by decide) rfl (fun _ h => ?_) (fun _ h => ?_)
        · refine G_iconst (pc2 := 81) dX11_isMore_80 ic_0 rfl ?_
          have ha := Option.some.inj h
          subst ha
          exact G_zret (v := (0 : Int32)) rfl (by decide) dX11_isMore_81
        · refine G_aload_n (pc2 := 66) 0 rfl dX11_isMore_65 rfl rfl ?_
          refine T_209_7 (pc2 := 69) kw_909 dX11_isMore_66 rfl ?_
          refine G_iconst (pc2 := 70) dX11_isMore_69 ic_3 rfl ?_
          refine AMc (pc2 := 71) (fa_211 _ _ _ _) cl_3 rfl dX11_isMore_70 rfl ?_
          refine G_bipush (pc2 := 73) dX11_isMore_71 ib_6 rfl ?_
          refine B_icmp_ne (tgt := 80) (pc2 := 76) h dX11_isMore_73 (by decide) rfl (fun _ h => ?_) (fun _ h => ?_)
          · refine G_iconst (pc2 := 81) dX11_isMore_80 ic_0 rfl ?_
            have ha := Option.some.inj h
            subst ha
            exact G_zret (v := (0 : Int32)) rfl (by decide) dX11_isMore_81
          · refine G_iconst (pc2 := 77) dX11_isMore_76 ic_1 rfl ?_
            refine G_goto (tgt := 81) dX11_isMore_77 (by decide) ?_
            have ha := Option.some.inj h
            subst ha
            exact G_zret (v := (1 : Int32)) rfl (by decide) dX11_isMore_81
      refine B_icmp_ne (tgt := 59) (pc2 := 48) h dX11_isMore_45 (by decide) rfl (fun _ h => ?_) (fun _ h => ?_)
      · refine G_sub (ls' := [(0, .ref 209), (1, .int x1)]) [1, 2] rfl ?_
        exact hj59_1083 () h
      · refine G_aload_n (pc2 := 49) 1 rfl dX11_isMore_48 rfl rfl ?_
        refine T_209_7 (pc2 := 52) kw_909 dX11_isMore_49 rfl ?_
        refine G_iconst (pc2 := 53) dX11_isMore_52 ic_2 rfl ?_
        refine AMc (pc2 := 54) (fa_211 _ _ _ _) cl_2 rfl dX11_isMore_53 rfl ?_
        refine G_bipush (pc2 := 56) dX11_isMore_54 ib_9 rfl ?_
        refine B_icmp_eq (tgt := 76) (pc2 := 59) h dX11_isMore_56 (by decide) rfl (fun _ h => ?_) (fun _ h => ?_)
        · refine G_iconst (pc2 := 77) dX11_isMore_76 ic_1 rfl ?_
          refine G_goto (tgt := 81) dX11_isMore_77 (by decide) ?_
          have ha := Option.some.inj h
          subst ha
          exact G_zret (v := (1 : Int32)) rfl (by decide) dX11_isMore_81
        · refine G_sub (ls' := [(0, .ref 209), (1, .int x1)]) [1, 2] rfl ?_
          exact hj59_1083 () h
  refine jn_e (Gj := True) (fun (j : Unit → Option (Int32)) => ∀ (_u : Unit), j _u = some a → GG X md_X11_isMore (rmD 1) (gv_Z X (rmD 1).cells (rmD 1).slots (some (.int a)) (mkW J K I F)) 0 0 32 [(0, .ref 209), (1, .int x1)] [] (mkW J K I F)) h (fun _u h => ?_) (fun j32_1084 hj32_1084 h => ?_)
  · refine G_iconst (pc2 := 33) dX11_isMore_32 ic_1 rfl ?_
    refine G_goto (tgt := 37) dX11_isMore_33 (by decide) ?_
    exact hj37_1080 (1 : Int32) h
  refine jn_e (Gj := True) (fun (j : Unit → Option (Int32)) => ∀ (_u : Unit), j _u = some a → GG X md_X11_isMore (rmD 1) (gv_Z X (rmD 1).cells (rmD 1).slots (some (.int a)) (mkW J K I F)) 0 0 15 [(0, .ref 209), (1, .int x1)] [] (mkW J K I F)) h (fun _u h => ?_) (fun j15_1085 hj15_1085 h => ?_)
  · refine G_iload_n (pc2 := 16) 1 rfl dX11_isMore_15 rfl rfl ?_
    refine G_bipush (pc2 := 18) dX11_isMore_16 ib_98 rfl ?_
    refine jn_e (Gj := True) (fun (j : Unit → Option (Int32)) => ∀ (_u : Unit), j _u = some a → GG X md_X11_isMore (rmD 1) (gv_Z X (rmD 1).cells (rmD 1).slots (some (.int a)) (mkW J K I F)) 0 0 36 [(0, .ref 209), (1, .int x1)] [] (mkW J K I F)) h (fun _u h => ?_) (fun j36_1086 hj36_1086 h => ?_)
    · refine G_iconst (pc2 := 37) dX11_isMore_36 ic_0 rfl ?_
      exact hj37_1080 (0 : Int32) h
    refine B_icmp_ne (tgt := 36) (pc2 := 21) h dX11_isMore_18 (by decide) rfl (fun _ h => ?_) (fun _ h => ?_)
    · exact hj36_1086 () h
    · refine G_aload_n (pc2 := 22) 0 rfl dX11_isMore_21 rfl rfl ?_
      refine T_209_7 (pc2 := 25) kw_909 dX11_isMore_22 rfl ?_
      refine G_iconst (pc2 := 26) dX11_isMore_25 ic_1 rfl ?_
      refine AMc (pc2 := 27) (fa_211 _ _ _ _) cl_1 rfl dX11_isMore_26 rfl ?_
      refine G_bipush (pc2 := 29) dX11_isMore_27 ib_9 rfl ?_
      refine B_icmp_ne (tgt := 36) (pc2 := 32) h dX11_isMore_29 (by decide) rfl (fun _ h => ?_) (fun _ h => ?_)
      · exact hj36_1086 () h
      · exact hj32_1084 () h
  refine B_icmp_ne (tgt := 15) (pc2 := 6) h dX11_isMore_3 (by decide) rfl (fun _ h => ?_) (fun _ h => ?_)
  · exact hj15_1085 () h
  · refine G_aload_n (pc2 := 7) 0 rfl dX11_isMore_6 rfl rfl ?_
    refine T_209_7 (pc2 := 10) kw_909 dX11_isMore_7 rfl ?_
    refine G_iconst (pc2 := 11) dX11_isMore_10 ic_0 rfl ?_
    refine AMc (pc2 := 12) (fa_211 _ _ _ _) cl_0 rfl dX11_isMore_11 rfl ?_
    refine B_if_gt (tgt := 32) (pc2 := 15) h dX11_isMore_12 (by decide) rfl (fun _ h => ?_) (fun _ h => ?_)
    · exact hj32_1084 () h
    · exact hj15_1085 () h)
def f_X11_faulty (x1 : Int32) (x2 : Int32) (I : WI) (F : WF) : Option (WI) :=
  Option.bind (f_X11_isWell I F) fun c_1103 =>
  if c_1103 = 0 then (some I)
  else (bnd (upd I 3 x1) fun I_1104 =>
  bnd (upd I_1104 4 x2) fun I_1105 =>
  some I_1105)
set_option maxRecDepth 100000 in
set_option maxHeartbeats 4000000 in
theorem c_X11_faulty {x1 : Int32} {x2 : Int32} {I : WI} {F : WF} {J : WI} {K : WF} {a : WI} (h : f_X11_faulty x1 x2 I F = some a) : CT md_X11_faulty yX11_faulty (rmD 2) [.ref 209, .int x1, .int x2] (mkW J K I F) none (mkW J K a F) := CT_of pn_X11 ⟨rfl, rfl⟩ (Nat.le_of_ble_eq_true rfl) (fun X => by
  show GG X md_X11_faulty (rmD 2) _ 0 0 0 [(0, .ref 209), (1, .int x1), (2, .int x2)] [] (mkW J K I F)
  unfold f_X11_faulty at h
  refine G_aload_n (pc2 := 1) 0 rfl dX11_faulty_0 rfl rfl ?_
  obtain ⟨c_1103, hc_1103, h⟩ := ob_e h
  refine B_callV (pc2 := 4) si_X11_85 (c_X11_isWell hc_1103) (qo_209 _ _ _ _) rfl rfl rfl (st := []) (stq := [.int c_1103]) rfl (by decide) (by decide) (Nat.le_of_ble_eq_true rfl) mkW_ll dX11_faulty_1 rfl rfl ?_ ⟨rfl, rfl⟩
  refine B_if_eq (tgt := 17) (pc2 := 7) h dX11_faulty_4 (by decide) rfl (fun _ h => ?_) (fun _ h => ?_)
  · have ha := Option.some.inj h
    subst ha
    exact G_vret rfl dX11_faulty_17
  · refine G_aload_n (pc2 := 8) 0 rfl dX11_faulty_7 rfl rfl ?_
    refine G_iload_n (pc2 := 9) 1 rfl dX11_faulty_8 rfl rfl ?_
    refine P_209_4 (pc2 := 12) h kw_906 dX11_faulty_9 rfl (fun I_1104 h => ?_)
    refine G_aload_n (pc2 := 13) 0 rfl dX11_faulty_12 rfl rfl ?_
    refine G_iload_n (pc2 := 14) 2 rfl dX11_faulty_13 rfl rfl ?_
    refine P_209_5 (pc2 := 17) h kw_907 dX11_faulty_14 rfl (fun I_1105 h => ?_)
    have ha := Option.some.inj h
    subst ha
    exact G_vret rfl dX11_faulty_17)
def L_X11_due_23 (k : Int32 → WI → Option (Int32 × WI)) (x1 : Int32) (x2 : Int32) (F : WF) : Nat → Int32 → WI → Option (Int32 × WI)
  | 0, _, _ => none
  | n + 1, x3, I =>
  Option.bind (f_X11_letterAt (I 2) I F) fun c_1093 =>
  Option.bind (f_X11_in c_1093 (48 : Int32) (57 : Int32)) fun c_1094 =>
  if c_1094 = 0 then (k x3 I)
  else (bnd (fun (s_1096 : Int32) => bnd s_1096 fun x3_1097 =>
  bnd (upd I 2 ((I 2) + (1 : Int32))) fun I_1098 =>
  L_X11_due_23 k x1 x2 F n x3_1097 I_1098) fun j68_1095 =>
  if x3 ≤ (9999 : Int32) then (Option.bind (f_X11_letterAt (I 2) I F) fun c_1099 =>
  j68_1095 ((((10 : Int32) * x3) + c_1099) - (48 : Int32)))
  else (j68_1095 x3))
def f_X11_due (x1 : Int32) (x2 : Int32) (I : WI) (F : WF) : Option (Int32 × WI) :=
  Option.bind (f_X11_isWell I F) fun c_1089 =>
  if c_1089 = 0 then (some ((0 : Int32), I))
  else (Option.bind (f_X11_blanks I F) fun c_1090 =>
  bnd (upd c_1090 9 (c_1090 2)) fun I_1091 =>
  bnd (0 : Int32) fun x3_1092 =>
  L_X11_due_23 (fun x3_1100 I_1101 => if (I_1101 2) = (I_1101 9) then (Option.bind (f_X11_faulty (1 : Int32) (I_1101 9) I_1101 F) fun c_1108 =>
  some (x3_1100, c_1108))
  else (bnd (fun (_u : Unit) => Option.bind (f_X11_faulty (2 : Int32) (I_1101 9) I_1101 F) fun c_1106 =>
  some (x3_1100, c_1106)) fun j127_1102 =>
  if (3 : Int32) < ((I_1101 2) - (I_1101 9)) then (j127_1102 ())
  else (Option.bind (f_X11_in x3_1100 x1 x2) fun c_1107 =>
  if c_1107 = 0 then (j127_1102 ())
  else (some (x3_1100, I_1101))))) x1 x2 F FU x3_1092 I_1091)
set_option maxRecDepth 100000 in
set_option maxHeartbeats 4000000 in
theorem g_L_X11_due_23 {X : XT} {x1 : Int32} {x2 : Int32} {F : WF} {J : WI} {K : WF} {a : Int32 × WI} {k : Int32 → WI → Option (Int32 × WI)} (hk : ∀ (e3 : Int32) (I' : WI), (k e3 I' = some a → GG X md_X11_due (rmD 3) (gv_Z X (rmD 3).cells (rmD 3).slots (some (.int a.1)) (mkW J K a.2 F)) 0 0 82 [(0, .ref 209), (1, .int x1), (2, .int x2), (3, .int e3)] [] (mkW J K I' F))) : ∀ (n : Nat) (x3 : Int32) (I : WI), L_X11_due_23 k x1 x2 F n x3 I = some a → GG X md_X11_due (rmD 3) (gv_Z X (rmD 3).cells (rmD 3).slots (some (.int a.1)) (mkW J K a.2 F)) 0 0 23 [(0, .ref 209), (1, .int x1), (2, .int x2), (3, .int x3)] [] (mkW J K I F) := by
  intro n
  induction n with
  | zero =>
    intro x3 I h
    rw [L_X11_due_23] at h
    cases h
  | succ n ih =>
    intro x3 I h
    rw [L_X11_due_23] at h
    refine G_aload_n (pc2 := 24) 0 rfl dX11_due_23 rfl rfl ?_
    refine G_aload_n (pc2 := 25) 0 rfl dX11_due_24 rfl rfl ?_
    refine T_209_3 (pc2 := 28) kw_905 dX11_due_25 rfl ?_
    obtain ⟨c_1093, hc_1093, h⟩ := ob_e h
    refine B_callV (pc2 := 31) si_X11_78 (c_X11_letterAt hc_1093) (qo_209 _ _ _ _) rfl rfl rfl (st := []) (stq := [.int c_1093]) rfl (by decide) (by decide) (Nat.le_of_ble_eq_true rfl) mkW_ll dX11_due_28 rfl rfl ?_ ⟨rfl, rfl⟩
    refine G_bipush (pc2 := 33) dX11_due_31 ib_48 rfl ?_
    refine G_bipush (pc2 := 35) dX11_due_33 ib_57 rfl ?_
    obtain ⟨c_1094, hc_1094, h⟩ := ob_e h
    refine B_callS (pc2 := 38) si_X11_66 (c_X11_in hc_1094) rfl (st := []) (stq := [.int c_1094]) rfl (by decide) (by decide) (Nat.le_of_ble_eq_true rfl) rfl dX11_due_35 rfl rfl ?_ ⟨rfl, rfl⟩
    refine B_if_eq (tgt := 82) (pc2 := 41) h dX11_due_38 (by decide) rfl (fun _ h => ?_) (fun _ h => ?_)
    · exact hk x3 I h
    · refine G_iload_n (pc2 := 42) 3 rfl dX11_due_41 rfl rfl ?_
      refine G_sipush (pc2 := 45) dX11_due_42 is_9999 rfl ?_
      refine jn_e (Gj := True) (fun (j : Int32 → Option (Int32 × WI)) => ∀ (s_1096 : Int32), j s_1096 = some a → GG X md_X11_due (rmD 3) (gv_Z X (rmD 3).cells (rmD 3).slots (some (.int a.1)) (mkW J K a.2 F)) 0 0 68 [(0, .ref 209), (1, .int x1), (2, .int x2)] [.int s_1096] (mkW J K I F)) h (fun s_1096 h => ?_) (fun j68_1095 hj68_1095 h => ?_)
      · refine B_istore_n (pc2 := 69) (fun x3_1097 => [(3, .int x3_1097), (0, .ref 209), (1, .int x1), (2, .int x2)]) h dX11_due_68 rfl (by decide) (fun _ => rfl) rfl (fun x3_1097 h => ?_)
        refine G_aload_n (pc2 := 70) 1 rfl dX11_due_69 rfl rfl ?_
        refine G_dup (pc2 := 71) rfl dX11_due_70 rfl ?_
        refine T_209_3 (pc2 := 74) kw_905 dX11_due_71 rfl ?_
        refine G_iconst (pc2 := 75) dX11_due_74 ic_1 rfl ?_
        refine G_iadd (pc2 := 76) dX11_due_75 rfl ?_
        refine P_209_3 (pc2 := 79) h kw_905 dX11_due_76 rfl (fun I_1098 h => ?_)
        refine G_goto (tgt := 23) dX11_due_79 (by decide) ?_
        refine G_sub (ls' := [(0, .ref 209), (1, .int x1), (2, .int x2), (3, .int x3_1097)]) [1, 2, 3, 0] rfl ?_
        exact ih x3_1097 I_1098 h
      refine B_icmp_le (tgt := 52) (pc2 := 48) h dX11_due_45 (by decide) rfl (fun _ h => ?_) (fun _ h => ?_)
      · refine G_bipush (pc2 := 54) dX11_due_52 ib_10 rfl ?_
        refine G_iload_n (pc2 := 55) 3 rfl dX11_due_54 rfl rfl ?_
        refine G_imul (pc2 := 56) dX11_due_55 rfl ?_
        refine G_aload_n (pc2 := 57) 0 rfl dX11_due_56 rfl rfl ?_
        refine G_aload_n (pc2 := 58) 0 rfl dX11_due_57 rfl rfl ?_
        refine T_209_3 (pc2 := 61) kw_905 dX11_due_58 rfl ?_
        obtain ⟨c_1099, hc_1099, h⟩ := ob_e h
        refine B_callV (pc2 := 64) si_X11_78 (c_X11_letterAt hc_1099) (qo_209 _ _ _ _) rfl rfl rfl (st := [.int ((10 : Int32) * x3)]) (stq := [.int c_1099, .int ((10 : Int32) * x3)]) rfl (by decide) (by decide) (Nat.le_of_ble_eq_true rfl) mkW_ll dX11_due_61 rfl rfl ?_ ⟨rfl, rfl⟩
        refine G_iadd (pc2 := 65) dX11_due_64 rfl ?_
        refine G_bipush (pc2 := 67) dX11_due_65 ib_48 rfl ?_
        refine G_isub (pc2 := 68) dX11_due_67 rfl ?_
        refine G_sub (ls' := [(0, .ref 209), (1, .int x1), (2, .int x2)]) [0, 1, 2] rfl ?_
        exact hj68_1095 ((((10 : Int32) * x3) + c_1099) - (48 : Int32)) h
      · refine G_iload_n (pc2 := 49) 3 rfl dX11_due_48 rfl rfl ?_
        refine G_goto (tgt := 68) dX11_due_49 (by decide) ?_
        refine G_sub (ls' := [(0, .ref 209), (1, .int x1), (2, .int x2)]) [0, 1, 2] rfl ?_
        exact hj68_1095 x3 h
set_option maxRecDepth 100000 in
set_option maxHeartbeats 4000000 in
theorem c_X11_due {x1 : Int32} {x2 : Int32} {I : WI} {F : WF} {J : WI} {K : WF} {a : Int32 × WI} (h : f_X11_due x1 x2 I F = some a) : CT md_X11_due yX11_due (rmD 3) [.ref 209, .int x1, .int x2] (mkW J K I F) (some (.int a.1)) (mkW J K a.2 F) := CT_of pn_X11 ⟨rfl, rfl⟩ (Nat.le_of_ble_eq_true rfl) (fun X => by
  show GG X md_X11_due (rmD 3) _ 0 0 0 [(0, .ref 209), (1, .int x1), (2, .int x2)] [] (mkW J K I F)
  unfold f_X11_due at h
  refine G_aload_n (pc2 := 1) 0 rfl dX11_due_0 rfl rfl ?_
  obtain ⟨c_1089, hc_1089, h⟩ := ob_e h
  refine B_callV (pc2 := 4) si_X11_85 (c_X11_isWell hc_1089) (qo_209 _ _ _ _) rfl rfl rfl (st := []) (stq := [.int c_1089]) rfl (by decide) (by decide) (Nat.le_of_ble_eq_true rfl) mkW_ll dX11_due_1 rfl rfl ?_ ⟨rfl, rfl⟩
  refine B_if_ne (tgt := 9) (pc2 := 7) h dX11_due_4 (by decide) rfl (fun _ h => ?_) (fun _ h => ?_)
  · refine G_aload_n (pc2 := 10) 0 rfl dX11_due_9 rfl rfl ?_
    obtain ⟨c_1090, hc_1090, h⟩ := ob_e h
    refine B_callV (pc2 := 13) si_X11_92 (c_X11_blanks hc_1090) (qo_209 _ _ _ _) rfl rfl rfl (st := []) (stq := []) rfl (by decide) (by decide) (Nat.le_of_ble_eq_true rfl) mkW_ll dX11_due_10 rfl rfl ?_ ⟨rfl, rfl⟩
    refine G_aload_n (pc2 := 14) 0 rfl dX11_due_13 rfl rfl ?_
    refine G_aload_n (pc2 := 15) 0 rfl dX11_due_14 rfl rfl ?_
    refine T_209_3 (pc2 := 18) kw_905 dX11_due_15 rfl ?_
    refine P_209_22 (pc2 := 21) h kw_924 dX11_due_18 rfl (fun I_1091 h => ?_)
    refine G_iconst (pc2 := 22) dX11_due_21 ic_0 rfl ?_
    refine B_istore_n (pc2 := 23) (fun x3_1092 => [(3, .int x3_1092), (0, .ref 209), (1, .int x1), (2, .int x2)]) h dX11_due_22 rfl (by decide) (fun _ => rfl) rfl (fun x3_1092 h => ?_)
    refine G_sub (ls' := [(0, .ref 209), (1, .int x1), (2, .int x2), (3, .int x3_1092)]) [1, 2, 3, 0] rfl ?_
    refine g_L_X11_due_23 (fun x3_1100 I_1101 h => ?_) FU x3_1092 I_1091 h
    refine G_aload_n (pc2 := 83) 0 rfl dX11_due_82 rfl rfl ?_
    refine T_209_3 (pc2 := 86) kw_905 dX11_due_83 rfl ?_
    refine G_aload_n (pc2 := 87) 0 rfl dX11_due_86 rfl rfl ?_
    refine T_209_22 (pc2 := 90) kw_924 dX11_due_87 rfl ?_
    refine B_icmp_ne (tgt := 105) (pc2 := 93) h dX11_due_90 (by decide) rfl (fun _ h => ?_) (fun _ h => ?_)
    · refine G_aload_n (pc2 := 106) 0 rfl dX11_due_105 rfl rfl ?_
      refine T_209_3 (pc2 := 109) kw_905 dX11_due_106 rfl ?_
      refine G_aload_n (pc2 := 110) 0 rfl dX11_due_109 rfl rfl ?_
      refine T_209_22 (pc2 := 113) kw_924 dX11_due_110 rfl ?_
      refine G_isub (pc2 := 114) dX11_due_113 rfl ?_
      refine G_iconst (pc2 := 115) dX11_due_114 ic_3 rfl ?_
      refine jn_e (Gj := True) (fun (j : Unit → Option (Int32 × WI)) => ∀ (_u : Unit), j _u = some a → GG X md_X11_due (rmD 3) (gv_Z X (rmD 3).cells (rmD 3).slots (some (.int a.1)) (mkW J K a.2 F)) 0 0 127 [(0, .ref 209), (3, .int x3_1100)] [] (mkW J K I_1101 F)) h (fun _u h => ?_) (fun j127_1102 hj127_1102 h => ?_)
      · refine G_aload_n (pc2 := 128) 0 rfl dX11_due_127 rfl rfl ?_
        refine G_iconst (pc2 := 129) dX11_due_128 ic_2 rfl ?_
        refine G_aload_n (pc2 := 130) 0 rfl dX11_due_129 rfl rfl ?_
        refine T_209_22 (pc2 := 133) kw_924 dX11_due_130 rfl ?_
        obtain ⟨c_1106, hc_1106, h⟩ := ob_e h
        refine B_callV (pc2 := 136) si_X11_98 (c_X11_faulty hc_1106) (qo_209 _ _ _ _) rfl rfl rfl (st := []) (stq := []) rfl (by decide) (by decide) (Nat.le_of_ble_eq_true rfl) mkW_ll dX11_due_133 rfl rfl ?_ ⟨rfl, rfl⟩
        refine G_iload_n (pc2 := 137) 1 rfl dX11_due_136 rfl rfl ?_
        have ha := Option.some.inj h
        subst ha
        exact G_iret rfl dX11_due_137
      refine B_icmp_gt (tgt := 127) (pc2 := 118) h dX11_due_115 (by decide) rfl (fun _ h => ?_) (fun _ h => ?_)
      · refine G_sub (ls' := [(0, .ref 209), (3, .int x3_1100)]) [0, 3] rfl ?_
        exact hj127_1102 () h
      · refine G_iload_n (pc2 := 119) 3 rfl dX11_due_118 rfl rfl ?_
        refine G_iload_n (pc2 := 120) 1 rfl dX11_due_119 rfl rfl ?_
        refine G_iload_n (pc2 := 121) 2 rfl dX11_due_120 rfl rfl ?_
        obtain ⟨c_1107, hc_1107, h⟩ := ob_e h
        refine B_callS (pc2 := 124) si_X11_66 (c_X11_in hc_1107) rfl (st := []) (stq := [.int c_1107]) rfl (by decide) (by decide) (Nat.le_of_ble_eq_true rfl) rfl dX11_due_121 rfl rfl ?_ ⟨rfl, rfl⟩
        refine B_if_ne (tgt := 136) (pc2 := 127) h dX11_due_124 (by decide) rfl (fun _ h => ?_) (fun _ h => ?_)
        · refine G_iload_n (pc2 := 137) 3 rfl dX11_due_136 rfl rfl ?_
          have ha := Option.some.inj h
          subst ha
          exact G_iret rfl dX11_due_137
        · refine G_sub (ls' := [(0, .ref 209), (3, .int x3_1100)]) [0, 3] rfl ?_
          exact hj127_1102 () h
    · refine G_aload_n (pc2 := 94) 0 rfl dX11_due_93 rfl rfl ?_
      refine G_iconst (pc2 := 95) dX11_due_94 ic_1 rfl ?_
      refine G_aload_n (pc2 := 96) 0 rfl dX11_due_95 rfl rfl ?_
      refine T_209_22 (pc2 := 99) kw_924 dX11_due_96 rfl ?_
      obtain ⟨c_1108, hc_1108, h⟩ := ob_e h
      refine B_callV (pc2 := 102) si_X11_98 (c_X11_faulty hc_1108) (qo_209 _ _ _ _) rfl rfl rfl (st := []) (stq := []) rfl (by decide) (by decide) (Nat.le_of_ble_eq_true rfl) mkW_ll dX11_due_99 rfl rfl ?_ ⟨rfl, rfl⟩
      refine G_goto (tgt := 136) dX11_due_102 (by decide) ?_
      refine G_iload_n (pc2 := 137) 3 rfl dX11_due_136 rfl rfl ?_
      have ha := Option.some.inj h
      subst ha
      exact G_iret rfl dX11_due_137
  · refine G_iconst (pc2 := 8) dX11_due_7 ic_0 rfl ?_
    have ha := Option.some.inj h
    subst ha
    exact G_iret rfl dX11_due_8)
def L_X11_bridges_50 (k : Int32 → Option (WI × WF)) (x1 : Int32) (x2 : Int32) (x3 : Int32) (I : WI) (F : WF) : Nat → Int32 → Int32 → Option (WI × WF)
  | 0, _, _ => none
  | n + 1, x4, x5 =>
  if x1 ≤ x5 then (k x4)
  else (bnd (fun (s_1129 : Int32) => bnd s_1129 fun x4_1130 =>
  bnd (x5 + (1 : Int32)) fun x5_1131 =>
  L_X11_bridges_50 k x1 x2 x3 I F n x4_1130 x5_1131) fun j120_1128 =>
  bnd (fun (_u : Unit) => j120_1128 (1 : Int32)) fun j115_1132 =>
  if x4 = 0 then (ixG ((4 : Int32) + x5) 70 (
  bnd (fun (_u : Unit) => ixG ((4 : Int32) + x5) 70 (
  bnd (fun (_u : Unit) => j120_1128 (0 : Int32)) fun j119_1134 =>
  if (F 1 ((4 : Int32) + x5).toNatClampNeg) = x3 then (ixG ((13 : Int32) + x5) 70 (
  if (F 1 ((13 : Int32) + x5).toNatClampNeg) = x2 then (j115_1132 ())
  else (j119_1134 ())))
  else (j119_1134 ()))) fun j88_1133 =>
  if (F 1 ((4 : Int32) + x5).toNatClampNeg) = x2 then (ixG ((13 : Int32) + x5) 70 (
  if (F 1 ((13 : Int32) + x5).toNatClampNeg) = x3 then (j115_1132 ())
  else (j88_1133 ())))
  else (j88_1133 ())))
  else (j115_1132 ()))
def f_X11_bridges (I : WI) (F : WF) : Option (WI × WF) :=
  bnd (F 1 1) fun x1_1119 =>
  Option.bind (f_X11_due (0 : Int32) ((F 1 0) - (1 : Int32)) I F) fun c_1120 =>
  bnd c_1120.1 fun x2_1121 =>
  Option.bind (f_X11_due (0 : Int32) ((F 1 0) - (1 : Int32)) c_1120.2 F) fun c_1122 =>
  bnd c_1122.1 fun x3_1123 =>
  bnd (fun (s_1125 : Int32) => bnd s_1125 fun x4_1126 =>
  bnd (0 : Int32) fun x5_1127 =>
  L_X11_bridges_50 (fun x4_1135 => bnd (fun (I_1137 : WI) => ixG ((4 : Int32) + x1_1119) 70 (bnd (uF F 1 (upd (F 1) ((4 : Int32) + x1_1119).toNatClampNeg x2_1121)) fun F_1138 =>
  ixG ((13 : Int32) + x1_1119) 70 (bnd (uF F_1138 1 (upd (F_1138 1) ((13 : Int32) + x1_1119).toNatClampNeg x3_1123)) fun F_1139 =>
  Option.bind (f_X11_due (2 : Int32) (40 : Int32) I_1137 F_1139) fun c_1140 =>
  ixG ((22 : Int32) + x1_1119) 70 (bnd (uF F_1139 1 (upd (F_1139 1) ((22 : Int32) + x1_1119).toNatClampNeg c_1140.1)) fun F_1141 =>
  Option.bind (f_X11_due (0 : Int32) (99 : Int32) c_1140.2 F_1141) fun c_1142 =>
  ixG ((31 : Int32) + x1_1119) 70 (bnd (uF F_1141 1 (upd (F_1141 1) ((31 : Int32) + x1_1119).toNatClampNeg c_1142.1)) fun F_1143 =>
  bnd (uF F_1143 1 (upd (F_1143 1) 1 ((F_1143 1 1) + (1 : Int32)))) fun F_1144 =>
  some (c_1142.2, F_1144)))))) fun j142_1136 =>
  if x4_1135 = 0 then (j142_1136 c_1122.2)
  else (Option.bind (f_X11_faulty (4 : Int32) (c_1122.2 9) c_1122.2 F) fun c_1145 =>
  j142_1136 c_1145)) x1_1119 x2_1121 x3_1123 c_1122.2 F FU x4_1126 x5_1127) fun j45_1124 =>
  if x2_1121 = x3_1123 then (j45_1124 (1 : Int32))
  else (j45_1124 (0 : Int32))
set_option maxRecDepth 100000 in
set_option maxHeartbeats 4000000 in
theorem g_L_X11_bridges_50 {X : XT} {x1 : Int32} {x2 : Int32} {x3 : Int32} {I : WI} {F : WF} {J : WI} {K : WF} {a : WI × WF} {k : Int32 → Option (WI × WF)} (hk : ∀ (e4 : Int32), (k e4 = some a → GG X md_X11_bridges (rmD 4) (gv_Z X (rmD 4).cells (rmD 4).slots none (mkW J K a.1 a.2)) 0 0 128 [(0, .ref 209), (1, .int x1), (2, .int x2), (3, .int x3), (4, .int e4)] [] (mkW J K I F))) : ∀ (n : Nat) (x4 : Int32) (x5 : Int32), L_X11_bridges_50 k x1 x2 x3 I F n x4 x5 = some a → GG X md_X11_bridges (rmD 4) (gv_Z X (rmD 4).cells (rmD 4).slots none (mkW J K a.1 a.2)) 0 0 50 [(0, .ref 209), (1, .int x1), (2, .int x2), (3, .int x3), (4, .int x4), (5, .int x5)] [] (mkW J K I F) := by
  intro n
  induction n with
  | zero =>
    intro x4 x5 h
    rw [L_X11_bridges_50] at h
    cases h
  | succ n ih =>
    intro x4 x5 h
    rw [L_X11_bridges_50] at h
    refine G_iload (pc2 := 52) 5 rfl dX11_bridges_50 rfl ?_
    refine G_iload_n (pc2 := 53) 1 rfl dX11_bridges_52 rfl rfl ?_
    refine B_icmp_ge (tgt := 128) (pc2 := 56) h dX11_bridges_53 (by decide) rfl (fun _ h => ?_) (fun _ h => ?_)
    · refine G_sub (ls' := [(0, .ref 209), (1, .int x1), (2, .int x2), (3, .int x3), (4, .int x4)]) [0, 1, 2, 3, 4] rfl ?_
      exact hk x4 h
    · refine G_iload (pc2 := 58) 4 rfl dX11_bridges_56 rfl ?_
      refine jn_e (Gj := True) (fun (j : Int32 → Option (WI × WF)) => ∀ (s_1129 : Int32), j s_1129 = some a → GG X md_X11_bridges (rmD 4) (gv_Z X (rmD 4).cells (rmD 4).slots none (mkW J K a.1 a.2)) 0 0 120 [(0, .ref 209), (1, .int x1), (2, .int x2), (3, .int x3), (5, .int x5)] [.int s_1129] (mkW J K I F)) h (fun s_1129 h => ?_) (fun j120_1128 hj120_1128 h => ?_)
      · refine B_istore (pc2 := 122) (fun x4_1130 => [(4, .int x4_1130), (0, .ref 209), (1, .int x1), (2, .int x2), (3, .int x3), (5, .int x5)]) h dX11_bridges_120 (by decide) (fun _ => rfl) rfl (fun x4_1130 h => ?_)
        refine B_iinc (pc2 := 125) 5 (fun x5_1131 => [(5, .int x5_1131), (4, .int x4_1130), (0, .ref 209), (1, .int x1), (2, .int x2), (3, .int x3)]) h rfl dX11_bridges_122 ic_1 (by decide) (fun _ => rfl) rfl (fun x5_1131 h => ?_)
        refine G_goto (tgt := 50) dX11_bridges_125 (by decide) ?_
        refine G_sub (ls' := [(0, .ref 209), (1, .int x1), (2, .int x2), (3, .int x3), (4, .int x4_1130), (5, .int x5_1131)]) [2, 3, 4, 5, 1, 0] rfl ?_
        exact ih x4_1130 x5_1131 h
      refine jn_e (Gj := True) (fun (j : Unit → Option (WI × WF)) => ∀ (_u : Unit), j _u = some a → GG X md_X11_bridges (rmD 4) (gv_Z X (rmD 4).cells (rmD 4).slots none (mkW J K a.1 a.2)) 0 0 115 [(0, .ref 209), (1, .int x1), (2, .int x2), (3, .int x3), (5, .int x5)] [] (mkW J K I F)) h (fun _u h => ?_) (fun j115_1132 hj115_1132 h => ?_)
      · refine G_iconst (pc2 := 116) dX11_bridges_115 ic_1 rfl ?_
        refine G_goto (tgt := 120) dX11_bridges_116 (by decide) ?_
        exact hj120_1128 (1 : Int32) h
      refine B_if_ne (tgt := 115) (pc2 := 61) h dX11_bridges_58 (by decide) rfl (fun _ h => ?_) (fun _ h => ?_)
      · refine G_sub (ls' := [(0, .ref 209), (1, .int x1), (2, .int x2), (3, .int x3), (5, .int x5)]) [0, 1, 2, 3, 5] rfl ?_
        exact hj115_1132 () h
      · refine G_aload_n (pc2 := 62) 0 rfl dX11_bridges_61 rfl rfl ?_
        refine T_209_7 (pc2 := 65) kw_909 dX11_bridges_62 rfl ?_
        refine G_iconst (pc2 := 66) dX11_bridges_65 ic_4 rfl ?_
        refine G_iload (pc2 := 68) 5 rfl dX11_bridges_66 rfl ?_
        refine G_iadd (pc2 := 69) dX11_bridges_68 rfl ?_
        refine AM (pc2 := 70) (fa_211 _ _ _ _) h dX11_bridges_69 rfl (fun h => ?_)
        refine G_iload_n (pc2 := 71) 2 rfl dX11_bridges_70 rfl rfl ?_
        refine jn_e (Gj := True) (fun (j : Unit → Option (WI × WF)) => ∀ (_u : Unit), j _u = some a → GG X md_X11_bridges (rmD 4) (gv_Z X (rmD 4).cells (rmD 4).slots none (mkW J K a.1 a.2)) 0 0 88 [(0, .ref 209), (1, .int x1), (2, .int x2), (3, .int x3), (5, .int x5)] [] (mkW J K I F)) h (fun _u h => ?_) (fun j88_1133 hj88_1133 h => ?_)
        · refine G_aload_n (pc2 := 89) 0 rfl dX11_bridges_88 rfl rfl ?_
          refine T_209_7 (pc2 := 92) kw_909 dX11_bridges_89 rfl ?_
          refine G_iconst (pc2 := 93) dX11_bridges_92 ic_4 rfl ?_
          refine G_iload (pc2 := 95) 4 rfl dX11_bridges_93 rfl ?_
          refine G_iadd (pc2 := 96) dX11_bridges_95 rfl ?_
          refine AM (pc2 := 97) (fa_211 _ _ _ _) h dX11_bridges_96 rfl (fun h => ?_)
          refine G_iload_n (pc2 := 98) 3 rfl dX11_bridges_97 rfl rfl ?_
          refine jn_e (Gj := True) (fun (j : Unit → Option (WI × WF)) => ∀ (_u : Unit), j _u = some a → GG X md_X11_bridges (rmD 4) (gv_Z X (rmD 4).cells (rmD 4).slots none (mkW J K a.1 a.2)) 0 0 119 [(0, .ref 209), (1, .int x1), (2, .int x2), (3, .int x3), (5, .int x5)] [] (mkW J K I F)) h (fun _u h => ?_) (fun j119_1134 hj119_1134 h => ?_)
          · refine G_iconst (pc2 := 120) dX11_bridges_119 ic_0 rfl ?_
            exact hj120_1128 (0 : Int32) h
          refine B_icmp_ne (tgt := 119) (pc2 := 101) h dX11_bridges_98 (by decide) rfl (fun _ h => ?_) (fun _ h => ?_)
          · exact hj119_1134 () h
          · refine G_aload_n (pc2 := 102) 0 rfl dX11_bridges_101 rfl rfl ?_
            refine T_209_7 (pc2 := 105) kw_909 dX11_bridges_102 rfl ?_
            refine G_bipush (pc2 := 107) dX11_bridges_105 ib_13 rfl ?_
            refine G_iload (pc2 := 109) 4 rfl dX11_bridges_107 rfl ?_
            refine G_iadd (pc2 := 110) dX11_bridges_109 rfl ?_
            refine AM (pc2 := 111) (fa_211 _ _ _ _) h dX11_bridges_110 rfl (fun h => ?_)
            refine G_iload_n (pc2 := 112) 2 rfl dX11_bridges_111 rfl rfl ?_
            refine B_icmp_ne (tgt := 119) (pc2 := 115) h dX11_bridges_112 (by decide) rfl (fun _ h => ?_) (fun _ h => ?_)
            · exact hj119_1134 () h
            · exact hj115_1132 () h
        refine B_icmp_ne (tgt := 88) (pc2 := 74) h dX11_bridges_71 (by decide) rfl (fun _ h => ?_) (fun _ h => ?_)
        · refine G_sub (ls' := [(0, .ref 209), (1, .int x1), (2, .int x2), (3, .int x3), (5, .int x5)]) [0, 1, 2, 3, 5] rfl ?_
          exact hj88_1133 () h
        · refine G_aload_n (pc2 := 75) 0 rfl dX11_bridges_74 rfl rfl ?_
          refine T_209_7 (pc2 := 78) kw_909 dX11_bridges_75 rfl ?_
          refine G_bipush (pc2 := 80) dX11_bridges_78 ib_13 rfl ?_
          refine G_iload (pc2 := 82) 5 rfl dX11_bridges_80 rfl ?_
          refine G_iadd (pc2 := 83) dX11_bridges_82 rfl ?_
          refine AM (pc2 := 84) (fa_211 _ _ _ _) h dX11_bridges_83 rfl (fun h => ?_)
          refine G_iload_n (pc2 := 85) 3 rfl dX11_bridges_84 rfl rfl ?_
          refine B_icmp_eq (tgt := 115) (pc2 := 88) h dX11_bridges_85 (by decide) rfl (fun _ h => ?_) (fun _ h => ?_)
          · refine G_sub (ls' := [(0, .ref 209), (1, .int x1), (2, .int x2), (3, .int x3), (5, .int x5)]) [0, 1, 2, 3, 5] rfl ?_
            exact hj115_1132 () h
          · refine G_sub (ls' := [(0, .ref 209), (1, .int x1), (2, .int x2), (3, .int x3), (5, .int x5)]) [0, 1, 2, 3, 5] rfl ?_
            exact hj88_1133 () h
set_option maxRecDepth 100000 in
set_option maxHeartbeats 4000000 in
theorem c_X11_bridges {I : WI} {F : WF} {J : WI} {K : WF} {a : WI × WF} (h : f_X11_bridges  I F = some a) : CT md_X11_bridges yX11_bridges (rmD 4) [.ref 209] (mkW J K I F) none (mkW J K a.1 a.2) := CT_of pn_X11 ⟨rfl, rfl⟩ (Nat.le_of_ble_eq_true rfl) (fun X => by
  show GG X md_X11_bridges (rmD 4) _ 0 0 0 [(0, .ref 209)] [] (mkW J K I F)
  unfold f_X11_bridges at h
  refine G_aload_n (pc2 := 1) 0 rfl dX11_bridges_0 rfl rfl ?_
  refine T_209_7 (pc2 := 4) kw_909 dX11_bridges_1 rfl ?_
  refine G_iconst (pc2 := 5) dX11_bridges_4 ic_1 rfl ?_
  refine AMc (pc2 := 6) (fa_211 _ _ _ _) cl_1 rfl dX11_bridges_5 rfl ?_
  refine B_istore_n (pc2 := 7) (fun x1_1119 => [(1, .int x1_1119), (0, .ref 209)]) h dX11_bridges_6 rfl (by decide) (fun _ => rfl) rfl (fun x1_1119 h => ?_)
  refine G_aload_n (pc2 := 8) 1 rfl dX11_bridges_7 rfl rfl ?_
  refine G_iconst (pc2 := 9) dX11_bridges_8 ic_0 rfl ?_
  refine G_aload_n (pc2 := 10) 1 rfl dX11_bridges_9 rfl rfl ?_
  refine T_209_7 (pc2 := 13) kw_909 dX11_bridges_10 rfl ?_
  refine G_iconst (pc2 := 14) dX11_bridges_13 ic_0 rfl ?_
  refine AMc (pc2 := 15) (fa_211 _ _ _ _) cl_0 rfl dX11_bridges_14 rfl ?_
  refine G_iconst (pc2 := 16) dX11_bridges_15 ic_1 rfl ?_
  refine G_isub (pc2 := 17) dX11_bridges_16 rfl ?_
  obtain ⟨c_1120, hc_1120, h⟩ := ob_e h
  refine B_callV (pc2 := 20) si_X11_102 (c_X11_due hc_1120) (qo_209 _ _ _ _) rfl rfl rfl (st := []) (stq := [.int c_1120.1]) rfl (by decide) (by decide) (Nat.le_of_ble_eq_true rfl) mkW_ll dX11_bridges_17 rfl rfl ?_ ⟨rfl, rfl⟩
  refine B_istore_n (pc2 := 21) (fun x2_1121 => [(2, .int x2_1121), (1, .int x1_1119), (0, .ref 209)]) h dX11_bridges_20 rfl (by decide) (fun _ => rfl) rfl (fun x2_1121 h => ?_)
  refine G_aload_n (pc2 := 22) 2 rfl dX11_bridges_21 rfl rfl ?_
  refine G_iconst (pc2 := 23) dX11_bridges_22 ic_0 rfl ?_
  refine G_aload_n (pc2 := 24) 2 rfl dX11_bridges_23 rfl rfl ?_
  refine T_209_7 (pc2 := 27) kw_909 dX11_bridges_24 rfl ?_
  refine G_iconst (pc2 := 28) dX11_bridges_27 ic_0 rfl ?_
  refine AMc (pc2 := 29) (fa_211 _ _ _ _) cl_0 rfl dX11_bridges_28 rfl ?_
  refine G_iconst (pc2 := 30) dX11_bridges_29 ic_1 rfl ?_
  refine G_isub (pc2 := 31) dX11_bridges_30 rfl ?_
  obtain ⟨c_1122, hc_1122, h⟩ := ob_e h
  refine B_callV (pc2 := 34) si_X11_102 (c_X11_due hc_1122) (qo_209 _ _ _ _) rfl rfl rfl (st := []) (stq := [.int c_1122.1]) rfl (by decide) (by decide) (Nat.le_of_ble_eq_true rfl) mkW_ll dX11_bridges_31 rfl rfl ?_ ⟨rfl, rfl⟩
  refine B_istore_n (pc2 := 35) (fun x3_1123 => [(3, .int x3_1123), (2, .int x2_1121), (1, .int x1_1119), (0, .ref 209)]) h dX11_bridges_34 rfl (by decide) (fun _ => rfl) rfl (fun x3_1123 h => ?_)
  refine G_iload_n (pc2 := 36) 1 rfl dX11_bridges_35 rfl rfl ?_
  refine G_iload_n (pc2 := 37) 0 rfl dX11_bridges_36 rfl rfl ?_
  refine jn_e (Gj := True) (fun (j : Int32 → Option (WI × WF)) => ∀ (s_1125 : Int32), j s_1125 = some a → GG X md_X11_bridges (rmD 4) (gv_Z X (rmD 4).cells (rmD 4).slots none (mkW J K a.1 a.2)) 0 0 45 [(0, .ref 209), (1, .int x1_1119), (2, .int x2_1121), (3, .int x3_1123)] [.int s_1125] (mkW J K c_1122.2 F)) h (fun s_1125 h => ?_) (fun j45_1124 hj45_1124 h => ?_)
  · refine B_istore (pc2 := 47) (fun x4_1126 => [(4, .int x4_1126), (0, .ref 209), (1, .int x1_1119), (2, .int x2_1121), (3, .int x3_1123)]) h dX11_bridges_45 (by decide) (fun _ => rfl) rfl (fun x4_1126 h => ?_)
    refine G_iconst (pc2 := 48) dX11_bridges_47 ic_0 rfl ?_
    refine B_istore (pc2 := 50) (fun x5_1127 => [(5, .int x5_1127), (4, .int x4_1126), (0, .ref 209), (1, .int x1_1119), (2, .int x2_1121), (3, .int x3_1123)]) h dX11_bridges_48 (by decide) (fun _ => rfl) rfl (fun x5_1127 h => ?_)
    refine G_sub (ls' := [(0, .ref 209), (1, .int x1_1119), (2, .int x2_1121), (3, .int x3_1123), (4, .int x4_1126), (5, .int x5_1127)]) [2, 3, 4, 5, 1, 0] rfl ?_
    refine g_L_X11_bridges_50 (fun x4_1135 h => ?_) FU x4_1126 x5_1127 h
    refine G_iload (pc2 := 130) 4 rfl dX11_bridges_128 rfl ?_
    refine jn_e (Gj := True) (fun (j : WI → Option (WI × WF)) => ∀ (I_1137 : WI), j I_1137 = some a → GG X md_X11_bridges (rmD 4) (gv_Z X (rmD 4).cells (rmD 4).slots none (mkW J K a.1 a.2)) 0 0 142 [(0, .ref 209), (1, .int x1_1119), (2, .int x2_1121), (3, .int x3_1123)] [] (mkW J K I_1137 F)) h (fun I_1137 h => ?_) (fun j142_1136 hj142_1136 h => ?_)
    · refine G_aload_n (pc2 := 143) 0 rfl dX11_bridges_142 rfl rfl ?_
      refine T_209_7 (pc2 := 146) kw_909 dX11_bridges_143 rfl ?_
      refine G_iconst (pc2 := 147) dX11_bridges_146 ic_4 rfl ?_
      refine G_iload_n (pc2 := 148) 1 rfl dX11_bridges_147 rfl rfl ?_
      refine G_iadd (pc2 := 149) dX11_bridges_148 rfl ?_
      refine G_iload_n (pc2 := 150) 2 rfl dX11_bridges_149 rfl rfl ?_
      refine SM (pc2 := 151) (fa_211 _ _ _ _) h dX11_bridges_150 rfl (fun F_1138 h => ?_)
      refine G_aload_n (pc2 := 152) 0 rfl dX11_bridges_151 rfl rfl ?_
      refine T_209_7 (pc2 := 155) kw_909 dX11_bridges_152 rfl ?_
      refine G_bipush (pc2 := 157) dX11_bridges_155 ib_13 rfl ?_
      refine G_iload_n (pc2 := 158) 1 rfl dX11_bridges_157 rfl rfl ?_
      refine G_iadd (pc2 := 159) dX11_bridges_158 rfl ?_
      refine G_iload_n (pc2 := 160) 3 rfl dX11_bridges_159 rfl rfl ?_
      refine SM (pc2 := 161) (fa_211 _ _ _ _) h dX11_bridges_160 rfl (fun F_1139 h => ?_)
      refine G_aload_n (pc2 := 162) 0 rfl dX11_bridges_161 rfl rfl ?_
      refine T_209_7 (pc2 := 165) kw_909 dX11_bridges_162 rfl ?_
      refine G_bipush (pc2 := 167) dX11_bridges_165 ib_22 rfl ?_
      refine G_iload_n (pc2 := 168) 1 rfl dX11_bridges_167 rfl rfl ?_
      refine G_iadd (pc2 := 169) dX11_bridges_168 rfl ?_
      refine G_aload_n (pc2 := 170) 0 rfl dX11_bridges_169 rfl rfl ?_
      refine G_iconst (pc2 := 171) dX11_bridges_170 ic_2 rfl ?_
      refine G_bipush (pc2 := 173) dX11_bridges_171 ib_40 rfl ?_
      obtain ⟨c_1140, hc_1140, h⟩ := ob_e h
      refine B_callV (pc2 := 176) si_X11_102 (c_X11_due hc_1140) (qo_209 _ _ _ _) rfl rfl rfl (st := [.int ((22 : Int32) + x1_1119), .ref 211]) (stq := [.int c_1140.1, .int ((22 : Int32) + x1_1119), .ref 211]) rfl (by decide) (by decide) (Nat.le_of_ble_eq_true rfl) mkW_ll dX11_bridges_173 rfl rfl ?_ ⟨rfl, rfl⟩
      refine SM (pc2 := 177) (fa_211 _ _ _ _) h dX11_bridges_176 rfl (fun F_1141 h => ?_)
      refine G_aload_n (pc2 := 178) 0 rfl dX11_bridges_177 rfl rfl ?_
      refine T_209_7 (pc2 := 181) kw_909 dX11_bridges_178 rfl ?_
      refine G_bipush (pc2 := 183) dX11_bridges_181 ib_31 rfl ?_
      refine G_iload_n (pc2 := 184) 1 rfl dX11_bridges_183 rfl rfl ?_
      refine G_iadd (pc2 := 185) dX11_bridges_184 rfl ?_
      refine G_aload_n (pc2 := 186) 0 rfl dX11_bridges_185 rfl rfl ?_
      refine G_iconst (pc2 := 187) dX11_bridges_186 ic_0 rfl ?_
      refine G_bipush (pc2 := 189) dX11_bridges_187 ib_99 rfl ?_
      obtain ⟨c_1142, hc_1142, h⟩ := ob_e h
      refine B_callV (pc2 := 192) si_X11_102 (c_X11_due hc_1142) (qo_209 _ _ _ _) rfl rfl rfl (st := [.int ((31 : Int32) + x1_1119), .ref 211]) (stq := [.int c_1142.1, .int ((31 : Int32) + x1_1119), .ref 211]) rfl (by decide) (by decide) (Nat.le_of_ble_eq_true rfl) mkW_ll dX11_bridges_189 rfl rfl ?_ ⟨rfl, rfl⟩
      refine SM (pc2 := 193) (fa_211 _ _ _ _) h dX11_bridges_192 rfl (fun F_1143 h => ?_)
      refine G_aload_n (pc2 := 194) 0 rfl dX11_bridges_193 rfl rfl ?_
      refine T_209_7 (pc2 := 197) kw_909 dX11_bridges_194 rfl ?_
      refine G_iconst (pc2 := 198) dX11_bridges_197 ic_1 rfl ?_
      refine G_dup2 (pc2 := 199) rfl rfl dX11_bridges_198 rfl ?_
      refine AMc (pc2 := 200) (fa_211 _ _ _ _) cl_1 rfl dX11_bridges_199 rfl ?_
      refine G_iconst (pc2 := 201) dX11_bridges_200 ic_1 rfl ?_
      refine G_iadd (pc2 := 202) dX11_bridges_201 rfl ?_
      refine SMc (pc2 := 203) (fa_211 _ _ _ _) h cl_1 rfl dX11_bridges_202 rfl (fun F_1144 h => ?_)
      have ha := Option.some.inj h
      subst ha
      exact G_vret rfl dX11_bridges_203
    refine B_if_eq (tgt := 142) (pc2 := 133) h dX11_bridges_130 (by decide) rfl (fun _ h => ?_) (fun _ h => ?_)
    · refine G_sub (ls' := [(0, .ref 209), (1, .int x1_1119), (2, .int x2_1121), (3, .int x3_1123)]) [0, 1, 2, 3] rfl ?_
      exact hj142_1136 c_1122.2 h
    · refine G_aload_n (pc2 := 134) 0 rfl dX11_bridges_133 rfl rfl ?_
      refine G_iconst (pc2 := 135) dX11_bridges_134 ic_4 rfl ?_
      refine G_aload_n (pc2 := 136) 0 rfl dX11_bridges_135 rfl rfl ?_
      refine T_209_22 (pc2 := 139) kw_924 dX11_bridges_136 rfl ?_
      obtain ⟨c_1145, hc_1145, h⟩ := ob_e h
      refine B_callV (pc2 := 142) si_X11_98 (c_X11_faulty hc_1145) (qo_209 _ _ _ _) rfl rfl rfl (st := []) (stq := []) rfl (by decide) (by decide) (Nat.le_of_ble_eq_true rfl) mkW_ll dX11_bridges_139 rfl rfl ?_ ⟨rfl, rfl⟩
      refine G_sub (ls' := [(0, .ref 209), (1, .int x1_1119), (2, .int x2_1121), (3, .int x3_1123)]) [0, 1, 2, 3] rfl ?_
      exact hj142_1136 c_1145 h
  refine B_icmp_ne (tgt := 44) (pc2 := 40) h dX11_bridges_37 (by decide) rfl (fun _ h => ?_) (fun _ h => ?_)
  · refine G_iconst (pc2 := 45) dX11_bridges_44 ic_0 rfl ?_
    refine G_sub (ls' := [(0, .ref 209), (1, .int x1_1119), (2, .int x2_1121), (3, .int x3_1123)]) [3, 2, 1, 0] rfl ?_
    exact hj45_1124 (0 : Int32) h
  · refine G_iconst (pc2 := 41) dX11_bridges_40 ic_1 rfl ?_
    refine G_goto (tgt := 45) dX11_bridges_41 (by decide) ?_
    refine G_sub (ls' := [(0, .ref 209), (1, .int x1_1119), (2, .int x2_1121), (3, .int x3_1123)]) [3, 2, 1, 0] rfl ?_
    exact hj45_1124 (1 : Int32) h)
def f_X11_tells (x1 : Int32) (I : WI) (F : WF) : Option (WI × WF) :=
  if x1 = (110 : Int32) then (Option.bind (f_X11_due (2 : Int32) (8 : Int32) I F) fun c_1147 =>
  bnd (uF F 1 (upd (F 1) 0 c_1147.1)) fun F_1148 =>
  some (c_1147.2, F_1148))
  else (if x1 = (98 : Int32) then (Option.bind (f_X11_bridges I F) fun c_1146 =>
  some (c_1146.1, c_1146.2))
  else (if x1 = (107 : Int32) then (Option.bind (f_X11_due (0 : Int32) (3 : Int32) I F) fun c_1114 =>
  ixG ((40 : Int32) + (F 1 2)) 70 (bnd (uF F 1 (upd (F 1) ((40 : Int32) + (F 1 2)).toNatClampNeg c_1114.1)) fun F_1115 =>
  Option.bind (f_X11_due (1 : Int32) (40 : Int32) c_1114.2 F_1115) fun c_1116 =>
  ixG ((49 : Int32) + (F_1115 1 2)) 70 (bnd (uF F_1115 1 (upd (F_1115 1) ((49 : Int32) + (F_1115 1 2)).toNatClampNeg c_1116.1)) fun F_1117 =>
  bnd (uF F_1117 1 (upd (F_1117 1) 2 ((F_1117 1 2) + (1 : Int32)))) fun F_1118 =>
  some (c_1116.2, F_1118))))
  else (Option.bind (f_X11_due (0 : Int32) (3 : Int32) I F) fun c_1109 =>
  ixG ((58 : Int32) + (F 1 3)) 70 (bnd (uF F 1 (upd (F 1) ((58 : Int32) + (F 1 3)).toNatClampNeg c_1109.1)) fun F_1110 =>
  Option.bind (f_X11_due (0 : Int32) ((F_1110 1 0) - (1 : Int32)) c_1109.2 F_1110) fun c_1111 =>
  ixG ((64 : Int32) + (F_1110 1 3)) 70 (bnd (uF F_1110 1 (upd (F_1110 1) ((64 : Int32) + (F_1110 1 3)).toNatClampNeg c_1111.1)) fun F_1112 =>
  bnd (uF F_1112 1 (upd (F_1112 1) 3 ((F_1112 1 3) + (1 : Int32)))) fun F_1113 =>
  some (c_1111.2, F_1113))))))
set_option maxRecDepth 100000 in
set_option maxHeartbeats 4000000 in
theorem c_X11_tells {x1 : Int32} {I : WI} {F : WF} {J : WI} {K : WF} {a : WI × WF} (h : f_X11_tells x1 I F = some a) : CT md_X11_tells yX11_tells (rmD 5) [.ref 209, .int x1] (mkW J K I F) none (mkW J K a.1 a.2) := CT_of pn_X11 ⟨rfl, rfl⟩ (Nat.le_of_ble_eq_true rfl) (fun X => by
  show GG X md_X11_tells (rmD 5) _ 0 0 0 [(0, .ref 209), (1, .int x1)] [] (mkW J K I F)
  unfold f_X11_tells at h
  refine G_iload_n (pc2 := 1) 1 rfl dX11_tells_0 rfl rfl ?_
  refine G_bipush (pc2 := 3) dX11_tells_1 ib_110 rfl ?_
  refine B_icmp_ne (tgt := 22) (pc2 := 6) h dX11_tells_3 (by decide) rfl (fun _ h => ?_) (fun _ h => ?_)
  · refine G_iload_n (pc2 := 23) 1 rfl dX11_tells_22 rfl rfl ?_
    refine G_bipush (pc2 := 25) dX11_tells_23 ib_98 rfl ?_
    refine B_icmp_ne (tgt := 35) (pc2 := 28) h dX11_tells_25 (by decide) rfl (fun _ h => ?_) (fun _ h => ?_)
    · refine G_iload_n (pc2 := 36) 1 rfl dX11_tells_35 rfl rfl ?_
      refine G_bipush (pc2 := 38) dX11_tells_36 ib_107 rfl ?_
      refine B_icmp_ne (tgt := 95) (pc2 := 41) h dX11_tells_38 (by decide) rfl (fun _ h => ?_) (fun _ h => ?_)
      · refine G_aload_n (pc2 := 96) 0 rfl dX11_tells_95 rfl rfl ?_
        refine T_209_7 (pc2 := 99) kw_909 dX11_tells_96 rfl ?_
        refine G_bipush (pc2 := 101) dX11_tells_99 ib_58 rfl ?_
        refine G_aload_n (pc2 := 102) 0 rfl dX11_tells_101 rfl rfl ?_
        refine T_209_7 (pc2 := 105) kw_909 dX11_tells_102 rfl ?_
        refine G_iconst (pc2 := 106) dX11_tells_105 ic_3 rfl ?_
        refine AMc (pc2 := 107) (fa_211 _ _ _ _) cl_3 rfl dX11_tells_106 rfl ?_
        refine G_iadd (pc2 := 108) dX11_tells_107 rfl ?_
        refine G_aload_n (pc2 := 109) 0 rfl dX11_tells_108 rfl rfl ?_
        refine G_iconst (pc2 := 110) dX11_tells_109 ic_0 rfl ?_
        refine G_iconst (pc2 := 111) dX11_tells_110 ic_3 rfl ?_
        obtain ⟨c_1109, hc_1109, h⟩ := ob_e h
        refine B_callV (pc2 := 114) si_X11_102 (c_X11_due hc_1109) (qo_209 _ _ _ _) rfl rfl rfl (st := [.int ((58 : Int32) + (F 1 3)), .ref 211]) (stq := [.int c_1109.1, .int ((58 : Int32) + (F 1 3)), .ref 211]) rfl (by decide) (by decide) (Nat.le_of_ble_eq_true rfl) mkW_ll dX11_tells_111 rfl rfl ?_ ⟨rfl, rfl⟩
        refine SM (pc2 := 115) (fa_211 _ _ _ _) h dX11_tells_114 rfl (fun F_1110 h => ?_)
        refine G_aload_n (pc2 := 116) 0 rfl dX11_tells_115 rfl rfl ?_
        refine T_209_7 (pc2 := 119) kw_909 dX11_tells_116 rfl ?_
        refine G_bipush (pc2 := 121) dX11_tells_119 ib_64 rfl ?_
        refine G_aload_n (pc2 := 122) 0 rfl dX11_tells_121 rfl rfl ?_
        refine T_209_7 (pc2 := 125) kw_909 dX11_tells_122 rfl ?_
        refine G_iconst (pc2 := 126) dX11_tells_125 ic_3 rfl ?_
        refine AMc (pc2 := 127) (fa_211 _ _ _ _) cl_3 rfl dX11_tells_126 rfl ?_
        refine G_iadd (pc2 := 128) dX11_tells_127 rfl ?_
        refine G_aload_n (pc2 := 129) 0 rfl dX11_tells_128 rfl rfl ?_
        refine G_iconst (pc2 := 130) dX11_tells_129 ic_0 rfl ?_
        refine G_aload_n (pc2 := 131) 0 rfl dX11_tells_130 rfl rfl ?_
        refine T_209_7 (pc2 := 134) kw_909 dX11_tells_131 rfl ?_
        refine G_iconst (pc2 := 135) dX11_tells_134 ic_0 rfl ?_
        refine AMc (pc2 := 136) (fa_211 _ _ _ _) cl_0 rfl dX11_tells_135 rfl ?_
        refine G_iconst (pc2 := 137) dX11_tells_136 ic_1 rfl ?_
        refine G_isub (pc2 := 138) dX11_tells_137 rfl ?_
        obtain ⟨c_1111, hc_1111, h⟩ := ob_e h
        refine B_callV (pc2 := 141) si_X11_102 (c_X11_due hc_1111) (qo_209 _ _ _ _) rfl rfl rfl (st := [.int ((64 : Int32) + (F_1110 1 3)), .ref 211]) (stq := [.int c_1111.1, .int ((64 : Int32) + (F_1110 1 3)), .ref 211]) rfl (by decide) (by decide) (Nat.le_of_ble_eq_true rfl) mkW_ll dX11_tells_138 rfl rfl ?_ ⟨rfl, rfl⟩
        refine SM (pc2 := 142) (fa_211 _ _ _ _) h dX11_tells_141 rfl (fun F_1112 h => ?_)
        refine G_aload_n (pc2 := 143) 0 rfl dX11_tells_142 rfl rfl ?_
        refine T_209_7 (pc2 := 146) kw_909 dX11_tells_143 rfl ?_
        refine G_iconst (pc2 := 147) dX11_tells_146 ic_3 rfl ?_
        refine G_dup2 (pc2 := 148) rfl rfl dX11_tells_147 rfl ?_
        refine AMc (pc2 := 149) (fa_211 _ _ _ _) cl_3 rfl dX11_tells_148 rfl ?_
        refine G_iconst (pc2 := 150) dX11_tells_149 ic_1 rfl ?_
        refine G_iadd (pc2 := 151) dX11_tells_150 rfl ?_
        refine SMc (pc2 := 152) (fa_211 _ _ _ _) h cl_3 rfl dX11_tells_151 rfl (fun F_1113 h => ?_)
        have ha := Option.some.inj h
        subst ha
        exact G_vret rfl dX11_tells_152
      · refine G_aload_n (pc2 := 42) 0 rfl dX11_tells_41 rfl rfl ?_
        refine T_209_7 (pc2 := 45) kw_909 dX11_tells_42 rfl ?_
        refine G_bipush (pc2 := 47) dX11_tells_45 ib_40 rfl ?_
        refine G_aload_n (pc2 := 48) 0 rfl dX11_tells_47 rfl rfl ?_
        refine T_209_7 (pc2 := 51) kw_909 dX11_tells_48 rfl ?_
        refine G_iconst (pc2 := 52) dX11_tells_51 ic_2 rfl ?_
        refine AMc (pc2 := 53) (fa_211 _ _ _ _) cl_2 rfl dX11_tells_52 rfl ?_
        refine G_iadd (pc2 := 54) dX11_tells_53 rfl ?_
        refine G_aload_n (pc2 := 55) 0 rfl dX11_tells_54 rfl rfl ?_
        refine G_iconst (pc2 := 56) dX11_tells_55 ic_0 rfl ?_
        refine G_iconst (pc2 := 57) dX11_tells_56 ic_3 rfl ?_
        obtain ⟨c_1114, hc_1114, h⟩ := ob_e h
        refine B_callV (pc2 := 60) si_X11_102 (c_X11_due hc_1114) (qo_209 _ _ _ _) rfl rfl rfl (st := [.int ((40 : Int32) + (F 1 2)), .ref 211]) (stq := [.int c_1114.1, .int ((40 : Int32) + (F 1 2)), .ref 211]) rfl (by decide) (by decide) (Nat.le_of_ble_eq_true rfl) mkW_ll dX11_tells_57 rfl rfl ?_ ⟨rfl, rfl⟩
        refine SM (pc2 := 61) (fa_211 _ _ _ _) h dX11_tells_60 rfl (fun F_1115 h => ?_)
        refine G_aload_n (pc2 := 62) 0 rfl dX11_tells_61 rfl rfl ?_
        refine T_209_7 (pc2 := 65) kw_909 dX11_tells_62 rfl ?_
        refine G_bipush (pc2 := 67) dX11_tells_65 ib_49 rfl ?_
        refine G_aload_n (pc2 := 68) 0 rfl dX11_tells_67 rfl rfl ?_
        refine T_209_7 (pc2 := 71) kw_909 dX11_tells_68 rfl ?_
        refine G_iconst (pc2 := 72) dX11_tells_71 ic_2 rfl ?_
        refine AMc (pc2 := 73) (fa_211 _ _ _ _) cl_2 rfl dX11_tells_72 rfl ?_
        refine G_iadd (pc2 := 74) dX11_tells_73 rfl ?_
        refine G_aload_n (pc2 := 75) 0 rfl dX11_tells_74 rfl rfl ?_
        refine G_iconst (pc2 := 76) dX11_tells_75 ic_1 rfl ?_
        refine G_bipush (pc2 := 78) dX11_tells_76 ib_40 rfl ?_
        obtain ⟨c_1116, hc_1116, h⟩ := ob_e h
        refine B_callV (pc2 := 81) si_X11_102 (c_X11_due hc_1116) (qo_209 _ _ _ _) rfl rfl rfl (st := [.int ((49 : Int32) + (F_1115 1 2)), .ref 211]) (stq := [.int c_1116.1, .int ((49 : Int32) + (F_1115 1 2)), .ref 211]) rfl (by decide) (by decide) (Nat.le_of_ble_eq_true rfl) mkW_ll dX11_tells_78 rfl rfl ?_ ⟨rfl, rfl⟩
        refine SM (pc2 := 82) (fa_211 _ _ _ _) h dX11_tells_81 rfl (fun F_1117 h => ?_)
        refine G_aload_n (pc2 := 83) 0 rfl dX11_tells_82 rfl rfl ?_
        refine T_209_7 (pc2 := 86) kw_909 dX11_tells_83 rfl ?_
        refine G_iconst (pc2 := 87) dX11_tells_86 ic_2 rfl ?_
        refine G_dup2 (pc2 := 88) rfl rfl dX11_tells_87 rfl ?_
        refine AMc (pc2 := 89) (fa_211 _ _ _ _) cl_2 rfl dX11_tells_88 rfl ?_
        refine G_iconst (pc2 := 90) dX11_tells_89 ic_1 rfl ?_
        refine G_iadd (pc2 := 91) dX11_tells_90 rfl ?_
        refine SMc (pc2 := 92) (fa_211 _ _ _ _) h cl_2 rfl dX11_tells_91 rfl (fun F_1118 h => ?_)
        refine G_goto (tgt := 152) dX11_tells_92 (by decide) ?_
        have ha := Option.some.inj h
        subst ha
        exact G_vret rfl dX11_tells_152
    · refine G_aload_n (pc2 := 29) 0 rfl dX11_tells_28 rfl rfl ?_
      obtain ⟨c_1146, hc_1146, h⟩ := ob_e h
      refine B_callV (pc2 := 32) si_X11_106 (c_X11_bridges hc_1146) (qo_209 _ _ _ _) rfl rfl rfl (st := []) (stq := []) rfl (by decide) (by decide) (Nat.le_of_ble_eq_true rfl) mkW_ll dX11_tells_29 rfl rfl ?_ ⟨rfl, rfl⟩
      refine G_goto (tgt := 152) dX11_tells_32 (by decide) ?_
      have ha := Option.some.inj h
      subst ha
      exact G_vret rfl dX11_tells_152
  · refine G_aload_n (pc2 := 7) 0 rfl dX11_tells_6 rfl rfl ?_
    refine T_209_7 (pc2 := 10) kw_909 dX11_tells_7 rfl ?_
    refine G_iconst (pc2 := 11) dX11_tells_10 ic_0 rfl ?_
    refine G_aload_n (pc2 := 12) 0 rfl dX11_tells_11 rfl rfl ?_
    refine G_iconst (pc2 := 13) dX11_tells_12 ic_2 rfl ?_
    refine G_bipush (pc2 := 15) dX11_tells_13 ib_8 rfl ?_
    obtain ⟨c_1147, hc_1147, h⟩ := ob_e h
    refine B_callV (pc2 := 18) si_X11_102 (c_X11_due hc_1147) (qo_209 _ _ _ _) rfl rfl rfl (st := [.int (0 : Int32), .ref 211]) (stq := [.int c_1147.1, .int (0 : Int32), .ref 211]) rfl (by decide) (by decide) (Nat.le_of_ble_eq_true rfl) mkW_ll dX11_tells_15 rfl rfl ?_ ⟨rfl, rfl⟩
    refine SMc (pc2 := 19) (fa_211 _ _ _ _) h cl_0 rfl dX11_tells_18 rfl (fun F_1148 h => ?_)
    refine G_goto (tgt := 152) dX11_tells_19 (by decide) ?_
    have ha := Option.some.inj h
    subst ha
    exact G_vret rfl dX11_tells_152)
def f_X11_ends (I : WI) (F : WF) : Option (WI) :=
  Option.bind (f_X11_isWell I F) fun c_1150 =>
  if c_1150 = 0 then (some I)
  else (Option.bind (f_X11_blanks I F) fun c_1151 =>
  Option.bind (f_X11_letterAt (c_1151 2) c_1151 F) fun c_1152 =>
  bnd (fun (I_1154 : WI) => bnd (upd I_1154 2 ((I_1154 2) + (1 : Int32))) fun I_1155 =>
  some I_1155) fun j33_1153 =>
  if c_1152 = (59 : Int32) then (j33_1153 c_1151)
  else (Option.bind (f_X11_faulty (1 : Int32) (c_1151 2) c_1151 F) fun c_1156 =>
  j33_1153 c_1156))
set_option maxRecDepth 100000 in
set_option maxHeartbeats 4000000 in
theorem c_X11_ends {I : WI} {F : WF} {J : WI} {K : WF} {a : WI} (h : f_X11_ends  I F = some a) : CT md_X11_ends yX11_ends (rmD 3) [.ref 209] (mkW J K I F) none (mkW J K a F) := CT_of pn_X11 ⟨rfl, rfl⟩ (Nat.le_of_ble_eq_true rfl) (fun X => by
  show GG X md_X11_ends (rmD 3) _ 0 0 0 [(0, .ref 209)] [] (mkW J K I F)
  unfold f_X11_ends at h
  refine G_aload_n (pc2 := 1) 0 rfl dX11_ends_0 rfl rfl ?_
  obtain ⟨c_1150, hc_1150, h⟩ := ob_e h
  refine B_callV (pc2 := 4) si_X11_85 (c_X11_isWell hc_1150) (qo_209 _ _ _ _) rfl rfl rfl (st := []) (stq := [.int c_1150]) rfl (by decide) (by decide) (Nat.le_of_ble_eq_true rfl) mkW_ll dX11_ends_1 rfl rfl ?_ ⟨rfl, rfl⟩
  refine B_if_eq (tgt := 43) (pc2 := 7) h dX11_ends_4 (by decide) rfl (fun _ h => ?_) (fun _ h => ?_)
  · have ha := Option.some.inj h
    subst ha
    exact G_vret rfl dX11_ends_43
  · refine G_aload_n (pc2 := 8) 0 rfl dX11_ends_7 rfl rfl ?_
    obtain ⟨c_1151, hc_1151, h⟩ := ob_e h
    refine B_callV (pc2 := 11) si_X11_92 (c_X11_blanks hc_1151) (qo_209 _ _ _ _) rfl rfl rfl (st := []) (stq := []) rfl (by decide) (by decide) (Nat.le_of_ble_eq_true rfl) mkW_ll dX11_ends_8 rfl rfl ?_ ⟨rfl, rfl⟩
    refine G_aload_n (pc2 := 12) 0 rfl dX11_ends_11 rfl rfl ?_
    refine G_aload_n (pc2 := 13) 0 rfl dX11_ends_12 rfl rfl ?_
    refine T_209_3 (pc2 := 16) kw_905 dX11_ends_13 rfl ?_
    obtain ⟨c_1152, hc_1152, h⟩ := ob_e h
    refine B_callV (pc2 := 19) si_X11_78 (c_X11_letterAt hc_1152) (qo_209 _ _ _ _) rfl rfl rfl (st := []) (stq := [.int c_1152]) rfl (by decide) (by decide) (Nat.le_of_ble_eq_true rfl) mkW_ll dX11_ends_16 rfl rfl ?_ ⟨rfl, rfl⟩
    refine G_bipush (pc2 := 21) dX11_ends_19 ib_59 rfl ?_
    refine jn_e (Gj := True) (fun (j : WI → Option (WI)) => ∀ (I_1154 : WI), j I_1154 = some a → GG X md_X11_ends (rmD 3) (gv_Z X (rmD 3).cells (rmD 3).slots none (mkW J K a F)) 0 0 33 [(0, .ref 209)] [] (mkW J K I_1154 F)) h (fun I_1154 h => ?_) (fun j33_1153 hj33_1153 h => ?_)
    · refine G_aload_n (pc2 := 34) 0 rfl dX11_ends_33 rfl rfl ?_
      refine G_dup (pc2 := 35) rfl dX11_ends_34 rfl ?_
      refine T_209_3 (pc2 := 38) kw_905 dX11_ends_35 rfl ?_
      refine G_iconst (pc2 := 39) dX11_ends_38 ic_1 rfl ?_
      refine G_iadd (pc2 := 40) dX11_ends_39 rfl ?_
      refine P_209_3 (pc2 := 43) h kw_905 dX11_ends_40 rfl (fun I_1155 h => ?_)
      have ha := Option.some.inj h
      subst ha
      exact G_vret rfl dX11_ends_43
    refine B_icmp_eq (tgt := 33) (pc2 := 24) h dX11_ends_21 (by decide) rfl (fun _ h => ?_) (fun _ h => ?_)
    · exact hj33_1153 c_1151 h
    · refine G_aload_n (pc2 := 25) 0 rfl dX11_ends_24 rfl rfl ?_
      refine G_iconst (pc2 := 26) dX11_ends_25 ic_1 rfl ?_
      refine G_aload_n (pc2 := 27) 0 rfl dX11_ends_26 rfl rfl ?_
      refine T_209_3 (pc2 := 30) kw_905 dX11_ends_27 rfl ?_
      obtain ⟨c_1156, hc_1156, h⟩ := ob_e h
      refine B_callV (pc2 := 33) si_X11_98 (c_X11_faulty hc_1156) (qo_209 _ _ _ _) rfl rfl rfl (st := []) (stq := []) rfl (by decide) (by decide) (Nat.le_of_ble_eq_true rfl) mkW_ll dX11_ends_30 rfl rfl ?_ ⟨rfl, rfl⟩
      exact hj33_1153 c_1156 h)
def L_X11_reads_4 (k : WI → WF → Option (WI × WF))  : Nat → WI → WF → Option (WI × WF)
  | 0, _, _ => none
  | n + 1, I, F =>
  Option.bind (f_X11_isWell I F) fun c_1071 =>
  if c_1071 = 0 then (k I F)
  else (if (I 1) ≤ (I 2) then (k I F)
  else (Option.bind (f_X11_letterAt (I 2) I F) fun c_1072 =>
  bnd c_1072 fun x1_1073 =>
  bnd (fun (s_1075 : Int32) => bnd s_1075 fun x2_1076 =>
  bnd (fun (I_1078 : WI) (F_1079 : WF) => L_X11_reads_4 k n I_1078 F_1079) fun j129_1077 =>
  if x2_1076 = 0 then (Option.bind (f_X11_faulty (1 : Int32) (I 2) I F) fun c_1160 =>
  j129_1077 c_1160 F)
  else (Option.bind (f_X11_isMore x1_1073 I F) fun c_1087 =>
  if c_1087 = 0 then (bnd (upd I 2 ((I 2) + (1 : Int32))) fun I_1088 =>
  Option.bind (f_X11_tells x1_1073 I_1088 F) fun c_1149 =>
  Option.bind (f_X11_ends c_1149.1 c_1149.2) fun c_1157 =>
  Option.bind (f_X11_blanks c_1157 c_1149.2) fun c_1158 =>
  j129_1077 c_1158 c_1149.2)
  else (Option.bind (f_X11_faulty (3 : Int32) (I 2) I F) fun c_1159 =>
  j129_1077 c_1159 F))) fun j69_1074 =>
  bnd (fun (_u : Unit) => j69_1074 (1 : Int32)) fun j64_1161 =>
  if x1_1073 = (110 : Int32) then (j64_1161 ())
  else (bnd (fun (_u : Unit) => j69_1074 (0 : Int32)) fun j68_1162 =>
  if (F 1 0) ≤ 0 then (j68_1162 ())
  else (if x1_1073 = (98 : Int32) then (j64_1161 ())
  else (if x1_1073 = (107 : Int32) then (j64_1161 ())
  else (if x1_1073 = (106 : Int32) then (j64_1161 ())
  else (j68_1162 ())))))))
def f_X11_reads (I : WI) (F : WF) : Option (WI × WF) :=
  Option.bind (f_X11_blanks I F) fun c_1070 =>
  L_X11_reads_4 (fun I_1163 F_1164 => some (I_1163, F_1164))  FU c_1070 F
set_option maxRecDepth 100000 in
set_option maxHeartbeats 4000000 in
theorem g_L_X11_reads_4 {X : XT} {J : WI} {K : WF} {a : WI × WF} {k : WI → WF → Option (WI × WF)} (hk : ∀ (I' : WI) (F' : WF), (k I' F' = some a → GG X md_X11_reads (rmD 6) (gv_Z X (rmD 6).cells (rmD 6).slots none (mkW J K a.1 a.2)) 0 0 132 [] [] (mkW J K I' F'))) : ∀ (n : Nat) (I : WI) (F : WF), L_X11_reads_4 k n I F = some a → GG X md_X11_reads (rmD 6) (gv_Z X (rmD 6).cells (rmD 6).slots none (mkW J K a.1 a.2)) 0 0 4 [(0, .ref 209)] [] (mkW J K I F) := by
  intro n
  induction n with
  | zero =>
    intro I F h
    rw [L_X11_reads_4] at h
    cases h
  | succ n ih =>
    intro I F h
    rw [L_X11_reads_4] at h
    refine G_aload_n (pc2 := 5) 0 rfl dX11_reads_4 rfl rfl ?_
    obtain ⟨c_1071, hc_1071, h⟩ := ob_e h
    refine B_callV (pc2 := 8) si_X11_85 (c_X11_isWell hc_1071) (qo_209 _ _ _ _) rfl rfl rfl (st := []) (stq := [.int c_1071]) rfl (by decide) (by decide) (Nat.le_of_ble_eq_true rfl) mkW_ll dX11_reads_5 rfl rfl ?_ ⟨rfl, rfl⟩
    refine B_if_eq (tgt := 132) (pc2 := 11) h dX11_reads_8 (by decide) rfl (fun _ h => ?_) (fun _ h => ?_)
    · refine G_sub (ls' := []) [] rfl ?_
      exact hk I F h
    · refine G_aload_n (pc2 := 12) 0 rfl dX11_reads_11 rfl rfl ?_
      refine T_209_3 (pc2 := 15) kw_905 dX11_reads_12 rfl ?_
      refine G_aload_n (pc2 := 16) 0 rfl dX11_reads_15 rfl rfl ?_
      refine T_209_2 (pc2 := 19) kw_904 dX11_reads_16 rfl ?_
      refine B_icmp_ge (tgt := 132) (pc2 := 22) h dX11_reads_19 (by decide) rfl (fun _ h => ?_) (fun _ h => ?_)
      · refine G_sub (ls' := []) [] rfl ?_
        exact hk I F h
      · refine G_aload_n (pc2 := 23) 0 rfl dX11_reads_22 rfl rfl ?_
        refine G_aload_n (pc2 := 24) 0 rfl dX11_reads_23 rfl rfl ?_
        refine T_209_3 (pc2 := 27) kw_905 dX11_reads_24 rfl ?_
        obtain ⟨c_1072, hc_1072, h⟩ := ob_e h
        refine B_callV (pc2 := 30) si_X11_78 (c_X11_letterAt hc_1072) (qo_209 _ _ _ _) rfl rfl rfl (st := []) (stq := [.int c_1072]) rfl (by decide) (by decide) (Nat.le_of_ble_eq_true rfl) mkW_ll dX11_reads_27 rfl rfl ?_ ⟨rfl, rfl⟩
        refine B_istore_n (pc2 := 31) (fun x1_1073 => [(1, .int x1_1073), (0, .ref 209)]) h dX11_reads_30 rfl (by decide) (fun _ => rfl) rfl (fun x1_1073 h => ?_)
        refine G_iload_n (pc2 := 32) 0 rfl dX11_reads_31 rfl rfl ?_
        refine G_bipush (pc2 := 34) dX11_reads_32 ib_110 rfl ?_
        refine jn_e (Gj := True) (fun (j : Int32 → Option (WI × WF)) => ∀ (s_1075 : Int32), j s_1075 = some a → GG X md_X11_reads (rmD 6) (gv_Z X (rmD 6).cells (rmD 6).slots none (mkW J K a.1 a.2)) 0 0 69 [(0, .ref 209), (1, .int x1_1073)] [.int s_1075] (mkW J K I F)) h (fun s_1075 h => ?_) (fun j69_1074 hj69_1074 h => ?_)
        · refine B_istore_n (pc2 := 70) (fun x2_1076 => [(2, .int x2_1076), (0, .ref 209), (1, .int x1_1073)]) h dX11_reads_69 rfl (by decide) (fun _ => rfl) rfl (fun x2_1076 h => ?_)
          refine G_iload_n (pc2 := 71) 0 rfl dX11_reads_70 rfl rfl ?_
          refine jn_e (Gj := True) (fun (j : WI → WF → Option (WI × WF)) => ∀ (I_1078 : WI) (F_1079 : WF), j I_1078 F_1079 = some a → GG X md_X11_reads (rmD 6) (gv_Z X (rmD 6).cells (rmD 6).slots none (mkW J K a.1 a.2)) 0 0 129 [(0, .ref 209)] [] (mkW J K I_1078 F_1079)) h (fun I_1078 F_1079 h => ?_) (fun j129_1077 hj129_1077 h => ?_)
          · refine G_goto (tgt := 4) dX11_reads_129 (by decide) ?_
            exact ih I_1078 F_1079 h
          refine B_if_ne (tgt := 86) (pc2 := 74) h dX11_reads_71 (by decide) rfl (fun _ h => ?_) (fun _ h => ?_)
          · refine G_aload_n (pc2 := 87) 1 rfl dX11_reads_86 rfl rfl ?_
            refine G_iload_n (pc2 := 88) 2 rfl dX11_reads_87 rfl rfl ?_
            obtain ⟨c_1087, hc_1087, h⟩ := ob_e h
            refine B_callV (pc2 := 91) si_X11_109 (c_X11_isMore hc_1087) (qo_209 _ _ _ _) rfl rfl rfl (st := []) (stq := [.int c_1087]) rfl (by decide) (by decide) (Nat.le_of_ble_eq_true rfl) mkW_ll dX11_reads_88 rfl rfl ?_ ⟨rfl, rfl⟩
            refine B_if_eq (tgt := 106) (pc2 := 94) h dX11_reads_91 (by decide) rfl (fun _ h => ?_) (fun _ h => ?_)
            · refine G_aload_n (pc2 := 107) 1 rfl dX11_reads_106 rfl rfl ?_
              refine G_dup (pc2 := 108) rfl dX11_reads_107 rfl ?_
              refine T_209_3 (pc2 := 111) kw_905 dX11_reads_108 rfl ?_
              refine G_iconst (pc2 := 112) dX11_reads_111 ic_1 rfl ?_
              refine G_iadd (pc2 := 113) dX11_reads_112 rfl ?_
              refine P_209_3 (pc2 := 116) h kw_905 dX11_reads_113 rfl (fun I_1088 h => ?_)
              refine G_aload_n (pc2 := 117) 1 rfl dX11_reads_116 rfl rfl ?_
              refine G_iload_n (pc2 := 118) 2 rfl dX11_reads_117 rfl rfl ?_
              obtain ⟨c_1149, hc_1149, h⟩ := ob_e h
              refine B_callV (pc2 := 121) si_X11_113 (c_X11_tells hc_1149) (qo_209 _ _ _ _) rfl rfl rfl (st := []) (stq := []) rfl (by decide) (by decide) (Nat.le_of_ble_eq_true rfl) mkW_ll dX11_reads_118 rfl rfl ?_ ⟨rfl, rfl⟩
              refine G_aload_n (pc2 := 122) 1 rfl dX11_reads_121 rfl rfl ?_
              obtain ⟨c_1157, hc_1157, h⟩ := ob_e h
              refine B_callV (pc2 := 125) si_X11_117 (c_X11_ends hc_1157) (qo_209 _ _ _ _) rfl rfl rfl (st := []) (stq := []) rfl (by decide) (by decide) (Nat.le_of_ble_eq_true rfl) mkW_ll dX11_reads_122 rfl rfl ?_ ⟨rfl, rfl⟩
              refine G_aload_n (pc2 := 126) 1 rfl dX11_reads_125 rfl rfl ?_
              obtain ⟨c_1158, hc_1158, h⟩ := ob_e h
              refine B_callV (pc2 := 129) si_X11_92 (c_X11_blanks hc_1158) (qo_209 _ _ _ _) rfl rfl rfl (st := []) (stq := []) rfl (by decide) (by decide) (Nat.le_of_ble_eq_true rfl) mkW_ll dX11_reads_126 rfl rfl ?_ ⟨rfl, rfl⟩
              refine G_sub (ls' := [(0, .ref 209)]) [1] rfl ?_
              exact hj129_1077 c_1158 c_1149.2 h
            · refine G_aload_n (pc2 := 95) 1 rfl dX11_reads_94 rfl rfl ?_
              refine G_iconst (pc2 := 96) dX11_reads_95 ic_3 rfl ?_
              refine G_aload_n (pc2 := 97) 1 rfl dX11_reads_96 rfl rfl ?_
              refine T_209_3 (pc2 := 100) kw_905 dX11_reads_97 rfl ?_
              obtain ⟨c_1159, hc_1159, h⟩ := ob_e h
              refine B_callV (pc2 := 103) si_X11_98 (c_X11_faulty hc_1159) (qo_209 _ _ _ _) rfl rfl rfl (st := []) (stq := []) rfl (by decide) (by decide) (Nat.le_of_ble_eq_true rfl) mkW_ll dX11_reads_100 rfl rfl ?_ ⟨rfl, rfl⟩
              refine G_goto (tgt := 129) dX11_reads_103 (by decide) ?_
              refine G_sub (ls' := [(0, .ref 209)]) [1] rfl ?_
              exact hj129_1077 c_1159 F h
          · refine G_aload_n (pc2 := 75) 1 rfl dX11_reads_74 rfl rfl ?_
            refine G_iconst (pc2 := 76) dX11_reads_75 ic_1 rfl ?_
            refine G_aload_n (pc2 := 77) 1 rfl dX11_reads_76 rfl rfl ?_
            refine T_209_3 (pc2 := 80) kw_905 dX11_reads_77 rfl ?_
            obtain ⟨c_1160, hc_1160, h⟩ := ob_e h
            refine B_callV (pc2 := 83) si_X11_98 (c_X11_faulty hc_1160) (qo_209 _ _ _ _) rfl rfl rfl (st := []) (stq := []) rfl (by decide) (by decide) (Nat.le_of_ble_eq_true rfl) mkW_ll dX11_reads_80 rfl rfl ?_ ⟨rfl, rfl⟩
            refine G_goto (tgt := 129) dX11_reads_83 (by decide) ?_
            refine G_sub (ls' := [(0, .ref 209)]) [1] rfl ?_
            exact hj129_1077 c_1160 F h
        refine jn_e (Gj := True) (fun (j : Unit → Option (WI × WF)) => ∀ (_u : Unit), j _u = some a → GG X md_X11_reads (rmD 6) (gv_Z X (rmD 6).cells (rmD 6).slots none (mkW J K a.1 a.2)) 0 0 64 [(0, .ref 209), (1, .int x1_1073)] [] (mkW J K I F)) h (fun _u h => ?_) (fun j64_1161 hj64_1161 h => ?_)
        · refine G_iconst (pc2 := 65) dX11_reads_64 ic_1 rfl ?_
          refine G_goto (tgt := 69) dX11_reads_65 (by decide) ?_
          exact hj69_1074 (1 : Int32) h
        refine B_icmp_eq (tgt := 64) (pc2 := 37) h dX11_reads_34 (by decide) rfl (fun _ h => ?_) (fun _ h => ?_)
        · refine G_sub (ls' := [(0, .ref 209), (1, .int x1_1073)]) [1, 0] rfl ?_
          exact hj64_1161 () h
        · refine G_aload_n (pc2 := 38) 1 rfl dX11_reads_37 rfl rfl ?_
          refine T_209_7 (pc2 := 41) kw_909 dX11_reads_38 rfl ?_
          refine G_iconst (pc2 := 42) dX11_reads_41 ic_0 rfl ?_
          refine AMc (pc2 := 43) (fa_211 _ _ _ _) cl_0 rfl dX11_reads_42 rfl ?_
          refine jn_e (Gj := True) (fun (j : Unit → Option (WI × WF)) => ∀ (_u : Unit), j _u = some a → GG X md_X11_reads (rmD 6) (gv_Z X (rmD 6).cells (rmD 6).slots none (mkW J K a.1 a.2)) 0 0 68 [(0, .ref 209), (1, .int x1_1073)] [] (mkW J K I F)) h (fun _u h => ?_) (fun j68_1162 hj68_1162 h => ?_)
          · refine G_iconst (pc2 := 69) dX11_reads_68 ic_0 rfl ?_
            exact hj69_1074 (0 : Int32) h
          refine B_if_le (tgt := 68) (pc2 := 46) h dX11_reads_43 (by decide) rfl (fun _ h => ?_) (fun _ h => ?_)
          · refine G_sub (ls' := [(0, .ref 209), (1, .int x1_1073)]) [1, 0] rfl ?_
            exact hj68_1162 () h
          · refine G_iload_n (pc2 := 47) 0 rfl dX11_reads_46 rfl rfl ?_
            refine G_bipush (pc2 := 49) dX11_reads_47 ib_98 rfl ?_
            refine B_icmp_eq (tgt := 64) (pc2 := 52) h dX11_reads_49 (by decide) rfl (fun _ h => ?_) (fun _ h => ?_)
            · refine G_sub (ls' := [(0, .ref 209), (1, .int x1_1073)]) [1, 0] rfl ?_
              exact hj64_1161 () h
            · refine G_iload_n (pc2 := 53) 0 rfl dX11_reads_52 rfl rfl ?_
              refine G_bipush (pc2 := 55) dX11_reads_53 ib_107 rfl ?_
              refine B_icmp_eq (tgt := 64) (pc2 := 58) h dX11_reads_55 (by decide) rfl (fun _ h => ?_) (fun _ h => ?_)
              · refine G_sub (ls' := [(0, .ref 209), (1, .int x1_1073)]) [1, 0] rfl ?_
                exact hj64_1161 () h
              · refine G_iload_n (pc2 := 59) 0 rfl dX11_reads_58 rfl rfl ?_
                refine G_bipush (pc2 := 61) dX11_reads_59 ib_106 rfl ?_
                refine B_icmp_ne (tgt := 68) (pc2 := 64) h dX11_reads_61 (by decide) rfl (fun _ h => ?_) (fun _ h => ?_)
                · refine G_sub (ls' := [(0, .ref 209), (1, .int x1_1073)]) [1, 0] rfl ?_
                  exact hj68_1162 () h
                · refine G_sub (ls' := [(0, .ref 209), (1, .int x1_1073)]) [1, 0] rfl ?_
                  exact hj64_1161 () h
set_option maxRecDepth 100000 in
set_option maxHeartbeats 4000000 in
theorem c_X11_reads {I : WI} {F : WF} {J : WI} {K : WF} {a : WI × WF} (h : f_X11_reads  I F = some a) : CT md_X11_reads yX11_reads (rmD 6) [.ref 209] (mkW J K I F) none (mkW J K a.1 a.2) := CT_of pn_X11 ⟨rfl, rfl⟩ (Nat.le_of_ble_eq_true rfl) (fun X => by
  show GG X md_X11_reads (rmD 6) _ 0 0 0 [(0, .ref 209)] [] (mkW J K I F)
  unfold f_X11_reads at h
  refine G_aload_n (pc2 := 1) 0 rfl dX11_reads_0 rfl rfl ?_
  obtain ⟨c_1070, hc_1070, h⟩ := ob_e h
  refine B_callV (pc2 := 4) si_X11_92 (c_X11_blanks hc_1070) (qo_209 _ _ _ _) rfl rfl rfl (st := []) (stq := []) rfl (by decide) (by decide) (Nat.le_of_ble_eq_true rfl) mkW_ll dX11_reads_1 rfl rfl ?_ ⟨rfl, rfl⟩
  refine g_L_X11_reads_4 (fun I_1163 F_1164 h => ?_) FU c_1070 F h
  have ha := Option.some.inj h
  subst ha
  exact G_vret rfl dX11_reads_132)
def L_X11_settles_2 (k : WF → Option (WI × WF))  (I : WI) : Nat → Int32 → WF → Option (WI × WF)
  | 0, _, _ => none
  | n + 1, x1, F =>
  if (70 : Int32) ≤ x1 then (k F)
  else (ixG x1 70 (
  ixG x1 70 (bnd (uF F 2 (upd (F 2) x1.toNatClampNeg (F 1 x1.toNatClampNeg))) fun F_1173 =>
  bnd (x1 + (1 : Int32)) fun x1_1174 =>
  L_X11_settles_2 k I n x1_1174 F_1173)))
def L_X11_settles_28 (k : WF → Option (WI × WF))  (I : WI) : Nat → Int32 → WF → Option (WI × WF)
  | 0, _, _ => none
  | n + 1, x1, F =>
  if (133 : Int32) ≤ x1 then (k F)
  else (ixG x1 134 (bnd (uF F 3 (upd (F 3) x1.toNatClampNeg (0 : Int32))) fun F_1177 =>
  bnd (x1 + (1 : Int32)) fun x1_1178 =>
  L_X11_settles_28 k I n x1_1178 F_1177))
def L_X11_settles_50 (k : WF → Option (WI × WF))  (I : WI) : Nat → Int32 → WF → Option (WI × WF)
  | 0, _, _ => none
  | n + 1, x1, F =>
  if (6 : Int32) ≤ x1 then (k F)
  else (ixG ((64 : Int32) + x1) 70 (
  ixG ((0 : Int32) + x1) 134 (bnd (uF F 3 (upd (F 3) ((0 : Int32) + x1).toNatClampNeg (F 2 ((64 : Int32) + x1).toNatClampNeg))) fun F_1181 =>
  bnd (x1 + (1 : Int32)) fun x1_1182 =>
  L_X11_settles_50 k I n x1_1182 F_1181)))
def L_X11_settles_81 (k : WF → Option (WI × WF))  (I : WI) : Nat → Int32 → WF → Option (WI × WF)
  | 0, _, _ => none
  | n + 1, x1, F =>
  if (9 : Int32) ≤ x1 then (k F)
  else (ixG ((49 : Int32) + x1) 70 (
  ixG ((42 : Int32) + x1) 134 (bnd (uF F 3 (upd (F 3) ((42 : Int32) + x1).toNatClampNeg (F 2 ((49 : Int32) + x1).toNatClampNeg))) fun F_1185 =>
  bnd (fun (s_1187 : Int32) => ixG ((24 : Int32) + x1) 134 (bnd (uF F_1185 3 (upd (F_1185 3) ((24 : Int32) + x1).toNatClampNeg s_1187)) fun F_1188 =>
  bnd (x1 + (1 : Int32)) fun x1_1189 =>
  L_X11_settles_81 k I n x1_1189 F_1188)) fun j138_1186 =>
  bnd (fun (_u : Unit) => j138_1186 (-1 : Int32)) fun j137_1190 =>
  if (F_1185 2 2) ≤ x1 then (j137_1190 ())
  else (if (F_1185 2 1) ≤ x1 then (j137_1190 ())
  else (j138_1186 x1)))))
def f_X11_settles (I : WI) (F : WF) : Option (WI × WF) :=
  bnd (0 : Int32) fun x1_1172 =>
  L_X11_settles_2 (fun F_1175 => bnd (0 : Int32) fun x1_1176 =>
  L_X11_settles_28 (fun F_1179 => bnd (0 : Int32) fun x1_1180 =>
  L_X11_settles_50 (fun F_1183 => bnd (0 : Int32) fun x1_1184 =>
  L_X11_settles_81 (fun F_1191 => bnd (upd I 7 (0 : Int32)) fun I_1192 =>
  bnd (upd I_1192 8 (0 : Int32)) fun I_1193 =>
  bnd (upd I_1193 6 (0 : Int32)) fun I_1194 =>
  bnd (uF F_1191 5 (upd (F_1191 5) 0 (vp_nar .boolean (0 : Int32)))) fun F_1195 =>
  bnd (uF F_1195 5 (upd (F_1195 5) 1 (vp_nar .boolean (0 : Int32)))) fun F_1196 =>
  some (I_1194, F_1196)) I FU x1_1184 F_1183) I FU x1_1180 F_1179) I FU x1_1176 F_1175) I FU x1_1172 F
set_option maxRecDepth 100000 in
set_option maxHeartbeats 4000000 in
theorem g_L_X11_settles_2 {X : XT} {I : WI} {J : WI} {K : WF} {a : WI × WF} {k : WF → Option (WI × WF)} (hk : ∀ (F' : WF), (k F' = some a → GG X md_X11_settles (rmD 1) (gv_Z X (rmD 1).cells (rmD 1).slots none (mkW J K a.1 a.2)) 0 0 26 [(0, .ref 209)] [] (mkW J K I F'))) : ∀ (n : Nat) (x1 : Int32) (F : WF), L_X11_settles_2 k I n x1 F = some a → GG X md_X11_settles (rmD 1) (gv_Z X (rmD 1).cells (rmD 1).slots none (mkW J K a.1 a.2)) 0 0 2 [(0, .ref 209), (1, .int x1)] [] (mkW J K I F) := by
  intro n
  induction n with
  | zero =>
    intro x1 F h
    rw [L_X11_settles_2] at h
    cases h
  | succ n ih =>
    intro x1 F h
    rw [L_X11_settles_2] at h
    refine G_iload_n (pc2 := 3) 1 rfl dX11_settles_2 rfl rfl ?_
    refine G_bipush (pc2 := 5) dX11_settles_3 ib_70 rfl ?_
    refine B_icmp_ge (tgt := 26) (pc2 := 8) h dX11_settles_5 (by decide) rfl (fun _ h => ?_) (fun _ h => ?_)
    · refine G_sub (ls' := [(0, .ref 209)]) [0] rfl ?_
      exact hk F h
    · refine G_aload_n (pc2 := 9) 0 rfl dX11_settles_8 rfl rfl ?_
      refine T_209_8 (pc2 := 12) kw_910 dX11_settles_9 rfl ?_
      refine G_iload_n (pc2 := 13) 1 rfl dX11_settles_12 rfl rfl ?_
      refine G_aload_n (pc2 := 14) 0 rfl dX11_settles_13 rfl rfl ?_
      refine T_209_7 (pc2 := 17) kw_909 dX11_settles_14 rfl ?_
      refine G_iload_n (pc2 := 18) 1 rfl dX11_settles_17 rfl rfl ?_
      refine AM (pc2 := 19) (fa_211 _ _ _ _) h dX11_settles_18 rfl (fun h => ?_)
      refine SM (pc2 := 20) (fa_212 _ _ _ _) h dX11_settles_19 rfl (fun F_1173 h => ?_)
      refine B_iinc (pc2 := 23) 1 (fun x1_1174 => [(1, .int x1_1174), (0, .ref 209)]) h rfl dX11_settles_20 ic_1 (by decide) (fun _ => rfl) rfl (fun x1_1174 h => ?_)
      refine G_goto (tgt := 2) dX11_settles_23 (by decide) ?_
      refine G_sub (ls' := [(0, .ref 209), (1, .int x1_1174)]) [1, 0] rfl ?_
      exact ih x1_1174 F_1173 h
set_option maxRecDepth 100000 in
set_option maxHeartbeats 4000000 in
theorem g_L_X11_settles_28 {X : XT} {I : WI} {J : WI} {K : WF} {a : WI × WF} {k : WF → Option (WI × WF)} (hk : ∀ (F' : WF), (k F' = some a → GG X md_X11_settles (rmD 1) (gv_Z X (rmD 1).cells (rmD 1).slots none (mkW J K a.1 a.2)) 0 0 48 [(0, .ref 209)] [] (mkW J K I F'))) : ∀ (n : Nat) (x1 : Int32) (F : WF), L_X11_settles_28 k I n x1 F = some a → GG X md_X11_settles (rmD 1) (gv_Z X (rmD 1).cells (rmD 1).slots none (mkW J K a.1 a.2)) 0 0 28 [(0, .ref 209), (1, .int x1)] [] (mkW J K I F) := by
  intro n
  induction n with
  | zero =>
    intro x1 F h
    rw [L_X11_settles_28] at h
    cases h
  | succ n ih =>
    intro x1 F h
    rw [L_X11_settles_28] at h
    refine G_iload_n (pc2 := 29) 1 rfl dX11_settles_28 rfl rfl ?_
    refine G_sipush (pc2 := 32) dX11_settles_29 is_133 rfl ?_
    refine B_icmp_ge (tgt := 48) (pc2 := 35) h dX11_settles_32 (by decide) rfl (fun _ h => ?_) (fun _ h => ?_)
    · refine G_sub (ls' := [(0, .ref 209)]) [0] rfl ?_
      exact hk F h
    · refine G_aload_n (pc2 := 36) 0 rfl dX11_settles_35 rfl rfl ?_
      refine T_209_9 (pc2 := 39) kw_911 dX11_settles_36 rfl ?_
      refine G_iload_n (pc2 := 40) 1 rfl dX11_settles_39 rfl rfl ?_
      refine G_iconst (pc2 := 41) dX11_settles_40 ic_0 rfl ?_
      refine SM (pc2 := 42) (fa_213 _ _ _ _) h dX11_settles_41 rfl (fun F_1177 h => ?_)
      refine B_iinc (pc2 := 45) 1 (fun x1_1178 => [(1, .int x1_1178), (0, .ref 209)]) h rfl dX11_settles_42 ic_1 (by decide) (fun _ => rfl) rfl (fun x1_1178 h => ?_)
      refine G_goto (tgt := 28) dX11_settles_45 (by decide) ?_
      refine G_sub (ls' := [(0, .ref 209), (1, .int x1_1178)]) [1, 0] rfl ?_
      exact ih x1_1178 F_1177 h
set_option maxRecDepth 100000 in
set_option maxHeartbeats 4000000 in
theorem g_L_X11_settles_50 {X : XT} {I : WI} {J : WI} {K : WF} {a : WI × WF} {k : WF → Option (WI × WF)} (hk : ∀ (F' : WF), (k F' = some a → GG X md_X11_settles (rmD 1) (gv_Z X (rmD 1).cells (rmD 1).slots none (mkW J K a.1 a.2)) 0 0 79 [(0, .ref 209)] [] (mkW J K I F'))) : ∀ (n : Nat) (x1 : Int32) (F : WF), L_X11_settles_50 k I n x1 F = some a → GG X md_X11_settles (rmD 1) (gv_Z X (rmD 1).cells (rmD 1).slots none (mkW J K a.1 a.2)) 0 0 50 [(0, .ref 209), (1, .int x1)] [] (mkW J K I F) := by
  intro n
  induction n with
  | zero =>
    intro x1 F h
    rw [L_X11_settles_50] at h
    cases h
  | succ n ih =>
    intro x1 F h
    rw [L_X11_settles_50] at h
    refine G_iload_n (pc2 := 51) 1 rfl dX11_settles_50 rfl rfl ?_
    refine G_bipush (pc2 := 53) dX11_settles_51 ib_6 rfl ?_
    refine B_icmp_ge (tgt := 79) (pc2 := 56) h dX11_settles_53 (by decide) rfl (fun _ h => ?_) (fun _ h => ?_)
    · refine G_sub (ls' := [(0, .ref 209)]) [0] rfl ?_
      exact hk F h
    · refine G_aload_n (pc2 := 57) 0 rfl dX11_settles_56 rfl rfl ?_
      refine T_209_9 (pc2 := 60) kw_911 dX11_settles_57 rfl ?_
      refine G_iconst (pc2 := 61) dX11_settles_60 ic_0 rfl ?_
      refine G_iload_n (pc2 := 62) 1 rfl dX11_settles_61 rfl rfl ?_
      refine G_iadd (pc2 := 63) dX11_settles_62 rfl ?_
      refine G_aload_n (pc2 := 64) 0 rfl dX11_settles_63 rfl rfl ?_
      refine T_209_8 (pc2 := 67) kw_910 dX11_settles_64 rfl ?_
      refine G_bipush (pc2 := 69) dX11_settles_67 ib_64 rfl ?_
      refine G_iload_n (pc2 := 70) 1 rfl dX11_settles_69 rfl rfl ?_
      refine G_iadd (pc2 := 71) dX11_settles_70 rfl ?_
      refine AM (pc2 := 72) (fa_212 _ _ _ _) h dX11_settles_71 rfl (fun h => ?_)
      refine SM (pc2 := 73) (fa_213 _ _ _ _) h dX11_settles_72 rfl (fun F_1181 h => ?_)
      refine B_iinc (pc2 := 76) 1 (fun x1_1182 => [(1, .int x1_1182), (0, .ref 209)]) h rfl dX11_settles_73 ic_1 (by decide) (fun _ => rfl) rfl (fun x1_1182 h => ?_)
      refine G_goto (tgt := 50) dX11_settles_76 (by decide) ?_
      refine G_sub (ls' := [(0, .ref 209), (1, .int x1_1182)]) [1, 0] rfl ?_
      exact ih x1_1182 F_1181 h
set_option maxRecDepth 100000 in
set_option maxHeartbeats 4000000 in
theorem g_L_X11_settles_81 {X : XT} {I : WI} {J : WI} {K : WF} {a : WI × WF} {k : WF → Option (WI × WF)} (hk : ∀ (F' : WF), (k F' = some a → GG X md_X11_settles (rmD 1) (gv_Z X (rmD 1).cells (rmD 1).slots none (mkW J K a.1 a.2)) 0 0 145 [(0, .ref 209)] [] (mkW J K I F'))) : ∀ (n : Nat) (x1 : Int32) (F : WF), L_X11_settles_81 k I n x1 F = some a → GG X md_X11_settles (rmD 1) (gv_Z X (rmD 1).cells (rmD 1).slots none (mkW J K a.1 a.2)) 0 0 81 [(0, .ref 209), (1, .int x1)] [] (mkW J K I F) := by
  intro n
  induction n with
  | zero =>
    intro x1 F h
    rw [L_X11_settles_81] at h
    cases h
  | succ n ih =>
    intro x1 F h
    rw [L_X11_settles_81] at h
    refine G_iload_n (pc2 := 82) 1 rfl dX11_settles_81 rfl rfl ?_
    refine G_bipush (pc2 := 84) dX11_settles_82 ib_9 rfl ?_
    refine B_icmp_ge (tgt := 145) (pc2 := 87) h dX11_settles_84 (by decide) rfl (fun _ h => ?_) (fun _ h => ?_)
    · refine G_sub (ls' := [(0, .ref 209)]) [0] rfl ?_
      exact hk F h
    · refine G_aload_n (pc2 := 88) 0 rfl dX11_settles_87 rfl rfl ?_
      refine T_209_9 (pc2 := 91) kw_911 dX11_settles_88 rfl ?_
      refine G_bipush (pc2 := 93) dX11_settles_91 ib_42 rfl ?_
      refine G_iload_n (pc2 := 94) 1 rfl dX11_settles_93 rfl rfl ?_
      refine G_iadd (pc2 := 95) dX11_settles_94 rfl ?_
      refine G_aload_n (pc2 := 96) 0 rfl dX11_settles_95 rfl rfl ?_
      refine T_209_8 (pc2 := 99) kw_910 dX11_settles_96 rfl ?_
      refine G_bipush (pc2 := 101) dX11_settles_99 ib_49 rfl ?_
      refine G_iload_n (pc2 := 102) 1 rfl dX11_settles_101 rfl rfl ?_
      refine G_iadd (pc2 := 103) dX11_settles_102 rfl ?_
      refine AM (pc2 := 104) (fa_212 _ _ _ _) h dX11_settles_103 rfl (fun h => ?_)
      refine SM (pc2 := 105) (fa_213 _ _ _ _) h dX11_settles_104 rfl (fun F_1185 h => ?_)
      refine G_aload_n (pc2 := 106) 0 rfl dX11_settles_105 rfl rfl ?_
      refine T_209_9 (pc2 := 109) kw_911 dX11_settles_106 rfl ?_
      refine G_bipush (pc2 := 111) dX11_settles_109 ib_24 rfl ?_
      refine G_iload_n (pc2 := 112) 1 rfl dX11_settles_111 rfl rfl ?_
      refine G_iadd (pc2 := 113) dX11_settles_112 rfl ?_
      refine G_iload_n (pc2 := 114) 1 rfl dX11_settles_113 rfl rfl ?_
      refine G_aload_n (pc2 := 115) 0 rfl dX11_settles_114 rfl rfl ?_
      refine T_209_8 (pc2 := 118) kw_910 dX11_settles_115 rfl ?_
      refine G_iconst (pc2 := 119) dX11_settles_118 ic_2 rfl ?_
      refine AMc (pc2 := 120) (fa_212 _ _ _ _) cl_2 rfl dX11_settles_119 rfl ?_
      refine jn_e (Gj := True) (fun (j : Int32 → Option (WI × WF)) => ∀ (s_1187 : Int32), j s_1187 = some a → GG X md_X11_settles (rmD 1) (gv_Z X (rmD 1).cells (rmD 1).slots none (mkW J K a.1 a.2)) 0 0 138 [(0, .ref 209), (1, .int x1)] [.int s_1187, .int ((24 : Int32) + x1), .ref 213] (mkW J K I F_1185)) h (fun s_1187 h => ?_) (fun j138_1186 hj138_1186 h => ?_)
      · refine SM (pc2 := 139) (fa_213 _ _ _ _) h dX11_settles_138 rfl (fun F_1188 h => ?_)
        refine B_iinc (pc2 := 142) 1 (fun x1_1189 => [(1, .int x1_1189), (0, .ref 209)]) h rfl dX11_settles_139 ic_1 (by decide) (fun _ => rfl) rfl (fun x1_1189 h => ?_)
        refine G_goto (tgt := 81) dX11_settles_142 (by decide) ?_
        refine G_sub (ls' := [(0, .ref 209), (1, .int x1_1189)]) [1, 0] rfl ?_
        exact ih x1_1189 F_1188 h
      refine jn_e (Gj := True) (fun (j : Unit → Option (WI × WF)) => ∀ (_u : Unit), j _u = some a → GG X md_X11_settles (rmD 1) (gv_Z X (rmD 1).cells (rmD 1).slots none (mkW J K a.1 a.2)) 0 0 137 [(0, .ref 209), (1, .int x1)] [.int ((24 : Int32) + x1), .ref 213] (mkW J K I F_1185)) h (fun _u h => ?_) (fun j137_1190 hj137_1190 h => ?_)
      · refine G_iconst (pc2 := 138) dX11_settles_137 ic_m1 rfl ?_
        exact hj138_1186 (-1 : Int32) h
      refine B_icmp_ge (tgt := 137) (pc2 := 123) h dX11_settles_120 (by decide) rfl (fun _ h => ?_) (fun _ h => ?_)
      · exact hj137_1190 () h
      · refine G_iload_n (pc2 := 124) 1 rfl dX11_settles_123 rfl rfl ?_
        refine G_aload_n (pc2 := 125) 0 rfl dX11_settles_124 rfl rfl ?_
        refine T_209_8 (pc2 := 128) kw_910 dX11_settles_125 rfl ?_
        refine G_iconst (pc2 := 129) dX11_settles_128 ic_1 rfl ?_
        refine AMc (pc2 := 130) (fa_212 _ _ _ _) cl_1 rfl dX11_settles_129 rfl ?_
        refine B_icmp_ge (tgt := 137) (pc2 := 133) h dX11_settles_130 (by decide) rfl (fun _ h => ?_) (fun _ h => ?_)
        · exact hj137_1190 () h
        · refine G_iload_n (pc2 := 134) 1 rfl dX11_settles_133 rfl rfl ?_
          refine G_goto (tgt := 138) dX11_settles_134 (by decide) ?_
          exact hj138_1186 x1 h
set_option maxRecDepth 100000 in
set_option maxHeartbeats 4000000 in
theorem c_X11_settles {I : WI} {F : WF} {J : WI} {K : WF} {a : WI × WF} (h : f_X11_settles  I F = some a) : CT md_X11_settles yX11_settles (rmD 1) [.ref 209] (mkW J K I F) none (mkW J K a.1 a.2) := CT_of pn_X11 ⟨rfl, rfl⟩ (Nat.le_of_ble_eq_true rfl) (fun X => by
  show GG X md_X11_settles (rmD 1) _ 0 0 0 [(0, .ref 209)] [] (mkW J K I F)
  unfold f_X11_settles at h
  refine G_iconst (pc2 := 1) dX11_settles_0 ic_0 rfl ?_
  refine B_istore_n (pc2 := 2) (fun x1_1172 => [(1, .int x1_1172), (0, .ref 209)]) h dX11_settles_1 rfl (by decide) (fun _ => rfl) rfl (fun x1_1172 h => ?_)
  refine G_sub (ls' := [(0, .ref 209), (1, .int x1_1172)]) [1, 0] rfl ?_
  refine g_L_X11_settles_2 (fun F_1175 h => ?_) FU x1_1172 F h
  refine G_iconst (pc2 := 27) dX11_settles_26 ic_0 rfl ?_
  refine B_istore_n (pc2 := 28) (fun x1_1176 => [(1, .int x1_1176), (0, .ref 209)]) h dX11_settles_27 rfl (by decide) (fun _ => rfl) rfl (fun x1_1176 h => ?_)
  refine G_sub (ls' := [(0, .ref 209), (1, .int x1_1176)]) [1, 0] rfl ?_
  refine g_L_X11_settles_28 (fun F_1179 h => ?_) FU x1_1176 F_1175 h
  refine G_iconst (pc2 := 49) dX11_settles_48 ic_0 rfl ?_
  refine B_istore_n (pc2 := 50) (fun x1_1180 => [(1, .int x1_1180), (0, .ref 209)]) h dX11_settles_49 rfl (by decide) (fun _ => rfl) rfl (fun x1_1180 h => ?_)
  refine G_sub (ls' := [(0, .ref 209), (1, .int x1_1180)]) [1, 0] rfl ?_
  refine g_L_X11_settles_50 (fun F_1183 h => ?_) FU x1_1180 F_1179 h
  refine G_iconst (pc2 := 80) dX11_settles_79 ic_0 rfl ?_
  refine B_istore_n (pc2 := 81) (fun x1_1184 => [(1, .int x1_1184), (0, .ref 209)]) h dX11_settles_80 rfl (by decide) (fun _ => rfl) rfl (fun x1_1184 h => ?_)
  refine G_sub (ls' := [(0, .ref 209), (1, .int x1_1184)]) [1, 0] rfl ?_
  refine g_L_X11_settles_81 (fun F_1191 h => ?_) FU x1_1184 F_1183 h
  refine G_aload_n (pc2 := 146) 0 rfl dX11_settles_145 rfl rfl ?_
  refine G_iconst (pc2 := 147) dX11_settles_146 ic_0 rfl ?_
  refine P_209_16 (pc2 := 150) h kw_918 dX11_settles_147 rfl (fun I_1192 h => ?_)
  refine G_aload_n (pc2 := 151) 0 rfl dX11_settles_150 rfl rfl ?_
  refine G_iconst (pc2 := 152) dX11_settles_151 ic_0 rfl ?_
  refine P_209_19 (pc2 := 155) h kw_921 dX11_settles_152 rfl (fun I_1193 h => ?_)
  refine G_aload_n (pc2 := 156) 0 rfl dX11_settles_155 rfl rfl ?_
  refine G_iconst (pc2 := 157) dX11_settles_156 ic_0 rfl ?_
  refine P_209_13 (pc2 := 160) h kw_915 dX11_settles_157 rfl (fun I_1194 h => ?_)
  refine G_aload_n (pc2 := 161) 0 rfl dX11_settles_160 rfl rfl ?_
  refine T_209_11 (pc2 := 164) kw_913 dX11_settles_161 rfl ?_
  refine G_iconst (pc2 := 165) dX11_settles_164 ic_0 rfl ?_
  refine G_iconst (pc2 := 166) dX11_settles_165 ic_0 rfl ?_
  refine SzMc (pc2 := 167) (fa_215 _ _ _ _) h cl_0 rfl dX11_settles_166 rfl (fun F_1195 h => ?_)
  refine G_aload_n (pc2 := 168) 0 rfl dX11_settles_167 rfl rfl ?_
  refine T_209_11 (pc2 := 171) kw_913 dX11_settles_168 rfl ?_
  refine G_iconst (pc2 := 172) dX11_settles_171 ic_1 rfl ?_
  refine G_iconst (pc2 := 173) dX11_settles_172 ic_0 rfl ?_
  refine SzMc (pc2 := 174) (fa_215 _ _ _ _) h cl_1 rfl dX11_settles_173 rfl (fun F_1196 h => ?_)
  have ha := Option.some.inj h
  subst ha
  exact G_vret rfl dX11_settles_174)
def L_X11_town_17 (k : WF → Option (Int32 × WI × WF))  (I : WI) : Nat → Int32 → WF → Option (Int32 × WI × WF)
  | 0, _, _ => none
  | n + 1, x1, F =>
  if (70 : Int32) ≤ x1 then (k F)
  else (ixG x1 70 (bnd (uF F 1 (upd (F 1) x1.toNatClampNeg (0 : Int32))) fun F_1062 =>
  bnd (x1 + (1 : Int32)) fun x1_1063 =>
  L_X11_town_17 k I n x1_1063 F_1062))
def f_X11_town (I : WI) (F : WF) : Option (Int32 × WI × WF) :=
  bnd (upd I 0 (0 : Int32)) fun I_1058 =>
  bnd (upd I_1058 2 (0 : Int32)) fun I_1059 =>
  bnd (upd I_1059 3 (0 : Int32)) fun I_1060 =>
  bnd (0 : Int32) fun x1_1061 =>
  L_X11_town_17 (fun F_1064 => Option.bind (f_X11_reads I_1060 F_1064) fun c_1165 =>
  bnd (upd c_1165.1 1 (0 : Int32)) fun I_1166 =>
  Option.bind (f_X11_isWell I_1166 c_1165.2) fun c_1167 =>
  bnd (fun (s_1169 : Int32) => bnd (upd I_1166 5 s_1169) fun I_1170 =>
  Option.bind (f_X11_isWell I_1170 c_1165.2) fun c_1171 =>
  if c_1171 = 0 then (some (((-10 : Int32) - (I_1170 3)), I_1170, c_1165.2))
  else (Option.bind (f_X11_settles I_1170 c_1165.2) fun c_1197 =>
  some ((c_1197.2 2 1), c_1197.1, c_1197.2))) fun j61_1168 =>
  if c_1167 = 0 then (j61_1168 (I_1166 4))
  else (j61_1168 (-1 : Int32))) I_1060 FU x1_1061 F
set_option maxRecDepth 100000 in
set_option maxHeartbeats 4000000 in
theorem g_L_X11_town_17 {X : XT} {I : WI} {J : WI} {K : WF} {a : Int32 × WI × WF} {k : WF → Option (Int32 × WI × WF)} (hk : ∀ (F' : WF), (k F' = some a → GG X md_X11_town (rmD 7) (gv_Z X (rmD 7).cells (rmD 7).slots (some (.int a.1)) (mkW J K a.2.1 a.2.2)) 0 0 36 [(0, .ref 209)] [] (mkW J K I F'))) : ∀ (n : Nat) (x1 : Int32) (F : WF), L_X11_town_17 k I n x1 F = some a → GG X md_X11_town (rmD 7) (gv_Z X (rmD 7).cells (rmD 7).slots (some (.int a.1)) (mkW J K a.2.1 a.2.2)) 0 0 17 [(0, .ref 209), (1, .int x1)] [] (mkW J K I F) := by
  intro n
  induction n with
  | zero =>
    intro x1 F h
    rw [L_X11_town_17] at h
    cases h
  | succ n ih =>
    intro x1 F h
    rw [L_X11_town_17] at h
    refine G_iload_n (pc2 := 18) 1 rfl dX11_town_17 rfl rfl ?_
    refine G_bipush (pc2 := 20) dX11_town_18 ib_70 rfl ?_
    refine B_icmp_ge (tgt := 36) (pc2 := 23) h dX11_town_20 (by decide) rfl (fun _ h => ?_) (fun _ h => ?_)
    · refine G_sub (ls' := [(0, .ref 209)]) [0] rfl ?_
      exact hk F h
    · refine G_aload_n (pc2 := 24) 0 rfl dX11_town_23 rfl rfl ?_
      refine T_209_7 (pc2 := 27) kw_909 dX11_town_24 rfl ?_
      refine G_iload_n (pc2 := 28) 1 rfl dX11_town_27 rfl rfl ?_
      refine G_iconst (pc2 := 29) dX11_town_28 ic_0 rfl ?_
      refine SM (pc2 := 30) (fa_211 _ _ _ _) h dX11_town_29 rfl (fun F_1062 h => ?_)
      refine B_iinc (pc2 := 33) 1 (fun x1_1063 => [(1, .int x1_1063), (0, .ref 209)]) h rfl dX11_town_30 ic_1 (by decide) (fun _ => rfl) rfl (fun x1_1063 h => ?_)
      refine G_goto (tgt := 17) dX11_town_33 (by decide) ?_
      refine G_sub (ls' := [(0, .ref 209), (1, .int x1_1063)]) [1, 0] rfl ?_
      exact ih x1_1063 F_1062 h
set_option maxRecDepth 100000 in
set_option maxHeartbeats 4000000 in
theorem c_X11_town {I : WI} {F : WF} {J : WI} {K : WF} {a : Int32 × WI × WF} (h : f_X11_town  I F = some a) : CT md_X11_town yX11_town (rmD 7) [.ref 209] (mkW J K I F) (some (.int a.1)) (mkW J K a.2.1 a.2.2) := CT_of pn_X11 ⟨rfl, rfl⟩ (Nat.le_of_ble_eq_true rfl) (fun X => by
  show GG X md_X11_town (rmD 7) _ 0 0 0 [(0, .ref 209)] [] (mkW J K I F)
  unfold f_X11_town at h
  refine G_aload_n (pc2 := 1) 0 rfl dX11_town_0 rfl rfl ?_
  refine G_iconst (pc2 := 2) dX11_town_1 ic_0 rfl ?_
  refine P_209_0 (pc2 := 5) h kw_902 dX11_town_2 rfl (fun I_1058 h => ?_)
  refine G_aload_n (pc2 := 6) 0 rfl dX11_town_5 rfl rfl ?_
  refine G_iconst (pc2 := 7) dX11_town_6 ic_0 rfl ?_
  refine P_209_3 (pc2 := 10) h kw_905 dX11_town_7 rfl (fun I_1059 h => ?_)
  refine G_aload_n (pc2 := 11) 0 rfl dX11_town_10 rfl rfl ?_
  refine G_iconst (pc2 := 12) dX11_town_11 ic_0 rfl ?_
  refine P_209_4 (pc2 := 15) h kw_906 dX11_town_12 rfl (fun I_1060 h => ?_)
  refine G_iconst (pc2 := 16) dX11_town_15 ic_0 rfl ?_
  refine B_istore_n (pc2 := 17) (fun x1_1061 => [(1, .int x1_1061), (0, .ref 209)]) h dX11_town_16 rfl (by decide) (fun _ => rfl) rfl (fun x1_1061 h => ?_)
  refine G_sub (ls' := [(0, .ref 209), (1, .int x1_1061)]) [1, 0] rfl ?_
  refine g_L_X11_town_17 (fun F_1064 h => ?_) FU x1_1061 F h
  refine G_aload_n (pc2 := 37) 0 rfl dX11_town_36 rfl rfl ?_
  obtain ⟨c_1165, hc_1165, h⟩ := ob_e h
  refine B_callV (pc2 := 40) si_X11_120 (c_X11_reads hc_1165) (qo_209 _ _ _ _) rfl rfl rfl (st := []) (stq := []) rfl (by decide) (by decide) (Nat.le_of_ble_eq_true rfl) mkW_ll dX11_town_37 rfl rfl ?_ ⟨rfl, rfl⟩
  refine G_aload_n (pc2 := 41) 0 rfl dX11_town_40 rfl rfl ?_
  refine G_iconst (pc2 := 42) dX11_town_41 ic_0 rfl ?_
  refine P_209_2 (pc2 := 45) h kw_904 dX11_town_42 rfl (fun I_1166 h => ?_)
  refine G_aload_n (pc2 := 46) 0 rfl dX11_town_45 rfl rfl ?_
  refine G_aload_n (pc2 := 47) 0 rfl dX11_town_46 rfl rfl ?_
  obtain ⟨c_1167, hc_1167, h⟩ := ob_e h
  refine B_callV (pc2 := 50) si_X11_85 (c_X11_isWell hc_1167) (qo_209 _ _ _ _) rfl rfl rfl (st := [.ref 209]) (stq := [.int c_1167, .ref 209]) rfl (by decide) (by decide) (Nat.le_of_ble_eq_true rfl) mkW_ll dX11_town_47 rfl rfl ?_ ⟨rfl, rfl⟩
  refine jn_e (Gj := True) (fun (j : Int32 → Option (Int32 × WI × WF)) => ∀ (s_1169 : Int32), j s_1169 = some a → GG X md_X11_town (rmD 7) (gv_Z X (rmD 7).cells (rmD 7).slots (some (.int a.1)) (mkW J K a.2.1 a.2.2)) 0 0 61 [(0, .ref 209)] [.int s_1169, .ref 209] (mkW J K I_1166 c_1165.2)) h (fun s_1169 h => ?_) (fun j61_1168 hj61_1168 h => ?_)
  · refine P_209_6 (pc2 := 64) h kw_908 dX11_town_61 rfl (fun I_1170 h => ?_)
    refine G_aload_n (pc2 := 65) 0 rfl dX11_town_64 rfl rfl ?_
    obtain ⟨c_1171, hc_1171, h⟩ := ob_e h
    refine B_callV (pc2 := 68) si_X11_85 (c_X11_isWell hc_1171) (qo_209 _ _ _ _) rfl rfl rfl (st := []) (stq := [.int c_1171]) rfl (by decide) (by decide) (Nat.le_of_ble_eq_true rfl) mkW_ll dX11_town_65 rfl rfl ?_ ⟨rfl, rfl⟩
    refine B_if_ne (tgt := 79) (pc2 := 71) h dX11_town_68 (by decide) rfl (fun _ h => ?_) (fun _ h => ?_)
    · refine G_aload_n (pc2 := 80) 0 rfl dX11_town_79 rfl rfl ?_
      obtain ⟨c_1197, hc_1197, h⟩ := ob_e h
      refine B_callV (pc2 := 83) si_X11_123 (c_X11_settles hc_1197) (qo_209 _ _ _ _) rfl rfl rfl (st := []) (stq := []) rfl (by decide) (by decide) (Nat.le_of_ble_eq_true rfl) mkW_ll dX11_town_80 rfl rfl ?_ ⟨rfl, rfl⟩
      refine G_aload_n (pc2 := 84) 0 rfl dX11_town_83 rfl rfl ?_
      refine T_209_8 (pc2 := 87) kw_910 dX11_town_84 rfl ?_
      refine G_iconst (pc2 := 88) dX11_town_87 ic_1 rfl ?_
      refine AMc (pc2 := 89) (fa_212 _ _ _ _) cl_1 rfl dX11_town_88 rfl ?_
      have ha := Option.some.inj h
      subst ha
      exact G_iret rfl dX11_town_89
    · refine G_bipush (pc2 := 73) dX11_town_71 ib_m10 rfl ?_
      refine G_aload_n (pc2 := 74) 0 rfl dX11_town_73 rfl rfl ?_
      refine T_209_4 (pc2 := 77) kw_906 dX11_town_74 rfl ?_
      refine G_isub (pc2 := 78) dX11_town_77 rfl ?_
      have ha := Option.some.inj h
      subst ha
      exact G_iret rfl dX11_town_78
  refine B_if_eq (tgt := 57) (pc2 := 53) h dX11_town_50 (by decide) rfl (fun _ h => ?_) (fun _ h => ?_)
  · refine G_aload_n (pc2 := 58) 0 rfl dX11_town_57 rfl rfl ?_
    refine T_209_5 (pc2 := 61) kw_907 dX11_town_58 rfl ?_
    exact hj61_1168 (I_1166 4) h
  · refine G_iconst (pc2 := 54) dX11_town_53 ic_m1 rfl ?_
    refine G_goto (tgt := 61) dX11_town_54 (by decide) ?_
    exact hj61_1168 (-1 : Int32) h)
def f_X11_fault (I : WI) (F : WF) : Option (Int32 × WI) :=
  bnd (upd I 0 (0 : Int32)) fun I_1198 =>
  some ((I_1198 5), I_1198)
set_option maxRecDepth 100000 in
set_option maxHeartbeats 4000000 in
theorem c_X11_fault {I : WI} {F : WF} {J : WI} {K : WF} {a : Int32 × WI} (h : f_X11_fault  I F = some a) : CT md_X11_fault yX11_fault (rmD 1) [.ref 209] (mkW J K I F) (some (.int a.1)) (mkW J K a.2 F) := CT_of pn_X11 ⟨rfl, rfl⟩ (Nat.le_of_ble_eq_true rfl) (fun X => by
  show GG X md_X11_fault (rmD 1) _ 0 0 0 [(0, .ref 209)] [] (mkW J K I F)
  unfold f_X11_fault at h
  refine G_aload_n (pc2 := 1) 0 rfl dX11_fault_0 rfl rfl ?_
  refine G_iconst (pc2 := 2) dX11_fault_1 ic_0 rfl ?_
  refine P_209_0 (pc2 := 5) h kw_902 dX11_fault_2 rfl (fun I_1198 h => ?_)
  refine G_aload_n (pc2 := 6) 0 rfl dX11_fault_5 rfl rfl ?_
  refine T_209_6 (pc2 := 9) kw_908 dX11_fault_6 rfl ?_
  have ha := Option.some.inj h
  subst ha
  exact G_iret rfl dX11_fault_9)
def L_X11_driest_11 (k : Int32 → Option (Int32))  (I : WI) (F : WF) : Nat → Int32 → Int32 → Option (Int32)
  | 0, _, _ => none
  | n + 1, x1, x2 =>
  if x2 < 0 then (k x1)
  else (bnd (fun (s_1204 : Int32) => bnd s_1204 fun x1_1205 =>
  bnd (x2 + (-1 : Int32)) fun x2_1206 =>
  L_X11_driest_11 k I F n x1_1205 x2_1206) fun j46_1203 =>
  bnd (fun (_u : Unit) => j46_1203 x2) fun j41_1207 =>
  if x1 = (-1 : Int32) then (j41_1207 ())
  else (ixG ((18 : Int32) + x2) 134 (
  ixG ((18 : Int32) + x1) 134 (
  if (F 3 ((18 : Int32) + x1).toNatClampNeg) < (F 3 ((18 : Int32) + x2).toNatClampNeg) then (j46_1203 x1)
  else (j41_1207 ())))))
def f_X11_driest (I : WI) (F : WF) : Option (Int32) :=
  bnd (-1 : Int32) fun x1_1201 =>
  bnd ((F 2 3) - (1 : Int32)) fun x2_1202 =>
  L_X11_driest_11 (fun x1_1208 => some x1_1208) I F FU x1_1201 x2_1202
set_option maxRecDepth 100000 in
set_option maxHeartbeats 4000000 in
theorem g_L_X11_driest_11 {X : XT} {I : WI} {F : WF} {J : WI} {K : WF} {a : Int32} {k : Int32 → Option (Int32)} (hk : ∀ (e1 : Int32), (k e1 = some a → GG X md_X11_driest (rmD 1) (gv_Z X (rmD 1).cells (rmD 1).slots (some (.int a)) (mkW J K I F)) 0 0 53 [(1, .int e1)] [] (mkW J K I F))) : ∀ (n : Nat) (x1 : Int32) (x2 : Int32), L_X11_driest_11 k I F n x1 x2 = some a → GG X md_X11_driest (rmD 1) (gv_Z X (rmD 1).cells (rmD 1).slots (some (.int a)) (mkW J K I F)) 0 0 11 [(0, .ref 209), (1, .int x1), (2, .int x2)] [] (mkW J K I F) := by
  intro n
  induction n with
  | zero =>
    intro x1 x2 h
    rw [L_X11_driest_11] at h
    cases h
  | succ n ih =>
    intro x1 x2 h
    rw [L_X11_driest_11] at h
    refine G_iload_n (pc2 := 12) 2 rfl dX11_driest_11 rfl rfl ?_
    refine B_if_lt (tgt := 53) (pc2 := 15) h dX11_driest_12 (by decide) rfl (fun _ h => ?_) (fun _ h => ?_)
    · refine G_sub (ls' := [(1, .int x1)]) [1] rfl ?_
      exact hk x1 h
    · refine G_iload_n (pc2 := 16) 1 rfl dX11_driest_15 rfl rfl ?_
      refine G_iconst (pc2 := 17) dX11_driest_16 ic_m1 rfl ?_
      refine jn_e (Gj := True) (fun (j : Int32 → Option (Int32)) => ∀ (s_1204 : Int32), j s_1204 = some a → GG X md_X11_driest (rmD 1) (gv_Z X (rmD 1).cells (rmD 1).slots (some (.int a)) (mkW J K I F)) 0 0 46 [(0, .ref 209), (2, .int x2)] [.int s_1204] (mkW J K I F)) h (fun s_1204 h => ?_) (fun j46_1203 hj46_1203 h => ?_)
      · refine B_istore_n (pc2 := 47) (fun x1_1205 => [(1, .int x1_1205), (0, .ref 209), (2, .int x2)]) h dX11_driest_46 rfl (by decide) (fun _ => rfl) rfl (fun x1_1205 h => ?_)
        refine B_iinc (pc2 := 50) 2 (fun x2_1206 => [(2, .int x2_1206), (1, .int x1_1205), (0, .ref 209)]) h rfl dX11_driest_47 ic_m1 (by decide) (fun _ => rfl) rfl (fun x2_1206 h => ?_)
        refine G_goto (tgt := 11) dX11_driest_50 (by decide) ?_
        refine G_sub (ls' := [(0, .ref 209), (1, .int x1_1205), (2, .int x2_1206)]) [2, 1, 0] rfl ?_
        exact ih x1_1205 x2_1206 h
      refine jn_e (Gj := True) (fun (j : Unit → Option (Int32)) => ∀ (_u : Unit), j _u = some a → GG X md_X11_driest (rmD 1) (gv_Z X (rmD 1).cells (rmD 1).slots (some (.int a)) (mkW J K I F)) 0 0 41 [(0, .ref 209), (2, .int x2)] [] (mkW J K I F)) h (fun _u h => ?_) (fun j41_1207 hj41_1207 h => ?_)
      · refine G_iload_n (pc2 := 42) 1 rfl dX11_driest_41 rfl rfl ?_
        refine G_goto (tgt := 46) dX11_driest_42 (by decide) ?_
        exact hj46_1203 x2 h
      refine B_icmp_eq (tgt := 41) (pc2 := 20) h dX11_driest_17 (by decide) rfl (fun _ h => ?_) (fun _ h => ?_)
      · refine G_sub (ls' := [(0, .ref 209), (2, .int x2)]) [0, 2] rfl ?_
        exact hj41_1207 () h
      · refine G_aload_n (pc2 := 21) 0 rfl dX11_driest_20 rfl rfl ?_
        refine T_209_9 (pc2 := 24) kw_911 dX11_driest_21 rfl ?_
        refine G_bipush (pc2 := 26) dX11_driest_24 ib_18 rfl ?_
        refine G_iload_n (pc2 := 27) 2 rfl dX11_driest_26 rfl rfl ?_
        refine G_iadd (pc2 := 28) dX11_driest_27 rfl ?_
        refine AM (pc2 := 29) (fa_213 _ _ _ _) h dX11_driest_28 rfl (fun h => ?_)
        refine G_aload_n (pc2 := 30) 0 rfl dX11_driest_29 rfl rfl ?_
        refine T_209_9 (pc2 := 33) kw_911 dX11_driest_30 rfl ?_
        refine G_bipush (pc2 := 35) dX11_driest_33 ib_18 rfl ?_
        refine G_iload_n (pc2 := 36) 1 rfl dX11_driest_35 rfl rfl ?_
        refine G_iadd (pc2 := 37) dX11_driest_36 rfl ?_
        refine AM (pc2 := 38) (fa_213 _ _ _ _) h dX11_driest_37 rfl (fun h => ?_)
        refine B_icmp_gt (tgt := 45) (pc2 := 41) h dX11_driest_38 (by decide) rfl (fun _ h => ?_) (fun _ h => ?_)
        · refine G_iload_n (pc2 := 46) 1 rfl dX11_driest_45 rfl rfl ?_
          refine G_sub (ls' := [(0, .ref 209), (2, .int x2)]) [0, 2] rfl ?_
          exact hj46_1203 x1 h
        · refine G_sub (ls' := [(0, .ref 209), (2, .int x2)]) [0, 2] rfl ?_
          exact hj41_1207 () h
set_option maxRecDepth 100000 in
set_option maxHeartbeats 4000000 in
theorem c_X11_driest {I : WI} {F : WF} {J : WI} {K : WF} {a : Int32} (h : f_X11_driest  I F = some a) : CT md_X11_driest yX11_driest (rmD 1) [.ref 209] (mkW J K I F) (some (.int a)) (mkW J K I F) := CT_of pn_X11 ⟨rfl, rfl⟩ (Nat.le_of_ble_eq_true rfl) (fun X => by
  show GG X md_X11_driest (rmD 1) _ 0 0 0 [(0, .ref 209)] [] (mkW J K I F)
  unfold f_X11_driest at h
  refine G_iconst (pc2 := 1) dX11_driest_0 ic_m1 rfl ?_
  refine B_istore_n (pc2 := 2) (fun x1_1201 => [(1, .int x1_1201), (0, .ref 209)]) h dX11_driest_1 rfl (by decide) (fun _ => rfl) rfl (fun x1_1201 h => ?_)
  refine G_aload_n (pc2 := 3) 1 rfl dX11_driest_2 rfl rfl ?_
  refine T_209_8 (pc2 := 6) kw_910 dX11_driest_3 rfl ?_
  refine G_iconst (pc2 := 7) dX11_driest_6 ic_3 rfl ?_
  refine AMc (pc2 := 8) (fa_212 _ _ _ _) cl_3 rfl dX11_driest_7 rfl ?_
  refine G_iconst (pc2 := 9) dX11_driest_8 ic_1 rfl ?_
  refine G_isub (pc2 := 10) dX11_driest_9 rfl ?_
  refine B_istore_n (pc2 := 11) (fun x2_1202 => [(2, .int x2_1202), (1, .int x1_1201), (0, .ref 209)]) h dX11_driest_10 rfl (by decide) (fun _ => rfl) rfl (fun x2_1202 h => ?_)
  refine G_sub (ls' := [(0, .ref 209), (1, .int x1_1201), (2, .int x2_1202)]) [2, 1, 0] rfl ?_
  refine g_L_X11_driest_11 (fun x1_1208 h => ?_) FU x1_1201 x2_1202 h
  refine G_iload_n (pc2 := 54) 0 rfl dX11_driest_53 rfl rfl ?_
  have ha := Option.some.inj h
  subst ha
  exact G_iret rfl dX11_driest_54)
def L_X11_trusted_4 (k : Int32 → Option (Int32))  (I : WI) (F : WF) : Nat → Int32 → Int32 → Option (Int32)
  | 0, _, _ => none
  | n + 1, x1, x2 =>
  if (F 2 3) ≤ x2 then (k x1)
  else (ixG ((12 : Int32) + x2) 134 (
  ixG ((18 : Int32) + x2) 134 (
  bnd (fun (s_1213 : Int32) => bnd (x1 ||| s_1213) fun x1_1214 =>
  bnd (x2 + (1 : Int32)) fun x2_1215 =>
  L_X11_trusted_4 k I F n x1_1214 x2_1215) fun j43_1212 =>
  if (F 3 ((12 : Int32) + x2).toNatClampNeg) ≤ (F 3 ((18 : Int32) + x2).toNatClampNeg) then (j43_1212 (0 : Int32))
  else (j43_1212 ((1 : Int32) <<< (x2 &&& 31))))))
def f_X11_trusted (I : WI) (F : WF) : Option (Int32) :=
  bnd (0 : Int32) fun x1_1210 =>
  bnd (0 : Int32) fun x2_1211 =>
  L_X11_trusted_4 (fun x1_1216 => some x1_1216) I F FU x1_1210 x2_1211
set_option maxRecDepth 100000 in
set_option maxHeartbeats 4000000 in
theorem g_L_X11_trusted_4 {X : XT} {I : WI} {F : WF} {J : WI} {K : WF} {a : Int32} {k : Int32 → Option (Int32)} (hk : ∀ (e1 : Int32), (k e1 = some a → GG X md_X11_trusted (rmD 1) (gv_Z X (rmD 1).cells (rmD 1).slots (some (.int a)) (mkW J K I F)) 0 0 51 [(1, .int e1)] [] (mkW J K I F))) : ∀ (n : Nat) (x1 : Int32) (x2 : Int32), L_X11_trusted_4 k I F n x1 x2 = some a → GG X md_X11_trusted (rmD 1) (gv_Z X (rmD 1).cells (rmD 1).slots (some (.int a)) (mkW J K I F)) 0 0 4 [(0, .ref 209), (1, .int x1), (2, .int x2)] [] (mkW J K I F) := by
  intro n
  induction n with
  | zero =>
    intro x1 x2 h
    rw [L_X11_trusted_4] at h
    cases h
  | succ n ih =>
    intro x1 x2 h
    rw [L_X11_trusted_4] at h
    refine G_iload_n (pc2 := 5) 2 rfl dX11_trusted_4 rfl rfl ?_
    refine G_aload_n (pc2 := 6) 0 rfl dX11_trusted_5 rfl rfl ?_
    refine T_209_8 (pc2 := 9) kw_910 dX11_trusted_6 rfl ?_
    refine G_iconst (pc2 := 10) dX11_trusted_9 ic_3 rfl ?_
    refine AMc (pc2 := 11) (fa_212 _ _ _ _) cl_3 rfl dX11_trusted_10 rfl ?_
    refine B_icmp_ge (tgt := 51) (pc2 := 14) h dX11_trusted_11 (by decide) rfl (fun _ h => ?_) (fun _ h => ?_)
    · refine G_sub (ls' := [(1, .int x1)]) [1] rfl ?_
      exact hk x1 h
    · refine G_iload_n (pc2 := 15) 1 rfl dX11_trusted_14 rfl rfl ?_
      refine G_aload_n (pc2 := 16) 0 rfl dX11_trusted_15 rfl rfl ?_
      refine T_209_9 (pc2 := 19) kw_911 dX11_trusted_16 rfl ?_
      refine G_bipush (pc2 := 21) dX11_trusted_19 ib_12 rfl ?_
      refine G_iload_n (pc2 := 22) 2 rfl dX11_trusted_21 rfl rfl ?_
      refine G_iadd (pc2 := 23) dX11_trusted_22 rfl ?_
      refine AM (pc2 := 24) (fa_213 _ _ _ _) h dX11_trusted_23 rfl (fun h => ?_)
      refine G_aload_n (pc2 := 25) 0 rfl dX11_trusted_24 rfl rfl ?_
      refine T_209_9 (pc2 := 28) kw_911 dX11_trusted_25 rfl ?_
      refine G_bipush (pc2 := 30) dX11_trusted_28 ib_18 rfl ?_
      refine G_iload_n (pc2 := 31) 2 rfl dX11_trusted_30 rfl rfl ?_
      refine G_iadd (pc2 := 32) dX11_trusted_31 rfl ?_
      refine AM (pc2 := 33) (fa_213 _ _ _ _) h dX11_trusted_32 rfl (fun h => ?_)
      refine jn_e (Gj := True) (fun (j : Int32 → Option (Int32)) => ∀ (s_1213 : Int32), j s_1213 = some a → GG X md_X11_trusted (rmD 1) (gv_Z X (rmD 1).cells (rmD 1).slots (some (.int a)) (mkW J K I F)) 0 0 43 [(0, .ref 209), (2, .int x2)] [.int s_1213, .int x1] (mkW J K I F)) h (fun s_1213 h => ?_) (fun j43_1212 hj43_1212 h => ?_)
      · refine G_ior (pc2 := 44) dX11_trusted_43 rfl ?_
        refine B_istore_n (pc2 := 45) (fun x1_1214 => [(1, .int x1_1214), (0, .ref 209), (2, .int x2)]) h dX11_trusted_44 rfl (by decide) (fun _ => rfl) rfl (fun x1_1214 h => ?_)
        refine B_iinc (pc2 := 48) 2 (fun x2_1215 => [(2, .int x2_1215), (1, .int x1_1214), (0, .ref 209)]) h rfl dX11_trusted_45 ic_1 (by decide) (fun _ => rfl) rfl (fun x2_1215 h => ?_)
        refine G_goto (tgt := 4) dX11_trusted_48 (by decide) ?_
        refine G_sub (ls' := [(0, .ref 209), (1, .int x1_1214), (2, .int x2_1215)]) [2, 1, 0] rfl ?_
        exact ih x1_1214 x2_1215 h
      refine B_icmp_le (tgt := 42) (pc2 := 36) h dX11_trusted_33 (by decide) rfl (fun _ h => ?_) (fun _ h => ?_)
      · refine G_iconst (pc2 := 43) dX11_trusted_42 ic_0 rfl ?_
        refine G_sub (ls' := [(0, .ref 209), (2, .int x2)]) [0, 2] rfl ?_
        exact hj43_1212 (0 : Int32) h
      · refine G_iconst (pc2 := 37) dX11_trusted_36 ic_1 rfl ?_
        refine G_iload_n (pc2 := 38) 2 rfl dX11_trusted_37 rfl rfl ?_
        refine G_ishl (pc2 := 39) dX11_trusted_38 rfl ?_
        refine G_goto (tgt := 43) dX11_trusted_39 (by decide) ?_
        refine G_sub (ls' := [(0, .ref 209), (2, .int x2)]) [0, 2] rfl ?_
        exact hj43_1212 ((1 : Int32) <<< (x2 &&& 31)) h
set_option maxRecDepth 100000 in
set_option maxHeartbeats 4000000 in
theorem c_X11_trusted {I : WI} {F : WF} {J : WI} {K : WF} {a : Int32} (h : f_X11_trusted  I F = some a) : CT md_X11_trusted yX11_trusted (rmD 1) [.ref 209] (mkW J K I F) (some (.int a)) (mkW J K I F) := CT_of pn_X11 ⟨rfl, rfl⟩ (Nat.le_of_ble_eq_true rfl) (fun X => by
  show GG X md_X11_trusted (rmD 1) _ 0 0 0 [(0, .ref 209)] [] (mkW J K I F)
  unfold f_X11_trusted at h
  refine G_iconst (pc2 := 1) dX11_trusted_0 ic_0 rfl ?_
  refine B_istore_n (pc2 := 2) (fun x1_1210 => [(1, .int x1_1210), (0, .ref 209)]) h dX11_trusted_1 rfl (by decide) (fun _ => rfl) rfl (fun x1_1210 h => ?_)
  refine G_iconst (pc2 := 3) dX11_trusted_2 ic_0 rfl ?_
  refine B_istore_n (pc2 := 4) (fun x2_1211 => [(2, .int x2_1211), (1, .int x1_1210), (0, .ref 209)]) h dX11_trusted_3 rfl (by decide) (fun _ => rfl) rfl (fun x2_1211 h => ?_)
  refine G_sub (ls' := [(0, .ref 209), (1, .int x1_1210), (2, .int x2_1211)]) [2, 1, 0] rfl ?_
  refine g_L_X11_trusted_4 (fun x1_1216 h => ?_) FU x1_1210 x2_1211 h
  refine G_iload_n (pc2 := 52) 0 rfl dX11_trusted_51 rfl rfl ?_
  have ha := Option.some.inj h
  subst ha
  exact G_iret rfl dX11_trusted_52)
def f_X11_allBridges (I : WI) (F : WF) : Option (Int32) :=
  some (((1 : Int32) <<< ((F 2 1) &&& 31)) - (1 : Int32))
set_option maxRecDepth 100000 in
set_option maxHeartbeats 4000000 in
theorem c_X11_allBridges {I : WI} {F : WF} {J : WI} {K : WF} {a : Int32} (h : f_X11_allBridges  I F = some a) : CT md_X11_allBridges yX11_allBridges (rmD 1) [.ref 209] (mkW J K I F) (some (.int a)) (mkW J K I F) := CT_of pn_X11 ⟨rfl, rfl⟩ (Nat.le_of_ble_eq_true rfl) (fun X => by
  show GG X md_X11_allBridges (rmD 1) _ 0 0 0 [(0, .ref 209)] [] (mkW J K I F)
  unfold f_X11_allBridges at h
  refine G_iconst (pc2 := 1) dX11_allBridges_0 ic_1 rfl ?_
  refine G_aload_n (pc2 := 2) 0 rfl dX11_allBridges_1 rfl rfl ?_
  refine T_209_8 (pc2 := 5) kw_910 dX11_allBridges_2 rfl ?_
  refine G_iconst (pc2 := 6) dX11_allBridges_5 ic_1 rfl ?_
  refine AMc (pc2 := 7) (fa_212 _ _ _ _) cl_1 rfl dX11_allBridges_6 rfl ?_
  refine G_ishl (pc2 := 8) dX11_allBridges_7 rfl ?_
  refine G_iconst (pc2 := 9) dX11_allBridges_8 ic_1 rfl ?_
  refine G_isub (pc2 := 10) dX11_allBridges_9 rfl ?_
  have ha := Option.some.inj h
  subst ha
  exact G_iret rfl dX11_allBridges_10)
def f_X11_has (x0 : Int32) (x1 : Int32) : Option (Int32) :=
  if ((x0 >>> (x1 &&& 31)) &&& (1 : Int32)) = (1 : Int32) then (some (1 : Int32))
  else (some (0 : Int32))
set_option maxRecDepth 100000 in
set_option maxHeartbeats 4000000 in
theorem c_X11_has {x0 : Int32} {x1 : Int32} {w : List va_E} {a : Int32} (h : f_X11_has x0 x1 = some a) : CT md_X11_has yX11_has (rmD 1) [.int x0, .int x1] w (some (.int a)) w := CT_of pn_X11 ⟨rfl, rfl⟩ (Nat.le_of_ble_eq_true rfl) (fun X => by
  show GG X md_X11_has (rmD 1) _ 0 0 0 [(0, .int x0), (1, .int x1)] [] w
  unfold f_X11_has at h
  refine G_iload_n (pc2 := 1) 0 rfl dX11_has_0 rfl rfl ?_
  refine G_iload_n (pc2 := 2) 1 rfl dX11_has_1 rfl rfl ?_
  refine G_ishr (pc2 := 3) dX11_has_2 rfl ?_
  refine G_iconst (pc2 := 4) dX11_has_3 ic_1 rfl ?_
  refine G_iand (pc2 := 5) dX11_has_4 rfl ?_
  refine G_iconst (pc2 := 6) dX11_has_5 ic_1 rfl ?_
  refine B_icmp_ne (tgt := 13) (pc2 := 9) h dX11_has_6 (by decide) rfl (fun _ h => ?_) (fun _ h => ?_)
  · refine G_iconst (pc2 := 14) dX11_has_13 ic_0 rfl ?_
    have ha := Option.some.inj h
    subst ha
    exact G_zret (v := (0 : Int32)) rfl (by decide) dX11_has_14
  · refine G_iconst (pc2 := 10) dX11_has_9 ic_1 rfl ?_
    refine G_goto (tgt := 14) dX11_has_10 (by decide) ?_
    have ha := Option.some.inj h
    subst ha
    exact G_zret (v := (1 : Int32)) rfl (by decide) dX11_has_14)
def L_X11_fars_2 (k : WF → Option (WF)) (x1 : Int32) (x2 : Int32) (I : WI) : Nat → Int32 → WF → Option (WF)
  | 0, _, _ => none
  | n + 1, x3, F =>
  if (8 : Int32) ≤ x3 then (k F)
  else (bnd (fun (s_1223 : Int32) => ixG x3 8 (bnd (uF F 11 (upd (F 11) x3.toNatClampNeg s_1223)) fun F_1224 =>
  bnd (x3 + (1 : Int32)) fun x3_1225 =>
  L_X11_fars_2 k x1 x2 I n x3_1225 F_1224)) fun j24_1222 =>
  if x3 = x1 then (j24_1222 (0 : Int32))
  else (j24_1222 (99 : Int32)))
def L_X11_fars_42 (k : WF → Option (WF)) (x2 : Int32) (x3 : Int32) (I : WI) : Nat → Int32 → WF → Option (WF)
  | 0, _, _ => none
  | n + 1, x4, F =>
  if (F 2 1) ≤ x4 then (k F)
  else (Option.bind (f_X11_has x2 x4) fun c_1229 =>
  bnd (fun (F_1231 : WF) => bnd (x4 + (1 : Int32)) fun x4_1232 =>
  L_X11_fars_42 k x2 x3 I n x4_1232 F_1231) fun j175_1230 =>
  if c_1229 = 0 then (j175_1230 F)
  else (ixG ((4 : Int32) + x4) 70 (
  bnd (F 2 ((4 : Int32) + x4).toNatClampNeg) fun x5_1233 =>
  ixG ((13 : Int32) + x4) 70 (
  bnd (F 2 ((13 : Int32) + x4).toNatClampNeg) fun x6_1234 =>
  ixG x6_1234 8 (
  ixG x5_1233 8 (
  bnd (fun (s_1236 : Int32) => ixG x5_1233 8 (bnd (uF F 11 (upd (F 11) x5_1233.toNatClampNeg s_1236)) fun F_1237 =>
  ixG x5_1233 8 (
  ixG x6_1234 8 (
  bnd (fun (s_1239 : Int32) => ixG x6_1234 8 (bnd (uF F_1237 11 (upd (F_1237 11) x6_1234.toNatClampNeg s_1239)) fun F_1240 =>
  j175_1230 F_1240)) fun j174_1238 =>
  if (F_1237 11 x6_1234.toNatClampNeg) ≤ ((F_1237 11 x5_1233.toNatClampNeg) + (1 : Int32)) then (ixG x6_1234 8 (
  j174_1238 (F_1237 11 x6_1234.toNatClampNeg)))
  else (ixG x5_1233 8 (
  j174_1238 ((F_1237 11 x5_1233.toNatClampNeg) + (1 : Int32)))))))) fun j129_1235 =>
  if (F 11 x5_1233.toNatClampNeg) ≤ ((F 11 x6_1234.toNatClampNeg) + (1 : Int32)) then (ixG x5_1233 8 (
  j129_1235 (F 11 x5_1233.toNatClampNeg)))
  else (ixG x6_1234 8 (
  j129_1235 ((F 11 x6_1234.toNatClampNeg) + (1 : Int32))))))))))
def L_X11_fars_33 (k : WF → Option (WF)) (x2 : Int32) (I : WI) : Nat → Int32 → WF → Option (WF)
  | 0, _, _ => none
  | n + 1, x3, F =>
  if (8 : Int32) ≤ x3 then (k F)
  else (bnd (0 : Int32) fun x4_1228 =>
  L_X11_fars_42 (fun F_1241 => bnd (x3 + (1 : Int32)) fun x3_1242 =>
  L_X11_fars_33 k x2 I n x3_1242 F_1241) x2 x3 I FU x4_1228 F)
def f_X11_fars (x1 : Int32) (x2 : Int32) (I : WI) (F : WF) : Option (WF) :=
  bnd (0 : Int32) fun x3_1221 =>
  L_X11_fars_2 (fun F_1226 => bnd (0 : Int32) fun x3_1227 =>
  L_X11_fars_33 (fun F_1243 => some F_1243) x2 I FU x3_1227 F_1226) x1 x2 I FU x3_1221 F
set_option maxRecDepth 100000 in
set_option maxHeartbeats 4000000 in
theorem g_L_X11_fars_2 {X : XT} {x1 : Int32} {x2 : Int32} {I : WI} {J : WI} {K : WF} {a : WF} {k : WF → Option (WF)} (hk : ∀ (F' : WF), (k F' = some a → GG X md_X11_fars (rmD 2) (gv_Z X (rmD 2).cells (rmD 2).slots none (mkW J K I a)) 0 0 31 [(0, .ref 209), (2, .int x2)] [] (mkW J K I F'))) : ∀ (n : Nat) (x3 : Int32) (F : WF), L_X11_fars_2 k x1 x2 I n x3 F = some a → GG X md_X11_fars (rmD 2) (gv_Z X (rmD 2).cells (rmD 2).slots none (mkW J K I a)) 0 0 2 [(0, .ref 209), (1, .int x1), (2, .int x2), (3, .int x3)] [] (mkW J K I F) := by
  intro n
  induction n with
  | zero =>
    intro x3 F h
    rw [L_X11_fars_2] at h
    cases h
  | succ n ih =>
    intro x3 F h
    rw [L_X11_fars_2] at h
    refine G_iload_n (pc2 := 3) 3 rfl dX11_fars_2 rfl rfl ?_
    refine G_bipush (pc2 := 5) dX11_fars_3 ib_8 rfl ?_
    refine B_icmp_ge (tgt := 31) (pc2 := 8) h dX11_fars_5 (by decide) rfl (fun _ h => ?_) (fun _ h => ?_)
    · refine G_sub (ls' := [(0, .ref 209), (2, .int x2)]) [0, 2] rfl ?_
      exact hk F h
    · refine G_aload_n (pc2 := 9) 0 rfl dX11_fars_8 rfl rfl ?_
      refine T_209_20 (pc2 := 12) kw_922 dX11_fars_9 rfl ?_
      refine G_iload_n (pc2 := 13) 3 rfl dX11_fars_12 rfl rfl ?_
      refine G_iload_n (pc2 := 14) 3 rfl dX11_fars_13 rfl rfl ?_
      refine G_iload_n (pc2 := 15) 1 rfl dX11_fars_14 rfl rfl ?_
      refine jn_e (Gj := True) (fun (j : Int32 → Option (WF)) => ∀ (s_1223 : Int32), j s_1223 = some a → GG X md_X11_fars (rmD 2) (gv_Z X (rmD 2).cells (rmD 2).slots none (mkW J K I a)) 0 0 24 [(0, .ref 209), (1, .int x1), (2, .int x2), (3, .int x3)] [.int s_1223, .int x3, .ref 221] (mkW J K I F)) h (fun s_1223 h => ?_) (fun j24_1222 hj24_1222 h => ?_)
      · refine SM (pc2 := 25) (fa_221 _ _ _ _) h dX11_fars_24 rfl (fun F_1224 h => ?_)
        refine B_iinc (pc2 := 28) 3 (fun x3_1225 => [(3, .int x3_1225), (0, .ref 209), (1, .int x1), (2, .int x2)]) h rfl dX11_fars_25 ic_1 (by decide) (fun _ => rfl) rfl (fun x3_1225 h => ?_)
        refine G_goto (tgt := 2) dX11_fars_28 (by decide) ?_
        refine G_sub (ls' := [(0, .ref 209), (1, .int x1), (2, .int x2), (3, .int x3_1225)]) [1, 2, 3, 0] rfl ?_
        exact ih x3_1225 F_1224 h
      refine B_icmp_ne (tgt := 22) (pc2 := 18) h dX11_fars_15 (by decide) rfl (fun _ h => ?_) (fun _ h => ?_)
      · refine G_bipush (pc2 := 24) dX11_fars_22 ib_99 rfl ?_
        exact hj24_1222 (99 : Int32) h
      · refine G_iconst (pc2 := 19) dX11_fars_18 ic_0 rfl ?_
        refine G_goto (tgt := 24) dX11_fars_19 (by decide) ?_
        exact hj24_1222 (0 : Int32) h
set_option maxRecDepth 100000 in
set_option maxHeartbeats 4000000 in
theorem g_L_X11_fars_42 {X : XT} {x2 : Int32} {x3 : Int32} {I : WI} {J : WI} {K : WF} {a : WF} {k : WF → Option (WF)} (hk : ∀ (F' : WF), (k F' = some a → GG X md_X11_fars (rmD 2) (gv_Z X (rmD 2).cells (rmD 2).slots none (mkW J K I a)) 0 0 181 [(0, .ref 209), (2, .int x2), (3, .int x3)] [] (mkW J K I F'))) : ∀ (n : Nat) (x4 : Int32) (F : WF), L_X11_fars_42 k x2 x3 I n x4 F = some a → GG X md_X11_fars (rmD 2) (gv_Z X (rmD 2).cells (rmD 2).slots none (mkW J K I a)) 0 0 42 [(0, .ref 209), (2, .int x2), (3, .int x3), (4, .int x4)] [] (mkW J K I F) := by
  intro n
  induction n with
  | zero =>
    intro x4 F h
    rw [L_X11_fars_42] at h
    cases h
  | succ n ih =>
    intro x4 F h
    rw [L_X11_fars_42] at h
    refine G_iload (pc2 := 44) 3 rfl dX11_fars_42 rfl ?_
    refine G_aload_n (pc2 := 45) 0 rfl dX11_fars_44 rfl rfl ?_
    refine T_209_8 (pc2 := 48) kw_910 dX11_fars_45 rfl ?_
    refine G_iconst (pc2 := 49) dX11_fars_48 ic_1 rfl ?_
    refine AMc (pc2 := 50) (fa_212 _ _ _ _) cl_1 rfl dX11_fars_49 rfl ?_
    refine B_icmp_ge (tgt := 181) (pc2 := 53) h dX11_fars_50 (by decide) rfl (fun _ h => ?_) (fun _ h => ?_)
    · refine G_sub (ls' := [(0, .ref 209), (2, .int x2), (3, .int x3)]) [0, 1, 2] rfl ?_
      exact hk F h
    · refine G_iload_n (pc2 := 54) 1 rfl dX11_fars_53 rfl rfl ?_
      refine G_iload (pc2 := 56) 3 rfl dX11_fars_54 rfl ?_
      obtain ⟨c_1229, hc_1229, h⟩ := ob_e h
      refine B_callS (pc2 := 59) si_X11_151 (c_X11_has hc_1229) rfl (st := []) (stq := [.int c_1229]) rfl (by decide) (by decide) (Nat.le_of_ble_eq_true rfl) rfl dX11_fars_56 rfl rfl ?_ ⟨rfl, rfl⟩
      refine jn_e (Gj := True) (fun (j : WF → Option (WF)) => ∀ (F_1231 : WF), j F_1231 = some a → GG X md_X11_fars (rmD 2) (gv_Z X (rmD 2).cells (rmD 2).slots none (mkW J K I a)) 0 0 175 [(0, .ref 209), (2, .int x2), (3, .int x3), (4, .int x4)] [] (mkW J K I F_1231)) h (fun F_1231 h => ?_) (fun j175_1230 hj175_1230 h => ?_)
      · refine B_iinc (pc2 := 178) 3 (fun x4_1232 => [(4, .int x4_1232), (0, .ref 209), (2, .int x2), (3, .int x3)]) h rfl dX11_fars_175 ic_1 (by decide) (fun _ => rfl) rfl (fun x4_1232 h => ?_)
        refine G_goto (tgt := 42) dX11_fars_178 (by decide) ?_
        refine G_sub (ls' := [(0, .ref 209), (2, .int x2), (3, .int x3), (4, .int x4_1232)]) [1, 2, 3, 0] rfl ?_
        exact ih x4_1232 F_1231 h
      refine B_if_eq (tgt := 175) (pc2 := 62) h dX11_fars_59 (by decide) rfl (fun _ h => ?_) (fun _ h => ?_)
      · exact hj175_1230 F h
      · refine G_aload_n (pc2 := 63) 0 rfl dX11_fars_62 rfl rfl ?_
        refine T_209_8 (pc2 := 66) kw_910 dX11_fars_63 rfl ?_
        refine G_iconst (pc2 := 67) dX11_fars_66 ic_4 rfl ?_
        refine G_iload (pc2 := 69) 3 rfl dX11_fars_67 rfl ?_
        refine G_iadd (pc2 := 70) dX11_fars_69 rfl ?_
        refine AM (pc2 := 71) (fa_212 _ _ _ _) h dX11_fars_70 rfl (fun h => ?_)
        refine B_istore (pc2 := 73) (fun x5_1233 => [(5, .int x5_1233), (0, .ref 209), (2, .int x2), (3, .int x3), (4, .int x4)]) h dX11_fars_71 (by decide) (fun _ => rfl) rfl (fun x5_1233 h => ?_)
        refine G_aload_n (pc2 := 74) 1 rfl dX11_fars_73 rfl rfl ?_
        refine T_209_8 (pc2 := 77) kw_910 dX11_fars_74 rfl ?_
        refine G_bipush (pc2 := 79) dX11_fars_77 ib_13 rfl ?_
        refine G_iload (pc2 := 81) 4 rfl dX11_fars_79 rfl ?_
        refine G_iadd (pc2 := 82) dX11_fars_81 rfl ?_
        refine AM (pc2 := 83) (fa_212 _ _ _ _) h dX11_fars_82 rfl (fun h => ?_)
        refine B_istore (pc2 := 85) (fun x6_1234 => [(6, .int x6_1234), (5, .int x5_1233), (0, .ref 209), (2, .int x2), (3, .int x3), (4, .int x4)]) h dX11_fars_83 (by decide) (fun _ => rfl) rfl (fun x6_1234 h => ?_)
        refine G_aload_n (pc2 := 86) 2 rfl dX11_fars_85 rfl rfl ?_
        refine T_209_20 (pc2 := 89) kw_922 dX11_fars_86 rfl ?_
        refine G_iload (pc2 := 91) 1 rfl dX11_fars_89 rfl ?_
        refine G_aload_n (pc2 := 92) 2 rfl dX11_fars_91 rfl rfl ?_
        refine T_209_20 (pc2 := 95) kw_922 dX11_fars_92 rfl ?_
        refine G_iload (pc2 := 97) 0 rfl dX11_fars_95 rfl ?_
        refine AM (pc2 := 98) (fa_221 _ _ _ _) h dX11_fars_97 rfl (fun h => ?_)
        refine G_iconst (pc2 := 99) dX11_fars_98 ic_1 rfl ?_
        refine G_iadd (pc2 := 100) dX11_fars_99 rfl ?_
        refine G_aload_n (pc2 := 101) 2 rfl dX11_fars_100 rfl rfl ?_
        refine T_209_20 (pc2 := 104) kw_922 dX11_fars_101 rfl ?_
        refine G_iload (pc2 := 106) 1 rfl dX11_fars_104 rfl ?_
        refine AM (pc2 := 107) (fa_221 _ _ _ _) h dX11_fars_106 rfl (fun h => ?_)
        refine jn_e (Gj := True) (fun (j : Int32 → Option (WF)) => ∀ (s_1236 : Int32), j s_1236 = some a → GG X md_X11_fars (rmD 2) (gv_Z X (rmD 2).cells (rmD 2).slots none (mkW J K I a)) 0 0 129 [(0, .ref 209), (2, .int x2), (3, .int x3), (4, .int x4), (5, .int x5_1233), (6, .int x6_1234)] [.int s_1236, .int x5_1233, .ref 221] (mkW J K I F)) h (fun s_1236 h => ?_) (fun j129_1235 hj129_1235 h => ?_)
        · refine SM (pc2 := 130) (fa_221 _ _ _ _) h dX11_fars_129 rfl (fun F_1237 h => ?_)
          refine G_aload_n (pc2 := 131) 0 rfl dX11_fars_130 rfl rfl ?_
          refine T_209_20 (pc2 := 134) kw_922 dX11_fars_131 rfl ?_
          refine G_iload (pc2 := 136) 5 rfl dX11_fars_134 rfl ?_
          refine G_aload_n (pc2 := 137) 0 rfl dX11_fars_136 rfl rfl ?_
          refine T_209_20 (pc2 := 140) kw_922 dX11_fars_137 rfl ?_
          refine G_iload (pc2 := 142) 4 rfl dX11_fars_140 rfl ?_
          refine AM (pc2 := 143) (fa_221 _ _ _ _) h dX11_fars_142 rfl (fun h => ?_)
          refine G_iconst (pc2 := 144) dX11_fars_143 ic_1 rfl ?_
          refine G_iadd (pc2 := 145) dX11_fars_144 rfl ?_
          refine G_aload_n (pc2 := 146) 0 rfl dX11_fars_145 rfl rfl ?_
          refine T_209_20 (pc2 := 149) kw_922 dX11_fars_146 rfl ?_
          refine G_iload (pc2 := 151) 5 rfl dX11_fars_149 rfl ?_
          refine AM (pc2 := 152) (fa_221 _ _ _ _) h dX11_fars_151 rfl (fun h => ?_)
          refine jn_e (Gj := True) (fun (j : Int32 → Option (WF)) => ∀ (s_1239 : Int32), j s_1239 = some a → GG X md_X11_fars (rmD 2) (gv_Z X (rmD 2).cells (rmD 2).slots none (mkW J K I a)) 0 0 174 [(0, .ref 209), (2, .int x2), (3, .int x3), (4, .int x4)] [.int s_1239, .int x6_1234, .ref 221] (mkW J K I F_1237)) h (fun s_1239 h => ?_) (fun j174_1238 hj174_1238 h => ?_)
          · refine SM (pc2 := 175) (fa_221 _ _ _ _) h dX11_fars_174 rfl (fun F_1240 h => ?_)
            exact hj175_1230 F_1240 h
          refine B_icmp_ge (tgt := 167) (pc2 := 155) h dX11_fars_152 (by decide) rfl (fun _ h => ?_) (fun _ h => ?_)
          · refine G_aload_n (pc2 := 168) 0 rfl dX11_fars_167 rfl rfl ?_
            refine T_209_20 (pc2 := 171) kw_922 dX11_fars_168 rfl ?_
            refine G_iload (pc2 := 173) 5 rfl dX11_fars_171 rfl ?_
            refine AM (pc2 := 174) (fa_221 _ _ _ _) h dX11_fars_173 rfl (fun h => ?_)
            refine G_sub (ls' := [(0, .ref 209), (2, .int x2), (3, .int x3), (4, .int x4)]) [0, 1, 2, 3] rfl ?_
            exact hj174_1238 (F_1237 11 x6_1234.toNatClampNeg) h
          · refine G_aload_n (pc2 := 156) 0 rfl dX11_fars_155 rfl rfl ?_
            refine T_209_20 (pc2 := 159) kw_922 dX11_fars_156 rfl ?_
            refine G_iload (pc2 := 161) 4 rfl dX11_fars_159 rfl ?_
            refine AM (pc2 := 162) (fa_221 _ _ _ _) h dX11_fars_161 rfl (fun h => ?_)
            refine G_iconst (pc2 := 163) dX11_fars_162 ic_1 rfl ?_
            refine G_iadd (pc2 := 164) dX11_fars_163 rfl ?_
            refine G_goto (tgt := 174) dX11_fars_164 (by decide) ?_
            refine G_sub (ls' := [(0, .ref 209), (2, .int x2), (3, .int x3), (4, .int x4)]) [0, 1, 2, 3] rfl ?_
            exact hj174_1238 ((F_1237 11 x5_1233.toNatClampNeg) + (1 : Int32)) h
        refine B_icmp_ge (tgt := 122) (pc2 := 110) h dX11_fars_107 (by decide) rfl (fun _ h => ?_) (fun _ h => ?_)
        · refine G_aload_n (pc2 := 123) 2 rfl dX11_fars_122 rfl rfl ?_
          refine T_209_20 (pc2 := 126) kw_922 dX11_fars_123 rfl ?_
          refine G_iload (pc2 := 128) 1 rfl dX11_fars_126 rfl ?_
          refine AM (pc2 := 129) (fa_221 _ _ _ _) h dX11_fars_128 rfl (fun h => ?_)
          refine G_sub (ls' := [(0, .ref 209), (2, .int x2), (3, .int x3), (4, .int x4), (5, .int x5_1233), (6, .int x6_1234)]) [2, 3, 4, 5, 1, 0] rfl ?_
          exact hj129_1235 (F 11 x5_1233.toNatClampNeg) h
        · refine G_aload_n (pc2 := 111) 2 rfl dX11_fars_110 rfl rfl ?_
          refine T_209_20 (pc2 := 114) kw_922 dX11_fars_111 rfl ?_
          refine G_iload (pc2 := 116) 0 rfl dX11_fars_114 rfl ?_
          refine AM (pc2 := 117) (fa_221 _ _ _ _) h dX11_fars_116 rfl (fun h => ?_)
          refine G_iconst (pc2 := 118) dX11_fars_117 ic_1 rfl ?_
          refine G_iadd (pc2 := 119) dX11_fars_118 rfl ?_
          refine G_goto (tgt := 129) dX11_fars_119 (by decide) ?_
          refine G_sub (ls' := [(0, .ref 209), (2, .int x2), (3, .int x3), (4, .int x4), (5, .int x5_1233), (6, .int x6_1234)]) [2, 3, 4, 5, 1, 0] rfl ?_
          exact hj129_1235 ((F 11 x6_1234.toNatClampNeg) + (1 : Int32)) h
set_option maxRecDepth 100000 in
set_option maxHeartbeats 4000000 in
theorem g_L_X11_fars_33 {X : XT} {x2 : Int32} {I : WI} {J : WI} {K : WF} {a : WF} {k : WF → Option (WF)} (hk : ∀ (F' : WF), (k F' = some a → GG X md_X11_fars (rmD 2) (gv_Z X (rmD 2).cells (rmD 2).slots none (mkW J K I a)) 0 0 187 [] [] (mkW J K I F'))) : ∀ (n : Nat) (x3 : Int32) (F : WF), L_X11_fars_33 k x2 I n x3 F = some a → GG X md_X11_fars (rmD 2) (gv_Z X (rmD 2).cells (rmD 2).slots none (mkW J K I a)) 0 0 33 [(0, .ref 209), (2, .int x2), (3, .int x3)] [] (mkW J K I F) := by
  intro n
  induction n with
  | zero =>
    intro x3 F h
    rw [L_X11_fars_33] at h
    cases h
  | succ n ih =>
    intro x3 F h
    rw [L_X11_fars_33] at h
    refine G_iload_n (pc2 := 34) 2 rfl dX11_fars_33 rfl rfl ?_
    refine G_bipush (pc2 := 36) dX11_fars_34 ib_8 rfl ?_
    refine B_icmp_ge (tgt := 187) (pc2 := 39) h dX11_fars_36 (by decide) rfl (fun _ h => ?_) (fun _ h => ?_)
    · refine G_sub (ls' := []) [] rfl ?_
      exact hk F h
    · refine G_iconst (pc2 := 40) dX11_fars_39 ic_0 rfl ?_
      refine B_istore (pc2 := 42) (fun x4_1228 => [(4, .int x4_1228), (0, .ref 209), (2, .int x2), (3, .int x3)]) h dX11_fars_40 (by decide) (fun _ => rfl) rfl (fun x4_1228 h => ?_)
      refine G_sub (ls' := [(0, .ref 209), (2, .int x2), (3, .int x3), (4, .int x4_1228)]) [1, 2, 3, 0] rfl ?_
      refine g_L_X11_fars_42 (fun F_1241 h => ?_) FU x4_1228 F h
      refine B_iinc (pc2 := 184) 2 (fun x3_1242 => [(3, .int x3_1242), (0, .ref 209), (2, .int x2)]) h rfl dX11_fars_181 ic_1 (by decide) (fun _ => rfl) rfl (fun x3_1242 h => ?_)
      refine G_goto (tgt := 33) dX11_fars_184 (by decide) ?_
      refine G_sub (ls' := [(0, .ref 209), (2, .int x2), (3, .int x3_1242)]) [1, 2, 0] rfl ?_
      exact ih x3_1242 F_1241 h
set_option maxRecDepth 100000 in
set_option maxHeartbeats 4000000 in
theorem c_X11_fars {x1 : Int32} {x2 : Int32} {I : WI} {F : WF} {J : WI} {K : WF} {a : WF} (h : f_X11_fars x1 x2 I F = some a) : CT md_X11_fars yX11_fars (rmD 2) [.ref 209, .int x1, .int x2] (mkW J K I F) none (mkW J K I a) := CT_of pn_X11 ⟨rfl, rfl⟩ (Nat.le_of_ble_eq_true rfl) (fun X => by
  show GG X md_X11_fars (rmD 2) _ 0 0 0 [(0, .ref 209), (1, .int x1), (2, .int x2)] [] (mkW J K I F)
  unfold f_X11_fars at h
  refine G_iconst (pc2 := 1) dX11_fars_0 ic_0 rfl ?_
  refine B_istore_n (pc2 := 2) (fun x3_1221 => [(3, .int x3_1221), (0, .ref 209), (1, .int x1), (2, .int x2)]) h dX11_fars_1 rfl (by decide) (fun _ => rfl) rfl (fun x3_1221 h => ?_)
  refine G_sub (ls' := [(0, .ref 209), (1, .int x1), (2, .int x2), (3, .int x3_1221)]) [1, 2, 3, 0] rfl ?_
  refine g_L_X11_fars_2 (fun F_1226 h => ?_) FU x3_1221 F h
  refine G_iconst (pc2 := 32) dX11_fars_31 ic_0 rfl ?_
  refine B_istore_n (pc2 := 33) (fun x3_1227 => [(3, .int x3_1227), (0, .ref 209), (2, .int x2)]) h dX11_fars_32 rfl (by decide) (fun _ => rfl) rfl (fun x3_1227 h => ?_)
  refine G_sub (ls' := [(0, .ref 209), (2, .int x2), (3, .int x3_1227)]) [1, 2, 0] rfl ?_
  refine g_L_X11_fars_33 (fun F_1243 h => ?_) FU x3_1227 F_1226 h
  have ha := Option.some.inj h
  subst ha
  exact G_vret rfl dX11_fars_187)
def L_X11_farthest_25 (k : Int32 → Option (Int32 × WF)) (x2 : Int32) (I : WI) (F : WF) : Nat → Int32 → Int32 → Option (Int32 × WF)
  | 0, _, _ => none
  | n + 1, x1, x3 =>
  if (F 2 0) ≤ x3 then (k x1)
  else (ixG x3 8 (
  bnd (fun (s_1247 : Int32) => bnd s_1247 fun x1_1248 =>
  bnd (x3 + (1 : Int32)) fun x3_1249 =>
  L_X11_farthest_25 k x2 I F n x1_1248 x3_1249) fun j66_1246 =>
  bnd (fun (_u : Unit) => j66_1246 x1) fun j65_1250 =>
  if (99 : Int32) ≤ (F 11 x3.toNatClampNeg) then (j65_1250 ())
  else (ixG x3 8 (
  if (F 11 x3.toNatClampNeg) ≤ x1 then (j65_1250 ())
  else (ixG x3 8 (
  j66_1246 (F 11 x3.toNatClampNeg)))))))
def L_X11_farthest_4 (k : Int32 → WF → Option (Int32 × WF))  (I : WI) : Nat → Int32 → Int32 → WF → Option (Int32 × WF)
  | 0, _, _, _ => none
  | n + 1, x1, x2, F =>
  if (F 2 0) ≤ x2 then (k x1 F)
  else (Option.bind (f_X11_allBridges I F) fun c_1220 =>
  Option.bind (f_X11_fars x2 c_1220 I F) fun c_1244 =>
  bnd (0 : Int32) fun x3_1245 =>
  L_X11_farthest_25 (fun x1_1251 => bnd (x2 + (1 : Int32)) fun x2_1252 =>
  L_X11_farthest_4 k I n x1_1251 x2_1252 c_1244) x2 I c_1244 FU x1 x3_1245)
def f_X11_farthest (I : WI) (F : WF) : Option (Int32 × WF) :=
  bnd (0 : Int32) fun x1_1218 =>
  bnd (0 : Int32) fun x2_1219 =>
  L_X11_farthest_4 (fun x1_1253 F_1254 => some (x1_1253, F_1254)) I FU x1_1218 x2_1219 F
set_option maxRecDepth 100000 in
set_option maxHeartbeats 4000000 in
theorem g_L_X11_farthest_25 {X : XT} {x2 : Int32} {I : WI} {F : WF} {J : WI} {K : WF} {a : Int32 × WF} {k : Int32 → Option (Int32 × WF)} (hk : ∀ (e1 : Int32), (k e1 = some a → GG X md_X11_farthest (rmD 3) (gv_Z X (rmD 3).cells (rmD 3).slots (some (.int a.1)) (mkW J K I a.2)) 0 0 73 [(0, .ref 209), (1, .int e1), (2, .int x2)] [] (mkW J K I F))) : ∀ (n : Nat) (x1 : Int32) (x3 : Int32), L_X11_farthest_25 k x2 I F n x1 x3 = some a → GG X md_X11_farthest (rmD 3) (gv_Z X (rmD 3).cells (rmD 3).slots (some (.int a.1)) (mkW J K I a.2)) 0 0 25 [(0, .ref 209), (1, .int x1), (2, .int x2), (3, .int x3)] [] (mkW J K I F) := by
  intro n
  induction n with
  | zero =>
    intro x1 x3 h
    rw [L_X11_farthest_25] at h
    cases h
  | succ n ih =>
    intro x1 x3 h
    rw [L_X11_farthest_25] at h
    refine G_iload_n (pc2 := 26) 3 rfl dX11_farthest_25 rfl rfl ?_
    refine G_aload_n (pc2 := 27) 0 rfl dX11_farthest_26 rfl rfl ?_
    refine T_209_8 (pc2 := 30) kw_910 dX11_farthest_27 rfl ?_
    refine G_iconst (pc2 := 31) dX11_farthest_30 ic_0 rfl ?_
    refine AMc (pc2 := 32) (fa_212 _ _ _ _) cl_0 rfl dX11_farthest_31 rfl ?_
    refine B_icmp_ge (tgt := 73) (pc2 := 35) h dX11_farthest_32 (by decide) rfl (fun _ h => ?_) (fun _ h => ?_)
    · refine G_sub (ls' := [(0, .ref 209), (1, .int x1), (2, .int x2)]) [0, 1, 2] rfl ?_
      exact hk x1 h
    · refine G_aload_n (pc2 := 36) 0 rfl dX11_farthest_35 rfl rfl ?_
      refine T_209_20 (pc2 := 39) kw_922 dX11_farthest_36 rfl ?_
      refine G_iload_n (pc2 := 40) 3 rfl dX11_farthest_39 rfl rfl ?_
      refine AM (pc2 := 41) (fa_221 _ _ _ _) h dX11_farthest_40 rfl (fun h => ?_)
      refine G_bipush (pc2 := 43) dX11_farthest_41 ib_99 rfl ?_
      refine jn_e (Gj := True) (fun (j : Int32 → Option (Int32 × WF)) => ∀ (s_1247 : Int32), j s_1247 = some a → GG X md_X11_farthest (rmD 3) (gv_Z X (rmD 3).cells (rmD 3).slots (some (.int a.1)) (mkW J K I a.2)) 0 0 66 [(0, .ref 209), (2, .int x2), (3, .int x3)] [.int s_1247] (mkW J K I F)) h (fun s_1247 h => ?_) (fun j66_1246 hj66_1246 h => ?_)
      · refine B_istore_n (pc2 := 67) (fun x1_1248 => [(1, .int x1_1248), (0, .ref 209), (2, .int x2), (3, .int x3)]) h dX11_farthest_66 rfl (by decide) (fun _ => rfl) rfl (fun x1_1248 h => ?_)
        refine B_iinc (pc2 := 70) 3 (fun x3_1249 => [(3, .int x3_1249), (1, .int x1_1248), (0, .ref 209), (2, .int x2)]) h rfl dX11_farthest_67 ic_1 (by decide) (fun _ => rfl) rfl (fun x3_1249 h => ?_)
        refine G_goto (tgt := 25) dX11_farthest_70 (by decide) ?_
        refine G_sub (ls' := [(0, .ref 209), (1, .int x1_1248), (2, .int x2), (3, .int x3_1249)]) [2, 1, 3, 0] rfl ?_
        exact ih x1_1248 x3_1249 h
      refine jn_e (Gj := True) (fun (j : Unit → Option (Int32 × WF)) => ∀ (_u : Unit), j _u = some a → GG X md_X11_farthest (rmD 3) (gv_Z X (rmD 3).cells (rmD 3).slots (some (.int a.1)) (mkW J K I a.2)) 0 0 65 [(0, .ref 209), (1, .int x1), (2, .int x2), (3, .int x3)] [] (mkW J K I F)) h (fun _u h => ?_) (fun j65_1250 hj65_1250 h => ?_)
      · refine G_iload_n (pc2 := 66) 1 rfl dX11_farthest_65 rfl rfl ?_
        refine G_sub (ls' := [(0, .ref 209), (2, .int x2), (3, .int x3)]) [0, 2, 3] rfl ?_
        exact hj66_1246 x1 h
      refine B_icmp_ge (tgt := 65) (pc2 := 46) h dX11_farthest_43 (by decide) rfl (fun _ h => ?_) (fun _ h => ?_)
      · exact hj65_1250 () h
      · refine G_aload_n (pc2 := 47) 0 rfl dX11_farthest_46 rfl rfl ?_
        refine T_209_20 (pc2 := 50) kw_922 dX11_farthest_47 rfl ?_
        refine G_iload_n (pc2 := 51) 3 rfl dX11_farthest_50 rfl rfl ?_
        refine AM (pc2 := 52) (fa_221 _ _ _ _) h dX11_farthest_51 rfl (fun h => ?_)
        refine G_iload_n (pc2 := 53) 1 rfl dX11_farthest_52 rfl rfl ?_
        refine B_icmp_le (tgt := 65) (pc2 := 56) h dX11_farthest_53 (by decide) rfl (fun _ h => ?_) (fun _ h => ?_)
        · exact hj65_1250 () h
        · refine G_aload_n (pc2 := 57) 0 rfl dX11_farthest_56 rfl rfl ?_
          refine T_209_20 (pc2 := 60) kw_922 dX11_farthest_57 rfl ?_
          refine G_iload_n (pc2 := 61) 3 rfl dX11_farthest_60 rfl rfl ?_
          refine AM (pc2 := 62) (fa_221 _ _ _ _) h dX11_farthest_61 rfl (fun h => ?_)
          refine G_goto (tgt := 66) dX11_farthest_62 (by decide) ?_
          refine G_sub (ls' := [(0, .ref 209), (2, .int x2), (3, .int x3)]) [0, 2, 3] rfl ?_
          exact hj66_1246 (F 11 x3.toNatClampNeg) h
set_option maxRecDepth 100000 in
set_option maxHeartbeats 4000000 in
theorem g_L_X11_farthest_4 {X : XT} {I : WI} {J : WI} {K : WF} {a : Int32 × WF} {k : Int32 → WF → Option (Int32 × WF)} (hk : ∀ (e1 : Int32) (F' : WF), (k e1 F' = some a → GG X md_X11_farthest (rmD 3) (gv_Z X (rmD 3).cells (rmD 3).slots (some (.int a.1)) (mkW J K I a.2)) 0 0 79 [(1, .int e1)] [] (mkW J K I F'))) : ∀ (n : Nat) (x1 : Int32) (x2 : Int32) (F : WF), L_X11_farthest_4 k I n x1 x2 F = some a → GG X md_X11_farthest (rmD 3) (gv_Z X (rmD 3).cells (rmD 3).slots (some (.int a.1)) (mkW J K I a.2)) 0 0 4 [(0, .ref 209), (1, .int x1), (2, .int x2)] [] (mkW J K I F) := by
  intro n
  induction n with
  | zero =>
    intro x1 x2 F h
    rw [L_X11_farthest_4] at h
    cases h
  | succ n ih =>
    intro x1 x2 F h
    rw [L_X11_farthest_4] at h
    refine G_iload_n (pc2 := 5) 2 rfl dX11_farthest_4 rfl rfl ?_
    refine G_aload_n (pc2 := 6) 0 rfl dX11_farthest_5 rfl rfl ?_
    refine T_209_8 (pc2 := 9) kw_910 dX11_farthest_6 rfl ?_
    refine G_iconst (pc2 := 10) dX11_farthest_9 ic_0 rfl ?_
    refine AMc (pc2 := 11) (fa_212 _ _ _ _) cl_0 rfl dX11_farthest_10 rfl ?_
    refine B_icmp_ge (tgt := 79) (pc2 := 14) h dX11_farthest_11 (by decide) rfl (fun _ h => ?_) (fun _ h => ?_)
    · refine G_sub (ls' := [(1, .int x1)]) [1] rfl ?_
      exact hk x1 F h
    · refine G_aload_n (pc2 := 15) 0 rfl dX11_farthest_14 rfl rfl ?_
      refine G_iload_n (pc2 := 16) 2 rfl dX11_farthest_15 rfl rfl ?_
      refine G_aload_n (pc2 := 17) 0 rfl dX11_farthest_16 rfl rfl ?_
      obtain ⟨c_1220, hc_1220, h⟩ := ob_e h
      refine B_callV (pc2 := 20) si_X11_157 (c_X11_allBridges hc_1220) (qo_209 _ _ _ _) rfl rfl rfl (st := [.int x2, .ref 209]) (stq := [.int c_1220, .int x2, .ref 209]) rfl (by decide) (by decide) (Nat.le_of_ble_eq_true rfl) mkW_ll dX11_farthest_17 rfl rfl ?_ ⟨rfl, rfl⟩
      obtain ⟨c_1244, hc_1244, h⟩ := ob_e h
      refine B_callV (pc2 := 23) si_X11_154 (c_X11_fars hc_1244) (qo_209 _ _ _ _) rfl rfl rfl (st := []) (stq := []) rfl (by decide) (by decide) (Nat.le_of_ble_eq_true rfl) mkW_ll dX11_farthest_20 rfl rfl ?_ ⟨rfl, rfl⟩
      refine G_iconst (pc2 := 24) dX11_farthest_23 ic_0 rfl ?_
      refine B_istore_n (pc2 := 25) (fun x3_1245 => [(3, .int x3_1245), (0, .ref 209), (1, .int x1), (2, .int x2)]) h dX11_farthest_24 rfl (by decide) (fun _ => rfl) rfl (fun x3_1245 h => ?_)
      refine G_sub (ls' := [(0, .ref 209), (1, .int x1), (2, .int x2), (3, .int x3_1245)]) [1, 2, 3, 0] rfl ?_
      refine g_L_X11_farthest_25 (fun x1_1251 h => ?_) FU x1 x3_1245 h
      refine B_iinc (pc2 := 76) 2 (fun x2_1252 => [(2, .int x2_1252), (0, .ref 209), (1, .int x1_1251)]) h rfl dX11_farthest_73 ic_1 (by decide) (fun _ => rfl) rfl (fun x2_1252 h => ?_)
      refine G_goto (tgt := 4) dX11_farthest_76 (by decide) ?_
      refine G_sub (ls' := [(0, .ref 209), (1, .int x1_1251), (2, .int x2_1252)]) [1, 2, 0] rfl ?_
      exact ih x1_1251 x2_1252 c_1244 h
set_option maxRecDepth 100000 in
set_option maxHeartbeats 4000000 in
theorem c_X11_farthest {I : WI} {F : WF} {J : WI} {K : WF} {a : Int32 × WF} (h : f_X11_farthest  I F = some a) : CT md_X11_farthest yX11_farthest (rmD 3) [.ref 209] (mkW J K I F) (some (.int a.1)) (mkW J K I a.2) := CT_of pn_X11 ⟨rfl, rfl⟩ (Nat.le_of_ble_eq_true rfl) (fun X => by
  show GG X md_X11_farthest (rmD 3) _ 0 0 0 [(0, .ref 209)] [] (mkW J K I F)
  unfold f_X11_farthest at h
  refine G_iconst (pc2 := 1) dX11_farthest_0 ic_0 rfl ?_
  refine B_istore_n (pc2 := 2) (fun x1_1218 => [(1, .int x1_1218), (0, .ref 209)]) h dX11_farthest_1 rfl (by decide) (fun _ => rfl) rfl (fun x1_1218 h => ?_)
  refine G_iconst (pc2 := 3) dX11_farthest_2 ic_0 rfl ?_
  refine B_istore_n (pc2 := 4) (fun x2_1219 => [(2, .int x2_1219), (1, .int x1_1218), (0, .ref 209)]) h dX11_farthest_3 rfl (by decide) (fun _ => rfl) rfl (fun x2_1219 h => ?_)
  refine G_sub (ls' := [(0, .ref 209), (1, .int x1_1218), (2, .int x2_1219)]) [2, 1, 0] rfl ?_
  refine g_L_X11_farthest_4 (fun x1_1253 F_1254 h => ?_) FU x1_1218 x2_1219 F h
  refine G_iload_n (pc2 := 80) 0 rfl dX11_farthest_79 rfl rfl ?_
  have ha := Option.some.inj h
  subst ha
  exact G_iret rfl dX11_farthest_80)
def f_X11_isWay (x1 : Int32) (x2 : Int32) (x3 : Int32) (I : WI) (F : WF) : Option (Int32 × WF) :=
  Option.bind (f_X11_fars x1 x3 I F) fun c_1259 =>
  ixG x2 8 (
  if (99 : Int32) ≤ (c_1259 11 x2.toNatClampNeg) then (some ((0 : Int32), c_1259))
  else (some ((1 : Int32), c_1259)))
set_option maxRecDepth 100000 in
set_option maxHeartbeats 4000000 in
theorem c_X11_isWay {x1 : Int32} {x2 : Int32} {x3 : Int32} {I : WI} {F : WF} {J : WI} {K : WF} {a : Int32 × WF} (h : f_X11_isWay x1 x2 x3 I F = some a) : CT md_X11_isWay yX11_isWay (rmD 3) [.ref 209, .int x1, .int x2, .int x3] (mkW J K I F) (some (.int a.1)) (mkW J K I a.2) := CT_of pn_X11 ⟨rfl, rfl⟩ (Nat.le_of_ble_eq_true rfl) (fun X => by
  show GG X md_X11_isWay (rmD 3) _ 0 0 0 [(0, .ref 209), (1, .int x1), (2, .int x2), (3, .int x3)] [] (mkW J K I F)
  unfold f_X11_isWay at h
  refine G_aload_n (pc2 := 1) 0 rfl dX11_isWay_0 rfl rfl ?_
  refine G_iload_n (pc2 := 2) 1 rfl dX11_isWay_1 rfl rfl ?_
  refine G_iload_n (pc2 := 3) 3 rfl dX11_isWay_2 rfl rfl ?_
  obtain ⟨c_1259, hc_1259, h⟩ := ob_e h
  refine B_callV (pc2 := 6) si_X11_154 (c_X11_fars hc_1259) (qo_209 _ _ _ _) rfl rfl rfl (st := []) (stq := []) rfl (by decide) (by decide) (Nat.le_of_ble_eq_true rfl) mkW_ll dX11_isWay_3 rfl rfl ?_ ⟨rfl, rfl⟩
  refine G_aload_n (pc2 := 7) 0 rfl dX11_isWay_6 rfl rfl ?_
  refine T_209_20 (pc2 := 10) kw_922 dX11_isWay_7 rfl ?_
  refine G_iload_n (pc2 := 11) 2 rfl dX11_isWay_10 rfl rfl ?_
  refine AM (pc2 := 12) (fa_221 _ _ _ _) h dX11_isWay_11 rfl (fun h => ?_)
  refine G_bipush (pc2 := 14) dX11_isWay_12 ib_99 rfl ?_
  refine B_icmp_ge (tgt := 21) (pc2 := 17) h dX11_isWay_14 (by decide) rfl (fun _ h => ?_) (fun _ h => ?_)
  · refine G_iconst (pc2 := 22) dX11_isWay_21 ic_0 rfl ?_
    have ha := Option.some.inj h
    subst ha
    exact G_zret (v := (0 : Int32)) rfl (by decide) dX11_isWay_22
  · refine G_iconst (pc2 := 18) dX11_isWay_17 ic_1 rfl ?_
    refine G_goto (tgt := 22) dX11_isWay_18 (by decide) ?_
    have ha := Option.some.inj h
    subst ha
    exact G_zret (v := (1 : Int32)) rfl (by decide) dX11_isWay_22)
end
