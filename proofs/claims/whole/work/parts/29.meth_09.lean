noncomputable section
def L_X11_pays_33 (k : Int32 → Option (Int32 × WI)) (x1 : Int32) (x2 : Int32) (I : WI) (F : WF) : Nat → Int32 → Int32 → Option (Int32 × WI)
  | 0, _, _ => none
  | n + 1, x3, x4 =>
  if (30 : Int32) < x4 then (k x3)
  else (Option.bind (f_X11_chanceOf x4 x2) fun c_1619 =>
  Option.bind (f_X11_chanceOf x3 x2) fun c_1620 =>
  bnd (fun (s_1622 : Int32) => bnd s_1622 fun x3_1623 =>
  bnd (x4 + (1 : Int32)) fun x4_1624 =>
  L_X11_pays_33 k x1 x2 I F n x3_1623 x4_1624) fun j74_1621 =>
  if (lg_cmp ((x4.toInt64 * x1.toInt64) * c_1619) ((x3.toInt64 * x1.toInt64) * c_1620)) ≤ 0 then (j74_1621 x3)
  else (j74_1621 x4))
def f_X11_pays (x1 : Int32) (x2 : Int32) (I : WI) (F : WF) : Option (Int32 × WI) :=
  bnd (upd I 0 (0 : Int32)) fun I_1609 =>
  Option.bind (f_X11_in x1 (1 : Int32) (99 : Int32)) fun c_1610 =>
  if c_1610 = 0 then (some ((-1000000002 : Int32), I_1609))
  else (Option.bind (f_X11_in x2 (0 : Int32) (100 : Int32)) fun c_1611 =>
  if c_1611 = 0 then (some ((-1000000002 : Int32), I_1609))
  else (bnd (0 : Int32) fun x3_1612 =>
  bnd (1 : Int32) fun x4_1613 =>
  L_X11_pays_33 (fun x3_1625 => some (x3_1625, I_1609)) x1 x2 I_1609 F FU x3_1612 x4_1613))
set_option maxRecDepth 100000 in
set_option maxHeartbeats 4000000 in
theorem g_L_X11_pays_33 {X : XT} {x1 : Int32} {x2 : Int32} {I : WI} {F : WF} {J : WI} {K : WF} {a : Int32 × WI} {k : Int32 → Option (Int32 × WI)} (hk : ∀ (e3 : Int32), (k e3 = some a → GG X md_X11_pays (rmD 2) (gv_Z X (rmD 2).cells (rmD 2).slots (some (.int a.1)) (mkW J K a.2 F)) 0 0 81 [(3, .int e3)] [] (mkW J K I F))) : ∀ (n : Nat) (x3 : Int32) (x4 : Int32), L_X11_pays_33 k x1 x2 I F n x3 x4 = some a → GG X md_X11_pays (rmD 2) (gv_Z X (rmD 2).cells (rmD 2).slots (some (.int a.1)) (mkW J K a.2 F)) 0 0 33 [(1, .int x1), (2, .int x2), (3, .int x3), (4, .int x4)] [] (mkW J K I F) := by
  intro n
  induction n with
  | zero =>
    intro x3 x4 h
    rw [L_X11_pays_33] at h
    cases h
  | succ n ih =>
    intro x3 x4 h
    rw [L_X11_pays_33] at h
    refine G_iload (pc2 := 35) 3 rfl dX11_pays_33 rfl ?_
    refine G_bipush (pc2 := 37) dX11_pays_35 ib_30 rfl ?_
    refine B_icmp_gt (tgt := 81) (pc2 := 40) h dX11_pays_37 (by decide) rfl (fun _ h => ?_) (fun _ h => ?_)
    · refine G_sub (ls' := [(3, .int x3)]) [2] rfl ?_
      exact hk x3 h
    · refine G_iload (pc2 := 42) 3 rfl dX11_pays_40 rfl ?_
      refine G_i2l (pc2 := 43) dX11_pays_42 rfl ?_
      refine G_iload_n (pc2 := 44) 0 rfl dX11_pays_43 rfl rfl ?_
      refine G_i2l (pc2 := 45) dX11_pays_44 rfl ?_
      refine G_lmul (pc2 := 46) dX11_pays_45 rfl ?_
      refine G_iload (pc2 := 48) 3 rfl dX11_pays_46 rfl ?_
      refine G_iload_n (pc2 := 49) 1 rfl dX11_pays_48 rfl rfl ?_
      obtain ⟨c_1619, hc_1619, h⟩ := ob_e h
      refine B_callS (pc2 := 52) si_X11_240 (c_X11_chanceOf hc_1619) rfl (st := [.long (x4.toInt64 * x1.toInt64)]) (stq := [.long c_1619, .long (x4.toInt64 * x1.toInt64)]) rfl (by decide) (by decide) (Nat.le_of_ble_eq_true rfl) rfl dX11_pays_49 rfl rfl ?_ ⟨rfl, rfl⟩
      refine G_lmul (pc2 := 53) dX11_pays_52 rfl ?_
      refine G_iload_n (pc2 := 54) 2 rfl dX11_pays_53 rfl rfl ?_
      refine G_i2l (pc2 := 55) dX11_pays_54 rfl ?_
      refine G_iload_n (pc2 := 56) 0 rfl dX11_pays_55 rfl rfl ?_
      refine G_i2l (pc2 := 57) dX11_pays_56 rfl ?_
      refine G_lmul (pc2 := 58) dX11_pays_57 rfl ?_
      refine G_iload_n (pc2 := 59) 2 rfl dX11_pays_58 rfl rfl ?_
      refine G_iload_n (pc2 := 60) 1 rfl dX11_pays_59 rfl rfl ?_
      obtain ⟨c_1620, hc_1620, h⟩ := ob_e h
      refine B_callS (pc2 := 63) si_X11_240 (c_X11_chanceOf hc_1620) rfl (st := [.long (x3.toInt64 * x1.toInt64), .long ((x4.toInt64 * x1.toInt64) * c_1619)]) (stq := [.long c_1620, .long (x3.toInt64 * x1.toInt64), .long ((x4.toInt64 * x1.toInt64) * c_1619)]) rfl (by decide) (by decide) (Nat.le_of_ble_eq_true rfl) rfl dX11_pays_60 rfl rfl ?_ ⟨rfl, rfl⟩
      refine G_lmul (pc2 := 64) dX11_pays_63 rfl ?_
      refine G_lcmp (pc2 := 65) dX11_pays_64 rfl ?_
      refine jn_e (Gj := True) (fun (j : Int32 → Option (Int32 × WI)) => ∀ (s_1622 : Int32), j s_1622 = some a → GG X md_X11_pays (rmD 2) (gv_Z X (rmD 2).cells (rmD 2).slots (some (.int a.1)) (mkW J K a.2 F)) 0 0 74 [(1, .int x1), (2, .int x2), (4, .int x4)] [.int s_1622] (mkW J K I F)) h (fun s_1622 h => ?_) (fun j74_1621 hj74_1621 h => ?_)
      · refine B_istore_n (pc2 := 75) (fun x3_1623 => [(3, .int x3_1623), (1, .int x1), (2, .int x2), (4, .int x4)]) h dX11_pays_74 rfl (by decide) (fun _ => rfl) rfl (fun x3_1623 h => ?_)
        refine B_iinc (pc2 := 78) 3 (fun x4_1624 => [(4, .int x4_1624), (3, .int x3_1623), (1, .int x1), (2, .int x2)]) h rfl dX11_pays_75 ic_1 (by decide) (fun _ => rfl) rfl (fun x4_1624 h => ?_)
        refine G_goto (tgt := 33) dX11_pays_78 (by decide) ?_
        refine G_sub (ls' := [(1, .int x1), (2, .int x2), (3, .int x3_1623), (4, .int x4_1624)]) [2, 3, 1, 0] rfl ?_
        exact ih x3_1623 x4_1624 h
      refine B_if_le (tgt := 73) (pc2 := 68) h dX11_pays_65 (by decide) rfl (fun _ h => ?_) (fun _ h => ?_)
      · refine G_iload_n (pc2 := 74) 2 rfl dX11_pays_73 rfl rfl ?_
        refine G_sub (ls' := [(1, .int x1), (2, .int x2), (4, .int x4)]) [0, 1, 3] rfl ?_
        exact hj74_1621 x3 h
      · refine G_iload (pc2 := 70) 3 rfl dX11_pays_68 rfl ?_
        refine G_goto (tgt := 74) dX11_pays_70 (by decide) ?_
        refine G_sub (ls' := [(1, .int x1), (2, .int x2), (4, .int x4)]) [0, 1, 3] rfl ?_
        exact hj74_1621 x4 h
set_option maxRecDepth 100000 in
set_option maxHeartbeats 4000000 in
theorem c_X11_pays {x1 : Int32} {x2 : Int32} {I : WI} {F : WF} {J : WI} {K : WF} {a : Int32 × WI} (h : f_X11_pays x1 x2 I F = some a) : CT md_X11_pays yX11_pays (rmD 2) [.ref 209, .int x1, .int x2] (mkW J K I F) (some (.int a.1)) (mkW J K a.2 F) := CT_of pn_X11 ⟨rfl, rfl⟩ (Nat.le_of_ble_eq_true rfl) (fun X => by
  show GG X md_X11_pays (rmD 2) _ 0 0 0 [(0, .ref 209), (1, .int x1), (2, .int x2)] [] (mkW J K I F)
  unfold f_X11_pays at h
  refine G_aload_n (pc2 := 1) 0 rfl dX11_pays_0 rfl rfl ?_
  refine G_iconst (pc2 := 2) dX11_pays_1 ic_0 rfl ?_
  refine P_209_0 (pc2 := 5) h kw_902 dX11_pays_2 rfl (fun I_1609 h => ?_)
  refine G_iload_n (pc2 := 6) 1 rfl dX11_pays_5 rfl rfl ?_
  refine G_iconst (pc2 := 7) dX11_pays_6 ic_1 rfl ?_
  refine G_bipush (pc2 := 9) dX11_pays_7 ib_99 rfl ?_
  obtain ⟨c_1610, hc_1610, h⟩ := ob_e h
  refine B_callS (pc2 := 12) si_X11_66 (c_X11_in hc_1610) rfl (st := []) (stq := [.int c_1610]) rfl (by decide) (by decide) (Nat.le_of_ble_eq_true rfl) rfl dX11_pays_9 rfl rfl ?_ ⟨rfl, rfl⟩
  refine B_if_eq (tgt := 25) (pc2 := 15) h dX11_pays_12 (by decide) rfl (fun _ h => ?_) (fun _ h => ?_)
  · refine G_ldc (pc2 := 27) kw_989 dX11_pays_25 rfl ?_
    have ha := Option.some.inj h
    subst ha
    exact G_iret rfl dX11_pays_27
  · refine G_iload_n (pc2 := 16) 2 rfl dX11_pays_15 rfl rfl ?_
    refine G_iconst (pc2 := 17) dX11_pays_16 ic_0 rfl ?_
    refine G_bipush (pc2 := 19) dX11_pays_17 ib_100 rfl ?_
    obtain ⟨c_1611, hc_1611, h⟩ := ob_e h
    refine B_callS (pc2 := 22) si_X11_66 (c_X11_in hc_1611) rfl (st := []) (stq := [.int c_1611]) rfl (by decide) (by decide) (Nat.le_of_ble_eq_true rfl) rfl dX11_pays_19 rfl rfl ?_ ⟨rfl, rfl⟩
    refine B_if_ne (tgt := 28) (pc2 := 25) h dX11_pays_22 (by decide) rfl (fun _ h => ?_) (fun _ h => ?_)
    · refine G_iconst (pc2 := 29) dX11_pays_28 ic_0 rfl ?_
      refine B_istore_n (pc2 := 30) (fun x3_1612 => [(3, .int x3_1612), (0, .ref 209), (1, .int x1), (2, .int x2)]) h dX11_pays_29 rfl (by decide) (fun _ => rfl) rfl (fun x3_1612 h => ?_)
      refine G_iconst (pc2 := 31) dX11_pays_30 ic_1 rfl ?_
      refine B_istore (pc2 := 33) (fun x4_1613 => [(4, .int x4_1613), (3, .int x3_1612), (0, .ref 209), (1, .int x1), (2, .int x2)]) h dX11_pays_31 (by decide) (fun _ => rfl) rfl (fun x4_1613 h => ?_)
      refine G_sub (ls' := [(1, .int x1), (2, .int x2), (3, .int x3_1612), (4, .int x4_1613)]) [3, 4, 1, 0] rfl ?_
      refine g_L_X11_pays_33 (fun x3_1625 h => ?_) FU x3_1612 x4_1613 h
      refine G_iload_n (pc2 := 82) 0 rfl dX11_pays_81 rfl rfl ?_
      have ha := Option.some.inj h
      subst ha
      exact G_iret rfl dX11_pays_82
    · refine G_ldc (pc2 := 27) kw_989 dX11_pays_25 rfl ?_
      have ha := Option.some.inj h
      subst ha
      exact G_iret rfl dX11_pays_27)
def f_X11_exact (x1 : Int32) (x2 : Int32) (I : WI) (F : WF) : Option (Int32 × WI) :=
  bnd (upd I 0 (0 : Int32)) fun I_1626 =>
  Option.bind (f_X11_in x1 (0 : Int32) (60 : Int32)) fun c_1627 =>
  if c_1627 = 0 then (some ((-1000000002 : Int32), I_1626))
  else (Option.bind (f_X11_in x2 (0 : Int32) (100 : Int32)) fun c_1628 =>
  if c_1628 = 0 then (some ((-1000000002 : Int32), I_1626))
  else (Option.bind (f_X11_chanceOf x1 x2) fun c_1629 =>
  some (c_1629.toInt32, I_1626)))
set_option maxRecDepth 100000 in
set_option maxHeartbeats 4000000 in
theorem c_X11_exact {x1 : Int32} {x2 : Int32} {I : WI} {F : WF} {J : WI} {K : WF} {a : Int32 × WI} (h : f_X11_exact x1 x2 I F = some a) : CT md_X11_exact yX11_exact (rmD 2) [.ref 209, .int x1, .int x2] (mkW J K I F) (some (.int a.1)) (mkW J K a.2 F) := CT_of pn_X11 ⟨rfl, rfl⟩ (Nat.le_of_ble_eq_true rfl) (fun X => by
  show GG X md_X11_exact (rmD 2) _ 0 0 0 [(0, .ref 209), (1, .int x1), (2, .int x2)] [] (mkW J K I F)
  unfold f_X11_exact at h
  refine G_aload_n (pc2 := 1) 0 rfl dX11_exact_0 rfl rfl ?_
  refine G_iconst (pc2 := 2) dX11_exact_1 ic_0 rfl ?_
  refine P_209_0 (pc2 := 5) h kw_902 dX11_exact_2 rfl (fun I_1626 h => ?_)
  refine G_iload_n (pc2 := 6) 1 rfl dX11_exact_5 rfl rfl ?_
  refine G_iconst (pc2 := 7) dX11_exact_6 ic_0 rfl ?_
  refine G_bipush (pc2 := 9) dX11_exact_7 ib_60 rfl ?_
  obtain ⟨c_1627, hc_1627, h⟩ := ob_e h
  refine B_callS (pc2 := 12) si_X11_66 (c_X11_in hc_1627) rfl (st := []) (stq := [.int c_1627]) rfl (by decide) (by decide) (Nat.le_of_ble_eq_true rfl) rfl dX11_exact_9 rfl rfl ?_ ⟨rfl, rfl⟩
  refine B_if_eq (tgt := 25) (pc2 := 15) h dX11_exact_12 (by decide) rfl (fun _ h => ?_) (fun _ h => ?_)
  · refine G_ldc (pc2 := 27) kw_989 dX11_exact_25 rfl ?_
    have ha := Option.some.inj h
    subst ha
    exact G_iret rfl dX11_exact_27
  · refine G_iload_n (pc2 := 16) 2 rfl dX11_exact_15 rfl rfl ?_
    refine G_iconst (pc2 := 17) dX11_exact_16 ic_0 rfl ?_
    refine G_bipush (pc2 := 19) dX11_exact_17 ib_100 rfl ?_
    obtain ⟨c_1628, hc_1628, h⟩ := ob_e h
    refine B_callS (pc2 := 22) si_X11_66 (c_X11_in hc_1628) rfl (st := []) (stq := [.int c_1628]) rfl (by decide) (by decide) (Nat.le_of_ble_eq_true rfl) rfl dX11_exact_19 rfl rfl ?_ ⟨rfl, rfl⟩
    refine B_if_ne (tgt := 28) (pc2 := 25) h dX11_exact_22 (by decide) rfl (fun _ h => ?_) (fun _ h => ?_)
    · refine G_iload_n (pc2 := 29) 1 rfl dX11_exact_28 rfl rfl ?_
      refine G_iload_n (pc2 := 30) 2 rfl dX11_exact_29 rfl rfl ?_
      obtain ⟨c_1629, hc_1629, h⟩ := ob_e h
      refine B_callS (pc2 := 33) si_X11_240 (c_X11_chanceOf hc_1629) rfl (st := []) (stq := [.long c_1629]) rfl (by decide) (by decide) (Nat.le_of_ble_eq_true rfl) rfl dX11_exact_30 rfl rfl ?_ ⟨rfl, rfl⟩
      refine G_l2i (pc2 := 34) dX11_exact_33 rfl ?_
      have ha := Option.some.inj h
      subst ha
      exact G_iret rfl dX11_exact_34
    · refine G_ldc (pc2 := 27) kw_989 dX11_exact_25 rfl ?_
      have ha := Option.some.inj h
      subst ha
      exact G_iret rfl dX11_exact_27)
def f_X11_see (x1 : Int32) (x2 : Int32) (I : WI) (F : WF) : Option (Int32 × WI × WF) :=
  bnd (upd I 0 (0 : Int32)) fun I_1630 =>
  Option.bind (f_X11_in x1 (0 : Int32) (40 : Int32)) fun c_1631 =>
  if c_1631 = 0 then (some ((-1000000002 : Int32), I_1630, F))
  else (if (I_1630 7) = (6 : Int32) then (some ((-1000000004 : Int32), I_1630, F))
  else (ixG (I_1630 7) 6 (bnd (uF F 7 (upd (F 7) (I_1630 7).toNatClampNeg x1)) fun F_1632 =>
  ixG (I_1630 7) 6 (bnd (uF F_1632 8 (upd (F_1632 8) (I_1630 7).toNatClampNeg (vp_nar .boolean x2))) fun F_1633 =>
  bnd (upd I_1630 7 ((I_1630 7) + (1 : Int32))) fun I_1634 =>
  some ((I_1634 7), I_1634, F_1633)))))
set_option maxRecDepth 100000 in
set_option maxHeartbeats 4000000 in
theorem c_X11_see {x1 : Int32} {x2 : Int32} {I : WI} {F : WF} {J : WI} {K : WF} {a : Int32 × WI × WF} (h : f_X11_see x1 x2 I F = some a) : CT md_X11_see yX11_see (rmD 2) [.ref 209, .int x1, .int x2] (mkW J K I F) (some (.int a.1)) (mkW J K a.2.1 a.2.2) := CT_of pn_X11 ⟨rfl, rfl⟩ (Nat.le_of_ble_eq_true rfl) (fun X => by
  show GG X md_X11_see (rmD 2) _ 0 0 0 [(0, .ref 209), (1, .int x1), (2, .int x2)] [] (mkW J K I F)
  unfold f_X11_see at h
  refine G_aload_n (pc2 := 1) 0 rfl dX11_see_0 rfl rfl ?_
  refine G_iconst (pc2 := 2) dX11_see_1 ic_0 rfl ?_
  refine P_209_0 (pc2 := 5) h kw_902 dX11_see_2 rfl (fun I_1630 h => ?_)
  refine G_iload_n (pc2 := 6) 1 rfl dX11_see_5 rfl rfl ?_
  refine G_iconst (pc2 := 7) dX11_see_6 ic_0 rfl ?_
  refine G_bipush (pc2 := 9) dX11_see_7 ib_40 rfl ?_
  obtain ⟨c_1631, hc_1631, h⟩ := ob_e h
  refine B_callS (pc2 := 12) si_X11_66 (c_X11_in hc_1631) rfl (st := []) (stq := [.int c_1631]) rfl (by decide) (by decide) (Nat.le_of_ble_eq_true rfl) rfl dX11_see_9 rfl rfl ?_ ⟨rfl, rfl⟩
  refine B_if_ne (tgt := 18) (pc2 := 15) h dX11_see_12 (by decide) rfl (fun _ h => ?_) (fun _ h => ?_)
  · refine G_aload_n (pc2 := 19) 0 rfl dX11_see_18 rfl rfl ?_
    refine T_209_16 (pc2 := 22) kw_918 dX11_see_19 rfl ?_
    refine G_bipush (pc2 := 24) dX11_see_22 ib_6 rfl ?_
    refine B_icmp_ne (tgt := 30) (pc2 := 27) h dX11_see_24 (by decide) rfl (fun _ h => ?_) (fun _ h => ?_)
    · refine G_aload_n (pc2 := 31) 0 rfl dX11_see_30 rfl rfl ?_
      refine T_209_14 (pc2 := 34) kw_916 dX11_see_31 rfl ?_
      refine G_aload_n (pc2 := 35) 0 rfl dX11_see_34 rfl rfl ?_
      refine T_209_16 (pc2 := 38) kw_918 dX11_see_35 rfl ?_
      refine G_iload_n (pc2 := 39) 1 rfl dX11_see_38 rfl rfl ?_
      refine SM (pc2 := 40) (fa_217 _ _ _ _) h dX11_see_39 rfl (fun F_1632 h => ?_)
      refine G_aload_n (pc2 := 41) 0 rfl dX11_see_40 rfl rfl ?_
      refine T_209_15 (pc2 := 44) kw_917 dX11_see_41 rfl ?_
      refine G_aload_n (pc2 := 45) 0 rfl dX11_see_44 rfl rfl ?_
      refine T_209_16 (pc2 := 48) kw_918 dX11_see_45 rfl ?_
      refine G_iload_n (pc2 := 49) 2 rfl dX11_see_48 rfl rfl ?_
      refine SzM (pc2 := 50) (fa_218 _ _ _ _) h dX11_see_49 rfl (fun F_1633 h => ?_)
      refine G_aload_n (pc2 := 51) 0 rfl dX11_see_50 rfl rfl ?_
      refine G_dup (pc2 := 52) rfl dX11_see_51 rfl ?_
      refine T_209_16 (pc2 := 55) kw_918 dX11_see_52 rfl ?_
      refine G_iconst (pc2 := 56) dX11_see_55 ic_1 rfl ?_
      refine G_iadd (pc2 := 57) dX11_see_56 rfl ?_
      refine P_209_16 (pc2 := 60) h kw_918 dX11_see_57 rfl (fun I_1634 h => ?_)
      refine G_aload_n (pc2 := 61) 0 rfl dX11_see_60 rfl rfl ?_
      refine T_209_16 (pc2 := 64) kw_918 dX11_see_61 rfl ?_
      have ha := Option.some.inj h
      subst ha
      exact G_iret rfl dX11_see_64
    · refine G_ldc (pc2 := 29) kw_990 dX11_see_27 rfl ?_
      have ha := Option.some.inj h
      subst ha
      exact G_iret rfl dX11_see_29
  · refine G_ldc (pc2 := 17) kw_989 dX11_see_15 rfl ?_
    have ha := Option.some.inj h
    subst ha
    exact G_iret rfl dX11_see_17)
def L_X11_isAsSeen_4 (k : Int32 → Option (Int32)) (x1 : Int32) (I : WI) (F : WF) : Nat → Int32 → Int32 → Option (Int32)
  | 0, _, _ => none
  | n + 1, x2, x3 =>
  if (I 7) ≤ x3 then (k x2)
  else (bnd (fun (s_1644 : Int32) => bnd s_1644 fun x2_1645 =>
  bnd (x3 + (1 : Int32)) fun x3_1646 =>
  L_X11_isAsSeen_4 k x1 I F n x2_1645 x3_1646) fun j45_1643 =>
  bnd (fun (_u : Unit) => j45_1643 (0 : Int32)) fun j44_1647 =>
  if x2 = 0 then (j44_1647 ())
  else (ixG x3 6 (
  bnd (fun (s_1649 : Int32) => ixG x3 6 (
  if s_1649 = (F 8 x3.toNatClampNeg) then (j45_1643 (1 : Int32))
  else (j44_1647 ()))) fun j31_1648 =>
  if (F 7 x3.toNatClampNeg) < x1 then (j31_1648 (0 : Int32))
  else (j31_1648 (1 : Int32)))))
def f_X11_isAsSeen (x1 : Int32) (I : WI) (F : WF) : Option (Int32) :=
  bnd (1 : Int32) fun x2_1641 =>
  bnd (0 : Int32) fun x3_1642 =>
  L_X11_isAsSeen_4 (fun x2_1650 => bzG x2_1650 (some x2_1650)) x1 I F FU x2_1641 x3_1642
set_option maxRecDepth 100000 in
set_option maxHeartbeats 4000000 in
theorem g_L_X11_isAsSeen_4 {X : XT} {x1 : Int32} {I : WI} {F : WF} {J : WI} {K : WF} {a : Int32} {k : Int32 → Option (Int32)} (hk : ∀ (e2 : Int32), (k e2 = some a → GG X md_X11_isAsSeen (rmD 1) (gv_Z X (rmD 1).cells (rmD 1).slots (some (.int a)) (mkW J K I F)) 0 0 52 [(2, .int e2)] [] (mkW J K I F))) : ∀ (n : Nat) (x2 : Int32) (x3 : Int32), L_X11_isAsSeen_4 k x1 I F n x2 x3 = some a → GG X md_X11_isAsSeen (rmD 1) (gv_Z X (rmD 1).cells (rmD 1).slots (some (.int a)) (mkW J K I F)) 0 0 4 [(0, .ref 209), (1, .int x1), (2, .int x2), (3, .int x3)] [] (mkW J K I F) := by
  intro n
  induction n with
  | zero =>
    intro x2 x3 h
    rw [L_X11_isAsSeen_4] at h
    cases h
  | succ n ih =>
    intro x2 x3 h
    rw [L_X11_isAsSeen_4] at h
    refine G_iload_n (pc2 := 5) 3 rfl dX11_isAsSeen_4 rfl rfl ?_
    refine G_aload_n (pc2 := 6) 0 rfl dX11_isAsSeen_5 rfl rfl ?_
    refine T_209_16 (pc2 := 9) kw_918 dX11_isAsSeen_6 rfl ?_
    refine B_icmp_ge (tgt := 52) (pc2 := 12) h dX11_isAsSeen_9 (by decide) rfl (fun _ h => ?_) (fun _ h => ?_)
    · refine G_sub (ls' := [(2, .int x2)]) [2] rfl ?_
      exact hk x2 h
    · refine G_iload_n (pc2 := 13) 2 rfl dX11_isAsSeen_12 rfl rfl ?_
      refine jn_e (Gj := True) (fun (j : Int32 → Option (Int32)) => ∀ (s_1644 : Int32), j s_1644 = some a → GG X md_X11_isAsSeen (rmD 1) (gv_Z X (rmD 1).cells (rmD 1).slots (some (.int a)) (mkW J K I F)) 0 0 45 [(0, .ref 209), (1, .int x1), (3, .int x3)] [.int s_1644] (mkW J K I F)) h (fun s_1644 h => ?_) (fun j45_1643 hj45_1643 h => ?_)
      · refine B_istore_n (pc2 := 46) (fun x2_1645 => [(2, .int x2_1645), (0, .ref 209), (1, .int x1), (3, .int x3)]) h dX11_isAsSeen_45 rfl (by decide) (fun _ => rfl) rfl (fun x2_1645 h => ?_)
        refine B_iinc (pc2 := 49) 3 (fun x3_1646 => [(3, .int x3_1646), (2, .int x2_1645), (0, .ref 209), (1, .int x1)]) h rfl dX11_isAsSeen_46 ic_1 (by decide) (fun _ => rfl) rfl (fun x3_1646 h => ?_)
        refine G_goto (tgt := 4) dX11_isAsSeen_49 (by decide) ?_
        refine G_sub (ls' := [(0, .ref 209), (1, .int x1), (2, .int x2_1645), (3, .int x3_1646)]) [2, 3, 1, 0] rfl ?_
        exact ih x2_1645 x3_1646 h
      refine jn_e (Gj := True) (fun (j : Unit → Option (Int32)) => ∀ (_u : Unit), j _u = some a → GG X md_X11_isAsSeen (rmD 1) (gv_Z X (rmD 1).cells (rmD 1).slots (some (.int a)) (mkW J K I F)) 0 0 44 [(0, .ref 209), (1, .int x1), (3, .int x3)] [] (mkW J K I F)) h (fun _u h => ?_) (fun j44_1647 hj44_1647 h => ?_)
      · refine G_iconst (pc2 := 45) dX11_isAsSeen_44 ic_0 rfl ?_
        exact hj45_1643 (0 : Int32) h
      refine B_if_eq (tgt := 44) (pc2 := 16) h dX11_isAsSeen_13 (by decide) rfl (fun _ h => ?_) (fun _ h => ?_)
      · refine G_sub (ls' := [(0, .ref 209), (1, .int x1), (3, .int x3)]) [0, 1, 3] rfl ?_
        exact hj44_1647 () h
      · refine G_iload_n (pc2 := 17) 1 rfl dX11_isAsSeen_16 rfl rfl ?_
        refine G_aload_n (pc2 := 18) 0 rfl dX11_isAsSeen_17 rfl rfl ?_
        refine T_209_14 (pc2 := 21) kw_916 dX11_isAsSeen_18 rfl ?_
        refine G_iload_n (pc2 := 22) 3 rfl dX11_isAsSeen_21 rfl rfl ?_
        refine AM (pc2 := 23) (fa_217 _ _ _ _) h dX11_isAsSeen_22 rfl (fun h => ?_)
        refine jn_e (Gj := True) (fun (j : Int32 → Option (Int32)) => ∀ (s_1649 : Int32), j s_1649 = some a → GG X md_X11_isAsSeen (rmD 1) (gv_Z X (rmD 1).cells (rmD 1).slots (some (.int a)) (mkW J K I F)) 0 0 31 [(0, .ref 209), (1, .int x1), (3, .int x3)] [.int s_1649] (mkW J K I F)) h (fun s_1649 h => ?_) (fun j31_1648 hj31_1648 h => ?_)
        · refine G_aload_n (pc2 := 32) 0 rfl dX11_isAsSeen_31 rfl rfl ?_
          refine T_209_15 (pc2 := 35) kw_917 dX11_isAsSeen_32 rfl ?_
          refine G_iload_n (pc2 := 36) 2 rfl dX11_isAsSeen_35 rfl rfl ?_
          refine AzM (pc2 := 37) (fa_218 _ _ _ _) h dX11_isAsSeen_36 rfl (fun h => ?_)
          refine B_icmp_ne (tgt := 44) (pc2 := 40) h dX11_isAsSeen_37 (by decide) rfl (fun _ h => ?_) (fun _ h => ?_)
          · exact hj44_1647 () h
          · refine G_iconst (pc2 := 41) dX11_isAsSeen_40 ic_1 rfl ?_
            refine G_goto (tgt := 45) dX11_isAsSeen_41 (by decide) ?_
            exact hj45_1643 (1 : Int32) h
        refine B_icmp_gt (tgt := 30) (pc2 := 26) h dX11_isAsSeen_23 (by decide) rfl (fun _ h => ?_) (fun _ h => ?_)
        · refine G_iconst (pc2 := 31) dX11_isAsSeen_30 ic_0 rfl ?_
          refine G_sub (ls' := [(0, .ref 209), (1, .int x1), (3, .int x3)]) [0, 1, 3] rfl ?_
          exact hj31_1648 (0 : Int32) h
        · refine G_iconst (pc2 := 27) dX11_isAsSeen_26 ic_1 rfl ?_
          refine G_goto (tgt := 31) dX11_isAsSeen_27 (by decide) ?_
          refine G_sub (ls' := [(0, .ref 209), (1, .int x1), (3, .int x3)]) [0, 1, 3] rfl ?_
          exact hj31_1648 (1 : Int32) h
set_option maxRecDepth 100000 in
set_option maxHeartbeats 4000000 in
theorem c_X11_isAsSeen {x1 : Int32} {I : WI} {F : WF} {J : WI} {K : WF} {a : Int32} (h : f_X11_isAsSeen x1 I F = some a) : CT md_X11_isAsSeen yX11_isAsSeen (rmD 1) [.ref 209, .int x1] (mkW J K I F) (some (.int a)) (mkW J K I F) := CT_of pn_X11 ⟨rfl, rfl⟩ (Nat.le_of_ble_eq_true rfl) (fun X => by
  show GG X md_X11_isAsSeen (rmD 1) _ 0 0 0 [(0, .ref 209), (1, .int x1)] [] (mkW J K I F)
  unfold f_X11_isAsSeen at h
  refine G_iconst (pc2 := 1) dX11_isAsSeen_0 ic_1 rfl ?_
  refine B_istore_n (pc2 := 2) (fun x2_1641 => [(2, .int x2_1641), (0, .ref 209), (1, .int x1)]) h dX11_isAsSeen_1 rfl (by decide) (fun _ => rfl) rfl (fun x2_1641 h => ?_)
  refine G_iconst (pc2 := 3) dX11_isAsSeen_2 ic_0 rfl ?_
  refine B_istore_n (pc2 := 4) (fun x3_1642 => [(3, .int x3_1642), (2, .int x2_1641), (0, .ref 209), (1, .int x1)]) h dX11_isAsSeen_3 rfl (by decide) (fun _ => rfl) rfl (fun x3_1642 h => ?_)
  refine G_sub (ls' := [(0, .ref 209), (1, .int x1), (2, .int x2_1641), (3, .int x3_1642)]) [2, 3, 1, 0] rfl ?_
  refine g_L_X11_isAsSeen_4 (fun x2_1650 h => ?_) FU x2_1641 x3_1642 h
  refine G_iload_n (pc2 := 53) 0 rfl dX11_isAsSeen_52 rfl rfl ?_
  obtain ⟨qb_1651, h⟩ := bzG_e h
  have ha := Option.some.inj h
  subst ha
  exact G_zret rfl qb_1651 dX11_isAsSeen_53)
def L_X11_quick_27 (k : Int32 → Int32 → Int32 → Option (Int32 × WI)) (x1 : Int32) (I : WI) (F : WF) : Nat → Int32 → Int32 → Int32 → Int32 → Option (Int32 × WI)
  | 0, _, _, _, _ => none
  | n + 1, x2, x3, x4, x5 =>
  if (40 : Int32) < x5 then (k x2 x3 x4)
  else (Option.bind (f_X11_isAsSeen x5 I F) fun c_1652 =>
  bnd (fun (x2_1654 : Int32) (x3_1655 : Int32) (x4_1656 : Int32) => bnd (x5 + (1 : Int32)) fun x5_1657 =>
  L_X11_quick_27 k x1 I F n x2_1654 x3_1655 x4_1656 x5_1657) fun j61_1653 =>
  if c_1652 = 0 then (j61_1653 x2 x3 x4)
  else (bnd (fun (s_1659 : Int32) => bnd s_1659 fun x3_1660 =>
  bnd x5 fun x4_1661 =>
  bnd (x2 + (1 : Int32)) fun x2_1662 =>
  j61_1653 x2_1662 x3_1660 x4_1661) fun j53_1658 =>
  if x2 = 0 then (j53_1658 x5)
  else (j53_1658 x3)))
def f_X11_quick (x1 : Int32) (I : WI) (F : WF) : Option (Int32 × WI) :=
  bnd (upd I 0 (0 : Int32)) fun I_1635 =>
  Option.bind (f_X11_in x1 (0 : Int32) (2 : Int32)) fun c_1636 =>
  if c_1636 = 0 then (some ((-1000000002 : Int32), I_1635))
  else (bnd (0 : Int32) fun x2_1637 =>
  bnd (-1 : Int32) fun x3_1638 =>
  bnd (-1 : Int32) fun x4_1639 =>
  bnd (1 : Int32) fun x5_1640 =>
  L_X11_quick_27 (fun x2_1663 x3_1664 x4_1665 => if x1 = 0 then (some (x2_1663, I_1635))
  else (if x1 = (1 : Int32) then (some (x3_1664, I_1635))
  else (some (x4_1665, I_1635)))) x1 I_1635 F FU x2_1637 x3_1638 x4_1639 x5_1640)
set_option maxRecDepth 100000 in
set_option maxHeartbeats 4000000 in
theorem g_L_X11_quick_27 {X : XT} {x1 : Int32} {I : WI} {F : WF} {J : WI} {K : WF} {a : Int32 × WI} {k : Int32 → Int32 → Int32 → Option (Int32 × WI)} (hk : ∀ (e2 : Int32) (e3 : Int32) (e4 : Int32), (k e2 e3 e4 = some a → GG X md_X11_quick (rmD 2) (gv_Z X (rmD 2).cells (rmD 2).slots (some (.int a.1)) (mkW J K a.2 F)) 0 0 67 [(1, .int x1), (2, .int e2), (3, .int e3), (4, .int e4)] [] (mkW J K I F))) : ∀ (n : Nat) (x2 : Int32) (x3 : Int32) (x4 : Int32) (x5 : Int32), L_X11_quick_27 k x1 I F n x2 x3 x4 x5 = some a → GG X md_X11_quick (rmD 2) (gv_Z X (rmD 2).cells (rmD 2).slots (some (.int a.1)) (mkW J K a.2 F)) 0 0 27 [(0, .ref 209), (1, .int x1), (2, .int x2), (3, .int x3), (4, .int x4), (5, .int x5)] [] (mkW J K I F) := by
  intro n
  induction n with
  | zero =>
    intro x2 x3 x4 x5 h
    rw [L_X11_quick_27] at h
    cases h
  | succ n ih =>
    intro x2 x3 x4 x5 h
    rw [L_X11_quick_27] at h
    refine G_iload (pc2 := 29) 5 rfl dX11_quick_27 rfl ?_
    refine G_bipush (pc2 := 31) dX11_quick_29 ib_40 rfl ?_
    refine B_icmp_gt (tgt := 67) (pc2 := 34) h dX11_quick_31 (by decide) rfl (fun _ h => ?_) (fun _ h => ?_)
    · refine G_sub (ls' := [(1, .int x1), (2, .int x2), (3, .int x3), (4, .int x4)]) [1, 2, 3, 4] rfl ?_
      exact hk x2 x3 x4 h
    · refine G_aload_n (pc2 := 35) 0 rfl dX11_quick_34 rfl rfl ?_
      refine G_iload (pc2 := 37) 5 rfl dX11_quick_35 rfl ?_
      obtain ⟨c_1652, hc_1652, h⟩ := ob_e h
      refine B_callV (pc2 := 40) si_X11_244 (c_X11_isAsSeen hc_1652) (qo_209 _ _ _ _) rfl rfl rfl (st := []) (stq := [.int c_1652]) rfl (by decide) (by decide) (Nat.le_of_ble_eq_true rfl) mkW_ll dX11_quick_37 rfl rfl ?_ ⟨rfl, rfl⟩
      refine jn_e (Gj := True) (fun (j : Int32 → Int32 → Int32 → Option (Int32 × WI)) => ∀ (x2_1654 : Int32) (x3_1655 : Int32) (x4_1656 : Int32), j x2_1654 x3_1655 x4_1656 = some a → GG X md_X11_quick (rmD 2) (gv_Z X (rmD 2).cells (rmD 2).slots (some (.int a.1)) (mkW J K a.2 F)) 0 0 61 [(0, .ref 209), (1, .int x1), (2, .int x2_1654), (3, .int x3_1655), (4, .int x4_1656), (5, .int x5)] [] (mkW J K I F)) h (fun x2_1654 x3_1655 x4_1656 h => ?_) (fun j61_1653 hj61_1653 h => ?_)
      · refine B_iinc (pc2 := 64) 5 (fun x5_1657 => [(5, .int x5_1657), (0, .ref 209), (1, .int x1), (2, .int x2_1654), (3, .int x3_1655), (4, .int x4_1656)]) h rfl dX11_quick_61 ic_1 (by decide) (fun _ => rfl) rfl (fun x5_1657 h => ?_)
        refine G_goto (tgt := 27) dX11_quick_64 (by decide) ?_
        refine G_sub (ls' := [(0, .ref 209), (1, .int x1), (2, .int x2_1654), (3, .int x3_1655), (4, .int x4_1656), (5, .int x5_1657)]) [1, 2, 3, 4, 5, 0] rfl ?_
        exact ih x2_1654 x3_1655 x4_1656 x5_1657 h
      refine B_if_eq (tgt := 61) (pc2 := 43) h dX11_quick_40 (by decide) rfl (fun _ h => ?_) (fun _ h => ?_)
      · exact hj61_1653 x2 x3 x4 h
      · refine G_iload_n (pc2 := 44) 2 rfl dX11_quick_43 rfl rfl ?_
        refine jn_e (Gj := True) (fun (j : Int32 → Option (Int32 × WI)) => ∀ (s_1659 : Int32), j s_1659 = some a → GG X md_X11_quick (rmD 2) (gv_Z X (rmD 2).cells (rmD 2).slots (some (.int a.1)) (mkW J K a.2 F)) 0 0 53 [(0, .ref 209), (1, .int x1), (2, .int x2), (5, .int x5)] [.int s_1659] (mkW J K I F)) h (fun s_1659 h => ?_) (fun j53_1658 hj53_1658 h => ?_)
        · refine B_istore_n (pc2 := 54) (fun x3_1660 => [(3, .int x3_1660), (0, .ref 209), (1, .int x1), (2, .int x2), (5, .int x5)]) h dX11_quick_53 rfl (by decide) (fun _ => rfl) rfl (fun x3_1660 h => ?_)
          refine G_iload (pc2 := 56) 4 rfl dX11_quick_54 rfl ?_
          refine B_istore (pc2 := 58) (fun x4_1661 => [(4, .int x4_1661), (3, .int x3_1660), (0, .ref 209), (1, .int x1), (2, .int x2), (5, .int x5)]) h dX11_quick_56 (by decide) (fun _ => rfl) rfl (fun x4_1661 h => ?_)
          refine B_iinc (pc2 := 61) 4 (fun x2_1662 => [(2, .int x2_1662), (4, .int x4_1661), (3, .int x3_1660), (0, .ref 209), (1, .int x1), (5, .int x5)]) h rfl dX11_quick_58 ic_1 (by decide) (fun _ => rfl) rfl (fun x2_1662 h => ?_)
          refine G_sub (ls' := [(0, .ref 209), (1, .int x1), (2, .int x2_1662), (3, .int x3_1660), (4, .int x4_1661), (5, .int x5)]) [3, 4, 0, 2, 1, 5] rfl ?_
          exact hj61_1653 x2_1662 x3_1660 x4_1661 h
        refine B_if_ne (tgt := 52) (pc2 := 47) h dX11_quick_44 (by decide) rfl (fun _ h => ?_) (fun _ h => ?_)
        · refine G_iload_n (pc2 := 53) 3 rfl dX11_quick_52 rfl rfl ?_
          refine G_sub (ls' := [(0, .ref 209), (1, .int x1), (2, .int x2), (5, .int x5)]) [0, 1, 2, 5] rfl ?_
          exact hj53_1658 x3 h
        · refine G_iload (pc2 := 49) 5 rfl dX11_quick_47 rfl ?_
          refine G_goto (tgt := 53) dX11_quick_49 (by decide) ?_
          refine G_sub (ls' := [(0, .ref 209), (1, .int x1), (2, .int x2), (5, .int x5)]) [0, 1, 2, 5] rfl ?_
          exact hj53_1658 x5 h
set_option maxRecDepth 100000 in
set_option maxHeartbeats 4000000 in
theorem c_X11_quick {x1 : Int32} {I : WI} {F : WF} {J : WI} {K : WF} {a : Int32 × WI} (h : f_X11_quick x1 I F = some a) : CT md_X11_quick yX11_quick (rmD 2) [.ref 209, .int x1] (mkW J K I F) (some (.int a.1)) (mkW J K a.2 F) := CT_of pn_X11 ⟨rfl, rfl⟩ (Nat.le_of_ble_eq_true rfl) (fun X => by
  show GG X md_X11_quick (rmD 2) _ 0 0 0 [(0, .ref 209), (1, .int x1)] [] (mkW J K I F)
  unfold f_X11_quick at h
  refine G_aload_n (pc2 := 1) 0 rfl dX11_quick_0 rfl rfl ?_
  refine G_iconst (pc2 := 2) dX11_quick_1 ic_0 rfl ?_
  refine P_209_0 (pc2 := 5) h kw_902 dX11_quick_2 rfl (fun I_1635 h => ?_)
  refine G_iload_n (pc2 := 6) 1 rfl dX11_quick_5 rfl rfl ?_
  refine G_iconst (pc2 := 7) dX11_quick_6 ic_0 rfl ?_
  refine G_iconst (pc2 := 8) dX11_quick_7 ic_2 rfl ?_
  obtain ⟨c_1636, hc_1636, h⟩ := ob_e h
  refine B_callS (pc2 := 11) si_X11_66 (c_X11_in hc_1636) rfl (st := []) (stq := [.int c_1636]) rfl (by decide) (by decide) (Nat.le_of_ble_eq_true rfl) rfl dX11_quick_8 rfl rfl ?_ ⟨rfl, rfl⟩
  refine B_if_ne (tgt := 17) (pc2 := 14) h dX11_quick_11 (by decide) rfl (fun _ h => ?_) (fun _ h => ?_)
  · refine G_iconst (pc2 := 18) dX11_quick_17 ic_0 rfl ?_
    refine B_istore_n (pc2 := 19) (fun x2_1637 => [(2, .int x2_1637), (0, .ref 209), (1, .int x1)]) h dX11_quick_18 rfl (by decide) (fun _ => rfl) rfl (fun x2_1637 h => ?_)
    refine G_iconst (pc2 := 20) dX11_quick_19 ic_m1 rfl ?_
    refine B_istore_n (pc2 := 21) (fun x3_1638 => [(3, .int x3_1638), (2, .int x2_1637), (0, .ref 209), (1, .int x1)]) h dX11_quick_20 rfl (by decide) (fun _ => rfl) rfl (fun x3_1638 h => ?_)
    refine G_iconst (pc2 := 22) dX11_quick_21 ic_m1 rfl ?_
    refine B_istore (pc2 := 24) (fun x4_1639 => [(4, .int x4_1639), (3, .int x3_1638), (2, .int x2_1637), (0, .ref 209), (1, .int x1)]) h dX11_quick_22 (by decide) (fun _ => rfl) rfl (fun x4_1639 h => ?_)
    refine G_iconst (pc2 := 25) dX11_quick_24 ic_1 rfl ?_
    refine B_istore (pc2 := 27) (fun x5_1640 => [(5, .int x5_1640), (4, .int x4_1639), (3, .int x3_1638), (2, .int x2_1637), (0, .ref 209), (1, .int x1)]) h dX11_quick_25 (by decide) (fun _ => rfl) rfl (fun x5_1640 h => ?_)
    refine G_sub (ls' := [(0, .ref 209), (1, .int x1), (2, .int x2_1637), (3, .int x3_1638), (4, .int x4_1639), (5, .int x5_1640)]) [4, 5, 3, 2, 1, 0] rfl ?_
    refine g_L_X11_quick_27 (fun x2_1663 x3_1664 x4_1665 h => ?_) FU x2_1637 x3_1638 x4_1639 x5_1640 h
    refine G_iload_n (pc2 := 68) 0 rfl dX11_quick_67 rfl rfl ?_
    refine B_if_ne (tgt := 75) (pc2 := 71) h dX11_quick_68 (by decide) rfl (fun _ h => ?_) (fun _ h => ?_)
    · refine G_iload_n (pc2 := 76) 0 rfl dX11_quick_75 rfl rfl ?_
      refine G_iconst (pc2 := 77) dX11_quick_76 ic_1 rfl ?_
      refine B_icmp_ne (tgt := 84) (pc2 := 80) h dX11_quick_77 (by decide) rfl (fun _ h => ?_) (fun _ h => ?_)
      · refine G_iload (pc2 := 86) 3 rfl dX11_quick_84 rfl ?_
        have ha := Option.some.inj h
        subst ha
        exact G_iret rfl dX11_quick_86
      · refine G_iload_n (pc2 := 81) 2 rfl dX11_quick_80 rfl rfl ?_
        refine G_goto (tgt := 86) dX11_quick_81 (by decide) ?_
        have ha := Option.some.inj h
        subst ha
        exact G_iret rfl dX11_quick_86
    · refine G_iload_n (pc2 := 72) 1 rfl dX11_quick_71 rfl rfl ?_
      refine G_goto (tgt := 86) dX11_quick_72 (by decide) ?_
      have ha := Option.some.inj h
      subst ha
      exact G_iret rfl dX11_quick_86
  · refine G_ldc (pc2 := 16) kw_989 dX11_quick_14 rfl ?_
    have ha := Option.some.inj h
    subst ha
    exact G_iret rfl dX11_quick_16)
def L_X11_watch_9 (k : Int32 → Option (Int32 × WI))  (I : WI) (F : WF) : Nat → Int32 → Int32 → Option (Int32 × WI)
  | 0, _, _ => none
  | n + 1, x1, x2 =>
  if (40 : Int32) < x2 then (k x1)
  else (Option.bind (f_X11_isAsSeen x2 I F) fun c_1669 =>
  bnd (fun (s_1671 : Int32) => bnd (x1 + s_1671) fun x1_1672 =>
  bnd (x2 + (1 : Int32)) fun x2_1673 =>
  L_X11_watch_9 k I F n x1_1672 x2_1673) fun j29_1670 =>
  if c_1669 = 0 then (j29_1670 (0 : Int32))
  else (j29_1670 (1 : Int32)))
def L_X11_watch_57 (k : Int32 → Option (Int32 × WI)) (x1 : Int32) (x2 : Int32) (x3 : Int32) (x4 : Int32) (I : WI) (F : WF) : Nat → Int32 → Int32 → Option (Int32 × WI)
  | 0, _, _ => none
  | n + 1, x5, x6 =>
  if x4 < x6 then (k x5)
  else (Option.bind (f_X11_isAsSeen x6 I F) fun c_1680 =>
  bnd (fun (s_1682 : Int32) => bnd (x5 + s_1682) fun x5_1683 =>
  bnd (x6 + (1 : Int32)) fun x6_1684 =>
  L_X11_watch_57 k x1 x2 x3 x4 I F n x5_1683 x6_1684) fun j80_1681 =>
  if c_1680 = 0 then (j80_1681 (0 : Int32))
  else (j80_1681 (1 : Int32)))
def L_X11_watch_44 (k : Int32 → Option (Int32 × WI)) (x1 : Int32) (I : WI) (F : WF) : Nat → Int32 → Int32 → Int32 → Option (Int32 × WI)
  | 0, _, _, _ => none
  | n + 1, x2, x3, x4 =>
  if (40 : Int32) < x4 then (k x2)
  else (bnd (0 : Int32) fun x5_1678 =>
  bnd (1 : Int32) fun x6_1679 =>
  L_X11_watch_57 (fun x5_1685 => bnd (fun (s_1687 : Int32) => bnd s_1687 fun x6_1688 =>
  bnd (fun (s_1690 : Int32) => bnd s_1690 fun x2_1691 =>
  bnd (fun (s_1693 : Int32) => bnd s_1693 fun x3_1694 =>
  bnd (x4 + (1 : Int32)) fun x4_1695 =>
  L_X11_watch_44 k x1 I F n x2_1691 x3_1694 x4_1695) fun j134_1692 =>
  if x3 ≤ x6_1688 then (j134_1692 x3)
  else (j134_1692 x6_1688)) fun j121_1689 =>
  if x3 ≤ x6_1688 then (j121_1689 x2)
  else (j121_1689 x4)) fun j107_1686 =>
  if x5_1685 ≤ (x1 - x5_1685) then (j107_1686 (x1 - x5_1685))
  else (j107_1686 x5_1685)) x1 x2 x3 x4 I F FU x5_1678 x6_1679)
def f_X11_watch (I : WI) (F : WF) : Option (Int32 × WI) :=
  bnd (upd I 0 (0 : Int32)) fun I_1666 =>
  bnd (0 : Int32) fun x1_1667 =>
  bnd (1 : Int32) fun x2_1668 =>
  L_X11_watch_9 (fun x1_1674 => bnd (-1 : Int32) fun x2_1675 =>
  bnd x1_1674 fun x3_1676 =>
  bnd (0 : Int32) fun x4_1677 =>
  L_X11_watch_44 (fun x2_1696 => some (x2_1696, I_1666)) x1_1674 I_1666 F FU x2_1675 x3_1676 x4_1677) I_1666 F FU x1_1667 x2_1668
set_option maxRecDepth 100000 in
set_option maxHeartbeats 4000000 in
theorem g_L_X11_watch_9 {X : XT} {I : WI} {F : WF} {J : WI} {K : WF} {a : Int32 × WI} {k : Int32 → Option (Int32 × WI)} (hk : ∀ (e1 : Int32), (k e1 = some a → GG X md_X11_watch (rmD 2) (gv_Z X (rmD 2).cells (rmD 2).slots (some (.int a.1)) (mkW J K a.2 F)) 0 0 37 [(0, .ref 209), (1, .int e1)] [] (mkW J K I F))) : ∀ (n : Nat) (x1 : Int32) (x2 : Int32), L_X11_watch_9 k I F n x1 x2 = some a → GG X md_X11_watch (rmD 2) (gv_Z X (rmD 2).cells (rmD 2).slots (some (.int a.1)) (mkW J K a.2 F)) 0 0 9 [(0, .ref 209), (1, .int x1), (2, .int x2)] [] (mkW J K I F) := by
  intro n
  induction n with
  | zero =>
    intro x1 x2 h
    rw [L_X11_watch_9] at h
    cases h
  | succ n ih =>
    intro x1 x2 h
    rw [L_X11_watch_9] at h
    refine G_iload_n (pc2 := 10) 2 rfl dX11_watch_9 rfl rfl ?_
    refine G_bipush (pc2 := 12) dX11_watch_10 ib_40 rfl ?_
    refine B_icmp_gt (tgt := 37) (pc2 := 15) h dX11_watch_12 (by decide) rfl (fun _ h => ?_) (fun _ h => ?_)
    · refine G_sub (ls' := [(0, .ref 209), (1, .int x1)]) [0, 1] rfl ?_
      exact hk x1 h
    · refine G_iload_n (pc2 := 16) 1 rfl dX11_watch_15 rfl rfl ?_
      refine G_aload_n (pc2 := 17) 0 rfl dX11_watch_16 rfl rfl ?_
      refine G_iload_n (pc2 := 18) 2 rfl dX11_watch_17 rfl rfl ?_
      obtain ⟨c_1669, hc_1669, h⟩ := ob_e h
      refine B_callV (pc2 := 21) si_X11_244 (c_X11_isAsSeen hc_1669) (qo_209 _ _ _ _) rfl rfl rfl (st := [.int x1]) (stq := [.int c_1669, .int x1]) rfl (by decide) (by decide) (Nat.le_of_ble_eq_true rfl) mkW_ll dX11_watch_18 rfl rfl ?_ ⟨rfl, rfl⟩
      refine jn_e (Gj := True) (fun (j : Int32 → Option (Int32 × WI)) => ∀ (s_1671 : Int32), j s_1671 = some a → GG X md_X11_watch (rmD 2) (gv_Z X (rmD 2).cells (rmD 2).slots (some (.int a.1)) (mkW J K a.2 F)) 0 0 29 [(0, .ref 209), (2, .int x2)] [.int s_1671, .int x1] (mkW J K I F)) h (fun s_1671 h => ?_) (fun j29_1670 hj29_1670 h => ?_)
      · refine G_iadd (pc2 := 30) dX11_watch_29 rfl ?_
        refine B_istore_n (pc2 := 31) (fun x1_1672 => [(1, .int x1_1672), (0, .ref 209), (2, .int x2)]) h dX11_watch_30 rfl (by decide) (fun _ => rfl) rfl (fun x1_1672 h => ?_)
        refine B_iinc (pc2 := 34) 2 (fun x2_1673 => [(2, .int x2_1673), (1, .int x1_1672), (0, .ref 209)]) h rfl dX11_watch_31 ic_1 (by decide) (fun _ => rfl) rfl (fun x2_1673 h => ?_)
        refine G_goto (tgt := 9) dX11_watch_34 (by decide) ?_
        refine G_sub (ls' := [(0, .ref 209), (1, .int x1_1672), (2, .int x2_1673)]) [2, 1, 0] rfl ?_
        exact ih x1_1672 x2_1673 h
      refine B_if_eq (tgt := 28) (pc2 := 24) h dX11_watch_21 (by decide) rfl (fun _ h => ?_) (fun _ h => ?_)
      · refine G_iconst (pc2 := 29) dX11_watch_28 ic_0 rfl ?_
        refine G_sub (ls' := [(0, .ref 209), (2, .int x2)]) [0, 2] rfl ?_
        exact hj29_1670 (0 : Int32) h
      · refine G_iconst (pc2 := 25) dX11_watch_24 ic_1 rfl ?_
        refine G_goto (tgt := 29) dX11_watch_25 (by decide) ?_
        refine G_sub (ls' := [(0, .ref 209), (2, .int x2)]) [0, 2] rfl ?_
        exact hj29_1670 (1 : Int32) h
set_option maxRecDepth 100000 in
set_option maxHeartbeats 4000000 in
theorem g_L_X11_watch_57 {X : XT} {x1 : Int32} {x2 : Int32} {x3 : Int32} {x4 : Int32} {I : WI} {F : WF} {J : WI} {K : WF} {a : Int32 × WI} {k : Int32 → Option (Int32 × WI)} (hk : ∀ (e5 : Int32), (k e5 = some a → GG X md_X11_watch (rmD 2) (gv_Z X (rmD 2).cells (rmD 2).slots (some (.int a.1)) (mkW J K a.2 F)) 0 0 89 [(0, .ref 209), (1, .int x1), (2, .int x2), (3, .int x3), (4, .int x4), (5, .int e5)] [] (mkW J K I F))) : ∀ (n : Nat) (x5 : Int32) (x6 : Int32), L_X11_watch_57 k x1 x2 x3 x4 I F n x5 x6 = some a → GG X md_X11_watch (rmD 2) (gv_Z X (rmD 2).cells (rmD 2).slots (some (.int a.1)) (mkW J K a.2 F)) 0 0 57 [(0, .ref 209), (1, .int x1), (2, .int x2), (3, .int x3), (4, .int x4), (5, .int x5), (6, .int x6)] [] (mkW J K I F) := by
  intro n
  induction n with
  | zero =>
    intro x5 x6 h
    rw [L_X11_watch_57] at h
    cases h
  | succ n ih =>
    intro x5 x6 h
    rw [L_X11_watch_57] at h
    refine G_iload (pc2 := 59) 6 rfl dX11_watch_57 rfl ?_
    refine G_iload (pc2 := 61) 4 rfl dX11_watch_59 rfl ?_
    refine B_icmp_gt (tgt := 89) (pc2 := 64) h dX11_watch_61 (by decide) rfl (fun _ h => ?_) (fun _ h => ?_)
    · refine G_sub (ls' := [(0, .ref 209), (1, .int x1), (2, .int x2), (3, .int x3), (4, .int x4), (5, .int x5)]) [0, 1, 2, 3, 4, 5] rfl ?_
      exact hk x5 h
    · refine G_iload (pc2 := 66) 5 rfl dX11_watch_64 rfl ?_
      refine G_aload_n (pc2 := 67) 0 rfl dX11_watch_66 rfl rfl ?_
      refine G_iload (pc2 := 69) 6 rfl dX11_watch_67 rfl ?_
      obtain ⟨c_1680, hc_1680, h⟩ := ob_e h
      refine B_callV (pc2 := 72) si_X11_244 (c_X11_isAsSeen hc_1680) (qo_209 _ _ _ _) rfl rfl rfl (st := [.int x5]) (stq := [.int c_1680, .int x5]) rfl (by decide) (by decide) (Nat.le_of_ble_eq_true rfl) mkW_ll dX11_watch_69 rfl rfl ?_ ⟨rfl, rfl⟩
      refine jn_e (Gj := True) (fun (j : Int32 → Option (Int32 × WI)) => ∀ (s_1682 : Int32), j s_1682 = some a → GG X md_X11_watch (rmD 2) (gv_Z X (rmD 2).cells (rmD 2).slots (some (.int a.1)) (mkW J K a.2 F)) 0 0 80 [(0, .ref 209), (1, .int x1), (2, .int x2), (3, .int x3), (4, .int x4), (6, .int x6)] [.int s_1682, .int x5] (mkW J K I F)) h (fun s_1682 h => ?_) (fun j80_1681 hj80_1681 h => ?_)
      · refine G_iadd (pc2 := 81) dX11_watch_80 rfl ?_
        refine B_istore (pc2 := 83) (fun x5_1683 => [(5, .int x5_1683), (0, .ref 209), (1, .int x1), (2, .int x2), (3, .int x3), (4, .int x4), (6, .int x6)]) h dX11_watch_81 (by decide) (fun _ => rfl) rfl (fun x5_1683 h => ?_)
        refine B_iinc (pc2 := 86) 6 (fun x6_1684 => [(6, .int x6_1684), (5, .int x5_1683), (0, .ref 209), (1, .int x1), (2, .int x2), (3, .int x3), (4, .int x4)]) h rfl dX11_watch_83 ic_1 (by decide) (fun _ => rfl) rfl (fun x6_1684 h => ?_)
        refine G_goto (tgt := 57) dX11_watch_86 (by decide) ?_
        refine G_sub (ls' := [(0, .ref 209), (1, .int x1), (2, .int x2), (3, .int x3), (4, .int x4), (5, .int x5_1683), (6, .int x6_1684)]) [2, 3, 4, 5, 6, 1, 0] rfl ?_
        exact ih x5_1683 x6_1684 h
      refine B_if_eq (tgt := 79) (pc2 := 75) h dX11_watch_72 (by decide) rfl (fun _ h => ?_) (fun _ h => ?_)
      · refine G_iconst (pc2 := 80) dX11_watch_79 ic_0 rfl ?_
        refine G_sub (ls' := [(0, .ref 209), (1, .int x1), (2, .int x2), (3, .int x3), (4, .int x4), (6, .int x6)]) [0, 1, 2, 3, 4, 6] rfl ?_
        exact hj80_1681 (0 : Int32) h
      · refine G_iconst (pc2 := 76) dX11_watch_75 ic_1 rfl ?_
        refine G_goto (tgt := 80) dX11_watch_76 (by decide) ?_
        refine G_sub (ls' := [(0, .ref 209), (1, .int x1), (2, .int x2), (3, .int x3), (4, .int x4), (6, .int x6)]) [0, 1, 2, 3, 4, 6] rfl ?_
        exact hj80_1681 (1 : Int32) h
set_option maxRecDepth 100000 in
set_option maxHeartbeats 4000000 in
theorem g_L_X11_watch_44 {X : XT} {x1 : Int32} {I : WI} {F : WF} {J : WI} {K : WF} {a : Int32 × WI} {k : Int32 → Option (Int32 × WI)} (hk : ∀ (e2 : Int32), (k e2 = some a → GG X md_X11_watch (rmD 2) (gv_Z X (rmD 2).cells (rmD 2).slots (some (.int a.1)) (mkW J K a.2 F)) 0 0 141 [(2, .int e2)] [] (mkW J K I F))) : ∀ (n : Nat) (x2 : Int32) (x3 : Int32) (x4 : Int32), L_X11_watch_44 k x1 I F n x2 x3 x4 = some a → GG X md_X11_watch (rmD 2) (gv_Z X (rmD 2).cells (rmD 2).slots (some (.int a.1)) (mkW J K a.2 F)) 0 0 44 [(0, .ref 209), (1, .int x1), (2, .int x2), (3, .int x3), (4, .int x4)] [] (mkW J K I F) := by
  intro n
  induction n with
  | zero =>
    intro x2 x3 x4 h
    rw [L_X11_watch_44] at h
    cases h
  | succ n ih =>
    intro x2 x3 x4 h
    rw [L_X11_watch_44] at h
    refine G_iload (pc2 := 46) 4 rfl dX11_watch_44 rfl ?_
    refine G_bipush (pc2 := 48) dX11_watch_46 ib_40 rfl ?_
    refine B_icmp_gt (tgt := 141) (pc2 := 51) h dX11_watch_48 (by decide) rfl (fun _ h => ?_) (fun _ h => ?_)
    · refine G_sub (ls' := [(2, .int x2)]) [2] rfl ?_
      exact hk x2 h
    · refine G_iconst (pc2 := 52) dX11_watch_51 ic_0 rfl ?_
      refine B_istore (pc2 := 54) (fun x5_1678 => [(5, .int x5_1678), (0, .ref 209), (1, .int x1), (2, .int x2), (3, .int x3), (4, .int x4)]) h dX11_watch_52 (by decide) (fun _ => rfl) rfl (fun x5_1678 h => ?_)
      refine G_iconst (pc2 := 55) dX11_watch_54 ic_1 rfl ?_
      refine B_istore (pc2 := 57) (fun x6_1679 => [(6, .int x6_1679), (5, .int x5_1678), (0, .ref 209), (1, .int x1), (2, .int x2), (3, .int x3), (4, .int x4)]) h dX11_watch_55 (by decide) (fun _ => rfl) rfl (fun x6_1679 h => ?_)
      refine G_sub (ls' := [(0, .ref 209), (1, .int x1), (2, .int x2), (3, .int x3), (4, .int x4), (5, .int x5_1678), (6, .int x6_1679)]) [2, 3, 4, 5, 6, 1, 0] rfl ?_
      refine g_L_X11_watch_57 (fun x5_1685 h => ?_) FU x5_1678 x6_1679 h
      refine G_iload (pc2 := 91) 5 rfl dX11_watch_89 rfl ?_
      refine G_iload_n (pc2 := 92) 1 rfl dX11_watch_91 rfl rfl ?_
      refine G_iload (pc2 := 94) 5 rfl dX11_watch_92 rfl ?_
      refine G_isub (pc2 := 95) dX11_watch_94 rfl ?_
      refine jn_e (Gj := True) (fun (j : Int32 → Option (Int32 × WI)) => ∀ (s_1687 : Int32), j s_1687 = some a → GG X md_X11_watch (rmD 2) (gv_Z X (rmD 2).cells (rmD 2).slots (some (.int a.1)) (mkW J K a.2 F)) 0 0 107 [(0, .ref 209), (1, .int x1), (2, .int x2), (3, .int x3), (4, .int x4)] [.int s_1687] (mkW J K I F)) h (fun s_1687 h => ?_) (fun j107_1686 hj107_1686 h => ?_)
      · refine B_istore (pc2 := 109) (fun x6_1688 => [(6, .int x6_1688), (0, .ref 209), (1, .int x1), (2, .int x2), (3, .int x3), (4, .int x4)]) h dX11_watch_107 (by decide) (fun _ => rfl) rfl (fun x6_1688 h => ?_)
        refine G_iload (pc2 := 111) 0 rfl dX11_watch_109 rfl ?_
        refine G_iload_n (pc2 := 112) 4 rfl dX11_watch_111 rfl rfl ?_
        refine jn_e (Gj := True) (fun (j : Int32 → Option (Int32 × WI)) => ∀ (s_1690 : Int32), j s_1690 = some a → GG X md_X11_watch (rmD 2) (gv_Z X (rmD 2).cells (rmD 2).slots (some (.int a.1)) (mkW J K a.2 F)) 0 0 121 [(0, .ref 209), (1, .int x1), (3, .int x3), (4, .int x4), (6, .int x6_1688)] [.int s_1690] (mkW J K I F)) h (fun s_1690 h => ?_) (fun j121_1689 hj121_1689 h => ?_)
        · refine B_istore_n (pc2 := 122) (fun x2_1691 => [(2, .int x2_1691), (0, .ref 209), (1, .int x1), (3, .int x3), (4, .int x4), (6, .int x6_1688)]) h dX11_watch_121 rfl (by decide) (fun _ => rfl) rfl (fun x2_1691 h => ?_)
          refine G_iload (pc2 := 124) 5 rfl dX11_watch_122 rfl ?_
          refine G_iload_n (pc2 := 125) 3 rfl dX11_watch_124 rfl rfl ?_
          refine jn_e (Gj := True) (fun (j : Int32 → Option (Int32 × WI)) => ∀ (s_1693 : Int32), j s_1693 = some a → GG X md_X11_watch (rmD 2) (gv_Z X (rmD 2).cells (rmD 2).slots (some (.int a.1)) (mkW J K a.2 F)) 0 0 134 [(0, .ref 209), (1, .int x1), (2, .int x2_1691), (4, .int x4)] [.int s_1693] (mkW J K I F)) h (fun s_1693 h => ?_) (fun j134_1692 hj134_1692 h => ?_)
          · refine B_istore_n (pc2 := 135) (fun x3_1694 => [(3, .int x3_1694), (0, .ref 209), (1, .int x1), (2, .int x2_1691), (4, .int x4)]) h dX11_watch_134 rfl (by decide) (fun _ => rfl) rfl (fun x3_1694 h => ?_)
            refine B_iinc (pc2 := 138) 4 (fun x4_1695 => [(4, .int x4_1695), (3, .int x3_1694), (0, .ref 209), (1, .int x1), (2, .int x2_1691)]) h rfl dX11_watch_135 ic_1 (by decide) (fun _ => rfl) rfl (fun x4_1695 h => ?_)
            refine G_goto (tgt := 44) dX11_watch_138 (by decide) ?_
            refine G_sub (ls' := [(0, .ref 209), (1, .int x1), (2, .int x2_1691), (3, .int x3_1694), (4, .int x4_1695)]) [2, 3, 4, 1, 0] rfl ?_
            exact ih x2_1691 x3_1694 x4_1695 h
          refine B_icmp_ge (tgt := 133) (pc2 := 128) h dX11_watch_125 (by decide) rfl (fun _ h => ?_) (fun _ h => ?_)
          · refine G_iload_n (pc2 := 134) 3 rfl dX11_watch_133 rfl rfl ?_
            refine G_sub (ls' := [(0, .ref 209), (1, .int x1), (2, .int x2_1691), (4, .int x4)]) [1, 2, 0, 4] rfl ?_
            exact hj134_1692 x3 h
          · refine G_iload (pc2 := 130) 5 rfl dX11_watch_128 rfl ?_
            refine G_goto (tgt := 134) dX11_watch_130 (by decide) ?_
            refine G_sub (ls' := [(0, .ref 209), (1, .int x1), (2, .int x2_1691), (4, .int x4)]) [1, 2, 0, 4] rfl ?_
            exact hj134_1692 x6_1688 h
        refine B_icmp_ge (tgt := 120) (pc2 := 115) h dX11_watch_112 (by decide) rfl (fun _ h => ?_) (fun _ h => ?_)
        · refine G_iload_n (pc2 := 121) 3 rfl dX11_watch_120 rfl rfl ?_
          refine G_sub (ls' := [(0, .ref 209), (1, .int x1), (3, .int x3), (4, .int x4), (6, .int x6_1688)]) [1, 2, 4, 5, 0] rfl ?_
          exact hj121_1689 x2 h
        · refine G_iload (pc2 := 117) 5 rfl dX11_watch_115 rfl ?_
          refine G_goto (tgt := 121) dX11_watch_117 (by decide) ?_
          refine G_sub (ls' := [(0, .ref 209), (1, .int x1), (3, .int x3), (4, .int x4), (6, .int x6_1688)]) [1, 2, 4, 5, 0] rfl ?_
          exact hj121_1689 x4 h
      refine B_icmp_le (tgt := 103) (pc2 := 98) h dX11_watch_95 (by decide) rfl (fun _ h => ?_) (fun _ h => ?_)
      · refine G_iload_n (pc2 := 104) 1 rfl dX11_watch_103 rfl rfl ?_
        refine G_iload (pc2 := 106) 5 rfl dX11_watch_104 rfl ?_
        refine G_isub (pc2 := 107) dX11_watch_106 rfl ?_
        refine G_sub (ls' := [(0, .ref 209), (1, .int x1), (2, .int x2), (3, .int x3), (4, .int x4)]) [0, 1, 2, 3, 4] rfl ?_
        exact hj107_1686 (x1 - x5_1685) h
      · refine G_iload (pc2 := 100) 5 rfl dX11_watch_98 rfl ?_
        refine G_goto (tgt := 107) dX11_watch_100 (by decide) ?_
        refine G_sub (ls' := [(0, .ref 209), (1, .int x1), (2, .int x2), (3, .int x3), (4, .int x4)]) [0, 1, 2, 3, 4] rfl ?_
        exact hj107_1686 x5_1685 h
set_option maxRecDepth 100000 in
set_option maxHeartbeats 4000000 in
theorem c_X11_watch {I : WI} {F : WF} {J : WI} {K : WF} {a : Int32 × WI} (h : f_X11_watch  I F = some a) : CT md_X11_watch yX11_watch (rmD 2) [.ref 209] (mkW J K I F) (some (.int a.1)) (mkW J K a.2 F) := CT_of pn_X11 ⟨rfl, rfl⟩ (Nat.le_of_ble_eq_true rfl) (fun X => by
  show GG X md_X11_watch (rmD 2) _ 0 0 0 [(0, .ref 209)] [] (mkW J K I F)
  unfold f_X11_watch at h
  refine G_aload_n (pc2 := 1) 0 rfl dX11_watch_0 rfl rfl ?_
  refine G_iconst (pc2 := 2) dX11_watch_1 ic_0 rfl ?_
  refine P_209_0 (pc2 := 5) h kw_902 dX11_watch_2 rfl (fun I_1666 h => ?_)
  refine G_iconst (pc2 := 6) dX11_watch_5 ic_0 rfl ?_
  refine B_istore_n (pc2 := 7) (fun x1_1667 => [(1, .int x1_1667), (0, .ref 209)]) h dX11_watch_6 rfl (by decide) (fun _ => rfl) rfl (fun x1_1667 h => ?_)
  refine G_iconst (pc2 := 8) dX11_watch_7 ic_1 rfl ?_
  refine B_istore_n (pc2 := 9) (fun x2_1668 => [(2, .int x2_1668), (1, .int x1_1667), (0, .ref 209)]) h dX11_watch_8 rfl (by decide) (fun _ => rfl) rfl (fun x2_1668 h => ?_)
  refine G_sub (ls' := [(0, .ref 209), (1, .int x1_1667), (2, .int x2_1668)]) [2, 1, 0] rfl ?_
  refine g_L_X11_watch_9 (fun x1_1674 h => ?_) FU x1_1667 x2_1668 h
  refine G_iconst (pc2 := 38) dX11_watch_37 ic_m1 rfl ?_
  refine B_istore_n (pc2 := 39) (fun x2_1675 => [(2, .int x2_1675), (0, .ref 209), (1, .int x1_1674)]) h dX11_watch_38 rfl (by decide) (fun _ => rfl) rfl (fun x2_1675 h => ?_)
  refine G_iload_n (pc2 := 40) 2 rfl dX11_watch_39 rfl rfl ?_
  refine B_istore_n (pc2 := 41) (fun x3_1676 => [(3, .int x3_1676), (2, .int x2_1675), (0, .ref 209), (1, .int x1_1674)]) h dX11_watch_40 rfl (by decide) (fun _ => rfl) rfl (fun x3_1676 h => ?_)
  refine G_iconst (pc2 := 42) dX11_watch_41 ic_0 rfl ?_
  refine B_istore (pc2 := 44) (fun x4_1677 => [(4, .int x4_1677), (3, .int x3_1676), (2, .int x2_1675), (0, .ref 209), (1, .int x1_1674)]) h dX11_watch_42 (by decide) (fun _ => rfl) rfl (fun x4_1677 h => ?_)
  refine G_sub (ls' := [(0, .ref 209), (1, .int x1_1674), (2, .int x2_1675), (3, .int x3_1676), (4, .int x4_1677)]) [3, 4, 2, 1, 0] rfl ?_
  refine g_L_X11_watch_44 (fun x2_1696 h => ?_) FU x2_1675 x3_1676 x4_1677 h
  refine G_iload_n (pc2 := 142) 0 rfl dX11_watch_141 rfl rfl ?_
  have ha := Option.some.inj h
  subst ha
  exact G_iret rfl dX11_watch_142)
def f_X11_write (x1 : Int32) (x2 : Int32) (I : WI) (F : WF) : Option (Int32 × WI × WF) :=
  bnd (upd I 0 (0 : Int32)) fun I_1697 =>
  Option.bind (f_X11_isJumper x1 I_1697 F) fun c_1698 =>
  if c_1698 = 0 then (some ((-1000000001 : Int32), I_1697, F))
  else (Option.bind (f_X11_isPlace x2 I_1697 F) fun c_1699 =>
  if c_1699 = 0 then (some ((-1000000001 : Int32), I_1697, F))
  else (if (I_1697 8) = (15 : Int32) then (some ((-1000000004 : Int32), I_1697, F))
  else (ixG (I_1697 8) 15 (bnd (uF F 9 (upd (F 9) (I_1697 8).toNatClampNeg x1)) fun F_1700 =>
  ixG (I_1697 8) 15 (bnd (uF F_1700 10 (upd (F_1700 10) (I_1697 8).toNatClampNeg x2)) fun F_1701 =>
  bnd (upd I_1697 8 ((I_1697 8) + (1 : Int32))) fun I_1702 =>
  some ((I_1702 8), I_1702, F_1701))))))
set_option maxRecDepth 100000 in
set_option maxHeartbeats 4000000 in
theorem c_X11_write {x1 : Int32} {x2 : Int32} {I : WI} {F : WF} {J : WI} {K : WF} {a : Int32 × WI × WF} (h : f_X11_write x1 x2 I F = some a) : CT md_X11_write yX11_write (rmD 3) [.ref 209, .int x1, .int x2] (mkW J K I F) (some (.int a.1)) (mkW J K a.2.1 a.2.2) := CT_of pn_X11 ⟨rfl, rfl⟩ (Nat.le_of_ble_eq_true rfl) (fun X => by
  show GG X md_X11_write (rmD 3) _ 0 0 0 [(0, .ref 209), (1, .int x1), (2, .int x2)] [] (mkW J K I F)
  unfold f_X11_write at h
  refine G_aload_n (pc2 := 1) 0 rfl dX11_write_0 rfl rfl ?_
  refine G_iconst (pc2 := 2) dX11_write_1 ic_0 rfl ?_
  refine P_209_0 (pc2 := 5) h kw_902 dX11_write_2 rfl (fun I_1697 h => ?_)
  refine G_aload_n (pc2 := 6) 0 rfl dX11_write_5 rfl rfl ?_
  refine G_iload_n (pc2 := 7) 1 rfl dX11_write_6 rfl rfl ?_
  obtain ⟨c_1698, hc_1698, h⟩ := ob_e h
  refine B_callV (pc2 := 10) si_X11_186 (c_X11_isJumper hc_1698) (qo_209 _ _ _ _) rfl rfl rfl (st := []) (stq := [.int c_1698]) rfl (by decide) (by decide) (Nat.le_of_ble_eq_true rfl) mkW_ll dX11_write_7 rfl rfl ?_ ⟨rfl, rfl⟩
  refine B_if_eq (tgt := 21) (pc2 := 13) h dX11_write_10 (by decide) rfl (fun _ h => ?_) (fun _ h => ?_)
  · refine G_ldc (pc2 := 23) kw_1094 dX11_write_21 rfl ?_
    have ha := Option.some.inj h
    subst ha
    exact G_iret rfl dX11_write_23
  · refine G_aload_n (pc2 := 14) 0 rfl dX11_write_13 rfl rfl ?_
    refine G_iload_n (pc2 := 15) 2 rfl dX11_write_14 rfl rfl ?_
    obtain ⟨c_1699, hc_1699, h⟩ := ob_e h
    refine B_callV (pc2 := 18) si_X11_223 (c_X11_isPlace hc_1699) (qo_209 _ _ _ _) rfl rfl rfl (st := []) (stq := [.int c_1699]) rfl (by decide) (by decide) (Nat.le_of_ble_eq_true rfl) mkW_ll dX11_write_15 rfl rfl ?_ ⟨rfl, rfl⟩
    refine B_if_ne (tgt := 24) (pc2 := 21) h dX11_write_18 (by decide) rfl (fun _ h => ?_) (fun _ h => ?_)
    · refine G_aload_n (pc2 := 25) 0 rfl dX11_write_24 rfl rfl ?_
      refine T_209_19 (pc2 := 28) kw_921 dX11_write_25 rfl ?_
      refine G_bipush (pc2 := 30) dX11_write_28 ib_15 rfl ?_
      refine B_icmp_ne (tgt := 36) (pc2 := 33) h dX11_write_30 (by decide) rfl (fun _ h => ?_) (fun _ h => ?_)
      · refine G_aload_n (pc2 := 37) 0 rfl dX11_write_36 rfl rfl ?_
        refine T_209_17 (pc2 := 40) kw_919 dX11_write_37 rfl ?_
        refine G_aload_n (pc2 := 41) 0 rfl dX11_write_40 rfl rfl ?_
        refine T_209_19 (pc2 := 44) kw_921 dX11_write_41 rfl ?_
        refine G_iload_n (pc2 := 45) 1 rfl dX11_write_44 rfl rfl ?_
        refine SM (pc2 := 46) (fa_219 _ _ _ _) h dX11_write_45 rfl (fun F_1700 h => ?_)
        refine G_aload_n (pc2 := 47) 0 rfl dX11_write_46 rfl rfl ?_
        refine T_209_18 (pc2 := 50) kw_920 dX11_write_47 rfl ?_
        refine G_aload_n (pc2 := 51) 0 rfl dX11_write_50 rfl rfl ?_
        refine T_209_19 (pc2 := 54) kw_921 dX11_write_51 rfl ?_
        refine G_iload_n (pc2 := 55) 2 rfl dX11_write_54 rfl rfl ?_
        refine SM (pc2 := 56) (fa_220 _ _ _ _) h dX11_write_55 rfl (fun F_1701 h => ?_)
        refine G_aload_n (pc2 := 57) 0 rfl dX11_write_56 rfl rfl ?_
        refine G_dup (pc2 := 58) rfl dX11_write_57 rfl ?_
        refine T_209_19 (pc2 := 61) kw_921 dX11_write_58 rfl ?_
        refine G_iconst (pc2 := 62) dX11_write_61 ic_1 rfl ?_
        refine G_iadd (pc2 := 63) dX11_write_62 rfl ?_
        refine P_209_19 (pc2 := 66) h kw_921 dX11_write_63 rfl (fun I_1702 h => ?_)
        refine G_aload_n (pc2 := 67) 0 rfl dX11_write_66 rfl rfl ?_
        refine T_209_19 (pc2 := 70) kw_921 dX11_write_67 rfl ?_
        have ha := Option.some.inj h
        subst ha
        exact G_iret rfl dX11_write_70
      · refine G_ldc (pc2 := 35) kw_990 dX11_write_33 rfl ?_
        have ha := Option.some.inj h
        subst ha
        exact G_iret rfl dX11_write_35
    · refine G_ldc (pc2 := 23) kw_1094 dX11_write_21 rfl ?_
      have ha := Option.some.inj h
      subst ha
      exact G_iret rfl dX11_write_23)
def f_X11_tear (I : WI) (F : WF) : Option (Int32 × WI) :=
  bnd (upd I 0 (0 : Int32)) fun I_1703 =>
  bnd ((I_1703 7) + (I_1703 8)) fun x1_1704 =>
  bnd (upd I_1703 7 (0 : Int32)) fun I_1705 =>
  bnd (upd I_1705 8 (0 : Int32)) fun I_1706 =>
  some (x1_1704, I_1706)
set_option maxRecDepth 100000 in
set_option maxHeartbeats 4000000 in
theorem c_X11_tear {I : WI} {F : WF} {J : WI} {K : WF} {a : Int32 × WI} (h : f_X11_tear  I F = some a) : CT md_X11_tear yX11_tear (rmD 1) [.ref 209] (mkW J K I F) (some (.int a.1)) (mkW J K a.2 F) := CT_of pn_X11 ⟨rfl, rfl⟩ (Nat.le_of_ble_eq_true rfl) (fun X => by
  show GG X md_X11_tear (rmD 1) _ 0 0 0 [(0, .ref 209)] [] (mkW J K I F)
  unfold f_X11_tear at h
  refine G_aload_n (pc2 := 1) 0 rfl dX11_tear_0 rfl rfl ?_
  refine G_iconst (pc2 := 2) dX11_tear_1 ic_0 rfl ?_
  refine P_209_0 (pc2 := 5) h kw_902 dX11_tear_2 rfl (fun I_1703 h => ?_)
  refine G_aload_n (pc2 := 6) 0 rfl dX11_tear_5 rfl rfl ?_
  refine T_209_16 (pc2 := 9) kw_918 dX11_tear_6 rfl ?_
  refine G_aload_n (pc2 := 10) 0 rfl dX11_tear_9 rfl rfl ?_
  refine T_209_19 (pc2 := 13) kw_921 dX11_tear_10 rfl ?_
  refine G_iadd (pc2 := 14) dX11_tear_13 rfl ?_
  refine B_istore_n (pc2 := 15) (fun x1_1704 => [(1, .int x1_1704), (0, .ref 209)]) h dX11_tear_14 rfl (by decide) (fun _ => rfl) rfl (fun x1_1704 h => ?_)
  refine G_aload_n (pc2 := 16) 1 rfl dX11_tear_15 rfl rfl ?_
  refine G_iconst (pc2 := 17) dX11_tear_16 ic_0 rfl ?_
  refine P_209_16 (pc2 := 20) h kw_918 dX11_tear_17 rfl (fun I_1705 h => ?_)
  refine G_aload_n (pc2 := 21) 1 rfl dX11_tear_20 rfl rfl ?_
  refine G_iconst (pc2 := 22) dX11_tear_21 ic_0 rfl ?_
  refine P_209_19 (pc2 := 25) h kw_921 dX11_tear_22 rfl (fun I_1706 h => ?_)
  refine G_iload_n (pc2 := 26) 0 rfl dX11_tear_25 rfl rfl ?_
  have ha := Option.some.inj h
  subst ha
  exact G_iret rfl dX11_tear_26)
def L_X11_judge_7 (k : Option (Int32 × WI))  (I : WI) (F : WF) : Nat → Int32 → Option (Int32 × WI)
  | 0, _ => none
  | n + 1, x1 =>
  if (I 8) ≤ x1 then (k)
  else (ixG x1 15 (
  ixG ((0 : Int32) + (F 9 x1.toNatClampNeg)) 134 (
  ixG x1 15 (
  if (F 3 ((0 : Int32) + (F 9 x1.toNatClampNeg)).toNatClampNeg) = (F 10 x1.toNatClampNeg) then (bnd (x1 + (1 : Int32)) fun x1_1709 =>
  L_X11_judge_7 k I F n x1_1709)
  else (some (x1, I))))))
def f_X11_judge (I : WI) (F : WF) : Option (Int32 × WI) :=
  bnd (upd I 0 (0 : Int32)) fun I_1707 =>
  bnd (0 : Int32) fun x1_1708 =>
  L_X11_judge_7 (some ((-1 : Int32), I_1707)) I_1707 F FU x1_1708
set_option maxRecDepth 100000 in
set_option maxHeartbeats 4000000 in
theorem g_L_X11_judge_7 {X : XT} {I : WI} {F : WF} {J : WI} {K : WF} {a : Int32 × WI} {k : Option (Int32 × WI)} (hk : (k = some a → GG X md_X11_judge (rmD 1) (gv_Z X (rmD 1).cells (rmD 1).slots (some (.int a.1)) (mkW J K a.2 F)) 0 0 45 [] [] (mkW J K I F))) : ∀ (n : Nat) (x1 : Int32), L_X11_judge_7 k I F n x1 = some a → GG X md_X11_judge (rmD 1) (gv_Z X (rmD 1).cells (rmD 1).slots (some (.int a.1)) (mkW J K a.2 F)) 0 0 7 [(0, .ref 209), (1, .int x1)] [] (mkW J K I F) := by
  intro n
  induction n with
  | zero =>
    intro x1 h
    rw [L_X11_judge_7] at h
    cases h
  | succ n ih =>
    intro x1 h
    rw [L_X11_judge_7] at h
    refine G_iload_n (pc2 := 8) 1 rfl dX11_judge_7 rfl rfl ?_
    refine G_aload_n (pc2 := 9) 0 rfl dX11_judge_8 rfl rfl ?_
    refine T_209_19 (pc2 := 12) kw_921 dX11_judge_9 rfl ?_
    refine B_icmp_ge (tgt := 45) (pc2 := 15) h dX11_judge_12 (by decide) rfl (fun _ h => ?_) (fun _ h => ?_)
    · refine G_sub (ls' := []) [] rfl ?_
      exact hk  h
    · refine G_aload_n (pc2 := 16) 0 rfl dX11_judge_15 rfl rfl ?_
      refine T_209_9 (pc2 := 19) kw_911 dX11_judge_16 rfl ?_
      refine G_iconst (pc2 := 20) dX11_judge_19 ic_0 rfl ?_
      refine G_aload_n (pc2 := 21) 0 rfl dX11_judge_20 rfl rfl ?_
      refine T_209_17 (pc2 := 24) kw_919 dX11_judge_21 rfl ?_
      refine G_iload_n (pc2 := 25) 1 rfl dX11_judge_24 rfl rfl ?_
      refine AM (pc2 := 26) (fa_219 _ _ _ _) h dX11_judge_25 rfl (fun h => ?_)
      refine G_iadd (pc2 := 27) dX11_judge_26 rfl ?_
      refine AM (pc2 := 28) (fa_213 _ _ _ _) h dX11_judge_27 rfl (fun h => ?_)
      refine G_aload_n (pc2 := 29) 0 rfl dX11_judge_28 rfl rfl ?_
      refine T_209_18 (pc2 := 32) kw_920 dX11_judge_29 rfl ?_
      refine G_iload_n (pc2 := 33) 1 rfl dX11_judge_32 rfl rfl ?_
      refine AM (pc2 := 34) (fa_220 _ _ _ _) h dX11_judge_33 rfl (fun h => ?_)
      refine B_icmp_eq (tgt := 39) (pc2 := 37) h dX11_judge_34 (by decide) rfl (fun _ h => ?_) (fun _ h => ?_)
      · refine B_iinc (pc2 := 42) 1 (fun x1_1709 => [(1, .int x1_1709), (0, .ref 209)]) h rfl dX11_judge_39 ic_1 (by decide) (fun _ => rfl) rfl (fun x1_1709 h => ?_)
        refine G_goto (tgt := 7) dX11_judge_42 (by decide) ?_
        refine G_sub (ls' := [(0, .ref 209), (1, .int x1_1709)]) [1, 0] rfl ?_
        exact ih x1_1709 h
      · refine G_iload_n (pc2 := 38) 1 rfl dX11_judge_37 rfl rfl ?_
        have ha := Option.some.inj h
        subst ha
        exact G_iret rfl dX11_judge_38
set_option maxRecDepth 100000 in
set_option maxHeartbeats 4000000 in
theorem c_X11_judge {I : WI} {F : WF} {J : WI} {K : WF} {a : Int32 × WI} (h : f_X11_judge  I F = some a) : CT md_X11_judge yX11_judge (rmD 1) [.ref 209] (mkW J K I F) (some (.int a.1)) (mkW J K a.2 F) := CT_of pn_X11 ⟨rfl, rfl⟩ (Nat.le_of_ble_eq_true rfl) (fun X => by
  show GG X md_X11_judge (rmD 1) _ 0 0 0 [(0, .ref 209)] [] (mkW J K I F)
  unfold f_X11_judge at h
  refine G_aload_n (pc2 := 1) 0 rfl dX11_judge_0 rfl rfl ?_
  refine G_iconst (pc2 := 2) dX11_judge_1 ic_0 rfl ?_
  refine P_209_0 (pc2 := 5) h kw_902 dX11_judge_2 rfl (fun I_1707 h => ?_)
  refine G_iconst (pc2 := 6) dX11_judge_5 ic_0 rfl ?_
  refine B_istore_n (pc2 := 7) (fun x1_1708 => [(1, .int x1_1708), (0, .ref 209)]) h dX11_judge_6 rfl (by decide) (fun _ => rfl) rfl (fun x1_1708 h => ?_)
  refine G_sub (ls' := [(0, .ref 209), (1, .int x1_1708)]) [1, 0] rfl ?_
  refine g_L_X11_judge_7 (fun h => ?_) FU x1_1708 h
  refine G_iconst (pc2 := 46) dX11_judge_45 ic_m1 rfl ?_
  have ha := Option.some.inj h
  subst ha
  exact G_iret rfl dX11_judge_46)
def f_X11_seed (x1 : Int32) (I : WI) (F : WF) : Option (Int32 × WI × WF) :=
  bnd (upd I 0 (0 : Int32)) fun I_1710 =>
  if 0 ≤ x1 then (bnd (F 3 133) fun x2_1711 =>
  bnd (uF F 3 (upd (F 3) 133 x1)) fun F_1712 =>
  some (x2_1711, I_1710, F_1712))
  else (some ((-1000000002 : Int32), I_1710, F))
set_option maxRecDepth 100000 in
set_option maxHeartbeats 4000000 in
theorem c_X11_seed {x1 : Int32} {I : WI} {F : WF} {J : WI} {K : WF} {a : Int32 × WI × WF} (h : f_X11_seed x1 I F = some a) : CT md_X11_seed yX11_seed (rmD 1) [.ref 209, .int x1] (mkW J K I F) (some (.int a.1)) (mkW J K a.2.1 a.2.2) := CT_of pn_X11 ⟨rfl, rfl⟩ (Nat.le_of_ble_eq_true rfl) (fun X => by
  show GG X md_X11_seed (rmD 1) _ 0 0 0 [(0, .ref 209), (1, .int x1)] [] (mkW J K I F)
  unfold f_X11_seed at h
  refine G_aload_n (pc2 := 1) 0 rfl dX11_seed_0 rfl rfl ?_
  refine G_iconst (pc2 := 2) dX11_seed_1 ic_0 rfl ?_
  refine P_209_0 (pc2 := 5) h kw_902 dX11_seed_2 rfl (fun I_1710 h => ?_)
  refine G_iload_n (pc2 := 6) 1 rfl dX11_seed_5 rfl rfl ?_
  refine B_if_ge (tgt := 12) (pc2 := 9) h dX11_seed_6 (by decide) rfl (fun _ h => ?_) (fun _ h => ?_)
  · refine G_aload_n (pc2 := 13) 0 rfl dX11_seed_12 rfl rfl ?_
    refine T_209_9 (pc2 := 16) kw_911 dX11_seed_13 rfl ?_
    refine G_sipush (pc2 := 19) dX11_seed_16 is_133 rfl ?_
    refine AMc (pc2 := 20) (fa_213 _ _ _ _) cl_133 rfl dX11_seed_19 rfl ?_
    refine B_istore_n (pc2 := 21) (fun x2_1711 => [(2, .int x2_1711), (0, .ref 209), (1, .int x1)]) h dX11_seed_20 rfl (by decide) (fun _ => rfl) rfl (fun x2_1711 h => ?_)
    refine G_aload_n (pc2 := 22) 1 rfl dX11_seed_21 rfl rfl ?_
    refine T_209_9 (pc2 := 25) kw_911 dX11_seed_22 rfl ?_
    refine G_sipush (pc2 := 28) dX11_seed_25 is_133 rfl ?_
    refine G_iload_n (pc2 := 29) 2 rfl dX11_seed_28 rfl rfl ?_
    refine SMc (pc2 := 30) (fa_213 _ _ _ _) h cl_133 rfl dX11_seed_29 rfl (fun F_1712 h => ?_)
    refine G_iload_n (pc2 := 31) 0 rfl dX11_seed_30 rfl rfl ?_
    have ha := Option.some.inj h
    subst ha
    exact G_iret rfl dX11_seed_31
  · refine G_ldc (pc2 := 11) kw_989 dX11_seed_9 rfl ?_
    have ha := Option.some.inj h
    subst ha
    exact G_iret rfl dX11_seed_11)
def L_X11_keep_19 (k : WF → Option (Int32 × WI × WF)) (x1 : Int32) (I : WI) : Nat → Int32 → WF → Option (Int32 × WI × WF)
  | 0, _, _ => none
  | n + 1, x2, F =>
  if (134 : Int32) ≤ x2 then (k F)
  else (ixG x2 134 (
  ixG (((134 : Int32) * x1) + x2) 268 (bnd (uF F 4 (upd (F 4) (((134 : Int32) * x1) + x2).toNatClampNeg (F 3 x2.toNatClampNeg))) fun F_1716 =>
  bnd (x2 + (1 : Int32)) fun x2_1717 =>
  L_X11_keep_19 k x1 I n x2_1717 F_1716)))
def f_X11_keep (x1 : Int32) (I : WI) (F : WF) : Option (Int32 × WI × WF) :=
  bnd (upd I 0 (0 : Int32)) fun I_1713 =>
  Option.bind (f_X11_in x1 (0 : Int32) (1 : Int32)) fun c_1714 =>
  if c_1714 = 0 then (some ((-1000000001 : Int32), I_1713, F))
  else (bnd (0 : Int32) fun x2_1715 =>
  L_X11_keep_19 (fun F_1718 => ixG x1 2 (bnd (uF F_1718 5 (upd (F_1718 5) x1.toNatClampNeg (vp_nar .boolean (1 : Int32)))) fun F_1719 =>
  bnd (upd I_1713 6 (0 : Int32)) fun I_1720 =>
  some ((1 : Int32), I_1720, F_1719))) x1 I_1713 FU x2_1715 F)
set_option maxRecDepth 100000 in
set_option maxHeartbeats 4000000 in
theorem g_L_X11_keep_19 {X : XT} {x1 : Int32} {I : WI} {J : WI} {K : WF} {a : Int32 × WI × WF} {k : WF → Option (Int32 × WI × WF)} (hk : ∀ (F' : WF), (k F' = some a → GG X md_X11_keep (rmD 2) (gv_Z X (rmD 2).cells (rmD 2).slots (some (.int a.1)) (mkW J K a.2.1 a.2.2)) 0 0 50 [(0, .ref 209), (1, .int x1)] [] (mkW J K I F'))) : ∀ (n : Nat) (x2 : Int32) (F : WF), L_X11_keep_19 k x1 I n x2 F = some a → GG X md_X11_keep (rmD 2) (gv_Z X (rmD 2).cells (rmD 2).slots (some (.int a.1)) (mkW J K a.2.1 a.2.2)) 0 0 19 [(0, .ref 209), (1, .int x1), (2, .int x2)] [] (mkW J K I F) := by
  intro n
  induction n with
  | zero =>
    intro x2 F h
    rw [L_X11_keep_19] at h
    cases h
  | succ n ih =>
    intro x2 F h
    rw [L_X11_keep_19] at h
    refine G_iload_n (pc2 := 20) 2 rfl dX11_keep_19 rfl rfl ?_
    refine G_sipush (pc2 := 23) dX11_keep_20 is_134 rfl ?_
    refine B_icmp_ge (tgt := 50) (pc2 := 26) h dX11_keep_23 (by decide) rfl (fun _ h => ?_) (fun _ h => ?_)
    · refine G_sub (ls' := [(0, .ref 209), (1, .int x1)]) [0, 1] rfl ?_
      exact hk F h
    · refine G_aload_n (pc2 := 27) 0 rfl dX11_keep_26 rfl rfl ?_
      refine T_209_10 (pc2 := 30) kw_912 dX11_keep_27 rfl ?_
      refine G_sipush (pc2 := 33) dX11_keep_30 is_134 rfl ?_
      refine G_iload_n (pc2 := 34) 1 rfl dX11_keep_33 rfl rfl ?_
      refine G_imul (pc2 := 35) dX11_keep_34 rfl ?_
      refine G_iload_n (pc2 := 36) 2 rfl dX11_keep_35 rfl rfl ?_
      refine G_iadd (pc2 := 37) dX11_keep_36 rfl ?_
      refine G_aload_n (pc2 := 38) 0 rfl dX11_keep_37 rfl rfl ?_
      refine T_209_9 (pc2 := 41) kw_911 dX11_keep_38 rfl ?_
      refine G_iload_n (pc2 := 42) 2 rfl dX11_keep_41 rfl rfl ?_
      refine AM (pc2 := 43) (fa_213 _ _ _ _) h dX11_keep_42 rfl (fun h => ?_)
      refine SM (pc2 := 44) (fa_214 _ _ _ _) h dX11_keep_43 rfl (fun F_1716 h => ?_)
      refine B_iinc (pc2 := 47) 2 (fun x2_1717 => [(2, .int x2_1717), (0, .ref 209), (1, .int x1)]) h rfl dX11_keep_44 ic_1 (by decide) (fun _ => rfl) rfl (fun x2_1717 h => ?_)
      refine G_goto (tgt := 19) dX11_keep_47 (by decide) ?_
      refine G_sub (ls' := [(0, .ref 209), (1, .int x1), (2, .int x2_1717)]) [1, 2, 0] rfl ?_
      exact ih x2_1717 F_1716 h
set_option maxRecDepth 100000 in
set_option maxHeartbeats 4000000 in
theorem c_X11_keep {x1 : Int32} {I : WI} {F : WF} {J : WI} {K : WF} {a : Int32 × WI × WF} (h : f_X11_keep x1 I F = some a) : CT md_X11_keep yX11_keep (rmD 2) [.ref 209, .int x1] (mkW J K I F) (some (.int a.1)) (mkW J K a.2.1 a.2.2) := CT_of pn_X11 ⟨rfl, rfl⟩ (Nat.le_of_ble_eq_true rfl) (fun X => by
  show GG X md_X11_keep (rmD 2) _ 0 0 0 [(0, .ref 209), (1, .int x1)] [] (mkW J K I F)
  unfold f_X11_keep at h
  refine G_aload_n (pc2 := 1) 0 rfl dX11_keep_0 rfl rfl ?_
  refine G_iconst (pc2 := 2) dX11_keep_1 ic_0 rfl ?_
  refine P_209_0 (pc2 := 5) h kw_902 dX11_keep_2 rfl (fun I_1713 h => ?_)
  refine G_iload_n (pc2 := 6) 1 rfl dX11_keep_5 rfl rfl ?_
  refine G_iconst (pc2 := 7) dX11_keep_6 ic_0 rfl ?_
  refine G_iconst (pc2 := 8) dX11_keep_7 ic_1 rfl ?_
  obtain ⟨c_1714, hc_1714, h⟩ := ob_e h
  refine B_callS (pc2 := 11) si_X11_66 (c_X11_in hc_1714) rfl (st := []) (stq := [.int c_1714]) rfl (by decide) (by decide) (Nat.le_of_ble_eq_true rfl) rfl dX11_keep_8 rfl rfl ?_ ⟨rfl, rfl⟩
  refine B_if_ne (tgt := 17) (pc2 := 14) h dX11_keep_11 (by decide) rfl (fun _ h => ?_) (fun _ h => ?_)
  · refine G_iconst (pc2 := 18) dX11_keep_17 ic_0 rfl ?_
    refine B_istore_n (pc2 := 19) (fun x2_1715 => [(2, .int x2_1715), (0, .ref 209), (1, .int x1)]) h dX11_keep_18 rfl (by decide) (fun _ => rfl) rfl (fun x2_1715 h => ?_)
    refine G_sub (ls' := [(0, .ref 209), (1, .int x1), (2, .int x2_1715)]) [1, 2, 0] rfl ?_
    refine g_L_X11_keep_19 (fun F_1718 h => ?_) FU x2_1715 F h
    refine G_aload_n (pc2 := 51) 0 rfl dX11_keep_50 rfl rfl ?_
    refine T_209_11 (pc2 := 54) kw_913 dX11_keep_51 rfl ?_
    refine G_iload_n (pc2 := 55) 1 rfl dX11_keep_54 rfl rfl ?_
    refine G_iconst (pc2 := 56) dX11_keep_55 ic_1 rfl ?_
    refine SzM (pc2 := 57) (fa_215 _ _ _ _) h dX11_keep_56 rfl (fun F_1719 h => ?_)
    refine G_aload_n (pc2 := 58) 0 rfl dX11_keep_57 rfl rfl ?_
    refine G_iconst (pc2 := 59) dX11_keep_58 ic_0 rfl ?_
    refine P_209_13 (pc2 := 62) h kw_915 dX11_keep_59 rfl (fun I_1720 h => ?_)
    refine G_iconst (pc2 := 63) dX11_keep_62 ic_1 rfl ?_
    have ha := Option.some.inj h
    subst ha
    exact G_iret rfl dX11_keep_63
  · refine G_ldc (pc2 := 16) kw_1094 dX11_keep_14 rfl ?_
    have ha := Option.some.inj h
    subst ha
    exact G_iret rfl dX11_keep_16)
def L_X11_goBack_31 (k : WF → Option (Int32 × WI × WF)) (x1 : Int32) (I : WI) : Nat → Int32 → WF → Option (Int32 × WI × WF)
  | 0, _, _ => none
  | n + 1, x2, F =>
  if (134 : Int32) ≤ x2 then (k F)
  else (ixG (((134 : Int32) * x1) + x2) 268 (
  ixG x2 134 (bnd (uF F 3 (upd (F 3) x2.toNatClampNeg (F 4 (((134 : Int32) * x1) + x2).toNatClampNeg))) fun F_1724 =>
  bnd (x2 + (1 : Int32)) fun x2_1725 =>
  L_X11_goBack_31 k x1 I n x2_1725 F_1724)))
def f_X11_goBack (x1 : Int32) (I : WI) (F : WF) : Option (Int32 × WI × WF) :=
  bnd (upd I 0 (0 : Int32)) fun I_1721 =>
  Option.bind (f_X11_in x1 (0 : Int32) (1 : Int32)) fun c_1722 =>
  if c_1722 = 0 then (some ((-1000000001 : Int32), I_1721, F))
  else (ixG x1 2 (
  if (F 5 x1.toNatClampNeg) = 0 then (some ((-1000000003 : Int32), I_1721, F))
  else (bnd (0 : Int32) fun x2_1723 =>
  L_X11_goBack_31 (fun F_1726 => bnd (upd I_1721 6 (0 : Int32)) fun I_1727 =>
  some ((1 : Int32), I_1727, F_1726)) x1 I_1721 FU x2_1723 F)))
set_option maxRecDepth 100000 in
set_option maxHeartbeats 4000000 in
theorem g_L_X11_goBack_31 {X : XT} {x1 : Int32} {I : WI} {J : WI} {K : WF} {a : Int32 × WI × WF} {k : WF → Option (Int32 × WI × WF)} (hk : ∀ (F' : WF), (k F' = some a → GG X md_X11_goBack (rmD 2) (gv_Z X (rmD 2).cells (rmD 2).slots (some (.int a.1)) (mkW J K a.2.1 a.2.2)) 0 0 62 [(0, .ref 209)] [] (mkW J K I F'))) : ∀ (n : Nat) (x2 : Int32) (F : WF), L_X11_goBack_31 k x1 I n x2 F = some a → GG X md_X11_goBack (rmD 2) (gv_Z X (rmD 2).cells (rmD 2).slots (some (.int a.1)) (mkW J K a.2.1 a.2.2)) 0 0 31 [(0, .ref 209), (1, .int x1), (2, .int x2)] [] (mkW J K I F) := by
  intro n
  induction n with
  | zero =>
    intro x2 F h
    rw [L_X11_goBack_31] at h
    cases h
  | succ n ih =>
    intro x2 F h
    rw [L_X11_goBack_31] at h
    refine G_iload_n (pc2 := 32) 2 rfl dX11_goBack_31 rfl rfl ?_
    refine G_sipush (pc2 := 35) dX11_goBack_32 is_134 rfl ?_
    refine B_icmp_ge (tgt := 62) (pc2 := 38) h dX11_goBack_35 (by decide) rfl (fun _ h => ?_) (fun _ h => ?_)
    · refine G_sub (ls' := [(0, .ref 209)]) [0] rfl ?_
      exact hk F h
    · refine G_aload_n (pc2 := 39) 0 rfl dX11_goBack_38 rfl rfl ?_
      refine T_209_9 (pc2 := 42) kw_911 dX11_goBack_39 rfl ?_
      refine G_iload_n (pc2 := 43) 2 rfl dX11_goBack_42 rfl rfl ?_
      refine G_aload_n (pc2 := 44) 0 rfl dX11_goBack_43 rfl rfl ?_
      refine T_209_10 (pc2 := 47) kw_912 dX11_goBack_44 rfl ?_
      refine G_sipush (pc2 := 50) dX11_goBack_47 is_134 rfl ?_
      refine G_iload_n (pc2 := 51) 1 rfl dX11_goBack_50 rfl rfl ?_
      refine G_imul (pc2 := 52) dX11_goBack_51 rfl ?_
      refine G_iload_n (pc2 := 53) 2 rfl dX11_goBack_52 rfl rfl ?_
      refine G_iadd (pc2 := 54) dX11_goBack_53 rfl ?_
      refine AM (pc2 := 55) (fa_214 _ _ _ _) h dX11_goBack_54 rfl (fun h => ?_)
      refine SM (pc2 := 56) (fa_213 _ _ _ _) h dX11_goBack_55 rfl (fun F_1724 h => ?_)
      refine B_iinc (pc2 := 59) 2 (fun x2_1725 => [(2, .int x2_1725), (0, .ref 209), (1, .int x1)]) h rfl dX11_goBack_56 ic_1 (by decide) (fun _ => rfl) rfl (fun x2_1725 h => ?_)
      refine G_goto (tgt := 31) dX11_goBack_59 (by decide) ?_
      refine G_sub (ls' := [(0, .ref 209), (1, .int x1), (2, .int x2_1725)]) [1, 2, 0] rfl ?_
      exact ih x2_1725 F_1724 h
set_option maxRecDepth 100000 in
set_option maxHeartbeats 4000000 in
theorem c_X11_goBack {x1 : Int32} {I : WI} {F : WF} {J : WI} {K : WF} {a : Int32 × WI × WF} (h : f_X11_goBack x1 I F = some a) : CT md_X11_goBack yX11_goBack (rmD 2) [.ref 209, .int x1] (mkW J K I F) (some (.int a.1)) (mkW J K a.2.1 a.2.2) := CT_of pn_X11 ⟨rfl, rfl⟩ (Nat.le_of_ble_eq_true rfl) (fun X => by
  show GG X md_X11_goBack (rmD 2) _ 0 0 0 [(0, .ref 209), (1, .int x1)] [] (mkW J K I F)
  unfold f_X11_goBack at h
  refine G_aload_n (pc2 := 1) 0 rfl dX11_goBack_0 rfl rfl ?_
  refine G_iconst (pc2 := 2) dX11_goBack_1 ic_0 rfl ?_
  refine P_209_0 (pc2 := 5) h kw_902 dX11_goBack_2 rfl (fun I_1721 h => ?_)
  refine G_iload_n (pc2 := 6) 1 rfl dX11_goBack_5 rfl rfl ?_
  refine G_iconst (pc2 := 7) dX11_goBack_6 ic_0 rfl ?_
  refine G_iconst (pc2 := 8) dX11_goBack_7 ic_1 rfl ?_
  obtain ⟨c_1722, hc_1722, h⟩ := ob_e h
  refine B_callS (pc2 := 11) si_X11_66 (c_X11_in hc_1722) rfl (st := []) (stq := [.int c_1722]) rfl (by decide) (by decide) (Nat.le_of_ble_eq_true rfl) rfl dX11_goBack_8 rfl rfl ?_ ⟨rfl, rfl⟩
  refine B_if_ne (tgt := 17) (pc2 := 14) h dX11_goBack_11 (by decide) rfl (fun _ h => ?_) (fun _ h => ?_)
  · refine G_aload_n (pc2 := 18) 0 rfl dX11_goBack_17 rfl rfl ?_
    refine T_209_11 (pc2 := 21) kw_913 dX11_goBack_18 rfl ?_
    refine G_iload_n (pc2 := 22) 1 rfl dX11_goBack_21 rfl rfl ?_
    refine AzM (pc2 := 23) (fa_215 _ _ _ _) h dX11_goBack_22 rfl (fun h => ?_)
    refine B_if_ne (tgt := 29) (pc2 := 26) h dX11_goBack_23 (by decide) rfl (fun _ h => ?_) (fun _ h => ?_)
    · refine G_iconst (pc2 := 30) dX11_goBack_29 ic_0 rfl ?_
      refine B_istore_n (pc2 := 31) (fun x2_1723 => [(2, .int x2_1723), (0, .ref 209), (1, .int x1)]) h dX11_goBack_30 rfl (by decide) (fun _ => rfl) rfl (fun x2_1723 h => ?_)
      refine G_sub (ls' := [(0, .ref 209), (1, .int x1), (2, .int x2_1723)]) [1, 2, 0] rfl ?_
      refine g_L_X11_goBack_31 (fun F_1726 h => ?_) FU x2_1723 F h
      refine G_aload_n (pc2 := 63) 0 rfl dX11_goBack_62 rfl rfl ?_
      refine G_iconst (pc2 := 64) dX11_goBack_63 ic_0 rfl ?_
      refine P_209_13 (pc2 := 67) h kw_915 dX11_goBack_64 rfl (fun I_1727 h => ?_)
      refine G_iconst (pc2 := 68) dX11_goBack_67 ic_1 rfl ?_
      have ha := Option.some.inj h
      subst ha
      exact G_iret rfl dX11_goBack_68
    · refine G_ldc (pc2 := 28) kw_1147 dX11_goBack_26 rfl ?_
      have ha := Option.some.inj h
      subst ha
      exact G_iret rfl dX11_goBack_28
  · refine G_ldc (pc2 := 16) kw_1094 dX11_goBack_14 rfl ?_
    have ha := Option.some.inj h
    subst ha
    exact G_iret rfl dX11_goBack_16)
end
