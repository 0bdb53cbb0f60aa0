noncomputable section
def f_X8_add_1 (x1 : Int32) (I : WI) (F : WF) : Option (WI × WF) :=
  ixG (I 38) 240 (bnd (uF F 160 (upd (F 160) (I 38).toNatClampNeg x1)) fun F_1 =>
  bnd (upd I 38 ((I 38) + (1 : Int32))) fun I_2 =>
  some (I_2, F_1))
set_option maxRecDepth 100000 in
set_option maxHeartbeats 4000000 in
theorem c_X8_add_1 {x1 : Int32} {I : WI} {F : WF} {J : WI} {K : WF} {a : WI × WF} (h : f_X8_add_1 x1 I F = some a) : CT md_X8_add yX8_add (rmD 1) [.ref 1, .int x1] (mkW I F J K) none (mkW a.1 a.2 J K) := CT_of pn_X8 ⟨rfl, rfl⟩ (Nat.le_of_ble_eq_true rfl) (fun X => by
  show GG X md_X8_add (rmD 1) _ 0 0 0 [(0, .ref 1), (1, .int x1)] [] (mkW I F J K)
  unfold f_X8_add_1 at h
  refine G_aload_n (pc2 := 1) 0 rfl dX8_add_0 rfl rfl ?_
  refine T_1_4 (pc2 := 4) kw_175 dX8_add_1 rfl ?_
  refine G_aload_n (pc2 := 5) 0 rfl dX8_add_4 rfl rfl ?_
  refine T_1_1 (pc2 := 8) kw_169 dX8_add_5 rfl ?_
  refine G_iload_n (pc2 := 9) 1 rfl dX8_add_8 rfl rfl ?_
  refine SC (pc2 := 10) (fa_11 _ _ _ _) h dX8_add_9 rfl (fun F_1 h => ?_)
  refine G_aload_n (pc2 := 11) 0 rfl dX8_add_10 rfl rfl ?_
  refine G_dup (pc2 := 12) rfl dX8_add_11 rfl ?_
  refine T_1_1 (pc2 := 15) kw_169 dX8_add_12 rfl ?_
  refine G_iconst (pc2 := 16) dX8_add_15 ic_1 rfl ?_
  refine G_iadd (pc2 := 17) dX8_add_16 rfl ?_
  refine P_1_1 (pc2 := 20) h kw_169 dX8_add_17 rfl (fun I_2 h => ?_)
  have ha := Option.some.inj h
  subst ha
  exact G_vret rfl dX8_add_20)
def f_X10_feed (x1 : Int32) (I : WI) (F : WF) : Option (Int32 × WI × WF) :=
  if x1 < 0 then (some ((-1000000002 : Int32), I, F))
  else (if x1 ≤ (255 : Int32) then (if (I 38) < (240 : Int32) then (Option.bind (f_X8_add_1 x1 I F) fun c_3 =>
  some ((c_3.1 38), c_3.1, c_3.2))
  else (some ((-1000000004 : Int32), I, F)))
  else (some ((-1000000002 : Int32), I, F)))
set_option maxRecDepth 100000 in
set_option maxHeartbeats 4000000 in
theorem c_X10_feed {x1 : Int32} {I : WI} {F : WF} {J : WI} {K : WF} {a : Int32 × WI × WF} (h : f_X10_feed x1 I F = some a) : CT md_X10_feed yX10_feed (rmD 2) [.ref 0, .int x1] (mkW I F J K) (some (.int a.1)) (mkW a.2.1 a.2.2 J K) := CT_of pn_X10 ⟨rfl, rfl⟩ (Nat.le_of_ble_eq_true rfl) (fun X => by
  show GG X md_X10_feed (rmD 2) _ 0 0 0 [(0, .ref 0), (1, .int x1)] [] (mkW I F J K)
  unfold f_X10_feed at h
  refine G_iload_n (pc2 := 1) 1 rfl dX10_feed_0 rfl rfl ?_
  refine B_if_lt (tgt := 11) (pc2 := 4) h dX10_feed_1 (by decide) rfl (fun _ h => ?_) (fun _ h => ?_)
  · refine G_ldc (pc2 := 13) kw_435 dX10_feed_11 rfl ?_
    have ha := Option.some.inj h
    subst ha
    exact G_iret rfl dX10_feed_13
  · refine G_iload_n (pc2 := 5) 1 rfl dX10_feed_4 rfl rfl ?_
    refine G_sipush (pc2 := 8) dX10_feed_5 is_255 rfl ?_
    refine B_icmp_le (tgt := 14) (pc2 := 11) h dX10_feed_8 (by decide) rfl (fun _ h => ?_) (fun _ h => ?_)
    · refine G_aload_n (pc2 := 15) 0 rfl dX10_feed_14 rfl rfl ?_
      refine T_0_0 (pc2 := 18) kw_400 dX10_feed_15 rfl ?_
      refine T_1_1 (pc2 := 21) kw_170 dX10_feed_18 rfl ?_
      refine G_sipush (pc2 := 24) dX10_feed_21 is_240 rfl ?_
      refine B_icmp_lt (tgt := 30) (pc2 := 27) h dX10_feed_24 (by decide) rfl (fun _ h => ?_) (fun _ h => ?_)
      · refine G_aload_n (pc2 := 31) 0 rfl dX10_feed_30 rfl rfl ?_
        refine T_0_0 (pc2 := 34) kw_400 dX10_feed_31 rfl ?_
        refine G_iload_n (pc2 := 35) 1 rfl dX10_feed_34 rfl rfl ?_
        obtain ⟨c_3, hc_3, h⟩ := ob_e h
        refine B_callV (pc2 := 38) si_X10_85 (c_X8_add_1 hc_3) (qo_1 _ _ _ _) rfl rfl rfl (st := []) (stq := []) rfl (by decide) (by decide) (Nat.le_of_ble_eq_true rfl) mkW_ll dX10_feed_35 rfl rfl ?_ ⟨rfl, rfl⟩
        refine G_aload_n (pc2 := 39) 0 rfl dX10_feed_38 rfl rfl ?_
        refine T_0_0 (pc2 := 42) kw_400 dX10_feed_39 rfl ?_
        refine T_1_1 (pc2 := 45) kw_170 dX10_feed_42 rfl ?_
        have ha := Option.some.inj h
        subst ha
        exact G_iret rfl dX10_feed_45
      · refine G_ldc (pc2 := 29) kw_436 dX10_feed_27 rfl ?_
        have ha := Option.some.inj h
        subst ha
        exact G_iret rfl dX10_feed_29
    · refine G_ldc (pc2 := 13) kw_435 dX10_feed_11 rfl ?_
      have ha := Option.some.inj h
      subst ha
      exact G_iret rfl dX10_feed_13)
def f_X7_clear_2 (I : WI) (F : WF) : Option (WI) :=
  bnd (upd I 43 (0 : Int32)) fun I_4 =>
  bnd (upd I_4 44 (0 : Int32)) fun I_5 =>
  bnd (upd I_5 45 (0 : Int32)) fun I_6 =>
  bnd (upd I_6 46 (0 : Int32)) fun I_7 =>
  some I_7
set_option maxRecDepth 100000 in
set_option maxHeartbeats 4000000 in
theorem c_X7_clear_2 {I : WI} {F : WF} {J : WI} {K : WF} {a : WI} (h : f_X7_clear_2  I F = some a) : CT md_X7_clear yX7_clear (rmD 1) [.ref 2] (mkW I F J K) none (mkW a F J K) := CT_of pn_X7 ⟨rfl, rfl⟩ (Nat.le_of_ble_eq_true rfl) (fun X => by
  show GG X md_X7_clear (rmD 1) _ 0 0 0 [(0, .ref 2)] [] (mkW I F J K)
  unfold f_X7_clear_2 at h
  refine G_aload_n (pc2 := 1) 0 rfl dX7_clear_0 rfl rfl ?_
  refine G_iconst (pc2 := 2) dX7_clear_1 ic_0 rfl ?_
  refine P_2_0 (pc2 := 5) h kw_96 dX7_clear_2 rfl (fun I_4 h => ?_)
  refine G_aload_n (pc2 := 6) 0 rfl dX7_clear_5 rfl rfl ?_
  refine G_iconst (pc2 := 7) dX7_clear_6 ic_0 rfl ?_
  refine P_2_1 (pc2 := 10) h kw_100 dX7_clear_7 rfl (fun I_5 h => ?_)
  refine G_aload_n (pc2 := 11) 0 rfl dX7_clear_10 rfl rfl ?_
  refine G_iconst (pc2 := 12) dX7_clear_11 ic_0 rfl ?_
  refine P_2_2 (pc2 := 15) h kw_107 dX7_clear_12 rfl (fun I_6 h => ?_)
  refine G_aload_n (pc2 := 16) 0 rfl dX7_clear_15 rfl rfl ?_
  refine G_iconst (pc2 := 17) dX7_clear_16 ic_0 rfl ?_
  refine P_2_3 (pc2 := 20) h kw_113 dX7_clear_17 rfl (fun I_7 h => ?_)
  have ha := Option.some.inj h
  subst ha
  exact G_vret rfl dX7_clear_20)
def L_X8_skipBlanks_1_0 (k : WI → Option (WI))  (F : WF) : Nat → WI → Option (WI)
  | 0, _ => none
  | n + 1, I =>
  if (I 38) ≤ (I 41) then (k I)
  else (ixG (I 41) 240 (
  if (F 160 (I 41).toNatClampNeg) = (32 : Int32) then (bnd (upd I 41 ((I 41) + (1 : Int32))) fun I_13 =>
  L_X8_skipBlanks_1_0 k F n I_13)
  else (k I)))
def f_X8_skipBlanks_1 (I : WI) (F : WF) : Option (WI) :=
  if (I 38) ≤ (I 41) then (some I)
  else (ixG (I 41) 240 (
  if (F 160 (I 41).toNatClampNeg) = (32 : Int32) then (bnd (upd I 41 ((I 41) + (1 : Int32))) fun I_12 =>
  L_X8_skipBlanks_1_0 (fun I_14 => some I_14) F FU I_12)
  else (some I)))
set_option maxRecDepth 100000 in
set_option maxHeartbeats 4000000 in
theorem g_L_X8_skipBlanks_1_0 {X : XT} {F : WF} {J : WI} {K : WF} {a : WI} {k : WI → Option (WI)} (hk : ∀ (I' : WI), (k I' = some a → GG X md_X8_skipBlanks (rmD 1) (gv_Z X (rmD 1).cells (rmD 1).slots none (mkW a F J K)) 0 0 38 [] [] (mkW I' F J K))) : ∀ (n : Nat) (I : WI), L_X8_skipBlanks_1_0 k F n I = some a → GG X md_X8_skipBlanks (rmD 1) (gv_Z X (rmD 1).cells (rmD 1).slots none (mkW a F J K)) 0 0 0 [(0, .ref 1)] [] (mkW I F J K) := by
  intro n
  induction n with
  | zero =>
    intro I h
    rw [L_X8_skipBlanks_1_0] at h
    cases h
  | succ n ih =>
    intro I h
    rw [L_X8_skipBlanks_1_0] at h
    refine G_aload_n (pc2 := 1) 0 rfl dX8_skipBlanks_0 rfl rfl ?_
    refine T_1_5 (pc2 := 4) kw_176 dX8_skipBlanks_1 rfl ?_
    refine G_aload_n (pc2 := 5) 0 rfl dX8_skipBlanks_4 rfl rfl ?_
    refine T_1_1 (pc2 := 8) kw_169 dX8_skipBlanks_5 rfl ?_
    refine B_icmp_ge (tgt := 38) (pc2 := 11) h dX8_skipBlanks_8 (by decide) rfl (fun _ h => ?_) (fun _ h => ?_)
    · refine G_sub (ls' := []) [] rfl ?_
      exact hk I h
    · refine G_aload_n (pc2 := 12) 0 rfl dX8_skipBlanks_11 rfl rfl ?_
      refine T_1_4 (pc2 := 15) kw_175 dX8_skipBlanks_12 rfl ?_
      refine G_aload_n (pc2 := 16) 0 rfl dX8_skipBlanks_15 rfl rfl ?_
      refine T_1_5 (pc2 := 19) kw_176 dX8_skipBlanks_16 rfl ?_
      refine AC (pc2 := 20) (fa_11 _ _ _ _) h dX8_skipBlanks_19 rfl (fun h => ?_)
      refine G_bipush (pc2 := 22) dX8_skipBlanks_20 ib_32 rfl ?_
      refine B_icmp_ne (tgt := 38) (pc2 := 25) h dX8_skipBlanks_22 (by decide) rfl (fun _ h => ?_) (fun _ h => ?_)
      · refine G_sub (ls' := []) [] rfl ?_
        exact hk I h
      · refine G_aload_n (pc2 := 26) 0 rfl dX8_skipBlanks_25 rfl rfl ?_
        refine G_dup (pc2 := 27) rfl dX8_skipBlanks_26 rfl ?_
        refine T_1_5 (pc2 := 30) kw_176 dX8_skipBlanks_27 rfl ?_
        refine G_iconst (pc2 := 31) dX8_skipBlanks_30 ic_1 rfl ?_
        refine G_iadd (pc2 := 32) dX8_skipBlanks_31 rfl ?_
        refine P_1_5 (pc2 := 35) h kw_176 dX8_skipBlanks_32 rfl (fun I_13 h => ?_)
        refine G_goto (tgt := 0) dX8_skipBlanks_35 (by decide) ?_
        exact ih I_13 h
set_option maxRecDepth 100000 in
set_option maxHeartbeats 4000000 in
theorem c_X8_skipBlanks_1 {I : WI} {F : WF} {J : WI} {K : WF} {a : WI} (h : f_X8_skipBlanks_1  I F = some a) : CT md_X8_skipBlanks yX8_skipBlanks (rmD 1) [.ref 1] (mkW I F J K) none (mkW a F J K) := CT_of pn_X8 ⟨rfl, rfl⟩ (Nat.le_of_ble_eq_true rfl) (fun X => by
  show GG X md_X8_skipBlanks (rmD 1) _ 0 0 0 [(0, .ref 1)] [] (mkW I F J K)
  unfold f_X8_skipBlanks_1 at h
  refine G_aload_n (pc2 := 1) 0 rfl dX8_skipBlanks_0 rfl rfl ?_
  refine T_1_5 (pc2 := 4) kw_176 dX8_skipBlanks_1 rfl ?_
  refine G_aload_n (pc2 := 5) 0 rfl dX8_skipBlanks_4 rfl rfl ?_
  refine T_1_1 (pc2 := 8) kw_169 dX8_skipBlanks_5 rfl ?_
  refine B_icmp_ge (tgt := 38) (pc2 := 11) h dX8_skipBlanks_8 (by decide) rfl (fun _ h => ?_) (fun _ h => ?_)
  · have ha := Option.some.inj h
    subst ha
    exact G_vret rfl dX8_skipBlanks_38
  · refine G_aload_n (pc2 := 12) 0 rfl dX8_skipBlanks_11 rfl rfl ?_
    refine T_1_4 (pc2 := 15) kw_175 dX8_skipBlanks_12 rfl ?_
    refine G_aload_n (pc2 := 16) 0 rfl dX8_skipBlanks_15 rfl rfl ?_
    refine T_1_5 (pc2 := 19) kw_176 dX8_skipBlanks_16 rfl ?_
    refine AC (pc2 := 20) (fa_11 _ _ _ _) h dX8_skipBlanks_19 rfl (fun h => ?_)
    refine G_bipush (pc2 := 22) dX8_skipBlanks_20 ib_32 rfl ?_
    refine B_icmp_ne (tgt := 38) (pc2 := 25) h dX8_skipBlanks_22 (by decide) rfl (fun _ h => ?_) (fun _ h => ?_)
    · have ha := Option.some.inj h
      subst ha
      exact G_vret rfl dX8_skipBlanks_38
    · refine G_aload_n (pc2 := 26) 0 rfl dX8_skipBlanks_25 rfl rfl ?_
      refine G_dup (pc2 := 27) rfl dX8_skipBlanks_26 rfl ?_
      refine T_1_5 (pc2 := 30) kw_176 dX8_skipBlanks_27 rfl ?_
      refine G_iconst (pc2 := 31) dX8_skipBlanks_30 ic_1 rfl ?_
      refine G_iadd (pc2 := 32) dX8_skipBlanks_31 rfl ?_
      refine P_1_5 (pc2 := 35) h kw_176 dX8_skipBlanks_32 rfl (fun I_12 h => ?_)
      refine G_goto (tgt := 0) dX8_skipBlanks_35 (by decide) ?_
      refine g_L_X8_skipBlanks_1_0 (fun I_14 h => ?_) FU I_12 h
      have ha := Option.some.inj h
      subst ha
      exact G_vret rfl dX8_skipBlanks_38)
def f_X8_isWordHere_1 (x1 : Int32) (I : WI) (F : WF) : Option (Int32) :=
  if (I 43) = 0 then (if x1 = (110 : Int32) then (some (1 : Int32))
  else (some (0 : Int32)))
  else (if x1 = (110 : Int32) then (some (1 : Int32))
  else (if x1 = (98 : Int32) then (some (1 : Int32))
  else (if x1 = (107 : Int32) then (some (1 : Int32))
  else (if x1 = (106 : Int32) then (some (1 : Int32))
  else (some (0 : Int32))))))
set_option maxRecDepth 100000 in
set_option maxHeartbeats 4000000 in
theorem c_X8_isWordHere_1 {x1 : Int32} {I : WI} {F : WF} {J : WI} {K : WF} {a : Int32} (h : f_X8_isWordHere_1 x1 I F = some a) : CT md_X8_isWordHere yX8_isWordHere (rmD 1) [.ref 1, .int x1] (mkW I F J K) (some (.int a)) (mkW I F J K) := CT_of pn_X8 ⟨rfl, rfl⟩ (Nat.le_of_ble_eq_true rfl) (fun X => by
  show GG X md_X8_isWordHere (rmD 1) _ 0 0 0 [(0, .ref 1), (1, .int x1)] [] (mkW I F J K)
  unfold f_X8_isWordHere_1 at h
  refine G_aload_n (pc2 := 1) 0 rfl dX8_isWordHere_0 rfl rfl ?_
  refine T_1_0 (pc2 := 4) kw_167 dX8_isWordHere_1 rfl ?_
  refine T_2_0 (pc2 := 7) kw_98 dX8_isWordHere_4 rfl ?_
  refine B_if_ne (tgt := 22) (pc2 := 10) h dX8_isWordHere_7 (by decide) rfl (fun _ h => ?_) (fun _ h => ?_)
  · refine G_iload_n (pc2 := 23) 1 rfl dX8_isWordHere_22 rfl rfl ?_
    refine G_bipush (pc2 := 25) dX8_isWordHere_23 ib_110 rfl ?_
    refine B_icmp_eq (tgt := 46) (pc2 := 28) h dX8_isWordHere_25 (by decide) rfl (fun _ h => ?_) (fun _ h => ?_)
    · refine G_iconst (pc2 := 47) dX8_isWordHere_46 ic_1 rfl ?_
      refine G_goto (tgt := 51) dX8_isWordHere_47 (by decide) ?_
      have ha := Option.some.inj h
      subst ha
      exact G_zret (v := (1 : Int32)) rfl (by decide) dX8_isWordHere_51
    · refine G_iload_n (pc2 := 29) 1 rfl dX8_isWordHere_28 rfl rfl ?_
      refine G_bipush (pc2 := 31) dX8_isWordHere_29 ib_98 rfl ?_
      refine B_icmp_eq (tgt := 46) (pc2 := 34) h dX8_isWordHere_31 (by decide) rfl (fun _ h => ?_) (fun _ h => ?_)
      · refine G_iconst (pc2 := 47) dX8_isWordHere_46 ic_1 rfl ?_
        refine G_goto (tgt := 51) dX8_isWordHere_47 (by decide) ?_
        have ha := Option.some.inj h
        subst ha
        exact G_zret (v := (1 : Int32)) rfl (by decide) dX8_isWordHere_51
      · refine G_iload_n (pc2 := 35) 1 rfl dX8_isWordHere_34 rfl rfl ?_
        refine G_bipush (pc2 := 37) dX8_isWordHere_35 ib_107 rfl ?_
        refine B_icmp_eq (tgt := 46) (pc2 := 40) h dX8_isWordHere_37 (by decide) rfl (fun _ h => ?_) (fun _ h => ?_)
        · refine G_iconst (pc2 := 47) dX8_isWordHere_46 ic_1 rfl ?_
          refine G_goto (tgt := 51) dX8_isWordHere_47 (by decide) ?_
          have ha := Option.some.inj h
          subst ha
          exact G_zret (v := (1 : Int32)) rfl (by decide) dX8_isWordHere_51
        · refine G_iload_n (pc2 := 41) 1 rfl dX8_isWordHere_40 rfl rfl ?_
          refine G_bipush (pc2 := 43) dX8_isWordHere_41 ib_106 rfl ?_
          refine B_icmp_ne (tgt := 50) (pc2 := 46) h dX8_isWordHere_43 (by decide) rfl (fun _ h => ?_) (fun _ h => ?_)
          · refine G_iconst (pc2 := 51) dX8_isWordHere_50 ic_0 rfl ?_
            have ha := Option.some.inj h
            subst ha
            exact G_zret (v := (0 : Int32)) rfl (by decide) dX8_isWordHere_51
          · refine G_iconst (pc2 := 47) dX8_isWordHere_46 ic_1 rfl ?_
            refine G_goto (tgt := 51) dX8_isWordHere_47 (by decide) ?_
            have ha := Option.some.inj h
            subst ha
            exact G_zret (v := (1 : Int32)) rfl (by decide) dX8_isWordHere_51
  · refine G_iload_n (pc2 := 11) 1 rfl dX8_isWordHere_10 rfl rfl ?_
    refine G_bipush (pc2 := 13) dX8_isWordHere_11 ib_110 rfl ?_
    refine B_icmp_ne (tgt := 20) (pc2 := 16) h dX8_isWordHere_13 (by decide) rfl (fun _ h => ?_) (fun _ h => ?_)
    · refine G_iconst (pc2 := 21) dX8_isWordHere_20 ic_0 rfl ?_
      have ha := Option.some.inj h
      subst ha
      exact G_zret (v := (0 : Int32)) rfl (by decide) dX8_isWordHere_21
    · refine G_iconst (pc2 := 17) dX8_isWordHere_16 ic_1 rfl ?_
      refine G_goto (tgt := 21) dX8_isWordHere_17 (by decide) ?_
      have ha := Option.some.inj h
      subst ha
      exact G_zret (v := (1 : Int32)) rfl (by decide) dX8_isWordHere_21)
def f_X8_isOneTooMany_1 (x1 : Int32) (I : WI) (F : WF) : Option (Int32) :=
  if x1 = (98 : Int32) then (if (I 44) < (9 : Int32) then (some (0 : Int32))
  else (some (1 : Int32)))
  else if x1 = (107 : Int32) then (if (I 45) < (9 : Int32) then (some (0 : Int32))
  else (some (1 : Int32)))
  else if x1 = (110 : Int32) then (if (I 43) ≤ 0 then (some (0 : Int32))
  else (some (1 : Int32)))
  else if (I 46) < (6 : Int32) then (some (0 : Int32))
  else (some (1 : Int32))
set_option maxRecDepth 100000 in
set_option maxHeartbeats 4000000 in
theorem c_X8_isOneTooMany_1 {x1 : Int32} {I : WI} {F : WF} {J : WI} {K : WF} {a : Int32} (h : f_X8_isOneTooMany_1 x1 I F = some a) : CT md_X8_isOneTooMany yX8_isOneTooMany (rmD 1) [.ref 1, .int x1] (mkW I F J K) (some (.int a)) (mkW I F J K) := CT_of pn_X8 ⟨rfl, rfl⟩ (Nat.le_of_ble_eq_true rfl) (fun X => by
  show GG X md_X8_isOneTooMany (rmD 1) _ 0 0 0 [(0, .ref 1), (1, .int x1)] [] (mkW I F J K)
  unfold f_X8_isOneTooMany_1 at h
  refine G_iload_n (pc2 := 1) 1 rfl dX8_isOneTooMany_0 rfl rfl ?_
  by_cases qx_19 : x1 = (98 : Int32)
  · have h := ite_t h qx_19
    refine B_lkpIn (tgt := 52) (off := 51) (98 : Int32) qx_19 dX8_isOneTooMany_1 (by decide) (by decide) (by decide) ?_
    refine G_aload_n (pc2 := 53) 0 rfl dX8_isOneTooMany_52 rfl rfl ?_
    refine T_1_0 (pc2 := 56) kw_167 dX8_isOneTooMany_53 rfl ?_
    refine T_2_1 (pc2 := 59) kw_105 dX8_isOneTooMany_56 rfl ?_
    refine G_bipush (pc2 := 61) dX8_isOneTooMany_59 ib_9 rfl ?_
    refine B_icmp_lt (tgt := 68) (pc2 := 64) h dX8_isOneTooMany_61 (by decide) rfl (fun _ h => ?_) (fun _ h => ?_)
    · refine G_iconst (pc2 := 69) dX8_isOneTooMany_68 ic_0 rfl ?_
      have ha := Option.some.inj h
      subst ha
      exact G_zret (v := (0 : Int32)) rfl (by decide) dX8_isOneTooMany_69
    · refine G_iconst (pc2 := 65) dX8_isOneTooMany_64 ic_1 rfl ?_
      refine G_goto (tgt := 69) dX8_isOneTooMany_65 (by decide) ?_
      have ha := Option.some.inj h
      subst ha
      exact G_zret (v := (1 : Int32)) rfl (by decide) dX8_isOneTooMany_69
  have h := ite_f h qx_19
  by_cases qx_20 : x1 = (107 : Int32)
  · have h := ite_t h qx_20
    refine B_lkpIn (tgt := 70) (off := 69) (107 : Int32) qx_20 dX8_isOneTooMany_1 (by decide) (by decide) (by decide) ?_
    refine G_aload_n (pc2 := 71) 0 rfl dX8_isOneTooMany_70 rfl rfl ?_
    refine T_1_0 (pc2 := 74) kw_167 dX8_isOneTooMany_71 rfl ?_
    refine T_2_2 (pc2 := 77) kw_112 dX8_isOneTooMany_74 rfl ?_
    refine G_bipush (pc2 := 79) dX8_isOneTooMany_77 ib_9 rfl ?_
    refine B_icmp_lt (tgt := 86) (pc2 := 82) h dX8_isOneTooMany_79 (by decide) rfl (fun _ h => ?_) (fun _ h => ?_)
    · refine G_iconst (pc2 := 87) dX8_isOneTooMany_86 ic_0 rfl ?_
      have ha := Option.some.inj h
      subst ha
      exact G_zret (v := (0 : Int32)) rfl (by decide) dX8_isOneTooMany_87
    · refine G_iconst (pc2 := 83) dX8_isOneTooMany_82 ic_1 rfl ?_
      refine G_goto (tgt := 87) dX8_isOneTooMany_83 (by decide) ?_
      have ha := Option.some.inj h
      subst ha
      exact G_zret (v := (1 : Int32)) rfl (by decide) dX8_isOneTooMany_87
  have h := ite_f h qx_20
  by_cases qx_21 : x1 = (110 : Int32)
  · have h := ite_t h qx_21
    refine B_lkpIn (tgt := 36) (off := 35) (110 : Int32) qx_21 dX8_isOneTooMany_1 (by decide) (by decide) (by decide) ?_
    refine G_aload_n (pc2 := 37) 0 rfl dX8_isOneTooMany_36 rfl rfl ?_
    refine T_1_0 (pc2 := 40) kw_167 dX8_isOneTooMany_37 rfl ?_
    refine T_2_0 (pc2 := 43) kw_98 dX8_isOneTooMany_40 rfl ?_
    refine B_if_le (tgt := 50) (pc2 := 46) h dX8_isOneTooMany_43 (by decide) rfl (fun _ h => ?_) (fun _ h => ?_)
    · refine G_iconst (pc2 := 51) dX8_isOneTooMany_50 ic_0 rfl ?_
      have ha := Option.some.inj h
      subst ha
      exact G_zret (v := (0 : Int32)) rfl (by decide) dX8_isOneTooMany_51
    · refine G_iconst (pc2 := 47) dX8_isOneTooMany_46 ic_1 rfl ?_
      refine G_goto (tgt := 51) dX8_isOneTooMany_47 (by decide) ?_
      have ha := Option.some.inj h
      subst ha
      exact G_zret (v := (1 : Int32)) rfl (by decide) dX8_isOneTooMany_51
  have h := ite_f h qx_21
  refine G_lookup (tgt := 88) (off := 87) dX8_isOneTooMany_1 (by decide) (lkp_out3 qx_19 qx_20 qx_21) (by decide) ?_
  refine G_aload_n (pc2 := 89) 0 rfl dX8_isOneTooMany_88 rfl rfl ?_
  refine T_1_0 (pc2 := 92) kw_167 dX8_isOneTooMany_89 rfl ?_
  refine T_2_3 (pc2 := 95) kw_116 dX8_isOneTooMany_92 rfl ?_
  refine G_bipush (pc2 := 97) dX8_isOneTooMany_95 ib_6 rfl ?_
  refine B_icmp_lt (tgt := 104) (pc2 := 100) h dX8_isOneTooMany_97 (by decide) rfl (fun _ h => ?_) (fun _ h => ?_)
  · refine G_iconst (pc2 := 105) dX8_isOneTooMany_104 ic_0 rfl ?_
    have ha := Option.some.inj h
    subst ha
    exact G_zret (v := (0 : Int32)) rfl (by decide) dX8_isOneTooMany_105
  · refine G_iconst (pc2 := 101) dX8_isOneTooMany_100 ic_1 rfl ?_
    refine G_goto (tgt := 105) dX8_isOneTooMany_101 (by decide) ?_
    have ha := Option.some.inj h
    subst ha
    exact G_zret (v := (1 : Int32)) rfl (by decide) dX8_isOneTooMany_105)
def f_X8_isFigure (x0 : Int32) : Option (Int32) :=
  if x0 < (48 : Int32) then (some (0 : Int32))
  else (if (57 : Int32) < x0 then (some (0 : Int32))
  else (some (1 : Int32)))
set_option maxRecDepth 100000 in
set_option maxHeartbeats 4000000 in
theorem c_X8_isFigure {x0 : Int32} {w : List va_E} {a : Int32} (h : f_X8_isFigure x0 = some a) : CT md_X8_isFigure yX8_isFigure (rmD 1) [.int x0] w (some (.int a)) w := CT_of pn_X8 ⟨rfl, rfl⟩ (Nat.le_of_ble_eq_true rfl) (fun X => by
  show GG X md_X8_isFigure (rmD 1) _ 0 0 0 [(0, .int x0)] [] w
  unfold f_X8_isFigure at h
  refine G_iload_n (pc2 := 1) 0 rfl dX8_isFigure_0 rfl rfl ?_
  refine G_bipush (pc2 := 3) dX8_isFigure_1 ib_48 rfl ?_
  refine B_icmp_lt (tgt := 16) (pc2 := 6) h dX8_isFigure_3 (by decide) rfl (fun _ h => ?_) (fun _ h => ?_)
  · refine G_iconst (pc2 := 17) dX8_isFigure_16 ic_0 rfl ?_
    have ha := Option.some.inj h
    subst ha
    exact G_zret (v := (0 : Int32)) rfl (by decide) dX8_isFigure_17
  · refine G_iload_n (pc2 := 7) 0 rfl dX8_isFigure_6 rfl rfl ?_
    refine G_bipush (pc2 := 9) dX8_isFigure_7 ib_57 rfl ?_
    refine B_icmp_gt (tgt := 16) (pc2 := 12) h dX8_isFigure_9 (by decide) rfl (fun _ h => ?_) (fun _ h => ?_)
    · refine G_iconst (pc2 := 17) dX8_isFigure_16 ic_0 rfl ?_
      have ha := Option.some.inj h
      subst ha
      exact G_zret (v := (0 : Int32)) rfl (by decide) dX8_isFigure_17
    · refine G_iconst (pc2 := 13) dX8_isFigure_12 ic_1 rfl ?_
      refine G_goto (tgt := 17) dX8_isFigure_13 (by decide) ?_
      have ha := Option.some.inj h
      subst ha
      exact G_zret (v := (1 : Int32)) rfl (by decide) dX8_isFigure_17)
def f_X8_fail_1 (x1 : Int32) (x2 : Int32) (I : WI) (F : WF) : Option (WI) :=
  bnd (upd I 39 x1) fun I_36 =>
  bnd (upd I_36 40 x2) fun I_37 =>
  some I_37
set_option maxRecDepth 100000 in
set_option maxHeartbeats 4000000 in
theorem c_X8_fail_1 {x1 : Int32} {x2 : Int32} {I : WI} {F : WF} {J : WI} {K : WF} {a : WI} (h : f_X8_fail_1 x1 x2 I F = some a) : CT md_X8_fail yX8_fail (rmD 1) [.ref 1, .int x1, .int x2] (mkW I F J K) none (mkW a F J K) := CT_of pn_X8 ⟨rfl, rfl⟩ (Nat.le_of_ble_eq_true rfl) (fun X => by
  show GG X md_X8_fail (rmD 1) _ 0 0 0 [(0, .ref 1), (1, .int x1), (2, .int x2)] [] (mkW I F J K)
  unfold f_X8_fail_1 at h
  refine G_aload_n (pc2 := 1) 0 rfl dX8_fail_0 rfl rfl ?_
  refine G_iload_n (pc2 := 2) 1 rfl dX8_fail_1 rfl rfl ?_
  refine P_1_2 (pc2 := 5) h kw_171 dX8_fail_2 rfl (fun I_36 h => ?_)
  refine G_aload_n (pc2 := 6) 0 rfl dX8_fail_5 rfl rfl ?_
  refine G_iload_n (pc2 := 7) 2 rfl dX8_fail_6 rfl rfl ?_
  refine P_1_3 (pc2 := 10) h kw_173 dX8_fail_7 rfl (fun I_37 h => ?_)
  have ha := Option.some.inj h
  subst ha
  exact G_vret rfl dX8_fail_10)
def L_X8_readNumber_1_23 (k : Int32 → WI → Option (Int32 × WI)) (x1 : Int32) (x2 : Int32) (F : WF) : Nat → Int32 → WI → Option (Int32 × WI)
  | 0, _, _ => none
  | n + 1, x3, I =>
  if (I 38) ≤ (I 41) then (k x3 I)
  else (ixG (I 41) 240 (
  Option.bind (f_X8_isFigure (F 160 (I 41).toNatClampNeg)) fun c_27 =>
  if c_27 = 0 then (k x3 I)
  else (bnd (fun (x3_29 : Int32) => bnd (upd I 41 ((I 41) + (1 : Int32))) fun I_30 =>
  L_X8_readNumber_1_23 k x1 x2 F n x3_29 I_30) fun j80_28 =>
  if (3 : Int32) ≤ ((I 41) - (I 42)) then (j80_28 x3)
  else (ixG (I 41) 240 (
  bnd (((x3 * (10 : Int32)) + (F 160 (I 41).toNatClampNeg)) - (48 : Int32)) fun x3_31 =>
  j80_28 x3_31)))))
def f_X8_readNumber_1 (x1 : Int32) (x2 : Int32) (I : WI) (F : WF) : Option (Int32 × WI) :=
  if (I 39) = 0 then (Option.bind (f_X8_skipBlanks_1 I F) fun c_24 =>
  bnd (upd c_24 42 (c_24 41)) fun I_25 =>
  bnd (0 : Int32) fun x3_26 =>
  L_X8_readNumber_1_23 (fun x3_32 I_33 => bnd ((I_33 41) - (I_33 42)) fun x4_34 =>
  if x4_34 = 0 then (Option.bind (f_X8_fail_1 (1 : Int32) (I_33 41) I_33 F) fun c_39 =>
  some (x3_32, c_39))
  else (bnd (fun (_u : Unit) => Option.bind (f_X8_fail_1 (2 : Int32) (I_33 42) I_33 F) fun c_38 =>
  some (x3_32, c_38)) fun j137_35 =>
  if (3 : Int32) < x4_34 then (j137_35 ())
  else (if x3_32 < x1 then (j137_35 ())
  else (if x3_32 ≤ x2 then (some (x3_32, I_33))
  else (j137_35 ()))))) x1 x2 F FU x3_26 I_25)
  else (some ((-1 : Int32), I))
set_option maxRecDepth 100000 in
set_option maxHeartbeats 4000000 in
theorem g_L_X8_readNumber_1_23 {X : XT} {x1 : Int32} {x2 : Int32} {F : WF} {J : WI} {K : WF} {a : Int32 × WI} {k : Int32 → WI → Option (Int32 × WI)} (hk : ∀ (e3 : Int32) (I' : WI), (k e3 I' = some a → GG X md_X8_readNumber (rmD 2) (gv_Z X (rmD 2).cells (rmD 2).slots (some (.int a.1)) (mkW a.2 F J K)) 0 0 93 [(0, .ref 1), (1, .int x1), (2, .int x2), (3, .int e3)] [] (mkW I' F J K))) : ∀ (n : Nat) (x3 : Int32) (I : WI), L_X8_readNumber_1_23 k x1 x2 F n x3 I = some a → GG X md_X8_readNumber (rmD 2) (gv_Z X (rmD 2).cells (rmD 2).slots (some (.int a.1)) (mkW a.2 F J K)) 0 0 23 [(0, .ref 1), (1, .int x1), (2, .int x2), (3, .int x3)] [] (mkW I F J K) := by
  intro n
  induction n with
  | zero =>
    intro x3 I h
    rw [L_X8_readNumber_1_23] at h
    cases h
  | succ n ih =>
    intro x3 I h
    rw [L_X8_readNumber_1_23] at h
    refine G_aload_n (pc2 := 24) 0 rfl dX8_readNumber_23 rfl rfl ?_
    refine T_1_5 (pc2 := 27) kw_176 dX8_readNumber_24 rfl ?_
    refine G_aload_n (pc2 := 28) 0 rfl dX8_readNumber_27 rfl rfl ?_
    refine T_1_1 (pc2 := 31) kw_169 dX8_readNumber_28 rfl ?_
    refine B_icmp_ge (tgt := 93) (pc2 := 34) h dX8_readNumber_31 (by decide) rfl (fun _ h => ?_) (fun _ h => ?_)
    · exact hk x3 I h
    · refine G_aload_n (pc2 := 35) 0 rfl dX8_readNumber_34 rfl rfl ?_
      refine T_1_4 (pc2 := 38) kw_175 dX8_readNumber_35 rfl ?_
      refine G_aload_n (pc2 := 39) 0 rfl dX8_readNumber_38 rfl rfl ?_
      refine T_1_5 (pc2 := 42) kw_176 dX8_readNumber_39 rfl ?_
      refine AC (pc2 := 43) (fa_11 _ _ _ _) h dX8_readNumber_42 rfl (fun h => ?_)
      obtain ⟨c_27, hc_27, h⟩ := ob_e h
      refine B_callS (pc2 := 46) si_X8_108 (c_X8_isFigure hc_27) rfl (st := []) (stq := [.int c_27]) rfl (by decide) (by decide) (Nat.le_of_ble_eq_true rfl) rfl dX8_readNumber_43 rfl rfl ?_ ⟨rfl, rfl⟩
      refine B_if_eq (tgt := 93) (pc2 := 49) h dX8_readNumber_46 (by decide) rfl (fun _ h => ?_) (fun _ h => ?_)
      · exact hk x3 I h
      · refine G_aload_n (pc2 := 50) 0 rfl dX8_readNumber_49 rfl rfl ?_
        refine T_1_5 (pc2 := 53) kw_176 dX8_readNumber_50 rfl ?_
        refine G_aload_n (pc2 := 54) 0 rfl dX8_readNumber_53 rfl rfl ?_
        refine T_1_6 (pc2 := 57) kw_177 dX8_readNumber_54 rfl ?_
        refine G_isub (pc2 := 58) dX8_readNumber_57 rfl ?_
        refine G_iconst (pc2 := 59) dX8_readNumber_58 ic_3 rfl ?_
        refine jn_e (Gj := True) (fun (j : Int32 → Option (Int32 × WI)) => ∀ (x3_29 : Int32), j x3_29 = some a → GG X md_X8_readNumber (rmD 2) (gv_Z X (rmD 2).cells (rmD 2).slots (some (.int a.1)) (mkW a.2 F J K)) 0 0 80 [(0, .ref 1), (1, .int x1), (2, .int x2), (3, .int x3_29)] [] (mkW I F J K)) h (fun x3_29 h => ?_) (fun j80_28 hj80_28 h => ?_)
        · refine G_aload_n (pc2 := 81) 0 rfl dX8_readNumber_80 rfl rfl ?_
          refine G_dup (pc2 := 82) rfl dX8_readNumber_81 rfl ?_
          refine T_1_5 (pc2 := 85) kw_176 dX8_readNumber_82 rfl ?_
          refine G_iconst (pc2 := 86) dX8_readNumber_85 ic_1 rfl ?_
          refine G_iadd (pc2 := 87) dX8_readNumber_86 rfl ?_
          refine P_1_5 (pc2 := 90) h kw_176 dX8_readNumber_87 rfl (fun I_30 h => ?_)
          refine G_goto (tgt := 23) dX8_readNumber_90 (by decide) ?_
          exact ih x3_29 I_30 h
        refine B_icmp_ge (tgt := 80) (pc2 := 62) h dX8_readNumber_59 (by decide) rfl (fun _ h => ?_) (fun _ h => ?_)
        · exact hj80_28 x3 h
        · refine G_iload_n (pc2 := 63) 3 rfl dX8_readNumber_62 rfl rfl ?_
          refine G_bipush (pc2 := 65) dX8_readNumber_63 ib_10 rfl ?_
          refine G_imul (pc2 := 66) dX8_readNumber_65 rfl ?_
          refine G_aload_n (pc2 := 67) 0 rfl dX8_readNumber_66 rfl rfl ?_
          refine T_1_4 (pc2 := 70) kw_175 dX8_readNumber_67 rfl ?_
          refine G_aload_n (pc2 := 71) 0 rfl dX8_readNumber_70 rfl rfl ?_
          refine T_1_5 (pc2 := 74) kw_176 dX8_readNumber_71 rfl ?_
          refine AC (pc2 := 75) (fa_11 _ _ _ _) h dX8_readNumber_74 rfl (fun h => ?_)
          refine G_iadd (pc2 := 76) dX8_readNumber_75 rfl ?_
          refine G_bipush (pc2 := 78) dX8_readNumber_76 ib_48 rfl ?_
          refine G_isub (pc2 := 79) dX8_readNumber_78 rfl ?_
          refine B_istore_n (pc2 := 80) (fun x3_31 => [(3, .int x3_31), (0, .ref 1), (1, .int x1), (2, .int x2)]) h dX8_readNumber_79 rfl (by decide) (fun _ => rfl) rfl (fun x3_31 h => ?_)
          refine G_sub (ls' := [(0, .ref 1), (1, .int x1), (2, .int x2), (3, .int x3_31)]) [1, 2, 3, 0] rfl ?_
          exact hj80_28 x3_31 h
set_option maxRecDepth 100000 in
set_option maxHeartbeats 4000000 in
theorem c_X8_readNumber_1 {x1 : Int32} {x2 : Int32} {I : WI} {F : WF} {J : WI} {K : WF} {a : Int32 × WI} (h : f_X8_readNumber_1 x1 x2 I F = some a) : CT md_X8_readNumber yX8_readNumber (rmD 2) [.ref 1, .int x1, .int x2] (mkW I F J K) (some (.int a.1)) (mkW a.2 F J K) := CT_of pn_X8 ⟨rfl, rfl⟩ (Nat.le_of_ble_eq_true rfl) (fun X => by
  show GG X md_X8_readNumber (rmD 2) _ 0 0 0 [(0, .ref 1), (1, .int x1), (2, .int x2)] [] (mkW I F J K)
  unfold f_X8_readNumber_1 at h
  refine G_aload_n (pc2 := 1) 0 rfl dX8_readNumber_0 rfl rfl ?_
  refine T_1_2 (pc2 := 4) kw_171 dX8_readNumber_1 rfl ?_
  refine B_if_eq (tgt := 9) (pc2 := 7) h dX8_readNumber_4 (by decide) rfl (fun _ h => ?_) (fun _ h => ?_)
  · refine G_aload_n (pc2 := 10) 0 rfl dX8_readNumber_9 rfl rfl ?_
    obtain ⟨c_24, hc_24, h⟩ := ob_e h
    refine B_callV (pc2 := 13) si_X8_38 (c_X8_skipBlanks_1 hc_24) (qo_1 _ _ _ _) rfl rfl rfl (st := []) (stq := []) rfl (by decide) (by decide) (Nat.le_of_ble_eq_true rfl) mkW_ll dX8_readNumber_10 rfl rfl ?_ ⟨rfl, rfl⟩
    refine G_aload_n (pc2 := 14) 0 rfl dX8_readNumber_13 rfl rfl ?_
    refine G_aload_n (pc2 := 15) 0 rfl dX8_readNumber_14 rfl rfl ?_
    refine T_1_5 (pc2 := 18) kw_176 dX8_readNumber_15 rfl ?_
    refine P_1_6 (pc2 := 21) h kw_177 dX8_readNumber_18 rfl (fun I_25 h => ?_)
    refine G_iconst (pc2 := 22) dX8_readNumber_21 ic_0 rfl ?_
    refine B_istore_n (pc2 := 23) (fun x3_26 => [(3, .int x3_26), (0, .ref 1), (1, .int x1), (2, .int x2)]) h dX8_readNumber_22 rfl (by decide) (fun _ => rfl) rfl (fun x3_26 h => ?_)
    refine G_sub (ls' := [(0, .ref 1), (1, .int x1), (2, .int x2), (3, .int x3_26)]) [1, 2, 3, 0] rfl ?_
    refine g_L_X8_readNumber_1_23 (fun x3_32 I_33 h => ?_) FU x3_26 I_25 h
    refine G_aload_n (pc2 := 94) 0 rfl dX8_readNumber_93 rfl rfl ?_
    refine T_1_5 (pc2 := 97) kw_176 dX8_readNumber_94 rfl ?_
    refine G_aload_n (pc2 := 98) 0 rfl dX8_readNumber_97 rfl rfl ?_
    refine T_1_6 (pc2 := 101) kw_177 dX8_readNumber_98 rfl ?_
    refine G_isub (pc2 := 102) dX8_readNumber_101 rfl ?_
    refine B_istore (pc2 := 104) (fun x4_34 => [(4, .int x4_34), (0, .ref 1), (1, .int x1), (2, .int x2), (3, .int x3_32)]) h dX8_readNumber_102 (by decide) (fun _ => rfl) rfl (fun x4_34 h => ?_)
    refine G_iload (pc2 := 106) 0 rfl dX8_readNumber_104 rfl ?_
    refine B_if_ne (tgt := 121) (pc2 := 109) h dX8_readNumber_106 (by decide) rfl (fun _ h => ?_) (fun _ h => ?_)
    · refine G_iload (pc2 := 123) 0 rfl dX8_readNumber_121 rfl ?_
      refine G_iconst (pc2 := 124) dX8_readNumber_123 ic_3 rfl ?_
      refine jn_e (Gj := True) (fun (j : Unit → Option (Int32 × WI)) => ∀ (_u : Unit), j _u = some a → GG X md_X8_readNumber (rmD 2) (gv_Z X (rmD 2).cells (rmD 2).slots (some (.int a.1)) (mkW a.2 F J K)) 0 0 137 [(0, .ref 1), (3, .int x3_32)] [] (mkW I_33 F J K)) h (fun _u h => ?_) (fun j137_35 hj137_35 h => ?_)
      · refine G_aload_n (pc2 := 138) 0 rfl dX8_readNumber_137 rfl rfl ?_
        refine G_iconst (pc2 := 139) dX8_readNumber_138 ic_2 rfl ?_
        refine G_aload_n (pc2 := 140) 0 rfl dX8_readNumber_139 rfl rfl ?_
        refine T_1_6 (pc2 := 143) kw_177 dX8_readNumber_140 rfl ?_
        obtain ⟨c_38, hc_38, h⟩ := ob_e h
        refine B_callV (pc2 := 146) si_X8_48 (c_X8_fail_1 hc_38) (qo_1 _ _ _ _) rfl rfl rfl (st := []) (stq := []) rfl (by decide) (by decide) (Nat.le_of_ble_eq_true rfl) mkW_ll dX8_readNumber_143 rfl rfl ?_ ⟨rfl, rfl⟩
        refine G_iload_n (pc2 := 147) 1 rfl dX8_readNumber_146 rfl rfl ?_
        have ha := Option.some.inj h
        subst ha
        exact G_iret rfl dX8_readNumber_147
      refine B_icmp_gt (tgt := 137) (pc2 := 127) h dX8_readNumber_124 (by decide) rfl (fun _ h => ?_) (fun _ h => ?_)
      · refine G_sub (ls' := [(0, .ref 1), (3, .int x3_32)]) [1, 4] rfl ?_
        exact hj137_35 () h
      · refine G_iload_n (pc2 := 128) 4 rfl dX8_readNumber_127 rfl rfl ?_
        refine G_iload_n (pc2 := 129) 2 rfl dX8_readNumber_128 rfl rfl ?_
        refine B_icmp_lt (tgt := 137) (pc2 := 132) h dX8_readNumber_129 (by decide) rfl (fun _ h => ?_) (fun _ h => ?_)
        · refine G_sub (ls' := [(0, .ref 1), (3, .int x3_32)]) [1, 4] rfl ?_
          exact hj137_35 () h
        · refine G_iload_n (pc2 := 133) 4 rfl dX8_readNumber_132 rfl rfl ?_
          refine G_iload_n (pc2 := 134) 3 rfl dX8_readNumber_133 rfl rfl ?_
          refine B_icmp_le (tgt := 146) (pc2 := 137) h dX8_readNumber_134 (by decide) rfl (fun _ h => ?_) (fun _ h => ?_)
          · refine G_iload_n (pc2 := 147) 4 rfl dX8_readNumber_146 rfl rfl ?_
            have ha := Option.some.inj h
            subst ha
            exact G_iret rfl dX8_readNumber_147
          · refine G_sub (ls' := [(0, .ref 1), (3, .int x3_32)]) [1, 4] rfl ?_
            exact hj137_35 () h
    · refine G_aload_n (pc2 := 110) 1 rfl dX8_readNumber_109 rfl rfl ?_
      refine G_iconst (pc2 := 111) dX8_readNumber_110 ic_1 rfl ?_
      refine G_aload_n (pc2 := 112) 1 rfl dX8_readNumber_111 rfl rfl ?_
      refine T_1_5 (pc2 := 115) kw_176 dX8_readNumber_112 rfl ?_
      obtain ⟨c_39, hc_39, h⟩ := ob_e h
      refine B_callV (pc2 := 118) si_X8_48 (c_X8_fail_1 hc_39) (qo_1 _ _ _ _) rfl rfl rfl (st := []) (stq := []) rfl (by decide) (by decide) (Nat.le_of_ble_eq_true rfl) mkW_ll dX8_readNumber_115 rfl rfl ?_ ⟨rfl, rfl⟩
      refine G_goto (tgt := 146) dX8_readNumber_118 (by decide) ?_
      refine G_iload_n (pc2 := 147) 4 rfl dX8_readNumber_146 rfl rfl ?_
      have ha := Option.some.inj h
      subst ha
      exact G_iret rfl dX8_readNumber_147
  · refine G_iconst (pc2 := 8) dX8_readNumber_7 ic_m1 rfl ?_
    have ha := Option.some.inj h
    subst ha
    exact G_iret rfl dX8_readNumber_8)
def f_X8_readPlace_1 (I : WI) (F : WF) : Option (Int32 × WI) :=
  Option.bind (f_X8_readNumber_1 (0 : Int32) ((I 43) - (1 : Int32)) I F) fun c_40 =>
  some (c_40.1, c_40.2)
set_option maxRecDepth 100000 in
set_option maxHeartbeats 4000000 in
theorem c_X8_readPlace_1 {I : WI} {F : WF} {J : WI} {K : WF} {a : Int32 × WI} (h : f_X8_readPlace_1  I F = some a) : CT md_X8_readPlace yX8_readPlace (rmD 3) [.ref 1] (mkW I F J K) (some (.int a.1)) (mkW a.2 F J K) := CT_of pn_X8 ⟨rfl, rfl⟩ (Nat.le_of_ble_eq_true rfl) (fun X => by
  show GG X md_X8_readPlace (rmD 3) _ 0 0 0 [(0, .ref 1)] [] (mkW I F J K)
  unfold f_X8_readPlace_1 at h
  refine G_aload_n (pc2 := 1) 0 rfl dX8_readPlace_0 rfl rfl ?_
  refine G_iconst (pc2 := 2) dX8_readPlace_1 ic_0 rfl ?_
  refine G_aload_n (pc2 := 3) 0 rfl dX8_readPlace_2 rfl rfl ?_
  refine T_1_0 (pc2 := 6) kw_167 dX8_readPlace_3 rfl ?_
  refine T_2_0 (pc2 := 9) kw_98 dX8_readPlace_6 rfl ?_
  refine G_iconst (pc2 := 10) dX8_readPlace_9 ic_1 rfl ?_
  refine G_isub (pc2 := 11) dX8_readPlace_10 rfl ?_
  obtain ⟨c_40, hc_40, h⟩ := ob_e h
  refine B_callV (pc2 := 14) si_X8_79 (c_X8_readNumber_1 hc_40) (qo_1 _ _ _ _) rfl rfl rfl (st := []) (stq := [.int c_40.1]) rfl (by decide) (by decide) (Nat.le_of_ble_eq_true rfl) mkW_ll dX8_readPlace_11 rfl rfl ?_ ⟨rfl, rfl⟩
  have ha := Option.some.inj h
  subst ha
  exact G_iret rfl dX8_readPlace_14)
def f_X8_endsClause_1 (I : WI) (F : WF) : Option (Int32 × WI) :=
  if (I 39) = 0 then (Option.bind (f_X8_skipBlanks_1 I F) fun c_51 =>
  bnd (fun (_u : Unit) => Option.bind (f_X8_fail_1 (1 : Int32) (c_51 41) c_51 F) fun c_53 =>
  some ((0 : Int32), c_53)) fun j38_52 =>
  if (c_51 38) ≤ (c_51 41) then (j38_52 ())
  else (ixG (c_51 41) 240 (
  if (F 160 (c_51 41).toNatClampNeg) = (59 : Int32) then (bnd (upd c_51 41 ((c_51 41) + (1 : Int32))) fun I_54 =>
  some ((1 : Int32), I_54))
  else (j38_52 ()))))
  else (some ((0 : Int32), I))
set_option maxRecDepth 100000 in
set_option maxHeartbeats 4000000 in
theorem c_X8_endsClause_1 {I : WI} {F : WF} {J : WI} {K : WF} {a : Int32 × WI} (h : f_X8_endsClause_1  I F = some a) : CT md_X8_endsClause yX8_endsClause (rmD 2) [.ref 1] (mkW I F J K) (some (.int a.1)) (mkW a.2 F J K) := CT_of pn_X8 ⟨rfl, rfl⟩ (Nat.le_of_ble_eq_true rfl) (fun X => by
  show GG X md_X8_endsClause (rmD 2) _ 0 0 0 [(0, .ref 1)] [] (mkW I F J K)
  unfold f_X8_endsClause_1 at h
  refine G_aload_n (pc2 := 1) 0 rfl dX8_endsClause_0 rfl rfl ?_
  refine T_1_2 (pc2 := 4) kw_171 dX8_endsClause_1 rfl ?_
  refine B_if_eq (tgt := 9) (pc2 := 7) h dX8_endsClause_4 (by decide) rfl (fun _ h => ?_) (fun _ h => ?_)
  · refine G_aload_n (pc2 := 10) 0 rfl dX8_endsClause_9 rfl rfl ?_
    obtain ⟨c_51, hc_51, h⟩ := ob_e h
    refine B_callV (pc2 := 13) si_X8_38 (c_X8_skipBlanks_1 hc_51) (qo_1 _ _ _ _) rfl rfl rfl (st := []) (stq := []) rfl (by decide) (by decide) (Nat.le_of_ble_eq_true rfl) mkW_ll dX8_endsClause_10 rfl rfl ?_ ⟨rfl, rfl⟩
    refine G_aload_n (pc2 := 14) 0 rfl dX8_endsClause_13 rfl rfl ?_
    refine T_1_5 (pc2 := 17) kw_176 dX8_endsClause_14 rfl ?_
    refine G_aload_n (pc2 := 18) 0 rfl dX8_endsClause_17 rfl rfl ?_
    refine T_1_1 (pc2 := 21) kw_169 dX8_endsClause_18 rfl ?_
    refine jn_e (Gj := True) (fun (j : Unit → Option (Int32 × WI)) => ∀ (_u : Unit), j _u = some a → GG X md_X8_endsClause (rmD 2) (gv_Z X (rmD 2).cells (rmD 2).slots (some (.int a.1)) (mkW a.2 F J K)) 0 0 38 [(0, .ref 1)] [] (mkW c_51 F J K)) h (fun _u h => ?_) (fun j38_52 hj38_52 h => ?_)
    · refine G_aload_n (pc2 := 39) 0 rfl dX8_endsClause_38 rfl rfl ?_
      refine G_iconst (pc2 := 40) dX8_endsClause_39 ic_1 rfl ?_
      refine G_aload_n (pc2 := 41) 0 rfl dX8_endsClause_40 rfl rfl ?_
      refine T_1_5 (pc2 := 44) kw_176 dX8_endsClause_41 rfl ?_
      obtain ⟨c_53, hc_53, h⟩ := ob_e h
      refine B_callV (pc2 := 47) si_X8_48 (c_X8_fail_1 hc_53) (qo_1 _ _ _ _) rfl rfl rfl (st := []) (stq := []) rfl (by decide) (by decide) (Nat.le_of_ble_eq_true rfl) mkW_ll dX8_endsClause_44 rfl rfl ?_ ⟨rfl, rfl⟩
      refine G_iconst (pc2 := 48) dX8_endsClause_47 ic_0 rfl ?_
      have ha := Option.some.inj h
      subst ha
      exact G_zret (v := (0 : Int32)) rfl (by decide) dX8_endsClause_48
    refine B_icmp_ge (tgt := 38) (pc2 := 24) h dX8_endsClause_21 (by decide) rfl (fun _ h => ?_) (fun _ h => ?_)
    · exact hj38_52 () h
    · refine G_aload_n (pc2 := 25) 0 rfl dX8_endsClause_24 rfl rfl ?_
      refine T_1_4 (pc2 := 28) kw_175 dX8_endsClause_25 rfl ?_
      refine G_aload_n (pc2 := 29) 0 rfl dX8_endsClause_28 rfl rfl ?_
      refine T_1_5 (pc2 := 32) kw_176 dX8_endsClause_29 rfl ?_
      refine AC (pc2 := 33) (fa_11 _ _ _ _) h dX8_endsClause_32 rfl (fun h => ?_)
      refine G_bipush (pc2 := 35) dX8_endsClause_33 ib_59 rfl ?_
      refine B_icmp_eq (tgt := 49) (pc2 := 38) h dX8_endsClause_35 (by decide) rfl (fun _ h => ?_) (fun _ h => ?_)
      · refine G_aload_n (pc2 := 50) 0 rfl dX8_endsClause_49 rfl rfl ?_
        refine G_dup (pc2 := 51) rfl dX8_endsClause_50 rfl ?_
        refine T_1_5 (pc2 := 54) kw_176 dX8_endsClause_51 rfl ?_
        refine G_iconst (pc2 := 55) dX8_endsClause_54 ic_1 rfl ?_
        refine G_iadd (pc2 := 56) dX8_endsClause_55 rfl ?_
        refine P_1_5 (pc2 := 59) h kw_176 dX8_endsClause_56 rfl (fun I_54 h => ?_)
        refine G_iconst (pc2 := 60) dX8_endsClause_59 ic_1 rfl ?_
        have ha := Option.some.inj h
        subst ha
        exact G_zret (v := (1 : Int32)) rfl (by decide) dX8_endsClause_60
      · exact hj38_52 () h
  · refine G_iconst (pc2 := 8) dX8_endsClause_7 ic_0 rfl ?_
    have ha := Option.some.inj h
    subst ha
    exact G_zret (v := (0 : Int32)) rfl (by decide) dX8_endsClause_8)
def f_X7_addBridge_2 (x1 : Int32) (x2 : Int32) (x3 : Int32) (x4 : Int32) (I : WI) (F : WF) : Option (WI × WF) :=
  ixG (I 44) 9 (bnd (uF F 152 (upd (F 152) (I 44).toNatClampNeg x1)) fun F_56 =>
  ixG (I 44) 9 (bnd (uF F_56 153 (upd (F_56 153) (I 44).toNatClampNeg x2)) fun F_57 =>
  ixG (I 44) 9 (bnd (uF F_57 154 (upd (F_57 154) (I 44).toNatClampNeg x3)) fun F_58 =>
  ixG (I 44) 9 (bnd (uF F_58 155 (upd (F_58 155) (I 44).toNatClampNeg x4)) fun F_59 =>
  bnd (upd I 44 ((I 44) + (1 : Int32))) fun I_60 =>
  some (I_60, F_59)))))
set_option maxRecDepth 100000 in
set_option maxHeartbeats 4000000 in
theorem c_X7_addBridge_2 {x1 : Int32} {x2 : Int32} {x3 : Int32} {x4 : Int32} {I : WI} {F : WF} {J : WI} {K : WF} {a : WI × WF} (h : f_X7_addBridge_2 x1 x2 x3 x4 I F = some a) : CT md_X7_addBridge yX7_addBridge (rmD 1) [.ref 2, .int x1, .int x2, .int x3, .int x4] (mkW I F J K) none (mkW a.1 a.2 J K) := CT_of pn_X7 ⟨rfl, rfl⟩ (Nat.le_of_ble_eq_true rfl) (fun X => by
  show GG X md_X7_addBridge (rmD 1) _ 0 0 0 [(0, .ref 2), (1, .int x1), (2, .int x2), (3, .int x3), (4, .int x4)] [] (mkW I F J K)
  unfold f_X7_addBridge_2 at h
  refine G_aload_n (pc2 := 1) 0 rfl dX7_addBridge_0 rfl rfl ?_
  refine T_2_4 (pc2 := 4) kw_118 dX7_addBridge_1 rfl ?_
  refine G_aload_n (pc2 := 5) 0 rfl dX7_addBridge_4 rfl rfl ?_
  refine T_2_1 (pc2 := 8) kw_100 dX7_addBridge_5 rfl ?_
  refine G_iload_n (pc2 := 9) 1 rfl dX7_addBridge_8 rfl rfl ?_
  refine SC (pc2 := 10) (fa_3 _ _ _ _) h dX7_addBridge_9 rfl (fun F_56 h => ?_)
  refine G_aload_n (pc2 := 11) 0 rfl dX7_addBridge_10 rfl rfl ?_
  refine T_2_5 (pc2 := 14) kw_121 dX7_addBridge_11 rfl ?_
  refine G_aload_n (pc2 := 15) 0 rfl dX7_addBridge_14 rfl rfl ?_
  refine T_2_1 (pc2 := 18) kw_100 dX7_addBridge_15 rfl ?_
  refine G_iload_n (pc2 := 19) 2 rfl dX7_addBridge_18 rfl rfl ?_
  refine SC (pc2 := 20) (fa_4 _ _ _ _) h dX7_addBridge_19 rfl (fun F_57 h => ?_)
  refine G_aload_n (pc2 := 21) 0 rfl dX7_addBridge_20 rfl rfl ?_
  refine T_2_6 (pc2 := 24) kw_124 dX7_addBridge_21 rfl ?_
  refine G_aload_n (pc2 := 25) 0 rfl dX7_addBridge_24 rfl rfl ?_
  refine T_2_1 (pc2 := 28) kw_100 dX7_addBridge_25 rfl ?_
  refine G_iload_n (pc2 := 29) 3 rfl dX7_addBridge_28 rfl rfl ?_
  refine SC (pc2 := 30) (fa_5 _ _ _ _) h dX7_addBridge_29 rfl (fun F_58 h => ?_)
  refine G_aload_n (pc2 := 31) 0 rfl dX7_addBridge_30 rfl rfl ?_
  refine T_2_7 (pc2 := 34) kw_127 dX7_addBridge_31 rfl ?_
  refine G_aload_n (pc2 := 35) 0 rfl dX7_addBridge_34 rfl rfl ?_
  refine T_2_1 (pc2 := 38) kw_100 dX7_addBridge_35 rfl ?_
  refine G_iload (pc2 := 40) 4 rfl dX7_addBridge_38 rfl ?_
  refine SC (pc2 := 41) (fa_6 _ _ _ _) h dX7_addBridge_40 rfl (fun F_59 h => ?_)
  refine G_aload_n (pc2 := 42) 0 rfl dX7_addBridge_41 rfl rfl ?_
  refine G_dup (pc2 := 43) rfl dX7_addBridge_42 rfl ?_
  refine T_2_1 (pc2 := 46) kw_100 dX7_addBridge_43 rfl ?_
  refine G_iconst (pc2 := 47) dX7_addBridge_46 ic_1 rfl ?_
  refine G_iadd (pc2 := 48) dX7_addBridge_47 rfl ?_
  refine P_2_1 (pc2 := 51) h kw_100 dX7_addBridge_48 rfl (fun I_60 h => ?_)
  have ha := Option.some.inj h
  subst ha
  exact G_vret rfl dX7_addBridge_51)
def f_X7_touches_2 (x1 : Int32) (x2 : Int32) (I : WI) (F : WF) : Option (Int32) :=
  ixG x1 9 (
  if (F 152 x1.toNatClampNeg) = x2 then (some (1 : Int32))
  else (ixG x1 9 (
  if (F 153 x1.toNatClampNeg) = x2 then (some (1 : Int32))
  else (some (0 : Int32)))))
set_option maxRecDepth 100000 in
set_option maxHeartbeats 4000000 in
theorem c_X7_touches_2 {x1 : Int32} {x2 : Int32} {I : WI} {F : WF} {J : WI} {K : WF} {a : Int32} (h : f_X7_touches_2 x1 x2 I F = some a) : CT md_X7_touches yX7_touches (rmD 1) [.ref 2, .int x1, .int x2] (mkW I F J K) (some (.int a)) (mkW I F J K) := CT_of pn_X7 ⟨rfl, rfl⟩ (Nat.le_of_ble_eq_true rfl) (fun X => by
  show GG X md_X7_touches (rmD 1) _ 0 0 0 [(0, .ref 2), (1, .int x1), (2, .int x2)] [] (mkW I F J K)
  unfold f_X7_touches_2 at h
  refine G_aload_n (pc2 := 1) 0 rfl dX7_touches_0 rfl rfl ?_
  refine T_2_4 (pc2 := 4) kw_118 dX7_touches_1 rfl ?_
  refine G_iload_n (pc2 := 5) 1 rfl dX7_touches_4 rfl rfl ?_
  refine AC (pc2 := 6) (fa_3 _ _ _ _) h dX7_touches_5 rfl (fun h => ?_)
  refine G_iload_n (pc2 := 7) 2 rfl dX7_touches_6 rfl rfl ?_
  refine B_icmp_eq (tgt := 20) (pc2 := 10) h dX7_touches_7 (by decide) rfl (fun _ h => ?_) (fun _ h => ?_)
  · refine G_iconst (pc2 := 21) dX7_touches_20 ic_1 rfl ?_
    refine G_goto (tgt := 25) dX7_touches_21 (by decide) ?_
    have ha := Option.some.inj h
    subst ha
    exact G_zret (v := (1 : Int32)) rfl (by decide) dX7_touches_25
  · refine G_aload_n (pc2 := 11) 0 rfl dX7_touches_10 rfl rfl ?_
    refine T_2_5 (pc2 := 14) kw_121 dX7_touches_11 rfl ?_
    refine G_iload_n (pc2 := 15) 1 rfl dX7_touches_14 rfl rfl ?_
    refine AC (pc2 := 16) (fa_4 _ _ _ _) h dX7_touches_15 rfl (fun h => ?_)
    refine G_iload_n (pc2 := 17) 2 rfl dX7_touches_16 rfl rfl ?_
    refine B_icmp_ne (tgt := 24) (pc2 := 20) h dX7_touches_17 (by decide) rfl (fun _ h => ?_) (fun _ h => ?_)
    · refine G_iconst (pc2 := 25) dX7_touches_24 ic_0 rfl ?_
      have ha := Option.some.inj h
      subst ha
      exact G_zret (v := (0 : Int32)) rfl (by decide) dX7_touches_25
    · refine G_iconst (pc2 := 21) dX7_touches_20 ic_1 rfl ?_
      refine G_goto (tgt := 25) dX7_touches_21 (by decide) ?_
      have ha := Option.some.inj h
      subst ha
      exact G_zret (v := (1 : Int32)) rfl (by decide) dX7_touches_25)
def f_X7_beyond_2 (x1 : Int32) (x2 : Int32) (I : WI) (F : WF) : Option (Int32) :=
  ixG x1 9 (
  if (F 152 x1.toNatClampNeg) = x2 then (ixG x1 9 (
  some (F 153 x1.toNatClampNeg)))
  else (ixG x1 9 (
  some (F 152 x1.toNatClampNeg))))
set_option maxRecDepth 100000 in
set_option maxHeartbeats 4000000 in
theorem c_X7_beyond_2 {x1 : Int32} {x2 : Int32} {I : WI} {F : WF} {J : WI} {K : WF} {a : Int32} (h : f_X7_beyond_2 x1 x2 I F = some a) : CT md_X7_beyond yX7_beyond (rmD 1) [.ref 2, .int x1, .int x2] (mkW I F J K) (some (.int a)) (mkW I F J K) := CT_of pn_X7 ⟨rfl, rfl⟩ (Nat.le_of_ble_eq_true rfl) (fun X => by
  show GG X md_X7_beyond (rmD 1) _ 0 0 0 [(0, .ref 2), (1, .int x1), (2, .int x2)] [] (mkW I F J K)
  unfold f_X7_beyond_2 at h
  refine G_aload_n (pc2 := 1) 0 rfl dX7_beyond_0 rfl rfl ?_
  refine T_2_4 (pc2 := 4) kw_118 dX7_beyond_1 rfl ?_
  refine G_iload_n (pc2 := 5) 1 rfl dX7_beyond_4 rfl rfl ?_
  refine AC (pc2 := 6) (fa_3 _ _ _ _) h dX7_beyond_5 rfl (fun h => ?_)
  refine G_iload_n (pc2 := 7) 2 rfl dX7_beyond_6 rfl rfl ?_
  refine B_icmp_ne (tgt := 19) (pc2 := 10) h dX7_beyond_7 (by decide) rfl (fun _ h => ?_) (fun _ h => ?_)
  · refine G_aload_n (pc2 := 20) 0 rfl dX7_beyond_19 rfl rfl ?_
    refine T_2_4 (pc2 := 23) kw_118 dX7_beyond_20 rfl ?_
    refine G_iload_n (pc2 := 24) 1 rfl dX7_beyond_23 rfl rfl ?_
    refine AC (pc2 := 25) (fa_3 _ _ _ _) h dX7_beyond_24 rfl (fun h => ?_)
    have ha := Option.some.inj h
    subst ha
    exact G_iret rfl dX7_beyond_25
  · refine G_aload_n (pc2 := 11) 0 rfl dX7_beyond_10 rfl rfl ?_
    refine T_2_5 (pc2 := 14) kw_121 dX7_beyond_11 rfl ?_
    refine G_iload_n (pc2 := 15) 1 rfl dX7_beyond_14 rfl rfl ?_
    refine AC (pc2 := 16) (fa_4 _ _ _ _) h dX7_beyond_15 rfl (fun h => ?_)
    refine G_goto (tgt := 25) dX7_beyond_16 (by decide) ?_
    have ha := Option.some.inj h
    subst ha
    exact G_iret rfl dX7_beyond_25)
def L_X7_joined_2_2 (k : Option (Int32)) (x1 : Int32) (x2 : Int32) (I : WI) (F : WF) : Nat → Int32 → Option (Int32)
  | 0, _ => none
  | n + 1, x3 =>
  if (I 44) ≤ x3 then (k)
  else (Option.bind (f_X7_touches_2 x3 x1 I F) fun c_65 =>
  bnd (fun (_u : Unit) => bnd (x3 + (1 : Int32)) fun x3_67 =>
  L_X7_joined_2_2 k x1 x2 I F n x3_67) fun j31_66 =>
  if c_65 = 0 then (j31_66 ())
  else (Option.bind (f_X7_beyond_2 x3 x1 I F) fun c_68 =>
  if c_68 = x2 then (some (1 : Int32))
  else (j31_66 ())))
def f_X7_joined_2 (x1 : Int32) (x2 : Int32) (I : WI) (F : WF) : Option (Int32) :=
  bnd (0 : Int32) fun x3_64 =>
  L_X7_joined_2_2 (some (0 : Int32)) x1 x2 I F FU x3_64
set_option maxRecDepth 100000 in
set_option maxHeartbeats 4000000 in
theorem g_L_X7_joined_2_2 {X : XT} {x1 : Int32} {x2 : Int32} {I : WI} {F : WF} {J : WI} {K : WF} {a : Int32} {k : Option (Int32)} (hk : (k = some a → GG X md_X7_joined (rmD 2) (gv_Z X (rmD 2).cells (rmD 2).slots (some (.int a)) (mkW I F J K)) 0 0 37 [] [] (mkW I F J K))) : ∀ (n : Nat) (x3 : Int32), L_X7_joined_2_2 k x1 x2 I F n x3 = some a → GG X md_X7_joined (rmD 2) (gv_Z X (rmD 2).cells (rmD 2).slots (some (.int a)) (mkW I F J K)) 0 0 2 [(0, .ref 2), (1, .int x1), (2, .int x2), (3, .int x3)] [] (mkW I F J K) := by
  intro n
  induction n with
  | zero =>
    intro x3 h
    rw [L_X7_joined_2_2] at h
    cases h
  | succ n ih =>
    intro x3 h
    rw [L_X7_joined_2_2] at h
    refine G_iload_n (pc2 := 3) 3 rfl dX7_joined_2 rfl rfl ?_
    refine G_aload_n (pc2 := 4) 0 rfl dX7_joined_3 rfl rfl ?_
    refine T_2_1 (pc2 := 7) kw_100 dX7_joined_4 rfl ?_
    refine B_icmp_ge (tgt := 37) (pc2 := 10) h dX7_joined_7 (by decide) rfl (fun _ h => ?_) (fun _ h => ?_)
    · refine G_sub (ls' := []) [] rfl ?_
      exact hk  h
    · refine G_aload_n (pc2 := 11) 0 rfl dX7_joined_10 rfl rfl ?_
      refine G_iload_n (pc2 := 12) 3 rfl dX7_joined_11 rfl rfl ?_
      refine G_iload_n (pc2 := 13) 1 rfl dX7_joined_12 rfl rfl ?_
      obtain ⟨c_65, hc_65, h⟩ := ob_e h
      refine B_callV (pc2 := 16) si_X7_55 (c_X7_touches_2 hc_65) (qo_2 _ _ _ _) rfl rfl rfl (st := []) (stq := [.int c_65]) rfl (by decide) (by decide) (Nat.le_of_ble_eq_true rfl) mkW_ll dX7_joined_13 rfl rfl ?_ ⟨rfl, rfl⟩
      refine jn_e (Gj := True) (fun (j : Unit → Option (Int32)) => ∀ (_u : Unit), j _u = some a → GG X md_X7_joined (rmD 2) (gv_Z X (rmD 2).cells (rmD 2).slots (some (.int a)) (mkW I F J K)) 0 0 31 [(0, .ref 2), (1, .int x1), (2, .int x2), (3, .int x3)] [] (mkW I F J K)) h (fun _u h => ?_) (fun j31_66 hj31_66 h => ?_)
      · refine B_iinc (pc2 := 34) 3 (fun x3_67 => [(3, .int x3_67), (0, .ref 2), (1, .int x1), (2, .int x2)]) h rfl dX7_joined_31 ic_1 (by decide) (fun _ => rfl) rfl (fun x3_67 h => ?_)
        refine G_goto (tgt := 2) dX7_joined_34 (by decide) ?_
        refine G_sub (ls' := [(0, .ref 2), (1, .int x1), (2, .int x2), (3, .int x3_67)]) [1, 2, 3, 0] rfl ?_
        exact ih x3_67 h
      refine B_if_eq (tgt := 31) (pc2 := 19) h dX7_joined_16 (by decide) rfl (fun _ h => ?_) (fun _ h => ?_)
      · exact hj31_66 () h
      · refine G_aload_n (pc2 := 20) 0 rfl dX7_joined_19 rfl rfl ?_
        refine G_iload_n (pc2 := 21) 3 rfl dX7_joined_20 rfl rfl ?_
        refine G_iload_n (pc2 := 22) 1 rfl dX7_joined_21 rfl rfl ?_
        obtain ⟨c_68, hc_68, h⟩ := ob_e h
        refine B_callV (pc2 := 25) si_X7_59 (c_X7_beyond_2 hc_68) (qo_2 _ _ _ _) rfl rfl rfl (st := []) (stq := [.int c_68]) rfl (by decide) (by decide) (Nat.le_of_ble_eq_true rfl) mkW_ll dX7_joined_22 rfl rfl ?_ ⟨rfl, rfl⟩
        refine G_iload_n (pc2 := 26) 2 rfl dX7_joined_25 rfl rfl ?_
        refine B_icmp_ne (tgt := 31) (pc2 := 29) h dX7_joined_26 (by decide) rfl (fun _ h => ?_) (fun _ h => ?_)
        · exact hj31_66 () h
        · refine G_iconst (pc2 := 30) dX7_joined_29 ic_1 rfl ?_
          have ha := Option.some.inj h
          subst ha
          exact G_zret (v := (1 : Int32)) rfl (by decide) dX7_joined_30
set_option maxRecDepth 100000 in
set_option maxHeartbeats 4000000 in
theorem c_X7_joined_2 {x1 : Int32} {x2 : Int32} {I : WI} {F : WF} {J : WI} {K : WF} {a : Int32} (h : f_X7_joined_2 x1 x2 I F = some a) : CT md_X7_joined yX7_joined (rmD 2) [.ref 2, .int x1, .int x2] (mkW I F J K) (some (.int a)) (mkW I F J K) := CT_of pn_X7 ⟨rfl, rfl⟩ (Nat.le_of_ble_eq_true rfl) (fun X => by
  show GG X md_X7_joined (rmD 2) _ 0 0 0 [(0, .ref 2), (1, .int x1), (2, .int x2)] [] (mkW I F J K)
  unfold f_X7_joined_2 at h
  refine G_iconst (pc2 := 1) dX7_joined_0 ic_0 rfl ?_
  refine B_istore_n (pc2 := 2) (fun x3_64 => [(3, .int x3_64), (0, .ref 2), (1, .int x1), (2, .int x2)]) h dX7_joined_1 rfl (by decide) (fun _ => rfl) rfl (fun x3_64 h => ?_)
  refine G_sub (ls' := [(0, .ref 2), (1, .int x1), (2, .int x2), (3, .int x3_64)]) [1, 2, 3, 0] rfl ?_
  refine g_L_X7_joined_2_2 (fun h => ?_) FU x3_64 h
  refine G_iconst (pc2 := 38) dX7_joined_37 ic_0 rfl ?_
  have ha := Option.some.inj h
  subst ha
  exact G_zret (v := (0 : Int32)) rfl (by decide) dX7_joined_38)
def f_X8_readBridge_1 (I : WI) (F : WF) : Option (WI × WF) :=
  Option.bind (f_X8_readPlace_1 I F) fun c_41 =>
  bnd c_41.1 fun x1_42 =>
  Option.bind (f_X8_readPlace_1 c_41.2 F) fun c_43 =>
  bnd c_43.1 fun x2_44 =>
  bnd (fun (I_46 : WI) => Option.bind (f_X8_readNumber_1 (2 : Int32) (40 : Int32) I_46 F) fun c_47 =>
  bnd c_47.1 fun x3_48 =>
  Option.bind (f_X8_readNumber_1 (0 : Int32) (99 : Int32) c_47.2 F) fun c_49 =>
  bnd c_49.1 fun x4_50 =>
  Option.bind (f_X8_endsClause_1 c_49.2 F) fun c_55 =>
  if c_55.1 = 0 then (some (c_55.2, F))
  else (Option.bind (f_X7_addBridge_2 x1_42 x2_44 x3_48 x4_50 c_55.2 F) fun c_61 =>
  some (c_61.1, c_61.2))) fun j43_45 =>
  if (c_43.2 39) = 0 then (bnd (fun (_u : Unit) => Option.bind (f_X8_fail_1 (4 : Int32) (c_43.2 42) c_43.2 F) fun c_63 =>
  j43_45 c_63) fun j34_62 =>
  if x1_42 = x2_44 then (j34_62 ())
  else (Option.bind (f_X7_joined_2 x1_42 x2_44 c_43.2 F) fun c_69 =>
  if c_69 = 0 then (j43_45 c_43.2)
  else (j34_62 ())))
  else (j43_45 c_43.2)
set_option maxRecDepth 100000 in
set_option maxHeartbeats 4000000 in
theorem c_X8_readBridge_1 {I : WI} {F : WF} {J : WI} {K : WF} {a : WI × WF} (h : f_X8_readBridge_1  I F = some a) : CT md_X8_readBridge yX8_readBridge (rmD 4) [.ref 1] (mkW I F J K) none (mkW a.1 a.2 J K) := CT_of pn_X8 ⟨rfl, rfl⟩ (Nat.le_of_ble_eq_true rfl) (fun X => by
  show GG X md_X8_readBridge (rmD 4) _ 0 0 0 [(0, .ref 1)] [] (mkW I F J K)
  unfold f_X8_readBridge_1 at h
  refine G_aload_n (pc2 := 1) 0 rfl dX8_readBridge_0 rfl rfl ?_
  obtain ⟨c_41, hc_41, h⟩ := ob_e h
  refine B_callV (pc2 := 4) si_X8_87 (c_X8_readPlace_1 hc_41) (qo_1 _ _ _ _) rfl rfl rfl (st := []) (stq := [.int c_41.1]) rfl (by decide) (by decide) (Nat.le_of_ble_eq_true rfl) mkW_ll dX8_readBridge_1 rfl rfl ?_ ⟨rfl, rfl⟩
  refine B_istore_n (pc2 := 5) (fun x1_42 => [(1, .int x1_42), (0, .ref 1)]) h dX8_readBridge_4 rfl (by decide) (fun _ => rfl) rfl (fun x1_42 h => ?_)
  refine G_aload_n (pc2 := 6) 1 rfl dX8_readBridge_5 rfl rfl ?_
  obtain ⟨c_43, hc_43, h⟩ := ob_e h
  refine B_callV (pc2 := 9) si_X8_87 (c_X8_readPlace_1 hc_43) (qo_1 _ _ _ _) rfl rfl rfl (st := []) (stq := [.int c_43.1]) rfl (by decide) (by decide) (Nat.le_of_ble_eq_true rfl) mkW_ll dX8_readBridge_6 rfl rfl ?_ ⟨rfl, rfl⟩
  refine B_istore_n (pc2 := 10) (fun x2_44 => [(2, .int x2_44), (1, .int x1_42), (0, .ref 1)]) h dX8_readBridge_9 rfl (by decide) (fun _ => rfl) rfl (fun x2_44 h => ?_)
  refine G_aload_n (pc2 := 11) 2 rfl dX8_readBridge_10 rfl rfl ?_
  refine T_1_2 (pc2 := 14) kw_171 dX8_readBridge_11 rfl ?_
  refine jn_e (Gj := True) (fun (j : WI → Option (WI × WF)) => ∀ (I_46 : WI), j I_46 = some a → GG X md_X8_readBridge (rmD 4) (gv_Z X (rmD 4).cells (rmD 4).slots none (mkW a.1 a.2 J K)) 0 0 43 [(0, .ref 1), (1, .int x1_42), (2, .int x2_44)] [] (mkW I_46 F J K)) h (fun I_46 h => ?_) (fun j43_45 hj43_45 h => ?_)
  · refine G_aload_n (pc2 := 44) 0 rfl dX8_readBridge_43 rfl rfl ?_
    refine G_iconst (pc2 := 45) dX8_readBridge_44 ic_2 rfl ?_
    refine G_bipush (pc2 := 47) dX8_readBridge_45 ib_40 rfl ?_
    obtain ⟨c_47, hc_47, h⟩ := ob_e h
    refine B_callV (pc2 := 50) si_X8_79 (c_X8_readNumber_1 hc_47) (qo_1 _ _ _ _) rfl rfl rfl (st := []) (stq := [.int c_47.1]) rfl (by decide) (by decide) (Nat.le_of_ble_eq_true rfl) mkW_ll dX8_readBridge_47 rfl rfl ?_ ⟨rfl, rfl⟩
    refine B_istore_n (pc2 := 51) (fun x3_48 => [(3, .int x3_48), (0, .ref 1), (1, .int x1_42), (2, .int x2_44)]) h dX8_readBridge_50 rfl (by decide) (fun _ => rfl) rfl (fun x3_48 h => ?_)
    refine G_aload_n (pc2 := 52) 1 rfl dX8_readBridge_51 rfl rfl ?_
    refine G_iconst (pc2 := 53) dX8_readBridge_52 ic_0 rfl ?_
    refine G_bipush (pc2 := 55) dX8_readBridge_53 ib_99 rfl ?_
    obtain ⟨c_49, hc_49, h⟩ := ob_e h
    refine B_callV (pc2 := 58) si_X8_79 (c_X8_readNumber_1 hc_49) (qo_1 _ _ _ _) rfl rfl rfl (st := []) (stq := [.int c_49.1]) rfl (by decide) (by decide) (Nat.le_of_ble_eq_true rfl) mkW_ll dX8_readBridge_55 rfl rfl ?_ ⟨rfl, rfl⟩
    refine B_istore (pc2 := 60) (fun x4_50 => [(4, .int x4_50), (3, .int x3_48), (0, .ref 1), (1, .int x1_42), (2, .int x2_44)]) h dX8_readBridge_58 (by decide) (fun _ => rfl) rfl (fun x4_50 h => ?_)
    refine G_aload_n (pc2 := 61) 2 rfl dX8_readBridge_60 rfl rfl ?_
    obtain ⟨c_55, hc_55, h⟩ := ob_e h
    refine B_callV (pc2 := 64) si_X8_83 (c_X8_endsClause_1 hc_55) (qo_1 _ _ _ _) rfl rfl rfl (st := []) (stq := [.int c_55.1]) rfl (by decide) (by decide) (Nat.le_of_ble_eq_true rfl) mkW_ll dX8_readBridge_61 rfl rfl ?_ ⟨rfl, rfl⟩
    refine B_if_eq (tgt := 79) (pc2 := 67) h dX8_readBridge_64 (by decide) rfl (fun _ h => ?_) (fun _ h => ?_)
    · have ha := Option.some.inj h
      subst ha
      exact G_vret rfl dX8_readBridge_79
    · refine G_aload_n (pc2 := 68) 2 rfl dX8_readBridge_67 rfl rfl ?_
      refine T_1_0 (pc2 := 71) kw_167 dX8_readBridge_68 rfl ?_
      refine G_iload_n (pc2 := 72) 3 rfl dX8_readBridge_71 rfl rfl ?_
      refine G_iload_n (pc2 := 73) 4 rfl dX8_readBridge_72 rfl rfl ?_
      refine G_iload_n (pc2 := 74) 1 rfl dX8_readBridge_73 rfl rfl ?_
      refine G_iload (pc2 := 76) 0 rfl dX8_readBridge_74 rfl ?_
      obtain ⟨c_61, hc_61, h⟩ := ob_e h
      refine B_callV (pc2 := 79) si_X8_98 (c_X7_addBridge_2 hc_61) (qo_2 _ _ _ _) rfl rfl rfl (st := []) (stq := []) rfl (by decide) (by decide) (Nat.le_of_ble_eq_true rfl) mkW_ll dX8_readBridge_76 rfl rfl ?_ ⟨rfl, rfl⟩
      have ha := Option.some.inj h
      subst ha
      exact G_vret rfl dX8_readBridge_79
  refine B_if_ne (tgt := 43) (pc2 := 17) h dX8_readBridge_14 (by decide) rfl (fun _ h => ?_) (fun _ h => ?_)
  · refine G_sub (ls' := [(0, .ref 1), (1, .int x1_42), (2, .int x2_44)]) [2, 1, 0] rfl ?_
    exact hj43_45 c_43.2 h
  · refine G_iload_n (pc2 := 18) 1 rfl dX8_readBridge_17 rfl rfl ?_
    refine G_iload_n (pc2 := 19) 0 rfl dX8_readBridge_18 rfl rfl ?_
    refine jn_e (Gj := True) (fun (j : Unit → Option (WI × WF)) => ∀ (_u : Unit), j _u = some a → GG X md_X8_readBridge (rmD 4) (gv_Z X (rmD 4).cells (rmD 4).slots none (mkW a.1 a.2 J K)) 0 0 34 [(0, .ref 1), (1, .int x1_42), (2, .int x2_44)] [] (mkW c_43.2 F J K)) h (fun _u h => ?_) (fun j34_62 hj34_62 h => ?_)
    · refine G_aload_n (pc2 := 35) 0 rfl dX8_readBridge_34 rfl rfl ?_
      refine G_iconst (pc2 := 36) dX8_readBridge_35 ic_4 rfl ?_
      refine G_aload_n (pc2 := 37) 0 rfl dX8_readBridge_36 rfl rfl ?_
      refine T_1_6 (pc2 := 40) kw_177 dX8_readBridge_37 rfl ?_
      obtain ⟨c_63, hc_63, h⟩ := ob_e h
      refine B_callV (pc2 := 43) si_X8_48 (c_X8_fail_1 hc_63) (qo_1 _ _ _ _) rfl rfl rfl (st := []) (stq := []) rfl (by decide) (by decide) (Nat.le_of_ble_eq_true rfl) mkW_ll dX8_readBridge_40 rfl rfl ?_ ⟨rfl, rfl⟩
      exact hj43_45 c_63 h
    refine B_icmp_eq (tgt := 34) (pc2 := 22) h dX8_readBridge_19 (by decide) rfl (fun _ h => ?_) (fun _ h => ?_)
    · refine G_sub (ls' := [(0, .ref 1), (1, .int x1_42), (2, .int x2_44)]) [2, 1, 0] rfl ?_
      exact hj34_62 () h
    · refine G_aload_n (pc2 := 23) 2 rfl dX8_readBridge_22 rfl rfl ?_
      refine T_1_0 (pc2 := 26) kw_167 dX8_readBridge_23 rfl ?_
      refine G_iload_n (pc2 := 27) 1 rfl dX8_readBridge_26 rfl rfl ?_
      refine G_iload_n (pc2 := 28) 0 rfl dX8_readBridge_27 rfl rfl ?_
      obtain ⟨c_69, hc_69, h⟩ := ob_e h
      refine B_callV (pc2 := 31) si_X8_91 (c_X7_joined_2 hc_69) (qo_2 _ _ _ _) rfl rfl rfl (st := []) (stq := [.int c_69]) rfl (by decide) (by decide) (Nat.le_of_ble_eq_true rfl) mkW_ll dX8_readBridge_28 rfl rfl ?_ ⟨rfl, rfl⟩
      refine B_if_eq (tgt := 43) (pc2 := 34) h dX8_readBridge_31 (by decide) rfl (fun _ h => ?_) (fun _ h => ?_)
      · refine G_sub (ls' := [(0, .ref 1), (1, .int x1_42), (2, .int x2_44)]) [2, 1, 0] rfl ?_
        exact hj43_45 c_43.2 h
      · refine G_sub (ls' := [(0, .ref 1), (1, .int x1_42), (2, .int x2_44)]) [2, 1, 0] rfl ?_
        exact hj34_62 () h)
def f_X7_addKeeper_2 (x1 : Int32) (x2 : Int32) (I : WI) (F : WF) : Option (WI × WF) :=
  ixG (I 45) 9 (bnd (uF F 156 (upd (F 156) (I 45).toNatClampNeg x1)) fun F_77 =>
  ixG (I 45) 9 (bnd (uF F_77 157 (upd (F_77 157) (I 45).toNatClampNeg x2)) fun F_78 =>
  bnd (upd I 45 ((I 45) + (1 : Int32))) fun I_79 =>
  some (I_79, F_78)))
set_option maxRecDepth 100000 in
set_option maxHeartbeats 4000000 in
theorem c_X7_addKeeper_2 {x1 : Int32} {x2 : Int32} {I : WI} {F : WF} {J : WI} {K : WF} {a : WI × WF} (h : f_X7_addKeeper_2 x1 x2 I F = some a) : CT md_X7_addKeeper yX7_addKeeper (rmD 1) [.ref 2, .int x1, .int x2] (mkW I F J K) none (mkW a.1 a.2 J K) := CT_of pn_X7 ⟨rfl, rfl⟩ (Nat.le_of_ble_eq_true rfl) (fun X => by
  show GG X md_X7_addKeeper (rmD 1) _ 0 0 0 [(0, .ref 2), (1, .int x1), (2, .int x2)] [] (mkW I F J K)
  unfold f_X7_addKeeper_2 at h
  refine G_aload_n (pc2 := 1) 0 rfl dX7_addKeeper_0 rfl rfl ?_
  refine T_2_8 (pc2 := 4) kw_131 dX7_addKeeper_1 rfl ?_
  refine G_aload_n (pc2 := 5) 0 rfl dX7_addKeeper_4 rfl rfl ?_
  refine T_2_2 (pc2 := 8) kw_107 dX7_addKeeper_5 rfl ?_
  refine G_iload_n (pc2 := 9) 1 rfl dX7_addKeeper_8 rfl rfl ?_
  refine SC (pc2 := 10) (fa_7 _ _ _ _) h dX7_addKeeper_9 rfl (fun F_77 h => ?_)
  refine G_aload_n (pc2 := 11) 0 rfl dX7_addKeeper_10 rfl rfl ?_
  refine T_2_9 (pc2 := 14) kw_134 dX7_addKeeper_11 rfl ?_
  refine G_aload_n (pc2 := 15) 0 rfl dX7_addKeeper_14 rfl rfl ?_
  refine T_2_2 (pc2 := 18) kw_107 dX7_addKeeper_15 rfl ?_
  refine G_iload_n (pc2 := 19) 2 rfl dX7_addKeeper_18 rfl rfl ?_
  refine SC (pc2 := 20) (fa_8 _ _ _ _) h dX7_addKeeper_19 rfl (fun F_78 h => ?_)
  refine G_aload_n (pc2 := 21) 0 rfl dX7_addKeeper_20 rfl rfl ?_
  refine G_dup (pc2 := 22) rfl dX7_addKeeper_21 rfl ?_
  refine T_2_2 (pc2 := 25) kw_107 dX7_addKeeper_22 rfl ?_
  refine G_iconst (pc2 := 26) dX7_addKeeper_25 ic_1 rfl ?_
  refine G_iadd (pc2 := 27) dX7_addKeeper_26 rfl ?_
  refine P_2_2 (pc2 := 30) h kw_107 dX7_addKeeper_27 rfl (fun I_79 h => ?_)
  have ha := Option.some.inj h
  subst ha
  exact G_vret rfl dX7_addKeeper_30)
def f_X8_readKeeper_1 (I : WI) (F : WF) : Option (WI × WF) :=
  Option.bind (f_X8_readNumber_1 (0 : Int32) (3 : Int32) I F) fun c_72 =>
  bnd c_72.1 fun x1_73 =>
  Option.bind (f_X8_readNumber_1 (1 : Int32) (40 : Int32) c_72.2 F) fun c_74 =>
  bnd c_74.1 fun x2_75 =>
  Option.bind (f_X8_endsClause_1 c_74.2 F) fun c_76 =>
  if c_76.1 = 0 then (some (c_76.2, F))
  else (Option.bind (f_X7_addKeeper_2 x1_73 x2_75 c_76.2 F) fun c_80 =>
  some (c_80.1, c_80.2))
set_option maxRecDepth 100000 in
set_option maxHeartbeats 4000000 in
theorem c_X8_readKeeper_1 {I : WI} {F : WF} {J : WI} {K : WF} {a : WI × WF} (h : f_X8_readKeeper_1  I F = some a) : CT md_X8_readKeeper yX8_readKeeper (rmD 3) [.ref 1] (mkW I F J K) none (mkW a.1 a.2 J K) := CT_of pn_X8 ⟨rfl, rfl⟩ (Nat.le_of_ble_eq_true rfl) (fun X => by
  show GG X md_X8_readKeeper (rmD 3) _ 0 0 0 [(0, .ref 1)] [] (mkW I F J K)
  unfold f_X8_readKeeper_1 at h
  refine G_aload_n (pc2 := 1) 0 rfl dX8_readKeeper_0 rfl rfl ?_
  refine G_iconst (pc2 := 2) dX8_readKeeper_1 ic_0 rfl ?_
  refine G_iconst (pc2 := 3) dX8_readKeeper_2 ic_3 rfl ?_
  obtain ⟨c_72, hc_72, h⟩ := ob_e h
  refine B_callV (pc2 := 6) si_X8_79 (c_X8_readNumber_1 hc_72) (qo_1 _ _ _ _) rfl rfl rfl (st := []) (stq := [.int c_72.1]) rfl (by decide) (by decide) (Nat.le_of_ble_eq_true rfl) mkW_ll dX8_readKeeper_3 rfl rfl ?_ ⟨rfl, rfl⟩
  refine B_istore_n (pc2 := 7) (fun x1_73 => [(1, .int x1_73), (0, .ref 1)]) h dX8_readKeeper_6 rfl (by decide) (fun _ => rfl) rfl (fun x1_73 h => ?_)
  refine G_aload_n (pc2 := 8) 1 rfl dX8_readKeeper_7 rfl rfl ?_
  refine G_iconst (pc2 := 9) dX8_readKeeper_8 ic_1 rfl ?_
  refine G_bipush (pc2 := 11) dX8_readKeeper_9 ib_40 rfl ?_
  obtain ⟨c_74, hc_74, h⟩ := ob_e h
  refine B_callV (pc2 := 14) si_X8_79 (c_X8_readNumber_1 hc_74) (qo_1 _ _ _ _) rfl rfl rfl (st := []) (stq := [.int c_74.1]) rfl (by decide) (by decide) (Nat.le_of_ble_eq_true rfl) mkW_ll dX8_readKeeper_11 rfl rfl ?_ ⟨rfl, rfl⟩
  refine B_istore_n (pc2 := 15) (fun x2_75 => [(2, .int x2_75), (1, .int x1_73), (0, .ref 1)]) h dX8_readKeeper_14 rfl (by decide) (fun _ => rfl) rfl (fun x2_75 h => ?_)
  refine G_aload_n (pc2 := 16) 2 rfl dX8_readKeeper_15 rfl rfl ?_
  obtain ⟨c_76, hc_76, h⟩ := ob_e h
  refine B_callV (pc2 := 19) si_X8_83 (c_X8_endsClause_1 hc_76) (qo_1 _ _ _ _) rfl rfl rfl (st := []) (stq := [.int c_76.1]) rfl (by decide) (by decide) (Nat.le_of_ble_eq_true rfl) mkW_ll dX8_readKeeper_16 rfl rfl ?_ ⟨rfl, rfl⟩
  refine B_if_eq (tgt := 31) (pc2 := 22) h dX8_readKeeper_19 (by decide) rfl (fun _ h => ?_) (fun _ h => ?_)
  · have ha := Option.some.inj h
    subst ha
    exact G_vret rfl dX8_readKeeper_31
  · refine G_aload_n (pc2 := 23) 2 rfl dX8_readKeeper_22 rfl rfl ?_
    refine T_1_0 (pc2 := 26) kw_167 dX8_readKeeper_23 rfl ?_
    refine G_iload_n (pc2 := 27) 1 rfl dX8_readKeeper_26 rfl rfl ?_
    refine G_iload_n (pc2 := 28) 0 rfl dX8_readKeeper_27 rfl rfl ?_
    obtain ⟨c_80, hc_80, h⟩ := ob_e h
    refine B_callV (pc2 := 31) si_X8_102 (c_X7_addKeeper_2 hc_80) (qo_2 _ _ _ _) rfl rfl rfl (st := []) (stq := []) rfl (by decide) (by decide) (Nat.le_of_ble_eq_true rfl) mkW_ll dX8_readKeeper_28 rfl rfl ?_ ⟨rfl, rfl⟩
    have ha := Option.some.inj h
    subst ha
    exact G_vret rfl dX8_readKeeper_31)
def f_X8_readPlaces_1 (I : WI) (F : WF) : Option (WI) :=
  Option.bind (f_X8_readNumber_1 (2 : Int32) (8 : Int32) I F) fun c_83 =>
  bnd c_83.1 fun x1_84 =>
  Option.bind (f_X8_endsClause_1 c_83.2 F) fun c_85 =>
  if c_85.1 = 0 then (some c_85.2)
  else (bnd (upd c_85.2 43 x1_84) fun I_86 =>
  some I_86)
set_option maxRecDepth 100000 in
set_option maxHeartbeats 4000000 in
theorem c_X8_readPlaces_1 {I : WI} {F : WF} {J : WI} {K : WF} {a : WI} (h : f_X8_readPlaces_1  I F = some a) : CT md_X8_readPlaces yX8_readPlaces (rmD 3) [.ref 1] (mkW I F J K) none (mkW a F J K) := CT_of pn_X8 ⟨rfl, rfl⟩ (Nat.le_of_ble_eq_true rfl) (fun X => by
  show GG X md_X8_readPlaces (rmD 3) _ 0 0 0 [(0, .ref 1)] [] (mkW I F J K)
  unfold f_X8_readPlaces_1 at h
  refine G_aload_n (pc2 := 1) 0 rfl dX8_readPlaces_0 rfl rfl ?_
  refine G_iconst (pc2 := 2) dX8_readPlaces_1 ic_2 rfl ?_
  refine G_bipush (pc2 := 4) dX8_readPlaces_2 ib_8 rfl ?_
  obtain ⟨c_83, hc_83, h⟩ := ob_e h
  refine B_callV (pc2 := 7) si_X8_79 (c_X8_readNumber_1 hc_83) (qo_1 _ _ _ _) rfl rfl rfl (st := []) (stq := [.int c_83.1]) rfl (by decide) (by decide) (Nat.le_of_ble_eq_true rfl) mkW_ll dX8_readPlaces_4 rfl rfl ?_ ⟨rfl, rfl⟩
  refine B_istore_n (pc2 := 8) (fun x1_84 => [(1, .int x1_84), (0, .ref 1)]) h dX8_readPlaces_7 rfl (by decide) (fun _ => rfl) rfl (fun x1_84 h => ?_)
  refine G_aload_n (pc2 := 9) 1 rfl dX8_readPlaces_8 rfl rfl ?_
  obtain ⟨c_85, hc_85, h⟩ := ob_e h
  refine B_callV (pc2 := 12) si_X8_83 (c_X8_endsClause_1 hc_85) (qo_1 _ _ _ _) rfl rfl rfl (st := []) (stq := [.int c_85.1]) rfl (by decide) (by decide) (Nat.le_of_ble_eq_true rfl) mkW_ll dX8_readPlaces_9 rfl rfl ?_ ⟨rfl, rfl⟩
  refine B_if_eq (tgt := 23) (pc2 := 15) h dX8_readPlaces_12 (by decide) rfl (fun _ h => ?_) (fun _ h => ?_)
  · have ha := Option.some.inj h
    subst ha
    exact G_vret rfl dX8_readPlaces_23
  · refine G_aload_n (pc2 := 16) 1 rfl dX8_readPlaces_15 rfl rfl ?_
    refine T_1_0 (pc2 := 19) kw_167 dX8_readPlaces_16 rfl ?_
    refine G_iload_n (pc2 := 20) 0 rfl dX8_readPlaces_19 rfl rfl ?_
    refine P_2_0 (pc2 := 23) h kw_98 dX8_readPlaces_20 rfl (fun I_86 h => ?_)
    have ha := Option.some.inj h
    subst ha
    exact G_vret rfl dX8_readPlaces_23)
def f_X7_addJumper_2 (x1 : Int32) (x2 : Int32) (I : WI) (F : WF) : Option (WI × WF) :=
  ixG (I 46) 6 (bnd (uF F 158 (upd (F 158) (I 46).toNatClampNeg x1)) fun F_94 =>
  ixG (I 46) 6 (bnd (uF F_94 159 (upd (F_94 159) (I 46).toNatClampNeg x2)) fun F_95 =>
  bnd (upd I 46 ((I 46) + (1 : Int32))) fun I_96 =>
  some (I_96, F_95)))
set_option maxRecDepth 100000 in
set_option maxHeartbeats 4000000 in
theorem c_X7_addJumper_2 {x1 : Int32} {x2 : Int32} {I : WI} {F : WF} {J : WI} {K : WF} {a : WI × WF} (h : f_X7_addJumper_2 x1 x2 I F = some a) : CT md_X7_addJumper yX7_addJumper (rmD 1) [.ref 2, .int x1, .int x2] (mkW I F J K) none (mkW a.1 a.2 J K) := CT_of pn_X7 ⟨rfl, rfl⟩ (Nat.le_of_ble_eq_true rfl) (fun X => by
  show GG X md_X7_addJumper (rmD 1) _ 0 0 0 [(0, .ref 2), (1, .int x1), (2, .int x2)] [] (mkW I F J K)
  unfold f_X7_addJumper_2 at h
  refine G_aload_n (pc2 := 1) 0 rfl dX7_addJumper_0 rfl rfl ?_
  refine T_2_10 (pc2 := 4) kw_136 dX7_addJumper_1 rfl ?_
  refine G_aload_n (pc2 := 5) 0 rfl dX7_addJumper_4 rfl rfl ?_
  refine T_2_3 (pc2 := 8) kw_113 dX7_addJumper_5 rfl ?_
  refine G_iload_n (pc2 := 9) 1 rfl dX7_addJumper_8 rfl rfl ?_
  refine SC (pc2 := 10) (fa_9 _ _ _ _) h dX7_addJumper_9 rfl (fun F_94 h => ?_)
  refine G_aload_n (pc2 := 11) 0 rfl dX7_addJumper_10 rfl rfl ?_
  refine T_2_11 (pc2 := 14) kw_139 dX7_addJumper_11 rfl ?_
  refine G_aload_n (pc2 := 15) 0 rfl dX7_addJumper_14 rfl rfl ?_
  refine T_2_3 (pc2 := 18) kw_113 dX7_addJumper_15 rfl ?_
  refine G_iload_n (pc2 := 19) 2 rfl dX7_addJumper_18 rfl rfl ?_
  refine SC (pc2 := 20) (fa_10 _ _ _ _) h dX7_addJumper_19 rfl (fun F_95 h => ?_)
  refine G_aload_n (pc2 := 21) 0 rfl dX7_addJumper_20 rfl rfl ?_
  refine G_dup (pc2 := 22) rfl dX7_addJumper_21 rfl ?_
  refine T_2_3 (pc2 := 25) kw_113 dX7_addJumper_22 rfl ?_
  refine G_iconst (pc2 := 26) dX7_addJumper_25 ic_1 rfl ?_
  refine G_iadd (pc2 := 27) dX7_addJumper_26 rfl ?_
  refine P_2_3 (pc2 := 30) h kw_113 dX7_addJumper_27 rfl (fun I_96 h => ?_)
  have ha := Option.some.inj h
  subst ha
  exact G_vret rfl dX7_addJumper_30)
def f_X8_readJumper_1 (I : WI) (F : WF) : Option (WI × WF) :=
  Option.bind (f_X8_readNumber_1 (0 : Int32) (3 : Int32) I F) fun c_89 =>
  bnd c_89.1 fun x1_90 =>
  Option.bind (f_X8_readPlace_1 c_89.2 F) fun c_91 =>
  bnd c_91.1 fun x2_92 =>
  Option.bind (f_X8_endsClause_1 c_91.2 F) fun c_93 =>
  if c_93.1 = 0 then (some (c_93.2, F))
  else (Option.bind (f_X7_addJumper_2 x1_90 x2_92 c_93.2 F) fun c_97 =>
  some (c_97.1, c_97.2))
set_option maxRecDepth 100000 in
set_option maxHeartbeats 4000000 in
theorem c_X8_readJumper_1 {I : WI} {F : WF} {J : WI} {K : WF} {a : WI × WF} (h : f_X8_readJumper_1  I F = some a) : CT md_X8_readJumper yX8_readJumper (rmD 4) [.ref 1] (mkW I F J K) none (mkW a.1 a.2 J K) := CT_of pn_X8 ⟨rfl, rfl⟩ (Nat.le_of_ble_eq_true rfl) (fun X => by
  show GG X md_X8_readJumper (rmD 4) _ 0 0 0 [(0, .ref 1)] [] (mkW I F J K)
  unfold f_X8_readJumper_1 at h
  refine G_aload_n (pc2 := 1) 0 rfl dX8_readJumper_0 rfl rfl ?_
  refine G_iconst (pc2 := 2) dX8_readJumper_1 ic_0 rfl ?_
  refine G_iconst (pc2 := 3) dX8_readJumper_2 ic_3 rfl ?_
  obtain ⟨c_89, hc_89, h⟩ := ob_e h
  refine B_callV (pc2 := 6) si_X8_79 (c_X8_readNumber_1 hc_89) (qo_1 _ _ _ _) rfl rfl rfl (st := []) (stq := [.int c_89.1]) rfl (by decide) (by decide) (Nat.le_of_ble_eq_true rfl) mkW_ll dX8_readJumper_3 rfl rfl ?_ ⟨rfl, rfl⟩
  refine B_istore_n (pc2 := 7) (fun x1_90 => [(1, .int x1_90), (0, .ref 1)]) h dX8_readJumper_6 rfl (by decide) (fun _ => rfl) rfl (fun x1_90 h => ?_)
  refine G_aload_n (pc2 := 8) 1 rfl dX8_readJumper_7 rfl rfl ?_
  obtain ⟨c_91, hc_91, h⟩ := ob_e h
  refine B_callV (pc2 := 11) si_X8_87 (c_X8_readPlace_1 hc_91) (qo_1 _ _ _ _) rfl rfl rfl (st := []) (stq := [.int c_91.1]) rfl (by decide) (by decide) (Nat.le_of_ble_eq_true rfl) mkW_ll dX8_readJumper_8 rfl rfl ?_ ⟨rfl, rfl⟩
  refine B_istore_n (pc2 := 12) (fun x2_92 => [(2, .int x2_92), (1, .int x1_90), (0, .ref 1)]) h dX8_readJumper_11 rfl (by decide) (fun _ => rfl) rfl (fun x2_92 h => ?_)
  refine G_aload_n (pc2 := 13) 2 rfl dX8_readJumper_12 rfl rfl ?_
  obtain ⟨c_93, hc_93, h⟩ := ob_e h
  refine B_callV (pc2 := 16) si_X8_83 (c_X8_endsClause_1 hc_93) (qo_1 _ _ _ _) rfl rfl rfl (st := []) (stq := [.int c_93.1]) rfl (by decide) (by decide) (Nat.le_of_ble_eq_true rfl) mkW_ll dX8_readJumper_13 rfl rfl ?_ ⟨rfl, rfl⟩
  refine B_if_eq (tgt := 28) (pc2 := 19) h dX8_readJumper_16 (by decide) rfl (fun _ h => ?_) (fun _ h => ?_)
  · have ha := Option.some.inj h
    subst ha
    exact G_vret rfl dX8_readJumper_28
  · refine G_aload_n (pc2 := 20) 2 rfl dX8_readJumper_19 rfl rfl ?_
    refine T_1_0 (pc2 := 23) kw_167 dX8_readJumper_20 rfl ?_
    refine G_iload_n (pc2 := 24) 1 rfl dX8_readJumper_23 rfl rfl ?_
    refine G_iload_n (pc2 := 25) 0 rfl dX8_readJumper_24 rfl rfl ?_
    obtain ⟨c_97, hc_97, h⟩ := ob_e h
    refine B_callV (pc2 := 28) si_X8_105 (c_X7_addJumper_2 hc_97) (qo_2 _ _ _ _) rfl rfl rfl (st := []) (stq := []) rfl (by decide) (by decide) (Nat.le_of_ble_eq_true rfl) mkW_ll dX8_readJumper_25 rfl rfl ?_ ⟨rfl, rfl⟩
    have ha := Option.some.inj h
    subst ha
    exact G_vret rfl dX8_readJumper_28)
def f_X8_readClause_1 (I : WI) (F : WF) : Option (WI × WF) :=
  ixG (I 41) 240 (
  bnd (F 160 (I 41).toNatClampNeg) fun x1_17 =>
  Option.bind (f_X8_isWordHere_1 x1_17 I F) fun c_18 =>
  if c_18 = 0 then (Option.bind (f_X8_fail_1 (1 : Int32) (I 41) I F) fun c_100 =>
  some (c_100, F))
  else (Option.bind (f_X8_isOneTooMany_1 x1_17 I F) fun c_22 =>
  if c_22 = 0 then (bnd (upd I 41 ((I 41) + (1 : Int32))) fun I_23 =>
  if x1_17 = (98 : Int32) then (Option.bind (f_X8_readBridge_1 I_23 F) fun c_70 =>
  some (c_70.1, c_70.2))
  else if x1_17 = (107 : Int32) then (Option.bind (f_X8_readKeeper_1 I_23 F) fun c_81 =>
  some (c_81.1, c_81.2))
  else if x1_17 = (110 : Int32) then (Option.bind (f_X8_readPlaces_1 I_23 F) fun c_87 =>
  some (c_87, F))
  else Option.bind (f_X8_readJumper_1 I_23 F) fun c_98 =>
  some (c_98.1, c_98.2))
  else (Option.bind (f_X8_fail_1 (3 : Int32) (I 41) I F) fun c_99 =>
  some (c_99, F))))
set_option maxRecDepth 100000 in
set_option maxHeartbeats 4000000 in
theorem c_X8_readClause_1 {I : WI} {F : WF} {J : WI} {K : WF} {a : WI × WF} (h : f_X8_readClause_1  I F = some a) : CT md_X8_readClause yX8_readClause (rmD 5) [.ref 1] (mkW I F J K) none (mkW a.1 a.2 J K) := CT_of pn_X8 ⟨rfl, rfl⟩ (Nat.le_of_ble_eq_true rfl) (fun X => by
  show GG X md_X8_readClause (rmD 5) _ 0 0 0 [(0, .ref 1)] [] (mkW I F J K)
  unfold f_X8_readClause_1 at h
  refine G_aload_n (pc2 := 1) 0 rfl dX8_readClause_0 rfl rfl ?_
  refine T_1_4 (pc2 := 4) kw_175 dX8_readClause_1 rfl ?_
  refine G_aload_n (pc2 := 5) 0 rfl dX8_readClause_4 rfl rfl ?_
  refine T_1_5 (pc2 := 8) kw_176 dX8_readClause_5 rfl ?_
  refine AC (pc2 := 9) (fa_11 _ _ _ _) h dX8_readClause_8 rfl (fun h => ?_)
  refine B_istore_n (pc2 := 10) (fun x1_17 => [(1, .int x1_17), (0, .ref 1)]) h dX8_readClause_9 rfl (by decide) (fun _ => rfl) rfl (fun x1_17 h => ?_)
  refine G_aload_n (pc2 := 11) 1 rfl dX8_readClause_10 rfl rfl ?_
  refine G_iload_n (pc2 := 12) 0 rfl dX8_readClause_11 rfl rfl ?_
  obtain ⟨c_18, hc_18, h⟩ := ob_e h
  refine B_callV (pc2 := 15) si_X8_44 (c_X8_isWordHere_1 hc_18) (qo_1 _ _ _ _) rfl rfl rfl (st := []) (stq := [.int c_18]) rfl (by decide) (by decide) (Nat.le_of_ble_eq_true rfl) mkW_ll dX8_readClause_12 rfl rfl ?_ ⟨rfl, rfl⟩
  refine B_if_ne (tgt := 28) (pc2 := 18) h dX8_readClause_15 (by decide) rfl (fun _ h => ?_) (fun _ h => ?_)
  · refine G_aload_n (pc2 := 29) 1 rfl dX8_readClause_28 rfl rfl ?_
    refine G_iload_n (pc2 := 30) 0 rfl dX8_readClause_29 rfl rfl ?_
    obtain ⟨c_22, hc_22, h⟩ := ob_e h
    refine B_callV (pc2 := 33) si_X8_52 (c_X8_isOneTooMany_1 hc_22) (qo_1 _ _ _ _) rfl rfl rfl (st := []) (stq := [.int c_22]) rfl (by decide) (by decide) (Nat.le_of_ble_eq_true rfl) mkW_ll dX8_readClause_30 rfl rfl ?_ ⟨rfl, rfl⟩
    refine B_if_eq (tgt := 46) (pc2 := 36) h dX8_readClause_33 (by decide) rfl (fun _ h => ?_) (fun _ h => ?_)
    · refine G_aload_n (pc2 := 47) 1 rfl dX8_readClause_46 rfl rfl ?_
      refine G_dup (pc2 := 48) rfl dX8_readClause_47 rfl ?_
      refine T_1_5 (pc2 := 51) kw_176 dX8_readClause_48 rfl ?_
      refine G_iconst (pc2 := 52) dX8_readClause_51 ic_1 rfl ?_
      refine G_iadd (pc2 := 53) dX8_readClause_52 rfl ?_
      refine P_1_5 (pc2 := 56) h kw_176 dX8_readClause_53 rfl (fun I_23 h => ?_)
      refine G_iload_n (pc2 := 57) 0 rfl dX8_readClause_56 rfl rfl ?_
      by_cases qx_71 : x1_17 = (98 : Int32)
      · have h := ite_t h qx_71
        refine B_lkpIn (tgt := 99) (off := 42) (98 : Int32) qx_71 dX8_readClause_57 (by decide) (by decide) (by decide) ?_
        refine G_aload_n (pc2 := 100) 1 rfl dX8_readClause_99 rfl rfl ?_
        obtain ⟨c_70, hc_70, h⟩ := ob_e h
        refine B_callV (pc2 := 103) si_X8_58 (c_X8_readBridge_1 hc_70) (qo_1 _ _ _ _) rfl rfl rfl (st := []) (stq := []) rfl (by decide) (by decide) (Nat.le_of_ble_eq_true rfl) mkW_ll dX8_readClause_100 rfl rfl ?_ ⟨rfl, rfl⟩
        refine G_goto (tgt := 117) dX8_readClause_103 (by decide) ?_
        have ha := Option.some.inj h
        subst ha
        exact G_vret rfl dX8_readClause_117
      have h := ite_f h qx_71
      by_cases qx_82 : x1_17 = (107 : Int32)
      · have h := ite_t h qx_82
        refine B_lkpIn (tgt := 106) (off := 49) (107 : Int32) qx_82 dX8_readClause_57 (by decide) (by decide) (by decide) ?_
        refine G_aload_n (pc2 := 107) 1 rfl dX8_readClause_106 rfl rfl ?_
        obtain ⟨c_81, hc_81, h⟩ := ob_e h
        refine B_callV (pc2 := 110) si_X8_61 (c_X8_readKeeper_1 hc_81) (qo_1 _ _ _ _) rfl rfl rfl (st := []) (stq := []) rfl (by decide) (by decide) (Nat.le_of_ble_eq_true rfl) mkW_ll dX8_readClause_107 rfl rfl ?_ ⟨rfl, rfl⟩
        refine G_goto (tgt := 117) dX8_readClause_110 (by decide) ?_
        have ha := Option.some.inj h
        subst ha
        exact G_vret rfl dX8_readClause_117
      have h := ite_f h qx_82
      by_cases qx_88 : x1_17 = (110 : Int32)
      · have h := ite_t h qx_88
        refine B_lkpIn (tgt := 92) (off := 35) (110 : Int32) qx_88 dX8_readClause_57 (by decide) (by decide) (by decide) ?_
        refine G_aload_n (pc2 := 93) 1 rfl dX8_readClause_92 rfl rfl ?_
        obtain ⟨c_87, hc_87, h⟩ := ob_e h
        refine B_callV (pc2 := 96) si_X8_55 (c_X8_readPlaces_1 hc_87) (qo_1 _ _ _ _) rfl rfl rfl (st := []) (stq := []) rfl (by decide) (by decide) (Nat.le_of_ble_eq_true rfl) mkW_ll dX8_readClause_93 rfl rfl ?_ ⟨rfl, rfl⟩
        refine G_goto (tgt := 117) dX8_readClause_96 (by decide) ?_
        have ha := Option.some.inj h
        subst ha
        exact G_vret rfl dX8_readClause_117
      have h := ite_f h qx_88
      refine G_lookup (tgt := 113) (off := 56) dX8_readClause_57 (by decide) (lkp_out3 qx_71 qx_82 qx_88) (by decide) ?_
      refine G_aload_n (pc2 := 114) 1 rfl dX8_readClause_113 rfl rfl ?_
      obtain ⟨c_98, hc_98, h⟩ := ob_e h
      refine B_callV (pc2 := 117) si_X8_64 (c_X8_readJumper_1 hc_98) (qo_1 _ _ _ _) rfl rfl rfl (st := []) (stq := []) rfl (by decide) (by decide) (Nat.le_of_ble_eq_true rfl) mkW_ll dX8_readClause_114 rfl rfl ?_ ⟨rfl, rfl⟩
      have ha := Option.some.inj h
      subst ha
      exact G_vret rfl dX8_readClause_117
    · refine G_aload_n (pc2 := 37) 1 rfl dX8_readClause_36 rfl rfl ?_
      refine G_iconst (pc2 := 38) dX8_readClause_37 ic_3 rfl ?_
      refine G_aload_n (pc2 := 39) 1 rfl dX8_readClause_38 rfl rfl ?_
      refine T_1_5 (pc2 := 42) kw_176 dX8_readClause_39 rfl ?_
      obtain ⟨c_99, hc_99, h⟩ := ob_e h
      refine B_callV (pc2 := 45) si_X8_48 (c_X8_fail_1 hc_99) (qo_1 _ _ _ _) rfl rfl rfl (st := []) (stq := []) rfl (by decide) (by decide) (Nat.le_of_ble_eq_true rfl) mkW_ll dX8_readClause_42 rfl rfl ?_ ⟨rfl, rfl⟩
      have ha := Option.some.inj h
      subst ha
      exact G_vret rfl dX8_readClause_45
  · refine G_aload_n (pc2 := 19) 1 rfl dX8_readClause_18 rfl rfl ?_
    refine G_iconst (pc2 := 20) dX8_readClause_19 ic_1 rfl ?_
    refine G_aload_n (pc2 := 21) 1 rfl dX8_readClause_20 rfl rfl ?_
    refine T_1_5 (pc2 := 24) kw_176 dX8_readClause_21 rfl ?_
    obtain ⟨c_100, hc_100, h⟩ := ob_e h
    refine B_callV (pc2 := 27) si_X8_48 (c_X8_fail_1 hc_100) (qo_1 _ _ _ _) rfl rfl rfl (st := []) (stq := []) rfl (by decide) (by decide) (Nat.le_of_ble_eq_true rfl) mkW_ll dX8_readClause_24 rfl rfl ?_ ⟨rfl, rfl⟩
    have ha := Option.some.inj h
    subst ha
    exact G_vret rfl dX8_readClause_27)
def L_X8_readTown_1_28 (k : WI → WF → Option (WI × WF))  : Nat → Int32 → WI → WF → Option (WI × WF)
  | 0, _, _, _ => none
  | n + 1, x1, I, F =>
  if (240 : Int32) ≤ x1 then (k I F)
  else (if (I 38) ≤ (I 41) then (k I F)
  else (if (I 39) = 0 then (Option.bind (f_X8_readClause_1 I F) fun c_101 =>
  Option.bind (f_X8_skipBlanks_1 c_101.1 c_101.2) fun c_102 =>
  bnd (x1 + (1 : Int32)) fun x1_103 =>
  L_X8_readTown_1_28 k n x1_103 c_102 c_101.2)
  else (k I F)))
def f_X8_readTown_1 (I : WI) (F : WF) : Option (WI × WF) :=
  Option.bind (f_X7_clear_2 I F) fun c_8 =>
  bnd (upd c_8 39 (0 : Int32)) fun I_9 =>
  bnd (upd I_9 40 (-1 : Int32)) fun I_10 =>
  bnd (upd I_10 41 (0 : Int32)) fun I_11 =>
  Option.bind (f_X8_skipBlanks_1 I_11 F) fun c_15 =>
  bnd (0 : Int32) fun x1_16 =>
  L_X8_readTown_1_28 (fun I_104 F_105 => some (I_104, F_105))  FU x1_16 c_15 F
set_option maxRecDepth 100000 in
set_option maxHeartbeats 4000000 in
theorem g_L_X8_readTown_1_28 {X : XT} {J : WI} {K : WF} {a : WI × WF} {k : WI → WF → Option (WI × WF)} (hk : ∀ (I' : WI) (F' : WF), (k I' F' = some a → GG X md_X8_readTown (rmD 6) (gv_Z X (rmD 6).cells (rmD 6).slots none (mkW a.1 a.2 J K)) 0 0 67 [] [] (mkW I' F' J K))) : ∀ (n : Nat) (x1 : Int32) (I : WI) (F : WF), L_X8_readTown_1_28 k n x1 I F = some a → GG X md_X8_readTown (rmD 6) (gv_Z X (rmD 6).cells (rmD 6).slots none (mkW a.1 a.2 J K)) 0 0 28 [(0, .ref 1), (1, .int x1)] [] (mkW I F J K) := by
  intro n
  induction n with
  | zero =>
    intro x1 I F h
    rw [L_X8_readTown_1_28] at h
    cases h
  | succ n ih =>
    intro x1 I F h
    rw [L_X8_readTown_1_28] at h
    refine G_iload_n (pc2 := 29) 1 rfl dX8_readTown_28 rfl rfl ?_
    refine G_sipush (pc2 := 32) dX8_readTown_29 is_240 rfl ?_
    refine B_icmp_ge (tgt := 67) (pc2 := 35) h dX8_readTown_32 (by decide) rfl (fun _ h => ?_) (fun _ h => ?_)
    · refine G_sub (ls' := []) [] rfl ?_
      exact hk I F h
    · refine G_aload_n (pc2 := 36) 0 rfl dX8_readTown_35 rfl rfl ?_
      refine T_1_5 (pc2 := 39) kw_176 dX8_readTown_36 rfl ?_
      refine G_aload_n (pc2 := 40) 0 rfl dX8_readTown_39 rfl rfl ?_
      refine T_1_1 (pc2 := 43) kw_169 dX8_readTown_40 rfl ?_
      refine B_icmp_ge (tgt := 67) (pc2 := 46) h dX8_readTown_43 (by decide) rfl (fun _ h => ?_) (fun _ h => ?_)
      · refine G_sub (ls' := []) [] rfl ?_
        exact hk I F h
      · refine G_aload_n (pc2 := 47) 0 rfl dX8_readTown_46 rfl rfl ?_
        refine T_1_2 (pc2 := 50) kw_171 dX8_readTown_47 rfl ?_
        refine B_if_ne (tgt := 67) (pc2 := 53) h dX8_readTown_50 (by decide) rfl (fun _ h => ?_) (fun _ h => ?_)
        · refine G_sub (ls' := []) [] rfl ?_
          exact hk I F h
        · refine G_aload_n (pc2 := 54) 0 rfl dX8_readTown_53 rfl rfl ?_
          obtain ⟨c_101, hc_101, h⟩ := ob_e h
          refine B_callV (pc2 := 57) si_X8_41 (c_X8_readClause_1 hc_101) (qo_1 _ _ _ _) rfl rfl rfl (st := []) (stq := []) rfl (by decide) (by decide) (Nat.le_of_ble_eq_true rfl) mkW_ll dX8_readTown_54 rfl rfl ?_ ⟨rfl, rfl⟩
          refine G_aload_n (pc2 := 58) 0 rfl dX8_readTown_57 rfl rfl ?_
          obtain ⟨c_102, hc_102, h⟩ := ob_e h
          refine B_callV (pc2 := 61) si_X8_38 (c_X8_skipBlanks_1 hc_102) (qo_1 _ _ _ _) rfl rfl rfl (st := []) (stq := []) rfl (by decide) (by decide) (Nat.le_of_ble_eq_true rfl) mkW_ll dX8_readTown_58 rfl rfl ?_ ⟨rfl, rfl⟩
          refine B_iinc (pc2 := 64) 1 (fun x1_103 => [(1, .int x1_103), (0, .ref 1)]) h rfl dX8_readTown_61 ic_1 (by decide) (fun _ => rfl) rfl (fun x1_103 h => ?_)
          refine G_goto (tgt := 28) dX8_readTown_64 (by decide) ?_
          refine G_sub (ls' := [(0, .ref 1), (1, .int x1_103)]) [1, 0] rfl ?_
          exact ih x1_103 c_102 c_101.2 h
set_option maxRecDepth 100000 in
set_option maxHeartbeats 4000000 in
theorem c_X8_readTown_1 {I : WI} {F : WF} {J : WI} {K : WF} {a : WI × WF} (h : f_X8_readTown_1  I F = some a) : CT md_X8_readTown yX8_readTown (rmD 6) [.ref 1] (mkW I F J K) none (mkW a.1 a.2 J K) := CT_of pn_X8 ⟨rfl, rfl⟩ (Nat.le_of_ble_eq_true rfl) (fun X => by
  show GG X md_X8_readTown (rmD 6) _ 0 0 0 [(0, .ref 1)] [] (mkW I F J K)
  unfold f_X8_readTown_1 at h
  refine G_aload_n (pc2 := 1) 0 rfl dX8_readTown_0 rfl rfl ?_
  refine T_1_0 (pc2 := 4) kw_167 dX8_readTown_1 rfl ?_
  obtain ⟨c_8, hc_8, h⟩ := ob_e h
  refine B_callV (pc2 := 7) si_X8_29 (c_X7_clear_2 hc_8) (qo_2 _ _ _ _) rfl rfl rfl (st := []) (stq := []) rfl (by decide) (by decide) (Nat.le_of_ble_eq_true rfl) mkW_ll dX8_readTown_4 rfl rfl ?_ ⟨rfl, rfl⟩
  refine G_aload_n (pc2 := 8) 0 rfl dX8_readTown_7 rfl rfl ?_
  refine G_iconst (pc2 := 9) dX8_readTown_8 ic_0 rfl ?_
  refine P_1_2 (pc2 := 12) h kw_171 dX8_readTown_9 rfl (fun I_9 h => ?_)
  refine G_aload_n (pc2 := 13) 0 rfl dX8_readTown_12 rfl rfl ?_
  refine G_iconst (pc2 := 14) dX8_readTown_13 ic_m1 rfl ?_
  refine P_1_3 (pc2 := 17) h kw_173 dX8_readTown_14 rfl (fun I_10 h => ?_)
  refine G_aload_n (pc2 := 18) 0 rfl dX8_readTown_17 rfl rfl ?_
  refine G_iconst (pc2 := 19) dX8_readTown_18 ic_0 rfl ?_
  refine P_1_5 (pc2 := 22) h kw_176 dX8_readTown_19 rfl (fun I_11 h => ?_)
  refine G_aload_n (pc2 := 23) 0 rfl dX8_readTown_22 rfl rfl ?_
  obtain ⟨c_15, hc_15, h⟩ := ob_e h
  refine B_callV (pc2 := 26) si_X8_38 (c_X8_skipBlanks_1 hc_15) (qo_1 _ _ _ _) rfl rfl rfl (st := []) (stq := []) rfl (by decide) (by decide) (Nat.le_of_ble_eq_true rfl) mkW_ll dX8_readTown_23 rfl rfl ?_ ⟨rfl, rfl⟩
  refine G_iconst (pc2 := 27) dX8_readTown_26 ic_0 rfl ?_
  refine B_istore_n (pc2 := 28) (fun x1_16 => [(1, .int x1_16), (0, .ref 1)]) h dX8_readTown_27 rfl (by decide) (fun _ => rfl) rfl (fun x1_16 h => ?_)
  refine G_sub (ls' := [(0, .ref 1), (1, .int x1_16)]) [1, 0] rfl ?_
  refine g_L_X8_readTown_1_28 (fun I_104 F_105 h => ?_) FU x1_16 c_15 F h
  have ha := Option.some.inj h
  subst ha
  exact G_vret rfl dX8_readTown_67)
def f_X7_copyFrom_13_2 (I : WI) (F : WF) : Option (WI × WF) :=
  bnd (upd I 48 (I 43)) fun I_108 =>
  bnd (upd I_108 49 (I_108 44)) fun I_109 =>
  bnd (upd I_109 50 (I_109 45)) fun I_110 =>
  bnd (upd I_110 51 (I_110 46)) fun I_111 =>
  bnd (uF F 161 (va_cpy (F 152) (F 161) 0 0 9)) fun F_112 =>
  bnd (uF F_112 162 (va_cpy (F_112 153) (F_112 162) 0 0 9)) fun F_113 =>
  bnd (uF F_113 163 (va_cpy (F_113 154) (F_113 163) 0 0 9)) fun F_114 =>
  bnd (uF F_114 164 (va_cpy (F_114 155) (F_114 164) 0 0 9)) fun F_115 =>
  bnd (uF F_115 165 (va_cpy (F_115 156) (F_115 165) 0 0 9)) fun F_116 =>
  bnd (uF F_116 166 (va_cpy (F_116 157) (F_116 166) 0 0 9)) fun F_117 =>
  bnd (uF F_117 167 (va_cpy (F_117 158) (F_117 167) 0 0 6)) fun F_118 =>
  bnd (uF F_118 168 (va_cpy (F_118 159) (F_118 168) 0 0 6)) fun F_119 =>
  some (I_111, F_119)
set_option maxRecDepth 100000 in
set_option maxHeartbeats 4000000 in
theorem c_X7_copyFrom_13_2 {I : WI} {F : WF} {J : WI} {K : WF} {a : WI × WF} (h : f_X7_copyFrom_13_2  I F = some a) : CT md_X7_copyFrom yX7_copyFrom (rmD 1) [.ref 13, .ref 2] (mkW I F J K) none (mkW a.1 a.2 J K) := CT_of pn_X7 ⟨rfl, rfl⟩ (Nat.le_of_ble_eq_true rfl) (fun X => by
  show GG X md_X7_copyFrom (rmD 1) _ 0 0 0 [(0, .ref 13), (1, .ref 2)] [] (mkW I F J K)
  unfold f_X7_copyFrom_13_2 at h
  refine G_aload_n (pc2 := 1) 0 rfl dX7_copyFrom_0 rfl rfl ?_
  refine G_aload_n (pc2 := 2) 1 rfl dX7_copyFrom_1 rfl rfl ?_
  refine T_2_0 (pc2 := 5) kw_96 dX7_copyFrom_2 rfl ?_
  refine P_13_0 (pc2 := 8) h kw_96 dX7_copyFrom_5 rfl (fun I_108 h => ?_)
  refine G_aload_n (pc2 := 9) 0 rfl dX7_copyFrom_8 rfl rfl ?_
  refine G_aload_n (pc2 := 10) 1 rfl dX7_copyFrom_9 rfl rfl ?_
  refine T_2_1 (pc2 := 13) kw_100 dX7_copyFrom_10 rfl ?_
  refine P_13_1 (pc2 := 16) h kw_100 dX7_copyFrom_13 rfl (fun I_109 h => ?_)
  refine G_aload_n (pc2 := 17) 0 rfl dX7_copyFrom_16 rfl rfl ?_
  refine G_aload_n (pc2 := 18) 1 rfl dX7_copyFrom_17 rfl rfl ?_
  refine T_2_2 (pc2 := 21) kw_107 dX7_copyFrom_18 rfl ?_
  refine P_13_2 (pc2 := 24) h kw_107 dX7_copyFrom_21 rfl (fun I_110 h => ?_)
  refine G_aload_n (pc2 := 25) 0 rfl dX7_copyFrom_24 rfl rfl ?_
  refine G_aload_n (pc2 := 26) 1 rfl dX7_copyFrom_25 rfl rfl ?_
  refine T_2_3 (pc2 := 29) kw_113 dX7_copyFrom_26 rfl ?_
  refine P_13_3 (pc2 := 32) h kw_113 dX7_copyFrom_29 rfl (fun I_111 h => ?_)
  refine G_aload_n (pc2 := 33) 1 rfl dX7_copyFrom_32 rfl rfl ?_
  refine T_2_4 (pc2 := 36) kw_118 dX7_copyFrom_33 rfl ?_
  refine G_iconst (pc2 := 37) dX7_copyFrom_36 ic_0 rfl ?_
  refine G_aload_n (pc2 := 38) 0 rfl dX7_copyFrom_37 rfl rfl ?_
  refine T_13_4 (pc2 := 41) kw_118 dX7_copyFrom_38 rfl ?_
  refine G_iconst (pc2 := 42) dX7_copyFrom_41 ic_0 rfl ?_
  refine G_bipush (pc2 := 44) dX7_copyFrom_42 ib_9 rfl ?_
  refine YC (pc2 := 47) (fa_3 _ _ _ _) (fa_14 _ _ _ _) h kw_532 (by decide) cl_9 ⟨by decide, by decide⟩ (Nat.le_of_ble_eq_true rfl) dX7_copyFrom_44 rfl (fun F_112 h => ?_)
  refine G_aload_n (pc2 := 48) 1 rfl dX7_copyFrom_47 rfl rfl ?_
  refine T_2_5 (pc2 := 51) kw_121 dX7_copyFrom_48 rfl ?_
  refine G_iconst (pc2 := 52) dX7_copyFrom_51 ic_0 rfl ?_
  refine G_aload_n (pc2 := 53) 0 rfl dX7_copyFrom_52 rfl rfl ?_
  refine T_13_5 (pc2 := 56) kw_121 dX7_copyFrom_53 rfl ?_
  refine G_iconst (pc2 := 57) dX7_copyFrom_56 ic_0 rfl ?_
  refine G_bipush (pc2 := 59) dX7_copyFrom_57 ib_9 rfl ?_
  refine YC (pc2 := 62) (fa_4 _ _ _ _) (fa_15 _ _ _ _) h kw_532 (by decide) cl_9 ⟨by decide, by decide⟩ (Nat.le_of_ble_eq_true rfl) dX7_copyFrom_59 rfl (fun F_113 h => ?_)
  refine G_aload_n (pc2 := 63) 1 rfl dX7_copyFrom_62 rfl rfl ?_
  refine T_2_6 (pc2 := 66) kw_124 dX7_copyFrom_63 rfl ?_
  refine G_iconst (pc2 := 67) dX7_copyFrom_66 ic_0 rfl ?_
  refine G_aload_n (pc2 := 68) 0 rfl dX7_copyFrom_67 rfl rfl ?_
  refine T_13_6 (pc2 := 71) kw_124 dX7_copyFrom_68 rfl ?_
  refine G_iconst (pc2 := 72) dX7_copyFrom_71 ic_0 rfl ?_
  refine G_bipush (pc2 := 74) dX7_copyFrom_72 ib_9 rfl ?_
  refine YC (pc2 := 77) (fa_5 _ _ _ _) (fa_16 _ _ _ _) h kw_532 (by decide) cl_9 ⟨by decide, by decide⟩ (Nat.le_of_ble_eq_true rfl) dX7_copyFrom_74 rfl (fun F_114 h => ?_)
  refine G_aload_n (pc2 := 78) 1 rfl dX7_copyFrom_77 rfl rfl ?_
  refine T_2_7 (pc2 := 81) kw_127 dX7_copyFrom_78 rfl ?_
  refine G_iconst (pc2 := 82) dX7_copyFrom_81 ic_0 rfl ?_
  refine G_aload_n (pc2 := 83) 0 rfl dX7_copyFrom_82 rfl rfl ?_
  refine T_13_7 (pc2 := 86) kw_127 dX7_copyFrom_83 rfl ?_
  refine G_iconst (pc2 := 87) dX7_copyFrom_86 ic_0 rfl ?_
  refine G_bipush (pc2 := 89) dX7_copyFrom_87 ib_9 rfl ?_
  refine YC (pc2 := 92) (fa_6 _ _ _ _) (fa_17 _ _ _ _) h kw_532 (by decide) cl_9 ⟨by decide, by decide⟩ (Nat.le_of_ble_eq_true rfl) dX7_copyFrom_89 rfl (fun F_115 h => ?_)
  refine G_aload_n (pc2 := 93) 1 rfl dX7_copyFrom_92 rfl rfl ?_
  refine T_2_8 (pc2 := 96) kw_131 dX7_copyFrom_93 rfl ?_
  refine G_iconst (pc2 := 97) dX7_copyFrom_96 ic_0 rfl ?_
  refine G_aload_n (pc2 := 98) 0 rfl dX7_copyFrom_97 rfl rfl ?_
  refine T_13_8 (pc2 := 101) kw_131 dX7_copyFrom_98 rfl ?_
  refine G_iconst (pc2 := 102) dX7_copyFrom_101 ic_0 rfl ?_
  refine G_bipush (pc2 := 104) dX7_copyFrom_102 ib_9 rfl ?_
  refine YC (pc2 := 107) (fa_7 _ _ _ _) (fa_18 _ _ _ _) h kw_532 (by decide) cl_9 ⟨by decide, by decide⟩ (Nat.le_of_ble_eq_true rfl) dX7_copyFrom_104 rfl (fun F_116 h => ?_)
  refine G_aload_n (pc2 := 108) 1 rfl dX7_copyFrom_107 rfl rfl ?_
  refine T_2_9 (pc2 := 111) kw_134 dX7_copyFrom_108 rfl ?_
  refine G_iconst (pc2 := 112) dX7_copyFrom_111 ic_0 rfl ?_
  refine G_aload_n (pc2 := 113) 0 rfl dX7_copyFrom_112 rfl rfl ?_
  refine T_13_9 (pc2 := 116) kw_134 dX7_copyFrom_113 rfl ?_
  refine G_iconst (pc2 := 117) dX7_copyFrom_116 ic_0 rfl ?_
  refine G_bipush (pc2 := 119) dX7_copyFrom_117 ib_9 rfl ?_
  refine YC (pc2 := 122) (fa_8 _ _ _ _) (fa_19 _ _ _ _) h kw_532 (by decide) cl_9 ⟨by decide, by decide⟩ (Nat.le_of_ble_eq_true rfl) dX7_copyFrom_119 rfl (fun F_117 h => ?_)
  refine G_aload_n (pc2 := 123) 1 rfl dX7_copyFrom_122 rfl rfl ?_
  refine T_2_10 (pc2 := 126) kw_136 dX7_copyFrom_123 rfl ?_
  refine G_iconst (pc2 := 127) dX7_copyFrom_126 ic_0 rfl ?_
  refine G_aload_n (pc2 := 128) 0 rfl dX7_copyFrom_127 rfl rfl ?_
  refine T_13_10 (pc2 := 131) kw_136 dX7_copyFrom_128 rfl ?_
  refine G_iconst (pc2 := 132) dX7_copyFrom_131 ic_0 rfl ?_
  refine G_bipush (pc2 := 134) dX7_copyFrom_132 ib_6 rfl ?_
  refine YC (pc2 := 137) (fa_9 _ _ _ _) (fa_20 _ _ _ _) h kw_532 (by decide) cl_6 ⟨by decide, by decide⟩ (Nat.le_of_ble_eq_true rfl) dX7_copyFrom_134 rfl (fun F_118 h => ?_)
  refine G_aload_n (pc2 := 138) 1 rfl dX7_copyFrom_137 rfl rfl ?_
  refine T_2_11 (pc2 := 141) kw_139 dX7_copyFrom_138 rfl ?_
  refine G_iconst (pc2 := 142) dX7_copyFrom_141 ic_0 rfl ?_
  refine G_aload_n (pc2 := 143) 0 rfl dX7_copyFrom_142 rfl rfl ?_
  refine T_13_11 (pc2 := 146) kw_139 dX7_copyFrom_143 rfl ?_
  refine G_iconst (pc2 := 147) dX7_copyFrom_146 ic_0 rfl ?_
  refine G_bipush (pc2 := 149) dX7_copyFrom_147 ib_6 rfl ?_
  refine YC (pc2 := 152) (fa_10 _ _ _ _) (fa_21 _ _ _ _) h kw_532 (by decide) cl_6 ⟨by decide, by decide⟩ (Nat.le_of_ble_eq_true rfl) dX7_copyFrom_149 rfl (fun F_119 h => ?_)
  have ha := Option.some.inj h
  subst ha
  exact G_vret rfl dX7_copyFrom_152)
def L_X6_begin_22_13_12 (k : WF → Option (WI × WF))  (I : WI) : Nat → Int32 → WF → Option (WI × WF)
  | 0, _, _ => none
  | n + 1, x2, F =>
  if (I 50) ≤ x2 then (k F)
  else (ixG x2 9 (
  ixG x2 9 (bnd (uF F 0 (upd (F 0) x2.toNatClampNeg (F 166 x2.toNatClampNeg))) fun F_124 =>
  bnd (fun (s_126 : Int32) => ixG x2 9 (bnd (uF F_124 1 (upd (F_124 1) x2.toNatClampNeg s_126)) fun F_127 =>
  ixG x2 9 (bnd (uF F_127 2 (upd (F_127 2) x2.toNatClampNeg (0 : Int32))) fun F_128 =>
  bnd (x2 + (1 : Int32)) fun x2_129 =>
  L_X6_begin_22_13_12 k I n x2_129 F_128))) fun j50_125 =>
  if (I 49) ≤ x2 then (j50_125 (-1 : Int32))
  else (j50_125 x2))))
def L_X6_begin_22_13_66 (k : WF → Option (WI × WF))  (I : WI) : Nat → Int32 → WF → Option (WI × WF)
  | 0, _, _ => none
  | n + 1, x2, F =>
  if (I 51) ≤ x2 then (k F)
  else (ixG x2 6 (
  ixG x2 6 (bnd (uF F 3 (upd (F 3) x2.toNatClampNeg (F 168 x2.toNatClampNeg))) fun F_132 =>
  ixG x2 6 (bnd (uF F_132 4 (upd (F_132 4) x2.toNatClampNeg (0 : Int32))) fun F_133 =>
  ixG x2 6 (bnd (uF F_133 5 (upd (F_133 5) x2.toNatClampNeg (0 : Int32))) fun F_134 =>
  ixG x2 6 (bnd (uF F_134 6 (upd (F_134 6) x2.toNatClampNeg (0 : Int32))) fun F_135 =>
  bnd (x2 + (1 : Int32)) fun x2_136 =>
  L_X6_begin_22_13_66 k I n x2_136 F_135))))))
def f_X6_begin_22_13 (I : WI) (F : WF) : Option (WI × WF) :=
  bnd (upd I 0 (0 : Int32)) fun I_121 =>
  bnd (upd I_121 1 (0 : Int32)) fun I_122 =>
  bnd (0 : Int32) fun x2_123 =>
  L_X6_begin_22_13_12 (fun F_130 => bnd (0 : Int32) fun x2_131 =>
  L_X6_begin_22_13_66 (fun F_137 => some (I_122, F_137)) I_122 FU x2_131 F_130) I_122 FU x2_123 F
set_option maxRecDepth 100000 in
set_option maxHeartbeats 4000000 in
theorem g_L_X6_begin_22_13_12 {X : XT} {I : WI} {J : WI} {K : WF} {a : WI × WF} {k : WF → Option (WI × WF)} (hk : ∀ (F' : WF), (k F' = some a → GG X md_X6_begin (rmD 1) (gv_Z X (rmD 1).cells (rmD 1).slots none (mkW a.1 a.2 J K)) 0 0 64 [(0, .ref 22), (1, .ref 13)] [] (mkW I F' J K))) : ∀ (n : Nat) (x2 : Int32) (F : WF), L_X6_begin_22_13_12 k I n x2 F = some a → GG X md_X6_begin (rmD 1) (gv_Z X (rmD 1).cells (rmD 1).slots none (mkW a.1 a.2 J K)) 0 0 12 [(0, .ref 22), (1, .ref 13), (2, .int x2)] [] (mkW I F J K) := by
  intro n
  induction n with
  | zero =>
    intro x2 F h
    rw [L_X6_begin_22_13_12] at h
    cases h
  | succ n ih =>
    intro x2 F h
    rw [L_X6_begin_22_13_12] at h
    refine G_iload_n (pc2 := 13) 2 rfl dX6_begin_12 rfl rfl ?_
    refine G_aload_n (pc2 := 14) 1 rfl dX6_begin_13 rfl rfl ?_
    refine T_13_2 (pc2 := 17) kw_109 dX6_begin_14 rfl ?_
    refine B_icmp_ge (tgt := 64) (pc2 := 20) h dX6_begin_17 (by decide) rfl (fun _ h => ?_) (fun _ h => ?_)
    · refine G_sub (ls' := [(0, .ref 22), (1, .ref 13)]) [0, 1] rfl ?_
      exact hk F h
    · refine G_aload_n (pc2 := 21) 0 rfl dX6_begin_20 rfl rfl ?_
      refine T_22_2 (pc2 := 24) kw_212 dX6_begin_21 rfl ?_
      refine G_iload_n (pc2 := 25) 2 rfl dX6_begin_24 rfl rfl ?_
      refine G_aload_n (pc2 := 26) 1 rfl dX6_begin_25 rfl rfl ?_
      refine T_13_9 (pc2 := 29) kw_135 dX6_begin_26 rfl ?_
      refine G_iload_n (pc2 := 30) 2 rfl dX6_begin_29 rfl rfl ?_
      refine AC (pc2 := 31) (fa_19 _ _ _ _) h dX6_begin_30 rfl (fun h => ?_)
      refine SC (pc2 := 32) (fa_23 _ _ _ _) h dX6_begin_31 rfl (fun F_124 h => ?_)
      refine G_aload_n (pc2 := 33) 0 rfl dX6_begin_32 rfl rfl ?_
      refine T_22_3 (pc2 := 36) kw_215 dX6_begin_33 rfl ?_
      refine G_iload_n (pc2 := 37) 2 rfl dX6_begin_36 rfl rfl ?_
      refine G_iload_n (pc2 := 38) 2 rfl dX6_begin_37 rfl rfl ?_
      refine G_aload_n (pc2 := 39) 1 rfl dX6_begin_38 rfl rfl ?_
      refine T_13_1 (pc2 := 42) kw_101 dX6_begin_39 rfl ?_
      refine jn_e (Gj := True) (fun (j : Int32 → Option (WI × WF)) => ∀ (s_126 : Int32), j s_126 = some a → GG X md_X6_begin (rmD 1) (gv_Z X (rmD 1).cells (rmD 1).slots none (mkW a.1 a.2 J K)) 0 0 50 [(0, .ref 22), (1, .ref 13), (2, .int x2)] [.int s_126, .int x2, .ref 24] (mkW I F_124 J K)) h (fun s_126 h => ?_) (fun j50_125 hj50_125 h => ?_)
      · refine SC (pc2 := 51) (fa_24 _ _ _ _) h dX6_begin_50 rfl (fun F_127 h => ?_)
        refine G_aload_n (pc2 := 52) 0 rfl dX6_begin_51 rfl rfl ?_
        refine T_22_4 (pc2 := 55) kw_218 dX6_begin_52 rfl ?_
        refine G_iload_n (pc2 := 56) 2 rfl dX6_begin_55 rfl rfl ?_
        refine G_iconst (pc2 := 57) dX6_begin_56 ic_0 rfl ?_
        refine SC (pc2 := 58) (fa_25 _ _ _ _) h dX6_begin_57 rfl (fun F_128 h => ?_)
        refine B_iinc (pc2 := 61) 2 (fun x2_129 => [(2, .int x2_129), (0, .ref 22), (1, .ref 13)]) h rfl dX6_begin_58 ic_1 (by decide) (fun _ => rfl) rfl (fun x2_129 h => ?_)
        refine G_goto (tgt := 12) dX6_begin_61 (by decide) ?_
        refine G_sub (ls' := [(0, .ref 22), (1, .ref 13), (2, .int x2_129)]) [1, 2, 0] rfl ?_
        exact ih x2_129 F_128 h
      refine B_icmp_ge (tgt := 49) (pc2 := 45) h dX6_begin_42 (by decide) rfl (fun _ h => ?_) (fun _ h => ?_)
      · refine G_iconst (pc2 := 50) dX6_begin_49 ic_m1 rfl ?_
        exact hj50_125 (-1 : Int32) h
      · refine G_iload_n (pc2 := 46) 2 rfl dX6_begin_45 rfl rfl ?_
        refine G_goto (tgt := 50) dX6_begin_46 (by decide) ?_
        exact hj50_125 x2 h
set_option maxRecDepth 100000 in
set_option maxHeartbeats 4000000 in
theorem g_L_X6_begin_22_13_66 {X : XT} {I : WI} {J : WI} {K : WF} {a : WI × WF} {k : WF → Option (WI × WF)} (hk : ∀ (F' : WF), (k F' = some a → GG X md_X6_begin (rmD 1) (gv_Z X (rmD 1).cells (rmD 1).slots none (mkW a.1 a.2 J K)) 0 0 113 [] [] (mkW I F' J K))) : ∀ (n : Nat) (x2 : Int32) (F : WF), L_X6_begin_22_13_66 k I n x2 F = some a → GG X md_X6_begin (rmD 1) (gv_Z X (rmD 1).cells (rmD 1).slots none (mkW a.1 a.2 J K)) 0 0 66 [(0, .ref 22), (1, .ref 13), (2, .int x2)] [] (mkW I F J K) := by
  intro n
  induction n with
  | zero =>
    intro x2 F h
    rw [L_X6_begin_22_13_66] at h
    cases h
  | succ n ih =>
    intro x2 F h
    rw [L_X6_begin_22_13_66] at h
    refine G_iload_n (pc2 := 67) 2 rfl dX6_begin_66 rfl rfl ?_
    refine G_aload_n (pc2 := 68) 1 rfl dX6_begin_67 rfl rfl ?_
    refine T_13_3 (pc2 := 71) kw_114 dX6_begin_68 rfl ?_
    refine B_icmp_ge (tgt := 113) (pc2 := 74) h dX6_begin_71 (by decide) rfl (fun _ h => ?_) (fun _ h => ?_)
    · refine G_sub (ls' := []) [] rfl ?_
      exact hk F h
    · refine G_aload_n (pc2 := 75) 0 rfl dX6_begin_74 rfl rfl ?_
      refine T_22_5 (pc2 := 78) kw_221 dX6_begin_75 rfl ?_
      refine G_iload_n (pc2 := 79) 2 rfl dX6_begin_78 rfl rfl ?_
      refine G_aload_n (pc2 := 80) 1 rfl dX6_begin_79 rfl rfl ?_
      refine T_13_11 (pc2 := 83) kw_140 dX6_begin_80 rfl ?_
      refine G_iload_n (pc2 := 84) 2 rfl dX6_begin_83 rfl rfl ?_
      refine AC (pc2 := 85) (fa_21 _ _ _ _) h dX6_begin_84 rfl (fun h => ?_)
      refine SC (pc2 := 86) (fa_26 _ _ _ _) h dX6_begin_85 rfl (fun F_132 h => ?_)
      refine G_aload_n (pc2 := 87) 0 rfl dX6_begin_86 rfl rfl ?_
      refine T_22_6 (pc2 := 90) kw_225 dX6_begin_87 rfl ?_
      refine G_iload_n (pc2 := 91) 2 rfl dX6_begin_90 rfl rfl ?_
      refine G_iconst (pc2 := 92) dX6_begin_91 ic_0 rfl ?_
      refine SC (pc2 := 93) (fa_27 _ _ _ _) h dX6_begin_92 rfl (fun F_133 h => ?_)
      refine G_aload_n (pc2 := 94) 0 rfl dX6_begin_93 rfl rfl ?_
      refine T_22_7 (pc2 := 97) kw_228 dX6_begin_94 rfl ?_
      refine G_iload_n (pc2 := 98) 2 rfl dX6_begin_97 rfl rfl ?_
      refine G_iconst (pc2 := 99) dX6_begin_98 ic_0 rfl ?_
      refine SC (pc2 := 100) (fa_28 _ _ _ _) h dX6_begin_99 rfl (fun F_134 h => ?_)
      refine G_aload_n (pc2 := 101) 0 rfl dX6_begin_100 rfl rfl ?_
      refine T_22_8 (pc2 := 104) kw_231 dX6_begin_101 rfl ?_
      refine G_iload_n (pc2 := 105) 2 rfl dX6_begin_104 rfl rfl ?_
      refine G_iconst (pc2 := 106) dX6_begin_105 ic_0 rfl ?_
      refine SC (pc2 := 107) (fa_29 _ _ _ _) h dX6_begin_106 rfl (fun F_135 h => ?_)
      refine B_iinc (pc2 := 110) 2 (fun x2_136 => [(2, .int x2_136), (0, .ref 22), (1, .ref 13)]) h rfl dX6_begin_107 ic_1 (by decide) (fun _ => rfl) rfl (fun x2_136 h => ?_)
      refine G_goto (tgt := 66) dX6_begin_110 (by decide) ?_
      refine G_sub (ls' := [(0, .ref 22), (1, .ref 13), (2, .int x2_136)]) [1, 2, 0] rfl ?_
      exact ih x2_136 F_135 h
set_option maxRecDepth 100000 in
set_option maxHeartbeats 4000000 in
theorem c_X6_begin_22_13 {I : WI} {F : WF} {J : WI} {K : WF} {a : WI × WF} (h : f_X6_begin_22_13  I F = some a) : CT md_X6_begin yX6_begin (rmD 1) [.ref 22, .ref 13] (mkW I F J K) none (mkW a.1 a.2 J K) := CT_of pn_X6 ⟨rfl, rfl⟩ (Nat.le_of_ble_eq_true rfl) (fun X => by
  show GG X md_X6_begin (rmD 1) _ 0 0 0 [(0, .ref 22), (1, .ref 13)] [] (mkW I F J K)
  unfold f_X6_begin_22_13 at h
  refine G_aload_n (pc2 := 1) 0 rfl dX6_begin_0 rfl rfl ?_
  refine G_iconst (pc2 := 2) dX6_begin_1 ic_0 rfl ?_
  refine P_22_0 (pc2 := 5) h kw_207 dX6_begin_2 rfl (fun I_121 h => ?_)
  refine G_aload_n (pc2 := 6) 0 rfl dX6_begin_5 rfl rfl ?_
  refine G_iconst (pc2 := 7) dX6_begin_6 ic_0 rfl ?_
  refine P_22_1 (pc2 := 10) h kw_210 dX6_begin_7 rfl (fun I_122 h => ?_)
  refine G_iconst (pc2 := 11) dX6_begin_10 ic_0 rfl ?_
  refine B_istore_n (pc2 := 12) (fun x2_123 => [(2, .int x2_123), (0, .ref 22), (1, .ref 13)]) h dX6_begin_11 rfl (by decide) (fun _ => rfl) rfl (fun x2_123 h => ?_)
  refine G_sub (ls' := [(0, .ref 22), (1, .ref 13), (2, .int x2_123)]) [1, 2, 0] rfl ?_
  refine g_L_X6_begin_22_13_12 (fun F_130 h => ?_) FU x2_123 F h
  refine G_iconst (pc2 := 65) dX6_begin_64 ic_0 rfl ?_
  refine B_istore_n (pc2 := 66) (fun x2_131 => [(2, .int x2_131), (0, .ref 22), (1, .ref 13)]) h dX6_begin_65 rfl (by decide) (fun _ => rfl) rfl (fun x2_131 h => ?_)
  refine G_sub (ls' := [(0, .ref 22), (1, .ref 13), (2, .int x2_131)]) [1, 2, 0] rfl ?_
  refine g_L_X6_begin_22_13_66 (fun F_137 h => ?_) FU x2_131 F_130 h
  have ha := Option.some.inj h
  subst ha
  exact G_vret rfl dX6_begin_113)
def f_X5_forget_38 (I : WI) (F : WF) : Option (WI) :=
  bnd (upd I 57 (0 : Int32)) fun I_139 =>
  bnd (upd I_139 58 (1 : Int32)) fun I_140 =>
  bnd (upd I_140 59 (40 : Int32)) fun I_141 =>
  some I_141
set_option maxRecDepth 100000 in
set_option maxHeartbeats 4000000 in
theorem c_X5_forget_38 {I : WI} {F : WF} {J : WI} {K : WF} {a : WI} (h : f_X5_forget_38  I F = some a) : CT md_X5_forget yX5_forget (rmD 1) [.ref 38] (mkW I F J K) none (mkW a F J K) := CT_of pn_X5 ⟨rfl, rfl⟩ (Nat.le_of_ble_eq_true rfl) (fun X => by
  show GG X md_X5_forget (rmD 1) _ 0 0 0 [(0, .ref 38)] [] (mkW I F J K)
  unfold f_X5_forget_38 at h
  refine G_aload_n (pc2 := 1) 0 rfl dX5_forget_0 rfl rfl ?_
  refine G_iconst (pc2 := 2) dX5_forget_1 ic_0 rfl ?_
  refine P_38_0 (pc2 := 5) h kw_330 dX5_forget_2 rfl (fun I_139 h => ?_)
  refine G_aload_n (pc2 := 6) 0 rfl dX5_forget_5 rfl rfl ?_
  refine G_iconst (pc2 := 7) dX5_forget_6 ic_1 rfl ?_
  refine P_38_1 (pc2 := 10) h kw_332 dX5_forget_7 rfl (fun I_140 h => ?_)
  refine G_aload_n (pc2 := 11) 0 rfl dX5_forget_10 rfl rfl ?_
  refine G_bipush (pc2 := 13) dX5_forget_11 ib_40 rfl ?_
  refine P_38_2 (pc2 := 16) h kw_334 dX5_forget_13 rfl (fun I_141 h => ?_)
  have ha := Option.some.inj h
  subst ha
  exact G_vret rfl dX5_forget_16)
def f_X3_forget_42 (I : WI) (F : WF) : Option (WI) :=
  bnd (upd I 61 (0 : Int32)) fun I_144 =>
  some I_144
set_option maxRecDepth 100000 in
set_option maxHeartbeats 4000000 in
theorem c_X3_forget_42 {I : WI} {F : WF} {J : WI} {K : WF} {a : WI} (h : f_X3_forget_42  I F = some a) : CT md_X3_forget yX3_forget (rmD 1) [.ref 42] (mkW I F J K) none (mkW a F J K) := CT_of pn_X3 ⟨rfl, rfl⟩ (Nat.le_of_ble_eq_true rfl) (fun X => by
  show GG X md_X3_forget (rmD 1) _ 0 0 0 [(0, .ref 42)] [] (mkW I F J K)
  unfold f_X3_forget_42 at h
  refine G_aload_n (pc2 := 1) 0 rfl dX3_forget_0 rfl rfl ?_
  refine G_iconst (pc2 := 2) dX3_forget_1 ic_0 rfl ?_
  refine P_42_0 (pc2 := 5) h kw_369 dX3_forget_2 rfl (fun I_144 h => ?_)
  have ha := Option.some.inj h
  subst ha
  exact G_vret rfl dX3_forget_5)
def L_X10_town_85 (k : WI → Option (Int32 × WI × WF))  (F : WF) : Nat → Int32 → WI → Option (Int32 × WI × WF)
  | 0, _, _ => none
  | n + 1, x1, I =>
  if (2 : Int32) ≤ x1 then (k I)
  else (if x1 = (0 : Int32) then (bnd (upd I 63 (0 : Int32)) fun I_147 =>
  bnd (x1 + (1 : Int32)) fun x1_148 =>
  L_X10_town_85 k F n x1_148 I_147)
  else if x1 = (1 : Int32) then (bnd (upd I 65 (0 : Int32)) fun I_150 =>
  bnd (x1 + (1 : Int32)) fun x1_151 =>
  L_X10_town_85 k F n x1_151 I_150)
  else none)
def f_X10_town (I : WI) (F : WF) : Option (Int32 × WI × WF) :=
  Option.bind (f_X8_readTown_1 I F) fun c_106 =>
  bnd (upd c_106.1 38 (0 : Int32)) fun I_107 =>
  if (I_107 39) = 0 then (Option.bind (f_X7_copyFrom_13_2 I_107 c_106.2) fun c_120 =>
  Option.bind (f_X6_begin_22_13 c_120.1 c_120.2) fun c_138 =>
  Option.bind (f_X5_forget_38 c_138.1 c_138.2) fun c_142 =>
  bnd (upd c_142 60 (0 : Int32)) fun I_143 =>
  Option.bind (f_X3_forget_42 I_143 c_138.2) fun c_145 =>
  bnd (0 : Int32) fun x1_146 =>
  L_X10_town_85 (fun I_153 => some ((I_153 49), I_153, c_138.2)) c_138.2 FU x1_146 c_145)
  else (some (((-10 : Int32) - (I_107 39)), I_107, c_106.2))
set_option maxRecDepth 100000 in
set_option maxHeartbeats 4000000 in
theorem g_L_X10_town_85 {X : XT} {F : WF} {J : WI} {K : WF} {a : Int32 × WI × WF} {k : WI → Option (Int32 × WI × WF)} (hk : ∀ (I' : WI), (k I' = some a → GG X md_X10_town (rmD 7) (gv_Z X (rmD 7).cells (rmD 7).slots (some (.int a.1)) (mkW a.2.1 a.2.2 J K)) 0 0 106 [(0, .ref 0)] [] (mkW I' F J K))) : ∀ (n : Nat) (x1 : Int32) (I : WI), L_X10_town_85 k F n x1 I = some a → GG X md_X10_town (rmD 7) (gv_Z X (rmD 7).cells (rmD 7).slots (some (.int a.1)) (mkW a.2.1 a.2.2 J K)) 0 0 85 [(0, .ref 0), (1, .int x1)] [] (mkW I F J K) := by
  intro n
  induction n with
  | zero =>
    intro x1 I h
    rw [L_X10_town_85] at h
    cases h
  | succ n ih =>
    intro x1 I h
    rw [L_X10_town_85] at h
    refine G_iload_n (pc2 := 86) 1 rfl dX10_town_85 rfl rfl ?_
    refine G_iconst (pc2 := 87) dX10_town_86 ic_2 rfl ?_
    refine B_icmp_ge (tgt := 106) (pc2 := 90) h dX10_town_87 (by decide) rfl (fun _ h => ?_) (fun _ h => ?_)
    · refine G_sub (ls' := [(0, .ref 0)]) [0] rfl ?_
      exact hk I h
    · refine G_aload_n (pc2 := 91) 0 rfl dX10_town_90 rfl rfl ?_
      refine T_0_9 (pc2 := 94) kw_409 dX10_town_91 rfl ?_
      refine G_iload_n (pc2 := 95) 1 rfl dX10_town_94 rfl rfl ?_
      by_cases qx_149 : x1 = (0 : Int32)
      · have h := ite_t h qx_149
        refine AA (pc2 := 96) (C := RX2) (fun _ => rfl) (qr_188 _ _ _ _) (0 : Int32) qx_149 rfl rfl dX10_town_95 rfl ?_
        refine G_iconst (pc2 := 97) dX10_town_96 ic_0 rfl ?_
        refine P_189_0 (pc2 := 100) h ⟨rfl, rfl⟩ kw_389 dX10_town_97 rfl (fun I_147 h => ?_)
        refine B_iinc (pc2 := 103) 1 (fun x1_148 => [(1, .int x1_148), (0, .ref 0)]) h rfl dX10_town_100 ic_1 (by decide) (fun _ => rfl) rfl (fun x1_148 h => ?_)
        refine G_goto (tgt := 85) dX10_town_103 (by decide) ?_
        refine G_sub (ls' := [(0, .ref 0), (1, .int x1_148)]) [1, 0] rfl ?_
        exact ih x1_148 I_147 h
      have h := ite_f h qx_149
      by_cases qx_152 : x1 = (1 : Int32)
      · have h := ite_t h qx_152
        refine AA (pc2 := 96) (C := RX2) (fun _ => rfl) (qr_188 _ _ _ _) (1 : Int32) qx_152 rfl rfl dX10_town_95 rfl ?_
        refine G_iconst (pc2 := 97) dX10_town_96 ic_0 rfl ?_
        refine P_199_0 (pc2 := 100) h ⟨rfl, rfl⟩ kw_389 dX10_town_97 rfl (fun I_150 h => ?_)
        refine B_iinc (pc2 := 103) 1 (fun x1_151 => [(1, .int x1_151), (0, .ref 0)]) h rfl dX10_town_100 ic_1 (by decide) (fun _ => rfl) rfl (fun x1_151 h => ?_)
        refine G_goto (tgt := 85) dX10_town_103 (by decide) ?_
        refine G_sub (ls' := [(0, .ref 0), (1, .int x1_151)]) [1, 0] rfl ?_
        exact ih x1_151 I_150 h
      have h := ite_f h qx_152
      cases h
set_option maxRecDepth 100000 in
set_option maxHeartbeats 4000000 in
theorem c_X10_town {I : WI} {F : WF} {J : WI} {K : WF} {a : Int32 × WI × WF} (h : f_X10_town  I F = some a) : CT md_X10_town yX10_town (rmD 7) [.ref 0] (mkW I F J K) (some (.int a.1)) (mkW a.2.1 a.2.2 J K) := CT_of pn_X10 ⟨rfl, rfl⟩ (Nat.le_of_ble_eq_true rfl) (fun X => by
  show GG X md_X10_town (rmD 7) _ 0 0 0 [(0, .ref 0)] [] (mkW I F J K)
  unfold f_X10_town at h
  refine G_aload_n (pc2 := 1) 0 rfl dX10_town_0 rfl rfl ?_
  refine T_0_0 (pc2 := 4) kw_400 dX10_town_1 rfl ?_
  obtain ⟨c_106, hc_106, h⟩ := ob_e h
  refine B_callV (pc2 := 7) si_X10_89 (c_X8_readTown_1 hc_106) (qo_1 _ _ _ _) rfl rfl rfl (st := []) (stq := []) rfl (by decide) (by decide) (Nat.le_of_ble_eq_true rfl) mkW_ll dX10_town_4 rfl rfl ?_ ⟨rfl, rfl⟩
  refine G_aload_n (pc2 := 8) 0 rfl dX10_town_7 rfl rfl ?_
  refine T_0_0 (pc2 := 11) kw_400 dX10_town_8 rfl ?_
  refine G_iconst (pc2 := 12) dX10_town_11 ic_0 rfl ?_
  refine P_1_1 (pc2 := 15) h kw_170 dX10_town_12 rfl (fun I_107 h => ?_)
  refine G_aload_n (pc2 := 16) 0 rfl dX10_town_15 rfl rfl ?_
  refine T_0_0 (pc2 := 19) kw_400 dX10_town_16 rfl ?_
  refine T_1_2 (pc2 := 22) kw_172 dX10_town_19 rfl ?_
  refine B_if_eq (tgt := 36) (pc2 := 25) h dX10_town_22 (by decide) rfl (fun _ h => ?_) (fun _ h => ?_)
  · refine G_aload_n (pc2 := 37) 0 rfl dX10_town_36 rfl rfl ?_
    refine T_0_2 (pc2 := 40) kw_402 dX10_town_37 rfl ?_
    refine G_aload_n (pc2 := 41) 0 rfl dX10_town_40 rfl rfl ?_
    refine T_0_0 (pc2 := 44) kw_400 dX10_town_41 rfl ?_
    refine T_1_0 (pc2 := 47) kw_168 dX10_town_44 rfl ?_
    obtain ⟨c_120, hc_120, h⟩ := ob_e h
    refine B_callV (pc2 := 50) si_X10_98 (c_X7_copyFrom_13_2 hc_120) (qo_13 _ _ _ _) rfl rfl rfl (st := []) (stq := []) rfl (by decide) (by decide) (Nat.le_of_ble_eq_true rfl) mkW_ll dX10_town_47 rfl rfl ?_ ⟨rfl, rfl⟩
    refine G_aload_n (pc2 := 51) 0 rfl dX10_town_50 rfl rfl ?_
    refine T_0_3 (pc2 := 54) kw_403 dX10_town_51 rfl ?_
    refine G_aload_n (pc2 := 55) 0 rfl dX10_town_54 rfl rfl ?_
    refine T_0_2 (pc2 := 58) kw_402 dX10_town_55 rfl ?_
    obtain ⟨c_138, hc_138, h⟩ := ob_e h
    refine B_callV (pc2 := 61) si_X10_103 (c_X6_begin_22_13 hc_138) (qo_22 _ _ _ _) rfl rfl rfl (st := []) (stq := []) rfl (by decide) (by decide) (Nat.le_of_ble_eq_true rfl) mkW_ll dX10_town_58 rfl rfl ?_ ⟨rfl, rfl⟩
    refine G_aload_n (pc2 := 62) 0 rfl dX10_town_61 rfl rfl ?_
    refine T_0_6 (pc2 := 65) kw_406 dX10_town_62 rfl ?_
    obtain ⟨c_142, hc_142, h⟩ := ob_e h
    refine B_callV (pc2 := 68) si_X10_108 (c_X5_forget_38 hc_142) (qo_38 _ _ _ _) rfl rfl rfl (st := []) (stq := []) rfl (by decide) (by decide) (Nat.le_of_ble_eq_true rfl) mkW_ll dX10_town_65 rfl rfl ?_ ⟨rfl, rfl⟩
    refine G_aload_n (pc2 := 69) 0 rfl dX10_town_68 rfl rfl ?_
    refine T_0_7 (pc2 := 72) kw_407 dX10_town_69 rfl ?_
    refine G_iconst (pc2 := 73) dX10_town_72 ic_0 rfl ?_
    refine P_39_0 (pc2 := 76) h kw_350 dX10_town_73 rfl (fun I_143 h => ?_)
    refine G_aload_n (pc2 := 77) 0 rfl dX10_town_76 rfl rfl ?_
    refine T_0_8 (pc2 := 80) kw_408 dX10_town_77 rfl ?_
    obtain ⟨c_145, hc_145, h⟩ := ob_e h
    refine B_callV (pc2 := 83) si_X10_114 (c_X3_forget_42 hc_145) (qo_42 _ _ _ _) rfl rfl rfl (st := []) (stq := []) rfl (by decide) (by decide) (Nat.le_of_ble_eq_true rfl) mkW_ll dX10_town_80 rfl rfl ?_ ⟨rfl, rfl⟩
    refine G_iconst (pc2 := 84) dX10_town_83 ic_0 rfl ?_
    refine B_istore_n (pc2 := 85) (fun x1_146 => [(1, .int x1_146), (0, .ref 0)]) h dX10_town_84 rfl (by decide) (fun _ => rfl) rfl (fun x1_146 h => ?_)
    refine G_sub (ls' := [(0, .ref 0), (1, .int x1_146)]) [1, 0] rfl ?_
    refine g_L_X10_town_85 (fun I_153 h => ?_) FU x1_146 c_145 h
    refine G_aload_n (pc2 := 107) 0 rfl dX10_town_106 rfl rfl ?_
    refine T_0_2 (pc2 := 110) kw_402 dX10_town_107 rfl ?_
    refine T_13_1 (pc2 := 113) kw_104 dX10_town_110 rfl ?_
    have ha := Option.some.inj h
    subst ha
    exact G_iret rfl dX10_town_113
  · refine G_bipush (pc2 := 27) dX10_town_25 ib_m10 rfl ?_
    refine G_aload_n (pc2 := 28) 0 rfl dX10_town_27 rfl rfl ?_
    refine T_0_0 (pc2 := 31) kw_400 dX10_town_28 rfl ?_
    refine T_1_2 (pc2 := 34) kw_172 dX10_town_31 rfl ?_
    refine G_isub (pc2 := 35) dX10_town_34 rfl ?_
    have ha := Option.some.inj h
    subst ha
    exact G_iret rfl dX10_town_35)
def f_X10_fault (I : WI) (F : WF) : Option (Int32) :=
  some (I 40)
set_option maxRecDepth 100000 in
set_option maxHeartbeats 4000000 in
theorem c_X10_fault {I : WI} {F : WF} {J : WI} {K : WF} {a : Int32} (h : f_X10_fault  I F = some a) : CT md_X10_fault yX10_fault (rmD 1) [.ref 0] (mkW I F J K) (some (.int a)) (mkW I F J K) := CT_of pn_X10 ⟨rfl, rfl⟩ (Nat.le_of_ble_eq_true rfl) (fun X => by
  show GG X md_X10_fault (rmD 1) _ 0 0 0 [(0, .ref 0)] [] (mkW I F J K)
  unfold f_X10_fault at h
  refine G_aload_n (pc2 := 1) 0 rfl dX10_fault_0 rfl rfl ?_
  refine T_0_0 (pc2 := 4) kw_400 dX10_fault_1 rfl ?_
  refine T_1_3 (pc2 := 7) kw_174 dX10_fault_4 rfl ?_
  have ha := Option.some.inj h
  subst ha
  exact G_iret rfl dX10_fault_7)
def L_X1_keptBridges_12_4 (k : Int32 → Option (Int32))  (I : WI) (F : WF) : Nat → Int32 → Int32 → Option (Int32)
  | 0, _, _ => none
  | n + 1, x1, x2 =>
  if (I 50) ≤ x2 then (k x1)
  else (ixG x2 9 (
  bnd (fun (x1_163 : Int32) => bnd (x2 + (1 : Int32)) fun x2_164 =>
  L_X1_keptBridges_12_4 k I F n x1_163 x2_164) fun j31_162 =>
  if (F 1 x2.toNatClampNeg) = (-1 : Int32) then (j31_162 x1)
  else (bnd (x1 + (1 : Int32)) fun x1_165 =>
  j31_162 x1_165)))
def f_X1_keptBridges_12 (I : WI) (F : WF) : Option (Int32) :=
  bnd (0 : Int32) fun x1_160 =>
  bnd (0 : Int32) fun x2_161 =>
  L_X1_keptBridges_12_4 (fun x1_166 => some x1_166) I F FU x1_160 x2_161
set_option maxRecDepth 100000 in
set_option maxHeartbeats 4000000 in
theorem g_L_X1_keptBridges_12_4 {X : XT} {I : WI} {F : WF} {J : WI} {K : WF} {a : Int32} {k : Int32 → Option (Int32)} (hk : ∀ (e1 : Int32), (k e1 = some a → GG X md_X1_keptBridges (rmD 1) (gv_Z X (rmD 1).cells (rmD 1).slots (some (.int a)) (mkW I F J K)) 0 0 37 [(1, .int e1)] [] (mkW I F J K))) : ∀ (n : Nat) (x1 : Int32) (x2 : Int32), L_X1_keptBridges_12_4 k I F n x1 x2 = some a → GG X md_X1_keptBridges (rmD 1) (gv_Z X (rmD 1).cells (rmD 1).slots (some (.int a)) (mkW I F J K)) 0 0 4 [(0, .ref 12), (1, .int x1), (2, .int x2)] [] (mkW I F J K) := by
  intro n
  induction n with
  | zero =>
    intro x1 x2 h
    rw [L_X1_keptBridges_12_4] at h
    cases h
  | succ n ih =>
    intro x1 x2 h
    rw [L_X1_keptBridges_12_4] at h
    refine G_iload_n (pc2 := 5) 2 rfl dX1_keptBridges_4 rfl rfl ?_
    refine G_aload_n (pc2 := 6) 0 rfl dX1_keptBridges_5 rfl rfl ?_
    refine T_12_0 (pc2 := 9) kw_256 dX1_keptBridges_6 rfl ?_
    refine T_13_2 (pc2 := 12) kw_110 dX1_keptBridges_9 rfl ?_
    refine B_icmp_ge (tgt := 37) (pc2 := 15) h dX1_keptBridges_12 (by decide) rfl (fun _ h => ?_) (fun _ h => ?_)
    · refine G_sub (ls' := [(1, .int x1)]) [1] rfl ?_
      exact hk x1 h
    · refine G_aload_n (pc2 := 16) 0 rfl dX1_keptBridges_15 rfl rfl ?_
      refine T_12_1 (pc2 := 19) kw_259 dX1_keptBridges_16 rfl ?_
      refine T_22_3 (pc2 := 22) kw_216 dX1_keptBridges_19 rfl ?_
      refine G_iload_n (pc2 := 23) 2 rfl dX1_keptBridges_22 rfl rfl ?_
      refine AC (pc2 := 24) (fa_24 _ _ _ _) h dX1_keptBridges_23 rfl (fun h => ?_)
      refine G_iconst (pc2 := 25) dX1_keptBridges_24 ic_m1 rfl ?_
      refine jn_e (Gj := True) (fun (j : Int32 → Option (Int32)) => ∀ (x1_163 : Int32), j x1_163 = some a → GG X md_X1_keptBridges (rmD 1) (gv_Z X (rmD 1).cells (rmD 1).slots (some (.int a)) (mkW I F J K)) 0 0 31 [(0, .ref 12), (1, .int x1_163), (2, .int x2)] [] (mkW I F J K)) h (fun x1_163 h => ?_) (fun j31_162 hj31_162 h => ?_)
      · refine B_iinc (pc2 := 34) 2 (fun x2_164 => [(2, .int x2_164), (0, .ref 12), (1, .int x1_163)]) h rfl dX1_keptBridges_31 ic_1 (by decide) (fun _ => rfl) rfl (fun x2_164 h => ?_)
        refine G_goto (tgt := 4) dX1_keptBridges_34 (by decide) ?_
        refine G_sub (ls' := [(0, .ref 12), (1, .int x1_163), (2, .int x2_164)]) [1, 2, 0] rfl ?_
        exact ih x1_163 x2_164 h
      refine B_icmp_eq (tgt := 31) (pc2 := 28) h dX1_keptBridges_25 (by decide) rfl (fun _ h => ?_) (fun _ h => ?_)
      · exact hj31_162 x1 h
      · refine B_iinc (pc2 := 31) 1 (fun x1_165 => [(1, .int x1_165), (0, .ref 12), (2, .int x2)]) h rfl dX1_keptBridges_28 ic_1 (by decide) (fun _ => rfl) rfl (fun x1_165 h => ?_)
        refine G_sub (ls' := [(0, .ref 12), (1, .int x1_165), (2, .int x2)]) [1, 0, 2] rfl ?_
        exact hj31_162 x1_165 h
set_option maxRecDepth 100000 in
set_option maxHeartbeats 4000000 in
theorem c_X1_keptBridges_12 {I : WI} {F : WF} {J : WI} {K : WF} {a : Int32} (h : f_X1_keptBridges_12  I F = some a) : CT md_X1_keptBridges yX1_keptBridges (rmD 1) [.ref 12] (mkW I F J K) (some (.int a)) (mkW I F J K) := CT_of pn_X1 ⟨rfl, rfl⟩ (Nat.le_of_ble_eq_true rfl) (fun X => by
  show GG X md_X1_keptBridges (rmD 1) _ 0 0 0 [(0, .ref 12)] [] (mkW I F J K)
  unfold f_X1_keptBridges_12 at h
  refine G_iconst (pc2 := 1) dX1_keptBridges_0 ic_0 rfl ?_
  refine B_istore_n (pc2 := 2) (fun x1_160 => [(1, .int x1_160), (0, .ref 12)]) h dX1_keptBridges_1 rfl (by decide) (fun _ => rfl) rfl (fun x1_160 h => ?_)
  refine G_iconst (pc2 := 3) dX1_keptBridges_2 ic_0 rfl ?_
  refine B_istore_n (pc2 := 4) (fun x2_161 => [(2, .int x2_161), (1, .int x1_160), (0, .ref 12)]) h dX1_keptBridges_3 rfl (by decide) (fun _ => rfl) rfl (fun x2_161 h => ?_)
  refine G_sub (ls' := [(0, .ref 12), (1, .int x1_160), (2, .int x2_161)]) [2, 1, 0] rfl ?_
  refine g_L_X1_keptBridges_12_4 (fun x1_166 h => ?_) FU x1_160 x2_161 h
  refine G_iload_n (pc2 := 38) 0 rfl dX1_keptBridges_37 rfl rfl ?_
  have ha := Option.some.inj h
  subst ha
  exact G_iret rfl dX1_keptBridges_38)
def f_X7_allBridges_13 (I : WI) (F : WF) : Option (Int32) :=
  some (((1 : Int32) <<< ((I 49) &&& 31)) - (1 : Int32))
set_option maxRecDepth 100000 in
set_option maxHeartbeats 4000000 in
theorem c_X7_allBridges_13 {I : WI} {F : WF} {J : WI} {K : WF} {a : Int32} (h : f_X7_allBridges_13  I F = some a) : CT md_X7_allBridges yX7_allBridges (rmD 1) [.ref 13] (mkW I F J K) (some (.int a)) (mkW I F J K) := CT_of pn_X7 ⟨rfl, rfl⟩ (Nat.le_of_ble_eq_true rfl) (fun X => by
  show GG X md_X7_allBridges (rmD 1) _ 0 0 0 [(0, .ref 13)] [] (mkW I F J K)
  unfold f_X7_allBridges_13 at h
  refine G_iconst (pc2 := 1) dX7_allBridges_0 ic_1 rfl ?_
  refine G_aload_n (pc2 := 2) 0 rfl dX7_allBridges_1 rfl rfl ?_
  refine T_13_1 (pc2 := 5) kw_100 dX7_allBridges_2 rfl ?_
  refine G_ishl (pc2 := 6) dX7_allBridges_5 rfl ?_
  refine G_iconst (pc2 := 7) dX7_allBridges_6 ic_1 rfl ?_
  refine G_isub (pc2 := 8) dX7_allBridges_7 rfl ?_
  have ha := Option.some.inj h
  subst ha
  exact G_iret rfl dX7_allBridges_8)
def f_X9_isIn (x0 : Int32) (x1 : Int32) : Option (Int32) :=
  if ((x1 >>> (x0 &&& 31)) &&& (1 : Int32)) = (1 : Int32) then (some (1 : Int32))
  else (some (0 : Int32))
set_option maxRecDepth 100000 in
set_option maxHeartbeats 4000000 in
theorem c_X9_isIn {x0 : Int32} {x1 : Int32} {w : List va_E} {a : Int32} (h : f_X9_isIn x0 x1 = some a) : CT md_X9_isIn yX9_isIn (rmD 1) [.int x0, .int x1] w (some (.int a)) w := CT_of pn_X9 ⟨rfl, rfl⟩ (Nat.le_of_ble_eq_true rfl) (fun X => by
  show GG X md_X9_isIn (rmD 1) _ 0 0 0 [(0, .int x0), (1, .int x1)] [] w
  unfold f_X9_isIn at h
  refine G_iload_n (pc2 := 1) 1 rfl dX9_isIn_0 rfl rfl ?_
  refine G_iload_n (pc2 := 2) 0 rfl dX9_isIn_1 rfl rfl ?_
  refine G_ishr (pc2 := 3) dX9_isIn_2 rfl ?_
  refine G_iconst (pc2 := 4) dX9_isIn_3 ic_1 rfl ?_
  refine G_iand (pc2 := 5) dX9_isIn_4 rfl ?_
  refine G_iconst (pc2 := 6) dX9_isIn_5 ic_1 rfl ?_
  refine B_icmp_ne (tgt := 13) (pc2 := 9) h dX9_isIn_6 (by decide) rfl (fun _ h => ?_) (fun _ h => ?_)
  · refine G_iconst (pc2 := 14) dX9_isIn_13 ic_0 rfl ?_
    have ha := Option.some.inj h
    subst ha
    exact G_zret (v := (0 : Int32)) rfl (by decide) dX9_isIn_14
  · refine G_iconst (pc2 := 10) dX9_isIn_9 ic_1 rfl ?_
    refine G_goto (tgt := 14) dX9_isIn_10 (by decide) ?_
    have ha := Option.some.inj h
    subst ha
    exact G_zret (v := (1 : Int32)) rfl (by decide) dX9_isIn_14)
def f_X9_spread_31 (x1 : Int32) (x2 : Int32) (x3 : Int32) (I : WI) (F : WF) : Option (WF) :=
  ixG x1 8 (
  if (F 169 x1.toNatClampNeg) = x3 then (ixG x2 8 (
  if (F 169 x2.toNatClampNeg) = (-1 : Int32) then (ixG x2 8 (bnd (uF F 169 (upd (F 169) x2.toNatClampNeg (x3 + (1 : Int32)))) fun F_184 =>
  some F_184))
  else (some F)))
  else (some F))
set_option maxRecDepth 100000 in
set_option maxHeartbeats 4000000 in
theorem c_X9_spread_31 {x1 : Int32} {x2 : Int32} {x3 : Int32} {I : WI} {F : WF} {J : WI} {K : WF} {a : WF} (h : f_X9_spread_31 x1 x2 x3 I F = some a) : CT md_X9_spread yX9_spread (rmD 1) [.ref 31, .int x1, .int x2, .int x3] (mkW I F J K) none (mkW I a J K) := CT_of pn_X9 ⟨rfl, rfl⟩ (Nat.le_of_ble_eq_true rfl) (fun X => by
  show GG X md_X9_spread (rmD 1) _ 0 0 0 [(0, .ref 31), (1, .int x1), (2, .int x2), (3, .int x3)] [] (mkW I F J K)
  unfold f_X9_spread_31 at h
  refine G_aload_n (pc2 := 1) 0 rfl dX9_spread_0 rfl rfl ?_
  refine T_31_3 (pc2 := 4) kw_281 dX9_spread_1 rfl ?_
  refine G_iload_n (pc2 := 5) 1 rfl dX9_spread_4 rfl rfl ?_
  refine AC (pc2 := 6) (fa_32 _ _ _ _) h dX9_spread_5 rfl (fun h => ?_)
  refine G_iload_n (pc2 := 7) 3 rfl dX9_spread_6 rfl rfl ?_
  refine B_icmp_ne (tgt := 29) (pc2 := 10) h dX9_spread_7 (by decide) rfl (fun _ h => ?_) (fun _ h => ?_)
  · have ha := Option.some.inj h
    subst ha
    exact G_vret rfl dX9_spread_29
  · refine G_aload_n (pc2 := 11) 0 rfl dX9_spread_10 rfl rfl ?_
    refine T_31_3 (pc2 := 14) kw_281 dX9_spread_11 rfl ?_
    refine G_iload_n (pc2 := 15) 2 rfl dX9_spread_14 rfl rfl ?_
    refine AC (pc2 := 16) (fa_32 _ _ _ _) h dX9_spread_15 rfl (fun h => ?_)
    refine G_iconst (pc2 := 17) dX9_spread_16 ic_m1 rfl ?_
    refine B_icmp_ne (tgt := 29) (pc2 := 20) h dX9_spread_17 (by decide) rfl (fun _ h => ?_) (fun _ h => ?_)
    · have ha := Option.some.inj h
      subst ha
      exact G_vret rfl dX9_spread_29
    · refine G_aload_n (pc2 := 21) 0 rfl dX9_spread_20 rfl rfl ?_
      refine T_31_3 (pc2 := 24) kw_281 dX9_spread_21 rfl ?_
      refine G_iload_n (pc2 := 25) 2 rfl dX9_spread_24 rfl rfl ?_
      refine G_iload_n (pc2 := 26) 3 rfl dX9_spread_25 rfl rfl ?_
      refine G_iconst (pc2 := 27) dX9_spread_26 ic_1 rfl ?_
      refine G_iadd (pc2 := 28) dX9_spread_27 rfl ?_
      refine SC (pc2 := 29) (fa_32 _ _ _ _) h dX9_spread_28 rfl (fun F_184 h => ?_)
      have ha := Option.some.inj h
      subst ha
      exact G_vret rfl dX9_spread_29)
def L_X9_measure_31_2 (k : WF → Option (WF)) (x1 : Int32) (x2 : Int32) (I : WI) : Nat → Int32 → WF → Option (WF)
  | 0, _, _ => none
  | n + 1, x3, F =>
  if (I 48) ≤ x3 then (k F)
  else (ixG x3 8 (bnd (uF F 169 (upd (F 169) x3.toNatClampNeg (-1 : Int32))) fun F_174 =>
  bnd (x3 + (1 : Int32)) fun x3_175 =>
  L_X9_measure_31_2 k x1 x2 I n x3_175 F_174))
def L_X9_measure_31_49 (k : WF → Option (WF)) (x2 : Int32) (x3 : Int32) (I : WI) : Nat → Int32 → WF → Option (WF)
  | 0, _, _ => none
  | n + 1, x4, F =>
  if (I 49) ≤ x4 then (k F)
  else (Option.bind (f_X9_isIn x4 x2) fun c_180 =>
  bnd (fun (F_182 : WF) => bnd (x4 + (1 : Int32)) fun x4_183 =>
  L_X9_measure_31_49 k x2 x3 I n x4_183 F_182) fun j120_181 =>
  if c_180 = 0 then (j120_181 F)
  else (ixG x4 9 (
  ixG x4 9 (
  Option.bind (f_X9_spread_31 (F 161 x4.toNatClampNeg) (F 162 x4.toNatClampNeg) x3 I F) fun c_185 =>
  ixG x4 9 (
  ixG x4 9 (
  Option.bind (f_X9_spread_31 (c_185 162 x4.toNatClampNeg) (c_185 161 x4.toNatClampNeg) x3 I c_185) fun c_186 =>
  j120_181 c_186))))))
def L_X9_measure_31_35 (k : WF → Option (WF)) (x2 : Int32) (I : WI) : Nat → Int32 → WF → Option (WF)
  | 0, _, _ => none
  | n + 1, x3, F =>
  if (I 48) ≤ x3 then (k F)
  else (bnd (0 : Int32) fun x4_179 =>
  L_X9_measure_31_49 (fun F_187 => bnd (x3 + (1 : Int32)) fun x3_188 =>
  L_X9_measure_31_35 k x2 I n x3_188 F_187) x2 x3 I FU x4_179 F)
def f_X9_measure_31 (x1 : Int32) (x2 : Int32) (I : WI) (F : WF) : Option (WF) :=
  bnd (0 : Int32) fun x3_173 =>
  L_X9_measure_31_2 (fun F_176 => ixG x1 8 (bnd (uF F_176 169 (upd (F_176 169) x1.toNatClampNeg (0 : Int32))) fun F_177 =>
  bnd (0 : Int32) fun x3_178 =>
  L_X9_measure_31_35 (fun F_189 => some F_189) x2 I FU x3_178 F_177)) x1 x2 I FU x3_173 F
set_option maxRecDepth 100000 in
set_option maxHeartbeats 4000000 in
theorem g_L_X9_measure_31_2 {X : XT} {x1 : Int32} {x2 : Int32} {I : WI} {J : WI} {K : WF} {a : WF} {k : WF → Option (WF)} (hk : ∀ (F' : WF), (k F' = some a → GG X md_X9_measure (rmD 2) (gv_Z X (rmD 2).cells (rmD 2).slots none (mkW I a J K)) 0 0 26 [(0, .ref 31), (1, .int x1), (2, .int x2)] [] (mkW I F' J K))) : ∀ (n : Nat) (x3 : Int32) (F : WF), L_X9_measure_31_2 k x1 x2 I n x3 F = some a → GG X md_X9_measure (rmD 2) (gv_Z X (rmD 2).cells (rmD 2).slots none (mkW I a J K)) 0 0 2 [(0, .ref 31), (1, .int x1), (2, .int x2), (3, .int x3)] [] (mkW I F J K) := by
  intro n
  induction n with
  | zero =>
    intro x3 F h
    rw [L_X9_measure_31_2] at h
    cases h
  | succ n ih =>
    intro x3 F h
    rw [L_X9_measure_31_2] at h
    refine G_iload_n (pc2 := 3) 3 rfl dX9_measure_2 rfl rfl ?_
    refine G_aload_n (pc2 := 4) 0 rfl dX9_measure_3 rfl rfl ?_
    refine T_31_2 (pc2 := 7) kw_280 dX9_measure_4 rfl ?_
    refine T_13_0 (pc2 := 10) kw_97 dX9_measure_7 rfl ?_
    refine B_icmp_ge (tgt := 26) (pc2 := 13) h dX9_measure_10 (by decide) rfl (fun _ h => ?_) (fun _ h => ?_)
    · refine G_sub (ls' := [(0, .ref 31), (1, .int x1), (2, .int x2)]) [0, 1, 2] rfl ?_
      exact hk F h
    · refine G_aload_n (pc2 := 14) 0 rfl dX9_measure_13 rfl rfl ?_
      refine T_31_3 (pc2 := 17) kw_281 dX9_measure_14 rfl ?_
      refine G_iload_n (pc2 := 18) 3 rfl dX9_measure_17 rfl rfl ?_
      refine G_iconst (pc2 := 19) dX9_measure_18 ic_m1 rfl ?_
      refine SC (pc2 := 20) (fa_32 _ _ _ _) h dX9_measure_19 rfl (fun F_174 h => ?_)
      refine B_iinc (pc2 := 23) 3 (fun x3_175 => [(3, .int x3_175), (0, .ref 31), (1, .int x1), (2, .int x2)]) h rfl dX9_measure_20 ic_1 (by decide) (fun _ => rfl) rfl (fun x3_175 h => ?_)
      refine G_goto (tgt := 2) dX9_measure_23 (by decide) ?_
      refine G_sub (ls' := [(0, .ref 31), (1, .int x1), (2, .int x2), (3, .int x3_175)]) [1, 2, 3, 0] rfl ?_
      exact ih x3_175 F_174 h
set_option maxRecDepth 100000 in
set_option maxHeartbeats 4000000 in
theorem g_L_X9_measure_31_49 {X : XT} {x2 : Int32} {x3 : Int32} {I : WI} {J : WI} {K : WF} {a : WF} {k : WF → Option (WF)} (hk : ∀ (F' : WF), (k F' = some a → GG X md_X9_measure (rmD 2) (gv_Z X (rmD 2).cells (rmD 2).slots none (mkW I a J K)) 0 0 126 [(0, .ref 31), (2, .int x2), (3, .int x3)] [] (mkW I F' J K))) : ∀ (n : Nat) (x4 : Int32) (F : WF), L_X9_measure_31_49 k x2 x3 I n x4 F = some a → GG X md_X9_measure (rmD 2) (gv_Z X (rmD 2).cells (rmD 2).slots none (mkW I a J K)) 0 0 49 [(0, .ref 31), (2, .int x2), (3, .int x3), (4, .int x4)] [] (mkW I F J K) := by
  intro n
  induction n with
  | zero =>
    intro x4 F h
    rw [L_X9_measure_31_49] at h
    cases h
  | succ n ih =>
    intro x4 F h
    rw [L_X9_measure_31_49] at h
    refine G_iload (pc2 := 51) 3 rfl dX9_measure_49 rfl ?_
    refine G_aload_n (pc2 := 52) 0 rfl dX9_measure_51 rfl rfl ?_
    refine T_31_2 (pc2 := 55) kw_280 dX9_measure_52 rfl ?_
    refine T_13_1 (pc2 := 58) kw_103 dX9_measure_55 rfl ?_
    refine B_icmp_ge (tgt := 126) (pc2 := 61) h dX9_measure_58 (by decide) rfl (fun _ h => ?_) (fun _ h => ?_)
    · refine G_sub (ls' := [(0, .ref 31), (2, .int x2), (3, .int x3)]) [0, 1, 2] rfl ?_
      exact hk F h
    · refine G_iload (pc2 := 63) 3 rfl dX9_measure_61 rfl ?_
      refine G_iload_n (pc2 := 64) 1 rfl dX9_measure_63 rfl rfl ?_
      obtain ⟨c_180, hc_180, h⟩ := ob_e h
      refine B_callS (pc2 := 67) si_X9_33 (c_X9_isIn hc_180) rfl (st := []) (stq := [.int c_180]) rfl (by decide) (by decide) (Nat.le_of_ble_eq_true rfl) rfl dX9_measure_64 rfl rfl ?_ ⟨rfl, rfl⟩
      refine jn_e (Gj := True) (fun (j : WF → Option (WF)) => ∀ (F_182 : WF), j F_182 = some a → GG X md_X9_measure (rmD 2) (gv_Z X (rmD 2).cells (rmD 2).slots none (mkW I a J K)) 0 0 120 [(0, .ref 31), (2, .int x2), (3, .int x3), (4, .int x4)] [] (mkW I F_182 J K)) h (fun F_182 h => ?_) (fun j120_181 hj120_181 h => ?_)
      · refine B_iinc (pc2 := 123) 3 (fun x4_183 => [(4, .int x4_183), (0, .ref 31), (2, .int x2), (3, .int x3)]) h rfl dX9_measure_120 ic_1 (by decide) (fun _ => rfl) rfl (fun x4_183 h => ?_)
        refine G_goto (tgt := 49) dX9_measure_123 (by decide) ?_
        refine G_sub (ls' := [(0, .ref 31), (2, .int x2), (3, .int x3), (4, .int x4_183)]) [1, 2, 3, 0] rfl ?_
        exact ih x4_183 F_182 h
      refine B_if_eq (tgt := 120) (pc2 := 70) h dX9_measure_67 (by decide) rfl (fun _ h => ?_) (fun _ h => ?_)
      · exact hj120_181 F h
      · refine G_aload_n (pc2 := 71) 0 rfl dX9_measure_70 rfl rfl ?_
        refine G_aload_n (pc2 := 72) 0 rfl dX9_measure_71 rfl rfl ?_
        refine T_31_2 (pc2 := 75) kw_280 dX9_measure_72 rfl ?_
        refine T_13_4 (pc2 := 78) kw_119 dX9_measure_75 rfl ?_
        refine G_iload (pc2 := 80) 3 rfl dX9_measure_78 rfl ?_
        refine AC (pc2 := 81) (fa_14 _ _ _ _) h dX9_measure_80 rfl (fun h => ?_)
        refine G_aload_n (pc2 := 82) 0 rfl dX9_measure_81 rfl rfl ?_
        refine T_31_2 (pc2 := 85) kw_280 dX9_measure_82 rfl ?_
        refine T_13_5 (pc2 := 88) kw_122 dX9_measure_85 rfl ?_
        refine G_iload (pc2 := 90) 3 rfl dX9_measure_88 rfl ?_
        refine AC (pc2 := 91) (fa_15 _ _ _ _) h dX9_measure_90 rfl (fun h => ?_)
        refine G_iload_n (pc2 := 92) 2 rfl dX9_measure_91 rfl rfl ?_
        obtain ⟨c_185, hc_185, h⟩ := ob_e h
        refine B_callV (pc2 := 95) si_X9_53 (c_X9_spread_31 hc_185) (qo_31 _ _ _ _) rfl rfl rfl (st := []) (stq := []) rfl (by decide) (by decide) (Nat.le_of_ble_eq_true rfl) mkW_ll dX9_measure_92 rfl rfl ?_ ⟨rfl, rfl⟩
        refine G_aload_n (pc2 := 96) 0 rfl dX9_measure_95 rfl rfl ?_
        refine G_aload_n (pc2 := 97) 0 rfl dX9_measure_96 rfl rfl ?_
        refine T_31_2 (pc2 := 100) kw_280 dX9_measure_97 rfl ?_
        refine T_13_5 (pc2 := 103) kw_122 dX9_measure_100 rfl ?_
        refine G_iload (pc2 := 105) 3 rfl dX9_measure_103 rfl ?_
        refine AC (pc2 := 106) (fa_15 _ _ _ _) h dX9_measure_105 rfl (fun h => ?_)
        refine G_aload_n (pc2 := 107) 0 rfl dX9_measure_106 rfl rfl ?_
        refine T_31_2 (pc2 := 110) kw_280 dX9_measure_107 rfl ?_
        refine T_13_4 (pc2 := 113) kw_119 dX9_measure_110 rfl ?_
        refine G_iload (pc2 := 115) 3 rfl dX9_measure_113 rfl ?_
        refine AC (pc2 := 116) (fa_14 _ _ _ _) h dX9_measure_115 rfl (fun h => ?_)
        refine G_iload_n (pc2 := 117) 2 rfl dX9_measure_116 rfl rfl ?_
        obtain ⟨c_186, hc_186, h⟩ := ob_e h
        refine B_callV (pc2 := 120) si_X9_53 (c_X9_spread_31 hc_186) (qo_31 _ _ _ _) rfl rfl rfl (st := []) (stq := []) rfl (by decide) (by decide) (Nat.le_of_ble_eq_true rfl) mkW_ll dX9_measure_117 rfl rfl ?_ ⟨rfl, rfl⟩
        exact hj120_181 c_186 h
set_option maxRecDepth 100000 in
set_option maxHeartbeats 4000000 in
theorem g_L_X9_measure_31_35 {X : XT} {x2 : Int32} {I : WI} {J : WI} {K : WF} {a : WF} {k : WF → Option (WF)} (hk : ∀ (F' : WF), (k F' = some a → GG X md_X9_measure (rmD 2) (gv_Z X (rmD 2).cells (rmD 2).slots none (mkW I a J K)) 0 0 132 [] [] (mkW I F' J K))) : ∀ (n : Nat) (x3 : Int32) (F : WF), L_X9_measure_31_35 k x2 I n x3 F = some a → GG X md_X9_measure (rmD 2) (gv_Z X (rmD 2).cells (rmD 2).slots none (mkW I a J K)) 0 0 35 [(0, .ref 31), (2, .int x2), (3, .int x3)] [] (mkW I F J K) := by
  intro n
  induction n with
  | zero =>
    intro x3 F h
    rw [L_X9_measure_31_35] at h
    cases h
  | succ n ih =>
    intro x3 F h
    rw [L_X9_measure_31_35] at h
    refine G_iload_n (pc2 := 36) 2 rfl dX9_measure_35 rfl rfl ?_
    refine G_aload_n (pc2 := 37) 0 rfl dX9_measure_36 rfl rfl ?_
    refine T_31_2 (pc2 := 40) kw_280 dX9_measure_37 rfl ?_
    refine T_13_0 (pc2 := 43) kw_97 dX9_measure_40 rfl ?_
    refine B_icmp_ge (tgt := 132) (pc2 := 46) h dX9_measure_43 (by decide) rfl (fun _ h => ?_) (fun _ h => ?_)
    · refine G_sub (ls' := []) [] rfl ?_
      exact hk F h
    · refine G_iconst (pc2 := 47) dX9_measure_46 ic_0 rfl ?_
      refine B_istore (pc2 := 49) (fun x4_179 => [(4, .int x4_179), (0, .ref 31), (2, .int x2), (3, .int x3)]) h dX9_measure_47 (by decide) (fun _ => rfl) rfl (fun x4_179 h => ?_)
      refine G_sub (ls' := [(0, .ref 31), (2, .int x2), (3, .int x3), (4, .int x4_179)]) [1, 2, 3, 0] rfl ?_
      refine g_L_X9_measure_31_49 (fun F_187 h => ?_) FU x4_179 F h
      refine B_iinc (pc2 := 129) 2 (fun x3_188 => [(3, .int x3_188), (0, .ref 31), (2, .int x2)]) h rfl dX9_measure_126 ic_1 (by decide) (fun _ => rfl) rfl (fun x3_188 h => ?_)
      refine G_goto (tgt := 35) dX9_measure_129 (by decide) ?_
      refine G_sub (ls' := [(0, .ref 31), (2, .int x2), (3, .int x3_188)]) [1, 2, 0] rfl ?_
      exact ih x3_188 F_187 h
set_option maxRecDepth 100000 in
set_option maxHeartbeats 4000000 in
theorem c_X9_measure_31 {x1 : Int32} {x2 : Int32} {I : WI} {F : WF} {J : WI} {K : WF} {a : WF} (h : f_X9_measure_31 x1 x2 I F = some a) : CT md_X9_measure yX9_measure (rmD 2) [.ref 31, .int x1, .int x2] (mkW I F J K) none (mkW I a J K) := CT_of pn_X9 ⟨rfl, rfl⟩ (Nat.le_of_ble_eq_true rfl) (fun X => by
  show GG X md_X9_measure (rmD 2) _ 0 0 0 [(0, .ref 31), (1, .int x1), (2, .int x2)] [] (mkW I F J K)
  unfold f_X9_measure_31 at h
  refine G_iconst (pc2 := 1) dX9_measure_0 ic_0 rfl ?_
  refine B_istore_n (pc2 := 2) (fun x3_173 => [(3, .int x3_173), (0, .ref 31), (1, .int x1), (2, .int x2)]) h dX9_measure_1 rfl (by decide) (fun _ => rfl) rfl (fun x3_173 h => ?_)
  refine G_sub (ls' := [(0, .ref 31), (1, .int x1), (2, .int x2), (3, .int x3_173)]) [1, 2, 3, 0] rfl ?_
  refine g_L_X9_measure_31_2 (fun F_176 h => ?_) FU x3_173 F h
  refine G_aload_n (pc2 := 27) 0 rfl dX9_measure_26 rfl rfl ?_
  refine T_31_3 (pc2 := 30) kw_281 dX9_measure_27 rfl ?_
  refine G_iload_n (pc2 := 31) 1 rfl dX9_measure_30 rfl rfl ?_
  refine G_iconst (pc2 := 32) dX9_measure_31 ic_0 rfl ?_
  refine SC (pc2 := 33) (fa_32 _ _ _ _) h dX9_measure_32 rfl (fun F_177 h => ?_)
  refine G_iconst (pc2 := 34) dX9_measure_33 ic_0 rfl ?_
  refine B_istore_n (pc2 := 35) (fun x3_178 => [(3, .int x3_178), (0, .ref 31), (1, .int x1), (2, .int x2)]) h dX9_measure_34 rfl (by decide) (fun _ => rfl) rfl (fun x3_178 h => ?_)
  refine G_sub (ls' := [(0, .ref 31), (2, .int x2), (3, .int x3_178)]) [1, 3, 0] rfl ?_
  refine g_L_X9_measure_31_35 (fun F_189 h => ?_) FU x3_178 F_177 h
  have ha := Option.some.inj h
  subst ha
  exact G_vret rfl dX9_measure_132)
def f_X9_fewest_31 (x1 : Int32) (x2 : Int32) (x3 : Int32) (I : WI) (F : WF) : Option (Int32 × WF) :=
  Option.bind (f_X9_measure_31 x2 x3 I F) fun c_190 =>
  ixG x1 8 (
  some ((c_190 169 x1.toNatClampNeg), c_190))
set_option maxRecDepth 100000 in
set_option maxHeartbeats 4000000 in
theorem c_X9_fewest_31 {x1 : Int32} {x2 : Int32} {x3 : Int32} {I : WI} {F : WF} {J : WI} {K : WF} {a : Int32 × WF} (h : f_X9_fewest_31 x1 x2 x3 I F = some a) : CT md_X9_fewest yX9_fewest (rmD 3) [.ref 31, .int x1, .int x2, .int x3] (mkW I F J K) (some (.int a.1)) (mkW I a.2 J K) := CT_of pn_X9 ⟨rfl, rfl⟩ (Nat.le_of_ble_eq_true rfl) (fun X => by
  show GG X md_X9_fewest (rmD 3) _ 0 0 0 [(0, .ref 31), (1, .int x1), (2, .int x2), (3, .int x3)] [] (mkW I F J K)
  unfold f_X9_fewest_31 at h
  refine G_aload_n (pc2 := 1) 0 rfl dX9_fewest_0 rfl rfl ?_
  refine G_iload_n (pc2 := 2) 2 rfl dX9_fewest_1 rfl rfl ?_
  refine G_iload_n (pc2 := 3) 3 rfl dX9_fewest_2 rfl rfl ?_
  obtain ⟨c_190, hc_190, h⟩ := ob_e h
  refine B_callV (pc2 := 6) si_X9_19 (c_X9_measure_31 hc_190) (qo_31 _ _ _ _) rfl rfl rfl (st := []) (stq := []) rfl (by decide) (by decide) (Nat.le_of_ble_eq_true rfl) mkW_ll dX9_fewest_3 rfl rfl ?_ ⟨rfl, rfl⟩
  refine G_aload_n (pc2 := 7) 0 rfl dX9_fewest_6 rfl rfl ?_
  refine T_31_3 (pc2 := 10) kw_281 dX9_fewest_7 rfl ?_
  refine G_iload_n (pc2 := 11) 1 rfl dX9_fewest_10 rfl rfl ?_
  refine AC (pc2 := 12) (fa_32 _ _ _ _) h dX9_fewest_11 rfl (fun h => ?_)
  have ha := Option.some.inj h
  subst ha
  exact G_iret rfl dX9_fewest_12)
def L_X9_bottles_31_4 (k : Int32 → WF → Option (Int32 × WF))  (I : WI) : Nat → Int32 → Int32 → WF → Option (Int32 × WF)
  | 0, _, _, _ => none
  | n + 1, x1, x2, F =>
  if (I 49) ≤ x2 then (k x1 F)
  else (Option.bind (f_X7_allBridges_13 I F) fun c_171 =>
  bnd (c_171 &&& (((1 : Int32) <<< (x2 &&& 31)) ^^^ (-1 : Int32))) fun x3_172 =>
  ixG x2 9 (
  ixG x2 9 (
  Option.bind (f_X9_fewest_31 (F 161 x2.toNatClampNeg) (F 162 x2.toNatClampNeg) x3_172 I F) fun c_191 =>
  bnd (fun (x1_193 : Int32) => bnd (x2 + (1 : Int32)) fun x2_194 =>
  L_X9_bottles_31_4 k I n x1_193 x2_194 c_191.2) fun j62_192 =>
  if c_191.1 = (-1 : Int32) then (bnd (x1 ||| ((1 : Int32) <<< (x2 &&& 31))) fun x1_195 =>
  j62_192 x1_195)
  else (j62_192 x1))))
def f_X9_bottles_31 (I : WI) (F : WF) : Option (Int32 × WF) :=
  bnd (0 : Int32) fun x1_169 =>
  bnd (0 : Int32) fun x2_170 =>
  L_X9_bottles_31_4 (fun x1_196 F_197 => some (x1_196, F_197)) I FU x1_169 x2_170 F
set_option maxRecDepth 100000 in
set_option maxHeartbeats 4000000 in
theorem g_L_X9_bottles_31_4 {X : XT} {I : WI} {J : WI} {K : WF} {a : Int32 × WF} {k : Int32 → WF → Option (Int32 × WF)} (hk : ∀ (e1 : Int32) (F' : WF), (k e1 F' = some a → GG X md_X9_bottles (rmD 4) (gv_Z X (rmD 4).cells (rmD 4).slots (some (.int a.1)) (mkW I a.2 J K)) 0 0 68 [(1, .int e1)] [] (mkW I F' J K))) : ∀ (n : Nat) (x1 : Int32) (x2 : Int32) (F : WF), L_X9_bottles_31_4 k I n x1 x2 F = some a → GG X md_X9_bottles (rmD 4) (gv_Z X (rmD 4).cells (rmD 4).slots (some (.int a.1)) (mkW I a.2 J K)) 0 0 4 [(0, .ref 31), (1, .int x1), (2, .int x2)] [] (mkW I F J K) := by
  intro n
  induction n with
  | zero =>
    intro x1 x2 F h
    rw [L_X9_bottles_31_4] at h
    cases h
  | succ n ih =>
    intro x1 x2 F h
    rw [L_X9_bottles_31_4] at h
    refine G_iload_n (pc2 := 5) 2 rfl dX9_bottles_4 rfl rfl ?_
    refine G_aload_n (pc2 := 6) 0 rfl dX9_bottles_5 rfl rfl ?_
    refine T_31_2 (pc2 := 9) kw_280 dX9_bottles_6 rfl ?_
    refine T_13_1 (pc2 := 12) kw_103 dX9_bottles_9 rfl ?_
    refine B_icmp_ge (tgt := 68) (pc2 := 15) h dX9_bottles_12 (by decide) rfl (fun _ h => ?_) (fun _ h => ?_)
    · refine G_sub (ls' := [(1, .int x1)]) [1] rfl ?_
      exact hk x1 F h
    · refine G_aload_n (pc2 := 16) 0 rfl dX9_bottles_15 rfl rfl ?_
      refine T_31_2 (pc2 := 19) kw_280 dX9_bottles_16 rfl ?_
      obtain ⟨c_171, hc_171, h⟩ := ob_e h
      refine B_callV (pc2 := 22) si_X9_80 (c_X7_allBridges_13 hc_171) (qo_13 _ _ _ _) rfl rfl rfl (st := []) (stq := [.int c_171]) rfl (by decide) (by decide) (Nat.le_of_ble_eq_true rfl) mkW_ll dX9_bottles_19 rfl rfl ?_ ⟨rfl, rfl⟩
      refine G_iconst (pc2 := 23) dX9_bottles_22 ic_1 rfl ?_
      refine G_iload_n (pc2 := 24) 2 rfl dX9_bottles_23 rfl rfl ?_
      refine G_ishl (pc2 := 25) dX9_bottles_24 rfl ?_
      refine G_iconst (pc2 := 26) dX9_bottles_25 ic_m1 rfl ?_
      refine G_ixor (pc2 := 27) dX9_bottles_26 rfl ?_
      refine G_iand (pc2 := 28) dX9_bottles_27 rfl ?_
      refine B_istore_n (pc2 := 29) (fun x3_172 => [(3, .int x3_172), (0, .ref 31), (1, .int x1), (2, .int x2)]) h dX9_bottles_28 rfl (by decide) (fun _ => rfl) rfl (fun x3_172 h => ?_)
      refine G_aload_n (pc2 := 30) 1 rfl dX9_bottles_29 rfl rfl ?_
      refine G_aload_n (pc2 := 31) 1 rfl dX9_bottles_30 rfl rfl ?_
      refine T_31_2 (pc2 := 34) kw_280 dX9_bottles_31 rfl ?_
      refine T_13_4 (pc2 := 37) kw_119 dX9_bottles_34 rfl ?_
      refine G_iload_n (pc2 := 38) 3 rfl dX9_bottles_37 rfl rfl ?_
      refine AC (pc2 := 39) (fa_14 _ _ _ _) h dX9_bottles_38 rfl (fun h => ?_)
      refine G_aload_n (pc2 := 40) 1 rfl dX9_bottles_39 rfl rfl ?_
      refine T_31_2 (pc2 := 43) kw_280 dX9_bottles_40 rfl ?_
      refine T_13_5 (pc2 := 46) kw_122 dX9_bottles_43 rfl ?_
      refine G_iload_n (pc2 := 47) 3 rfl dX9_bottles_46 rfl rfl ?_
      refine AC (pc2 := 48) (fa_15 _ _ _ _) h dX9_bottles_47 rfl (fun h => ?_)
      refine G_iload_n (pc2 := 49) 0 rfl dX9_bottles_48 rfl rfl ?_
      obtain ⟨c_191, hc_191, h⟩ := ob_e h
      refine B_callV (pc2 := 52) si_X9_23 (c_X9_fewest_31 hc_191) (qo_31 _ _ _ _) rfl rfl rfl (st := []) (stq := [.int c_191.1]) rfl (by decide) (by decide) (Nat.le_of_ble_eq_true rfl) mkW_ll dX9_bottles_49 rfl rfl ?_ ⟨rfl, rfl⟩
      refine G_iconst (pc2 := 53) dX9_bottles_52 ic_m1 rfl ?_
      refine jn_e (Gj := True) (fun (j : Int32 → Option (Int32 × WF)) => ∀ (x1_193 : Int32), j x1_193 = some a → GG X md_X9_bottles (rmD 4) (gv_Z X (rmD 4).cells (rmD 4).slots (some (.int a.1)) (mkW I a.2 J K)) 0 0 62 [(0, .ref 31), (1, .int x1_193), (2, .int x2)] [] (mkW I c_191.2 J K)) h (fun x1_193 h => ?_) (fun j62_192 hj62_192 h => ?_)
      · refine B_iinc (pc2 := 65) 2 (fun x2_194 => [(2, .int x2_194), (0, .ref 31), (1, .int x1_193)]) h rfl dX9_bottles_62 ic_1 (by decide) (fun _ => rfl) rfl (fun x2_194 h => ?_)
        refine G_goto (tgt := 4) dX9_bottles_65 (by decide) ?_
        refine G_sub (ls' := [(0, .ref 31), (1, .int x1_193), (2, .int x2_194)]) [1, 2, 0] rfl ?_
        exact ih x1_193 x2_194 c_191.2 h
      refine B_icmp_ne (tgt := 62) (pc2 := 56) h dX9_bottles_53 (by decide) rfl (fun _ h => ?_) (fun _ h => ?_)
      · refine G_sub (ls' := [(0, .ref 31), (1, .int x1), (2, .int x2)]) [1, 2, 3] rfl ?_
        exact hj62_192 x1 h
      · refine G_iload_n (pc2 := 57) 2 rfl dX9_bottles_56 rfl rfl ?_
        refine G_iconst (pc2 := 58) dX9_bottles_57 ic_1 rfl ?_
        refine G_iload_n (pc2 := 59) 3 rfl dX9_bottles_58 rfl rfl ?_
        refine G_ishl (pc2 := 60) dX9_bottles_59 rfl ?_
        refine G_ior (pc2 := 61) dX9_bottles_60 rfl ?_
        refine B_istore_n (pc2 := 62) (fun x1_195 => [(1, .int x1_195), (3, .int x3_172), (0, .ref 31), (2, .int x2)]) h dX9_bottles_61 rfl (by decide) (fun _ => rfl) rfl (fun x1_195 h => ?_)
        refine G_sub (ls' := [(0, .ref 31), (1, .int x1_195), (2, .int x2)]) [2, 0, 3] rfl ?_
        exact hj62_192 x1_195 h
set_option maxRecDepth 100000 in
set_option maxHeartbeats 4000000 in
theorem c_X9_bottles_31 {I : WI} {F : WF} {J : WI} {K : WF} {a : Int32 × WF} (h : f_X9_bottles_31  I F = some a) : CT md_X9_bottles yX9_bottles (rmD 4) [.ref 31] (mkW I F J K) (some (.int a.1)) (mkW I a.2 J K) := CT_of pn_X9 ⟨rfl, rfl⟩ (Nat.le_of_ble_eq_true rfl) (fun X => by
  show GG X md_X9_bottles (rmD 4) _ 0 0 0 [(0, .ref 31)] [] (mkW I F J K)
  unfold f_X9_bottles_31 at h
  refine G_iconst (pc2 := 1) dX9_bottles_0 ic_0 rfl ?_
  refine B_istore_n (pc2 := 2) (fun x1_169 => [(1, .int x1_169), (0, .ref 31)]) h dX9_bottles_1 rfl (by decide) (fun _ => rfl) rfl (fun x1_169 h => ?_)
  refine G_iconst (pc2 := 3) dX9_bottles_2 ic_0 rfl ?_
  refine B_istore_n (pc2 := 4) (fun x2_170 => [(2, .int x2_170), (1, .int x1_169), (0, .ref 31)]) h dX9_bottles_3 rfl (by decide) (fun _ => rfl) rfl (fun x2_170 h => ?_)
  refine G_sub (ls' := [(0, .ref 31), (1, .int x1_169), (2, .int x2_170)]) [2, 1, 0] rfl ?_
  refine g_L_X9_bottles_31_4 (fun x1_196 F_197 h => ?_) FU x1_169 x2_170 F h
  refine G_iload_n (pc2 := 69) 0 rfl dX9_bottles_68 rfl rfl ?_
  have ha := Option.some.inj h
  subst ha
  exact G_iret rfl dX9_bottles_69)
end
