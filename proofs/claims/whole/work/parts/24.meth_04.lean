noncomputable section
def f_X10_way (x1 : Int32) (x2 : Int32) (x3 : Int32) (I : WI) (F : WF) : Option (Int32 × WF) :=
  Option.bind (f_X7_hasJumper_13 x1 I F) fun c_817 =>
  if c_817 = 0 then (some ((-1000000001 : Int32), F))
  else (Option.bind (f_X7_hasPlace_13 x2 I F) fun c_818 =>
  if c_818 = 0 then (some ((-1000000001 : Int32), F))
  else (if x3 < 0 then (some ((-1000000002 : Int32), F))
  else (if x3 ≤ (1 : Int32) then (Option.bind (f_X1_dares_12 x1 I F) fun c_819 =>
  bnd c_819 fun x4_820 =>
  if x3 = 0 then (ixG x1 6 (
  Option.bind (f_X9_fewest_31 (F 3 x1.toNatClampNeg) x2 x4_820 I F) fun c_834 =>
  some (c_834.1, c_834.2)))
  else (ixG x1 6 (
  Option.bind (f_X9_firstOfFewest_31 (F 3 x1.toNatClampNeg) x2 x4_820 I F) fun c_833 =>
  some (c_833.1, c_833.2))))
  else (some ((-1000000002 : Int32), F)))))
set_option maxRecDepth 100000 in
set_option maxHeartbeats 4000000 in
theorem c_X10_way {x1 : Int32} {x2 : Int32} {x3 : Int32} {I : WI} {F : WF} {J : WI} {K : WF} {a : Int32 × WF} (h : f_X10_way x1 x2 x3 I F = some a) : CT md_X10_way yX10_way (rmD 5) [.ref 0, .int x1, .int x2, .int x3] (mkW I F J K) (some (.int a.1)) (mkW I a.2 J K) := CT_of pn_X10 ⟨rfl, rfl⟩ (Nat.le_of_ble_eq_true rfl) (fun X => by
  show GG X md_X10_way (rmD 5) _ 0 0 0 [(0, .ref 0), (1, .int x1), (2, .int x2), (3, .int x3)] [] (mkW I F J K)
  unfold f_X10_way at h
  refine G_aload_n (pc2 := 1) 0 rfl dX10_way_0 rfl rfl ?_
  refine T_0_2 (pc2 := 4) kw_402 dX10_way_1 rfl ?_
  refine G_iload_n (pc2 := 5) 1 rfl dX10_way_4 rfl rfl ?_
  obtain ⟨c_817, hc_817, h⟩ := ob_e h
  refine B_callV (pc2 := 8) si_X10_203 (c_X7_hasJumper_13 hc_817) (qo_13 _ _ _ _) rfl rfl rfl (st := []) (stq := [.int c_817]) rfl (by decide) (by decide) (Nat.le_of_ble_eq_true rfl) mkW_ll dX10_way_5 rfl rfl ?_ ⟨rfl, rfl⟩
  refine B_if_eq (tgt := 22) (pc2 := 11) h dX10_way_8 (by decide) rfl (fun _ h => ?_) (fun _ h => ?_)
  · refine G_ldc (pc2 := 24) kw_605 dX10_way_22 rfl ?_
    have ha := Option.some.inj h
    subst ha
    exact G_iret rfl dX10_way_24
  · refine G_aload_n (pc2 := 12) 0 rfl dX10_way_11 rfl rfl ?_
    refine T_0_2 (pc2 := 15) kw_402 dX10_way_12 rfl ?_
    refine G_iload_n (pc2 := 16) 2 rfl dX10_way_15 rfl rfl ?_
    obtain ⟨c_818, hc_818, h⟩ := ob_e h
    refine B_callV (pc2 := 19) si_X10_257 (c_X7_hasPlace_13 hc_818) (qo_13 _ _ _ _) rfl rfl rfl (st := []) (stq := [.int c_818]) rfl (by decide) (by decide) (Nat.le_of_ble_eq_true rfl) mkW_ll dX10_way_16 rfl rfl ?_ ⟨rfl, rfl⟩
    refine B_if_ne (tgt := 25) (pc2 := 22) h dX10_way_19 (by decide) rfl (fun _ h => ?_) (fun _ h => ?_)
    · refine G_iload_n (pc2 := 26) 3 rfl dX10_way_25 rfl rfl ?_
      refine B_if_lt (tgt := 34) (pc2 := 29) h dX10_way_26 (by decide) rfl (fun _ h => ?_) (fun _ h => ?_)
      · refine G_ldc (pc2 := 36) kw_435 dX10_way_34 rfl ?_
        have ha := Option.some.inj h
        subst ha
        exact G_iret rfl dX10_way_36
      · refine G_iload_n (pc2 := 30) 3 rfl dX10_way_29 rfl rfl ?_
        refine G_iconst (pc2 := 31) dX10_way_30 ic_1 rfl ?_
        refine B_icmp_le (tgt := 37) (pc2 := 34) h dX10_way_31 (by decide) rfl (fun _ h => ?_) (fun _ h => ?_)
        · refine G_aload_n (pc2 := 38) 0 rfl dX10_way_37 rfl rfl ?_
          refine T_0_1 (pc2 := 41) kw_401 dX10_way_38 rfl ?_
          refine G_iload_n (pc2 := 42) 1 rfl dX10_way_41 rfl rfl ?_
          obtain ⟨c_819, hc_819, h⟩ := ob_e h
          refine B_callV (pc2 := 45) si_X10_221 (c_X1_dares_12 hc_819) (qo_12 _ _ _ _) rfl rfl rfl (st := []) (stq := [.int c_819]) rfl (by decide) (by decide) (Nat.le_of_ble_eq_true rfl) mkW_ll dX10_way_42 rfl rfl ?_ ⟨rfl, rfl⟩
          refine B_istore (pc2 := 47) (fun x4_820 => [(4, .int x4_820), (0, .ref 0), (1, .int x1), (2, .int x2), (3, .int x3)]) h dX10_way_45 (by decide) (fun _ => rfl) rfl (fun x4_820 h => ?_)
          refine G_iload_n (pc2 := 48) 4 rfl dX10_way_47 rfl rfl ?_
          refine B_if_ne (tgt := 73) (pc2 := 51) h dX10_way_48 (by decide) rfl (fun _ h => ?_) (fun _ h => ?_)
          · refine G_aload_n (pc2 := 74) 1 rfl dX10_way_73 rfl rfl ?_
            refine T_0_4 (pc2 := 77) kw_404 dX10_way_74 rfl ?_
            refine G_aload_n (pc2 := 78) 1 rfl dX10_way_77 rfl rfl ?_
            refine T_0_3 (pc2 := 81) kw_403 dX10_way_78 rfl ?_
            refine T_22_5 (pc2 := 84) kw_223 dX10_way_81 rfl ?_
            refine G_iload_n (pc2 := 85) 2 rfl dX10_way_84 rfl rfl ?_
            refine AC (pc2 := 86) (fa_26 _ _ _ _) h dX10_way_85 rfl (fun h => ?_)
            refine G_iload_n (pc2 := 87) 3 rfl dX10_way_86 rfl rfl ?_
            refine G_iload (pc2 := 89) 0 rfl dX10_way_87 rfl ?_
            obtain ⟨c_833, hc_833, h⟩ := ob_e h
            refine B_callV (pc2 := 92) si_X10_264 (c_X9_firstOfFewest_31 hc_833) (qo_31 _ _ _ _) rfl rfl rfl (st := []) (stq := [.int c_833.1]) rfl (by decide) (by decide) (Nat.le_of_ble_eq_true rfl) mkW_ll dX10_way_89 rfl rfl ?_ ⟨rfl, rfl⟩
            have ha := Option.some.inj h
            subst ha
            exact G_iret rfl dX10_way_92
          · refine G_aload_n (pc2 := 52) 1 rfl dX10_way_51 rfl rfl ?_
            refine T_0_4 (pc2 := 55) kw_404 dX10_way_52 rfl ?_
            refine G_aload_n (pc2 := 56) 1 rfl dX10_way_55 rfl rfl ?_
            refine T_0_3 (pc2 := 59) kw_403 dX10_way_56 rfl ?_
            refine T_22_5 (pc2 := 62) kw_223 dX10_way_59 rfl ?_
            refine G_iload_n (pc2 := 63) 2 rfl dX10_way_62 rfl rfl ?_
            refine AC (pc2 := 64) (fa_26 _ _ _ _) h dX10_way_63 rfl (fun h => ?_)
            refine G_iload_n (pc2 := 65) 3 rfl dX10_way_64 rfl rfl ?_
            refine G_iload (pc2 := 67) 0 rfl dX10_way_65 rfl ?_
            obtain ⟨c_834, hc_834, h⟩ := ob_e h
            refine B_callV (pc2 := 70) si_X10_260 (c_X9_fewest_31 hc_834) (qo_31 _ _ _ _) rfl rfl rfl (st := []) (stq := [.int c_834.1]) rfl (by decide) (by decide) (Nat.le_of_ble_eq_true rfl) mkW_ll dX10_way_67 rfl rfl ?_ ⟨rfl, rfl⟩
            refine G_goto (tgt := 92) dX10_way_70 (by decide) ?_
            have ha := Option.some.inj h
            subst ha
            exact G_iret rfl dX10_way_92
        · refine G_ldc (pc2 := 36) kw_435 dX10_way_34 rfl ?_
          have ha := Option.some.inj h
          subst ha
          exact G_iret rfl dX10_way_36
    · refine G_ldc (pc2 := 24) kw_605 dX10_way_22 rfl ?_
      have ha := Option.some.inj h
      subst ha
      exact G_iret rfl dX10_way_24)
def f_X10_partOf (x0 : Int32) (x1 : Int32) : Option (Int32) :=
  some (((x0.toInt64 * x1.toInt64) / (100 : Int64)).toInt32)
set_option maxRecDepth 100000 in
set_option maxHeartbeats 4000000 in
theorem c_X10_partOf {x0 : Int32} {x1 : Int32} {w : List va_E} {a : Int32} (h : f_X10_partOf x0 x1 = some a) : CT md_X10_partOf yX10_partOf (rmD 1) [.int x0, .int x1] w (some (.int a)) w := CT_of pn_X10 ⟨rfl, rfl⟩ (Nat.le_of_ble_eq_true rfl) (fun X => by
  show GG X md_X10_partOf (rmD 1) _ 0 0 0 [(0, .int x0), (1, .int x1)] [] w
  unfold f_X10_partOf at h
  refine G_iload_n (pc2 := 1) 0 rfl dX10_partOf_0 rfl rfl ?_
  refine G_i2l (pc2 := 2) dX10_partOf_1 rfl ?_
  refine G_iload_n (pc2 := 3) 1 rfl dX10_partOf_2 rfl rfl ?_
  refine G_i2l (pc2 := 4) dX10_partOf_3 rfl ?_
  refine G_lmul (pc2 := 5) dX10_partOf_4 rfl ?_
  refine G_ldc2 (pc2 := 8) kw_780 dX10_partOf_5 rfl ?_
  refine G_ldiv (pc2 := 9) dX10_partOf_8 (by decide) rfl ?_
  refine G_l2i (pc2 := 10) dX10_partOf_9 rfl ?_
  have ha := Option.some.inj h
  subst ha
  exact G_iret rfl dX10_partOf_10)
def L_X9_walk_31_37 (rec : Int32 → Int32 → Int32 → Int32 → Int32 → WI → WF → Option (WI)) (k : WI → Option (WI)) (x1 : Int32) (x2 : Int32) (x3 : Int32) (x4 : Int32) (x5 : Int32) (F : WF) : Nat → Int32 → WI → Option (WI)
  | 0, _, _ => none
  | n + 1, x7, I =>
  if (I 49) ≤ x7 then (k I)
  else (if (8 : Int32) ≤ x5 then (k I)
  else (Option.bind (f_X9_isIn x7 (I 55)) fun c_843 =>
  bnd (fun (I_845 : WI) => bnd (x7 + (1 : Int32)) fun x7_846 =>
  L_X9_walk_31_37 rec k x1 x2 x3 x4 x5 F n x7_846 I_845) fun j147_844 =>
  if c_843 = 0 then (j147_844 I)
  else (Option.bind (f_X7_touches_13 x7 x1 I F) fun c_847 =>
  if c_847 = 0 then (j147_844 I)
  else (Option.bind (f_X7_beyond_13 x7 x1 I F) fun c_848 =>
  bnd c_848 fun x8_849 =>
  Option.bind (f_X9_isIn x8_849 x2) fun c_850 =>
  if c_850 = 0 then (ixG x7 9 (
  Option.bind (f_X10_partOf x3 ((100 : Int32) - (F 164 x7.toNatClampNeg))) fun c_851 =>
  bnd c_851 fun x9_852 =>
  bnd (fun (s_854 : Int32) => Option.bind (rec x8_849 (x2 ||| ((1 : Int32) <<< (x8_849 &&& 31))) x9_852 s_854 (x5 + (1 : Int32)) I F) fun c_855 =>
  j147_844 c_855) fun j140_853 =>
  if x4 = (-1 : Int32) then (j140_853 x7)
  else (j140_853 x4)))
  else (j147_844 I)))))
def f_X9_walk_31 : Nat → Int32 → Int32 → Int32 → Int32 → Int32 → WI → WF → Option (WI)
  | 0, _, _, _, _, _, _, _ => none
  | n + 1, x1, x2, x3, x4, x5, I, F =>
  bnd (f_X9_walk_31 n) fun rec =>
  if x1 = (I 54) then (if x3 ≤ (I 52) then (some I)
  else (bnd (upd I 52 x3) fun I_857 =>
  bnd (upd I_857 53 x4) fun I_858 =>
  some I_858))
  else (bnd (0 : Int32) fun x7_842 =>
  L_X9_walk_31_37 rec (fun I_856 => some I_856) x1 x2 x3 x4 x5 F FU x7_842 I)
set_option maxRecDepth 100000 in
set_option maxHeartbeats 4000000 in
theorem g_L_X9_walk_31_37 {X : XT} {x1 : Int32} {x2 : Int32} {x3 : Int32} {x4 : Int32} {x5 : Int32} {F : WF} {J : WI} {K : WF} {m : Nat} {rec : Int32 → Int32 → Int32 → Int32 → Int32 → WI → WF → Option (WI)} (hrec : ∀ (x1 x2 x3 x4 x5 : Int32) (I : WI) (F : WF) (a : WI), rec x1 x2 x3 x4 x5 I F = some a → CT md_X9_walk yX9_walk (rmD (2 + m)) [.ref 31, .int x1, .int x2, .int x3, .int x4, .int x5] (mkW I F J K) none (mkW a F J K)) {a : WI} {k : WI → Option (WI)} (hk : ∀ (I' : WI), (k I' = some a → GG X md_X9_walk (rmD (2 + (m + 1))) (gv_Z X (rmD (2 + (m + 1))).cells (rmD (2 + (m + 1))).slots none (mkW a F J K)) 0 0 153 [] [] (mkW I' F J K))) : ∀ (n : Nat) (x7 : Int32) (I : WI), L_X9_walk_31_37 rec k x1 x2 x3 x4 x5 F n x7 I = some a → GG X md_X9_walk (rmD (2 + (m + 1))) (gv_Z X (rmD (2 + (m + 1))).cells (rmD (2 + (m + 1))).slots none (mkW a F J K)) 0 0 37 [(0, .ref 31), (1, .int x1), (2, .int x2), (3, .int x3), (4, .int x4), (5, .int x5), (6, .ref 13), (7, .int x7)] [] (mkW I F J K) := by
  intro n
  induction n with
  | zero =>
    intro x7 I h
    rw [L_X9_walk_31_37] at h
    cases h
  | succ n ih =>
    intro x7 I h
    rw [L_X9_walk_31_37] at h
    refine G_iload (pc2 := 39) 7 rfl dX9_walk_37 rfl ?_
    refine G_aload (pc2 := 41) 6 rfl dX9_walk_39 rfl ?_
    refine T_13_1 (pc2 := 44) kw_103 dX9_walk_41 rfl ?_
    refine B_icmp_ge (tgt := 153) (pc2 := 47) h dX9_walk_44 (by decide) rfl (fun _ h => ?_) (fun _ h => ?_)
    · refine G_sub (ls' := []) [] rfl ?_
      exact hk I h
    · refine G_iload (pc2 := 49) 5 rfl dX9_walk_47 rfl ?_
      refine G_bipush (pc2 := 51) dX9_walk_49 ib_8 rfl ?_
      refine B_icmp_ge (tgt := 153) (pc2 := 54) h dX9_walk_51 (by decide) rfl (fun _ h => ?_) (fun _ h => ?_)
      · refine G_sub (ls' := []) [] rfl ?_
        exact hk I h
      · refine G_iload (pc2 := 56) 7 rfl dX9_walk_54 rfl ?_
        refine G_aload_n (pc2 := 57) 0 rfl dX9_walk_56 rfl rfl ?_
        refine T_31_5 (pc2 := 60) kw_283 dX9_walk_57 rfl ?_
        obtain ⟨c_843, hc_843, h⟩ := ob_e h
        refine B_callS (pc2 := 63) si_X9_33 (c_X9_isIn hc_843) rfl (st := []) (stq := [.int c_843]) rfl (by omega) (by decide) (Nat.le_of_ble_eq_true rfl) rfl dX9_walk_60 rfl rfl ?_ ⟨rfl, rfl⟩
        refine jn_e (Gj := True) (fun (j : WI → Option (WI)) => ∀ (I_845 : WI), j I_845 = some a → GG X md_X9_walk (rmD (2 + (m + 1))) (gv_Z X (rmD (2 + (m + 1))).cells (rmD (2 + (m + 1))).slots none (mkW a F J K)) 0 0 147 [(0, .ref 31), (1, .int x1), (2, .int x2), (3, .int x3), (4, .int x4), (5, .int x5), (6, .ref 13), (7, .int x7)] [] (mkW I_845 F J K)) h (fun I_845 h => ?_) (fun j147_844 hj147_844 h => ?_)
        · refine B_iinc (pc2 := 150) 7 (fun x7_846 => [(7, .int x7_846), (0, .ref 31), (1, .int x1), (2, .int x2), (3, .int x3), (4, .int x4), (5, .int x5), (6, .ref 13)]) h rfl dX9_walk_147 ic_1 (by decide) (fun _ => rfl) rfl (fun x7_846 h => ?_)
          refine G_goto (tgt := 37) dX9_walk_150 (by decide) ?_
          refine G_sub (ls' := [(0, .ref 31), (1, .int x1), (2, .int x2), (3, .int x3), (4, .int x4), (5, .int x5), (6, .ref 13), (7, .int x7_846)]) [1, 2, 3, 4, 5, 6, 7, 0] rfl ?_
          exact ih x7_846 I_845 h
        refine B_if_eq (tgt := 147) (pc2 := 66) h dX9_walk_63 (by decide) rfl (fun _ h => ?_) (fun _ h => ?_)
        · exact hj147_844 I h
        · refine G_aload (pc2 := 68) 6 rfl dX9_walk_66 rfl ?_
          refine G_iload (pc2 := 70) 7 rfl dX9_walk_68 rfl ?_
          refine G_iload_n (pc2 := 71) 1 rfl dX9_walk_70 rfl rfl ?_
          obtain ⟨c_847, hc_847, h⟩ := ob_e h
          refine B_callV (pc2 := 74) si_X9_37 (c_X7_touches_13 hc_847) (qo_13 _ _ _ _) rfl rfl rfl (st := []) (stq := [.int c_847]) rfl (by omega) (by decide) (Nat.le_of_ble_eq_true rfl) mkW_ll dX9_walk_71 rfl rfl ?_ ⟨rfl, rfl⟩
          refine B_if_ne (tgt := 80) (pc2 := 77) h dX9_walk_74 (by decide) rfl (fun _ h => ?_) (fun _ h => ?_)
          · refine G_aload (pc2 := 82) 6 rfl dX9_walk_80 rfl ?_
            refine G_iload (pc2 := 84) 7 rfl dX9_walk_82 rfl ?_
            refine G_iload_n (pc2 := 85) 1 rfl dX9_walk_84 rfl rfl ?_
            obtain ⟨c_848, hc_848, h⟩ := ob_e h
            refine B_callV (pc2 := 88) si_X9_40 (c_X7_beyond_13 hc_848) (qo_13 _ _ _ _) rfl rfl rfl (st := []) (stq := [.int c_848]) rfl (by omega) (by decide) (Nat.le_of_ble_eq_true rfl) mkW_ll dX9_walk_85 rfl rfl ?_ ⟨rfl, rfl⟩
            refine B_istore (pc2 := 90) (fun x8_849 => [(8, .int x8_849), (0, .ref 31), (1, .int x1), (2, .int x2), (3, .int x3), (4, .int x4), (5, .int x5), (6, .ref 13), (7, .int x7)]) h dX9_walk_88 (by decide) (fun _ => rfl) rfl (fun x8_849 h => ?_)
            refine G_iload (pc2 := 92) 0 rfl dX9_walk_90 rfl ?_
            refine G_iload_n (pc2 := 93) 3 rfl dX9_walk_92 rfl rfl ?_
            obtain ⟨c_850, hc_850, h⟩ := ob_e h
            refine B_callS (pc2 := 96) si_X9_33 (c_X9_isIn hc_850) rfl (st := []) (stq := [.int c_850]) rfl (by omega) (by decide) (Nat.le_of_ble_eq_true rfl) rfl dX9_walk_93 rfl rfl ?_ ⟨rfl, rfl⟩
            refine B_if_ne (tgt := 147) (pc2 := 99) h dX9_walk_96 (by decide) rfl (fun _ h => ?_) (fun _ h => ?_)
            · refine G_sub (ls' := [(0, .ref 31), (1, .int x1), (2, .int x2), (3, .int x3), (4, .int x4), (5, .int x5), (6, .ref 13), (7, .int x7)]) [1, 2, 3, 4, 5, 6, 7, 8] rfl ?_
              exact hj147_844 I h
            · refine G_iload_n (pc2 := 100) 4 rfl dX9_walk_99 rfl rfl ?_
              refine G_bipush (pc2 := 102) dX9_walk_100 ib_100 rfl ?_
              refine G_aload (pc2 := 104) 7 rfl dX9_walk_102 rfl ?_
              refine T_13_7 (pc2 := 107) kw_129 dX9_walk_104 rfl ?_
              refine G_iload (pc2 := 109) 8 rfl dX9_walk_107 rfl ?_
              refine AC (pc2 := 110) (fa_17 _ _ _ _) h dX9_walk_109 rfl (fun h => ?_)
              refine G_isub (pc2 := 111) dX9_walk_110 rfl ?_
              obtain ⟨c_851, hc_851, h⟩ := ob_e h
              refine B_callSN (pc2 := 114) si_X9_77 (c_X10_partOf hc_851) rfl (st := []) (stq := [.int c_851]) rfl (by omega) (by decide) (Nat.le_of_ble_eq_true rfl) rfl dX9_walk_111 rfl rfl ?_ ⟨rfl, rfl⟩
              refine B_istore (pc2 := 116) (fun x9_852 => [(9, .int x9_852), (8, .int x8_849), (0, .ref 31), (1, .int x1), (2, .int x2), (3, .int x3), (4, .int x4), (5, .int x5), (6, .ref 13), (7, .int x7)]) h dX9_walk_114 (by decide) (fun _ => rfl) rfl (fun x9_852 h => ?_)
              refine G_aload_n (pc2 := 117) 2 rfl dX9_walk_116 rfl rfl ?_
              refine G_iload (pc2 := 119) 1 rfl dX9_walk_117 rfl ?_
              refine G_iload_n (pc2 := 120) 4 rfl dX9_walk_119 rfl rfl ?_
              refine G_iconst (pc2 := 121) dX9_walk_120 ic_1 rfl ?_
              refine G_iload (pc2 := 123) 1 rfl dX9_walk_121 rfl ?_
              refine G_ishl (pc2 := 124) dX9_walk_123 rfl ?_
              refine G_ior (pc2 := 125) dX9_walk_124 rfl ?_
              refine G_iload (pc2 := 127) 0 rfl dX9_walk_125 rfl ?_
              refine G_iload (pc2 := 129) 6 rfl dX9_walk_127 rfl ?_
              refine G_iconst (pc2 := 130) dX9_walk_129 ic_m1 rfl ?_
              refine jn_e (Gj := True) (fun (j : Int32 → Option (WI)) => ∀ (s_854 : Int32), j s_854 = some a → GG X md_X9_walk (rmD (2 + (m + 1))) (gv_Z X (rmD (2 + (m + 1))).cells (rmD (2 + (m + 1))).slots none (mkW a F J K)) 0 0 140 [(0, .ref 31), (1, .int x1), (2, .int x2), (3, .int x3), (4, .int x4), (5, .int x5), (6, .ref 13), (7, .int x7)] [.int s_854, .int x9_852, .int (x2 ||| ((1 : Int32) <<< (x8_849 &&& 31))), .int x8_849, .ref 31] (mkW I F J K)) h (fun s_854 h => ?_) (fun j140_853 hj140_853 h => ?_)
              · refine G_iload (pc2 := 142) 5 rfl dX9_walk_140 rfl ?_
                refine G_iconst (pc2 := 143) dX9_walk_142 ic_1 rfl ?_
                refine G_iadd (pc2 := 144) dX9_walk_143 rfl ?_
                obtain ⟨c_855, hc_855, h⟩ := ob_e h
                refine B_callS (pc2 := 147) si_X9_70 (hrec _ _ _ _ _ _ _ _ hc_855) rfl (st := []) (stq := []) rfl (by omega) (by decide) (Nat.le_of_ble_eq_true rfl) mkW_ll dX9_walk_144 rfl rfl ?_ ⟨rfl, rfl⟩
                exact hj147_844 c_855 h
              refine B_icmp_ne (tgt := 138) (pc2 := 133) h dX9_walk_130 (by decide) rfl (fun _ h => ?_) (fun _ h => ?_)
              · refine G_iload (pc2 := 140) 6 rfl dX9_walk_138 rfl ?_
                refine G_sub (ls' := [(0, .ref 31), (1, .int x1), (2, .int x2), (3, .int x3), (4, .int x4), (5, .int x5), (6, .ref 13), (7, .int x7)]) [2, 3, 4, 5, 6, 7, 8, 9] rfl ?_
                exact hj140_853 x4 h
              · refine G_iload (pc2 := 135) 9 rfl dX9_walk_133 rfl ?_
                refine G_goto (tgt := 140) dX9_walk_135 (by decide) ?_
                refine G_sub (ls' := [(0, .ref 31), (1, .int x1), (2, .int x2), (3, .int x3), (4, .int x4), (5, .int x5), (6, .ref 13), (7, .int x7)]) [2, 3, 4, 5, 6, 7, 8, 9] rfl ?_
                exact hj140_853 x7 h
          · refine G_goto (tgt := 147) dX9_walk_77 (by decide) ?_
            exact hj147_844 I h
set_option maxRecDepth 100000 in
set_option maxHeartbeats 4000000 in
theorem c_X9_walk_31 : ∀ (n : Nat) {x1 : Int32} {x2 : Int32} {x3 : Int32} {x4 : Int32} {x5 : Int32} {I : WI} {F : WF} {J : WI} {K : WF} {a : WI} (h : f_X9_walk_31 n x1 x2 x3 x4 x5 I F = some a), CT md_X9_walk yX9_walk (rmD (2 + n)) [.ref 31, .int x1, .int x2, .int x3, .int x4, .int x5] (mkW I F J K) none (mkW a F J K) := by
  intro n
  induction n with
  | zero =>
    intro x1 x2 x3 x4 x5 I F J K a h
    rw [f_X9_walk_31] at h
    cases h
  | succ n ih =>
    intro x1 x2 x3 x4 x5 I F J K a h
    refine CT_of pn_X9 ⟨rfl, rfl⟩ (Nat.le_of_ble_eq_true rfl) (fun X => ?_)
    show GG X md_X9_walk (rmD (2 + (n + 1))) _ 0 0 0 [(0, .ref 31), (1, .int x1), (2, .int x2), (3, .int x3), (4, .int x4), (5, .int x5)] [] (mkW I F J K)
    rw [f_X9_walk_31] at h
    have hrec : ∀ (x1 x2 x3 x4 x5 : Int32) (I : WI) (F : WF) (a : WI), (f_X9_walk_31 n) x1 x2 x3 x4 x5 I F = some a → CT md_X9_walk yX9_walk (rmD (2 + n)) [.ref 31, .int x1, .int x2, .int x3, .int x4, .int x5] (mkW I F J K) none (mkW a F J K) := fun x1 x2 x3 x4 x5 I F a h => ih h
    refine jn_e (Pr := _) (Gj := True) (fun rec => ∀ (x1 x2 x3 x4 x5 : Int32) (I : WI) (F : WF) (a : WI), rec x1 x2 x3 x4 x5 I F = some a → CT md_X9_walk yX9_walk (rmD (2 + n)) [.ref 31, .int x1, .int x2, .int x3, .int x4, .int x5] (mkW I F J K) none (mkW a F J K)) h hrec (fun rec hrec h => ?_)
    refine G_iload_n (pc2 := 1) 1 rfl dX9_walk_0 rfl rfl ?_
    refine G_aload_n (pc2 := 2) 0 rfl dX9_walk_1 rfl rfl ?_
    refine T_31_4 (pc2 := 5) kw_282 dX9_walk_2 rfl ?_
    refine B_icmp_ne (tgt := 28) (pc2 := 8) h dX9_walk_5 (by decide) rfl (fun _ h => ?_) (fun _ h => ?_)
    · refine G_aload_n (pc2 := 29) 0 rfl dX9_walk_28 rfl rfl ?_
      refine T_31_2 (pc2 := 32) kw_280 dX9_walk_29 rfl ?_
      refine G_astore (pc2 := 34) (ls' := [(6, .ref 13), (0, .ref 31), (1, .int x1), (2, .int x2), (3, .int x3), (4, .int x4), (5, .int x5)]) dX9_walk_32 (by decide) rfl rfl ?_
      refine G_iconst (pc2 := 35) dX9_walk_34 ic_0 rfl ?_
      refine B_istore (pc2 := 37) (fun x7_842 => [(7, .int x7_842), (6, .ref 13), (0, .ref 31), (1, .int x1), (2, .int x2), (3, .int x3), (4, .int x4), (5, .int x5)]) h dX9_walk_35 (by decide) (fun _ => rfl) rfl (fun x7_842 h => ?_)
      refine G_sub (ls' := [(0, .ref 31), (1, .int x1), (2, .int x2), (3, .int x3), (4, .int x4), (5, .int x5), (6, .ref 13), (7, .int x7_842)]) [2, 3, 4, 5, 6, 7, 1, 0] rfl ?_
      refine g_L_X9_walk_31_37 hrec (fun I_856 h => ?_) FU x7_842 I h
      have ha := Option.some.inj h
      subst ha
      exact G_vret rfl dX9_walk_153
    · refine G_iload_n (pc2 := 9) 3 rfl dX9_walk_8 rfl rfl ?_
      refine G_aload_n (pc2 := 10) 0 rfl dX9_walk_9 rfl rfl ?_
      refine T_31_0 (pc2 := 13) kw_276 dX9_walk_10 rfl ?_
      refine B_icmp_le (tgt := 27) (pc2 := 16) h dX9_walk_13 (by decide) rfl (fun _ h => ?_) (fun _ h => ?_)
      · have ha := Option.some.inj h
        subst ha
        exact G_vret rfl dX9_walk_27
      · refine G_aload_n (pc2 := 17) 0 rfl dX9_walk_16 rfl rfl ?_
        refine G_iload_n (pc2 := 18) 3 rfl dX9_walk_17 rfl rfl ?_
        refine P_31_0 (pc2 := 21) h kw_276 dX9_walk_18 rfl (fun I_857 h => ?_)
        refine G_aload_n (pc2 := 22) 0 rfl dX9_walk_21 rfl rfl ?_
        refine G_iload (pc2 := 24) 4 rfl dX9_walk_22 rfl ?_
        refine P_31_1 (pc2 := 27) h kw_278 dX9_walk_24 rfl (fun I_858 h => ?_)
        have ha := Option.some.inj h
        subst ha
        exact G_vret rfl dX9_walk_27
def f_X9_findSafest_31 (x1 : Int32) (x2 : Int32) (x3 : Int32) (I : WI) (F : WF) : Option (WI) :=
  bnd (upd I 54 x2) fun I_838 =>
  bnd (upd I_838 55 x3) fun I_839 =>
  bnd (upd I_839 52 (-1 : Int32)) fun I_840 =>
  bnd (upd I_840 53 (-1 : Int32)) fun I_841 =>
  Option.bind (f_X9_walk_31 10 x1 ((1 : Int32) <<< (x1 &&& 31)) (1000000000 : Int32) (-1 : Int32) (0 : Int32) I_841 F) fun c_859 =>
  some c_859
set_option maxRecDepth 100000 in
set_option maxHeartbeats 4000000 in
theorem c_X9_findSafest_31 {x1 : Int32} {x2 : Int32} {x3 : Int32} {I : WI} {F : WF} {J : WI} {K : WF} {a : WI} (h : f_X9_findSafest_31 x1 x2 x3 I F = some a) : CT md_X9_findSafest yX9_findSafest (rmD 13) [.ref 31, .int x1, .int x2, .int x3] (mkW I F J K) none (mkW a F J K) := CT_of pn_X9 ⟨rfl, rfl⟩ (Nat.le_of_ble_eq_true rfl) (fun X => by
  show GG X md_X9_findSafest (rmD 13) _ 0 0 0 [(0, .ref 31), (1, .int x1), (2, .int x2), (3, .int x3)] [] (mkW I F J K)
  unfold f_X9_findSafest_31 at h
  refine G_aload_n (pc2 := 1) 0 rfl dX9_findSafest_0 rfl rfl ?_
  refine G_iload_n (pc2 := 2) 2 rfl dX9_findSafest_1 rfl rfl ?_
  refine P_31_4 (pc2 := 5) h kw_282 dX9_findSafest_2 rfl (fun I_838 h => ?_)
  refine G_aload_n (pc2 := 6) 0 rfl dX9_findSafest_5 rfl rfl ?_
  refine G_iload_n (pc2 := 7) 3 rfl dX9_findSafest_6 rfl rfl ?_
  refine P_31_5 (pc2 := 10) h kw_283 dX9_findSafest_7 rfl (fun I_839 h => ?_)
  refine G_aload_n (pc2 := 11) 0 rfl dX9_findSafest_10 rfl rfl ?_
  refine G_iconst (pc2 := 12) dX9_findSafest_11 ic_m1 rfl ?_
  refine P_31_0 (pc2 := 15) h kw_276 dX9_findSafest_12 rfl (fun I_840 h => ?_)
  refine G_aload_n (pc2 := 16) 0 rfl dX9_findSafest_15 rfl rfl ?_
  refine G_iconst (pc2 := 17) dX9_findSafest_16 ic_m1 rfl ?_
  refine P_31_1 (pc2 := 20) h kw_278 dX9_findSafest_17 rfl (fun I_841 h => ?_)
  refine G_aload_n (pc2 := 21) 0 rfl dX9_findSafest_20 rfl rfl ?_
  refine G_iload_n (pc2 := 22) 1 rfl dX9_findSafest_21 rfl rfl ?_
  refine G_iconst (pc2 := 23) dX9_findSafest_22 ic_1 rfl ?_
  refine G_iload_n (pc2 := 24) 1 rfl dX9_findSafest_23 rfl rfl ?_
  refine G_ishl (pc2 := 25) dX9_findSafest_24 rfl ?_
  refine G_ldc (pc2 := 27) kw_773 dX9_findSafest_25 rfl ?_
  refine G_iconst (pc2 := 28) dX9_findSafest_27 ic_m1 rfl ?_
  refine G_iconst (pc2 := 29) dX9_findSafest_28 ic_0 rfl ?_
  obtain ⟨c_859, hc_859, h⟩ := ob_e h
  refine B_callS (pc2 := 32) si_X9_70 (c_X9_walk_31 10 hc_859) rfl (st := []) (stq := []) rfl (by omega) (by decide) (Nat.le_of_ble_eq_true rfl) mkW_ll dX9_findSafest_29 rfl rfl ?_ ⟨rfl, rfl⟩
  have ha := Option.some.inj h
  subst ha
  exact G_vret rfl dX9_findSafest_32)
def f_X10_safest (x1 : Int32) (x2 : Int32) (x3 : Int32) (I : WI) (F : WF) : Option (Int32 × WI) :=
  Option.bind (f_X7_hasJumper_13 x1 I F) fun c_835 =>
  if c_835 = 0 then (some ((-1000000001 : Int32), I))
  else (Option.bind (f_X7_hasPlace_13 x2 I F) fun c_836 =>
  if c_836 = 0 then (some ((-1000000001 : Int32), I))
  else (if x3 < 0 then (some ((-1000000002 : Int32), I))
  else (if x3 ≤ (1 : Int32) then (ixG x1 6 (
  Option.bind (f_X1_dares_12 x1 I F) fun c_837 =>
  Option.bind (f_X9_findSafest_31 (F 3 x1.toNatClampNeg) x2 c_837 I F) fun c_860 =>
  if x3 = 0 then (some ((c_860 52), c_860))
  else (some ((c_860 53), c_860))))
  else (some ((-1000000002 : Int32), I)))))
set_option maxRecDepth 100000 in
set_option maxHeartbeats 4000000 in
theorem c_X10_safest {x1 : Int32} {x2 : Int32} {x3 : Int32} {I : WI} {F : WF} {J : WI} {K : WF} {a : Int32 × WI} (h : f_X10_safest x1 x2 x3 I F = some a) : CT md_X10_safest yX10_safest (rmD 14) [.ref 0, .int x1, .int x2, .int x3] (mkW I F J K) (some (.int a.1)) (mkW a.2 F J K) := CT_of pn_X10 ⟨rfl, rfl⟩ (Nat.le_of_ble_eq_true rfl) (fun X => by
  show GG X md_X10_safest (rmD 14) _ 0 0 0 [(0, .ref 0), (1, .int x1), (2, .int x2), (3, .int x3)] [] (mkW I F J K)
  unfold f_X10_safest at h
  refine G_aload_n (pc2 := 1) 0 rfl dX10_safest_0 rfl rfl ?_
  refine T_0_2 (pc2 := 4) kw_402 dX10_safest_1 rfl ?_
  refine G_iload_n (pc2 := 5) 1 rfl dX10_safest_4 rfl rfl ?_
  obtain ⟨c_835, hc_835, h⟩ := ob_e h
  refine B_callV (pc2 := 8) si_X10_203 (c_X7_hasJumper_13 hc_835) (qo_13 _ _ _ _) rfl rfl rfl (st := []) (stq := [.int c_835]) rfl (by decide) (by decide) (Nat.le_of_ble_eq_true rfl) mkW_ll dX10_safest_5 rfl rfl ?_ ⟨rfl, rfl⟩
  refine B_if_eq (tgt := 22) (pc2 := 11) h dX10_safest_8 (by decide) rfl (fun _ h => ?_) (fun _ h => ?_)
  · refine G_ldc (pc2 := 24) kw_605 dX10_safest_22 rfl ?_
    have ha := Option.some.inj h
    subst ha
    exact G_iret rfl dX10_safest_24
  · refine G_aload_n (pc2 := 12) 0 rfl dX10_safest_11 rfl rfl ?_
    refine T_0_2 (pc2 := 15) kw_402 dX10_safest_12 rfl ?_
    refine G_iload_n (pc2 := 16) 2 rfl dX10_safest_15 rfl rfl ?_
    obtain ⟨c_836, hc_836, h⟩ := ob_e h
    refine B_callV (pc2 := 19) si_X10_257 (c_X7_hasPlace_13 hc_836) (qo_13 _ _ _ _) rfl rfl rfl (st := []) (stq := [.int c_836]) rfl (by decide) (by decide) (Nat.le_of_ble_eq_true rfl) mkW_ll dX10_safest_16 rfl rfl ?_ ⟨rfl, rfl⟩
    refine B_if_ne (tgt := 25) (pc2 := 22) h dX10_safest_19 (by decide) rfl (fun _ h => ?_) (fun _ h => ?_)
    · refine G_iload_n (pc2 := 26) 3 rfl dX10_safest_25 rfl rfl ?_
      refine B_if_lt (tgt := 34) (pc2 := 29) h dX10_safest_26 (by decide) rfl (fun _ h => ?_) (fun _ h => ?_)
      · refine G_ldc (pc2 := 36) kw_435 dX10_safest_34 rfl ?_
        have ha := Option.some.inj h
        subst ha
        exact G_iret rfl dX10_safest_36
      · refine G_iload_n (pc2 := 30) 3 rfl dX10_safest_29 rfl rfl ?_
        refine G_iconst (pc2 := 31) dX10_safest_30 ic_1 rfl ?_
        refine B_icmp_le (tgt := 37) (pc2 := 34) h dX10_safest_31 (by decide) rfl (fun _ h => ?_) (fun _ h => ?_)
        · refine G_aload_n (pc2 := 38) 0 rfl dX10_safest_37 rfl rfl ?_
          refine T_0_4 (pc2 := 41) kw_404 dX10_safest_38 rfl ?_
          refine G_aload_n (pc2 := 42) 0 rfl dX10_safest_41 rfl rfl ?_
          refine T_0_3 (pc2 := 45) kw_403 dX10_safest_42 rfl ?_
          refine T_22_5 (pc2 := 48) kw_223 dX10_safest_45 rfl ?_
          refine G_iload_n (pc2 := 49) 1 rfl dX10_safest_48 rfl rfl ?_
          refine AC (pc2 := 50) (fa_26 _ _ _ _) h dX10_safest_49 rfl (fun h => ?_)
          refine G_iload_n (pc2 := 51) 2 rfl dX10_safest_50 rfl rfl ?_
          refine G_aload_n (pc2 := 52) 0 rfl dX10_safest_51 rfl rfl ?_
          refine T_0_1 (pc2 := 55) kw_401 dX10_safest_52 rfl ?_
          refine G_iload_n (pc2 := 56) 1 rfl dX10_safest_55 rfl rfl ?_
          obtain ⟨c_837, hc_837, h⟩ := ob_e h
          refine B_callV (pc2 := 59) si_X10_221 (c_X1_dares_12 hc_837) (qo_12 _ _ _ _) rfl rfl rfl (st := [.int x2, .int (F 3 x1.toNatClampNeg), .ref 31]) (stq := [.int c_837, .int x2, .int (F 3 x1.toNatClampNeg), .ref 31]) rfl (by decide) (by decide) (Nat.le_of_ble_eq_true rfl) mkW_ll dX10_safest_56 rfl rfl ?_ ⟨rfl, rfl⟩
          obtain ⟨c_860, hc_860, h⟩ := ob_e h
          refine B_callV (pc2 := 62) si_X10_267 (c_X9_findSafest_31 hc_860) (qo_31 _ _ _ _) rfl rfl rfl (st := []) (stq := []) rfl (by decide) (by decide) (Nat.le_of_ble_eq_true rfl) mkW_ll dX10_safest_59 rfl rfl ?_ ⟨rfl, rfl⟩
          refine G_iload_n (pc2 := 63) 3 rfl dX10_safest_62 rfl rfl ?_
          refine B_if_ne (tgt := 76) (pc2 := 66) h dX10_safest_63 (by decide) rfl (fun _ h => ?_) (fun _ h => ?_)
          · refine G_aload_n (pc2 := 77) 0 rfl dX10_safest_76 rfl rfl ?_
            refine T_0_4 (pc2 := 80) kw_404 dX10_safest_77 rfl ?_
            refine T_31_1 (pc2 := 83) kw_279 dX10_safest_80 rfl ?_
            have ha := Option.some.inj h
            subst ha
            exact G_iret rfl dX10_safest_83
          · refine G_aload_n (pc2 := 67) 0 rfl dX10_safest_66 rfl rfl ?_
            refine T_0_4 (pc2 := 70) kw_404 dX10_safest_67 rfl ?_
            refine T_31_0 (pc2 := 73) kw_277 dX10_safest_70 rfl ?_
            refine G_goto (tgt := 83) dX10_safest_73 (by decide) ?_
            have ha := Option.some.inj h
            subst ha
            exact G_iret rfl dX10_safest_83
        · refine G_ldc (pc2 := 36) kw_435 dX10_safest_34 rfl ?_
          have ha := Option.some.inj h
          subst ha
          exact G_iret rfl dX10_safest_36
    · refine G_ldc (pc2 := 24) kw_605 dX10_safest_22 rfl ?_
      have ha := Option.some.inj h
      subst ha
      exact G_iret rfl dX10_safest_24)
def L_X4_prepare_33_2 (k : WF → Option (WF)) (x1 : Int32) (I : WI) : Nat → Int32 → WF → Option (WF)
  | 0, _, _ => none
  | n + 1, x2, F =>
  if (I 50) ≤ x2 then (k F)
  else (Option.bind (f_X1_timeOf_12 x2 I F) fun c_864 =>
  ixG x2 9 (bnd (uF F 172 (upd (F 172) x2.toNatClampNeg c_864)) fun F_865 =>
  bnd (x2 + (1 : Int32)) fun x2_866 =>
  L_X4_prepare_33_2 k x1 I n x2_866 F_865))
def L_X4_prepare_33_69 (k : Int32 → WF → Option (WF)) (x1 : Int32) (x2 : Int32) (I : WI) : Nat → Int32 → WF → Option (WF)
  | 0, _, _ => none
  | n + 1, x3, F =>
  if x3 ≤ 0 then (k x3 F)
  else (ixG (x3 - (1 : Int32)) 9 (
  ixG (F 173 (x3 - (1 : Int32)).toNatClampNeg) 9 (
  ixG x2 9 (
  if (F 171 (F 173 (x3 - (1 : Int32)).toNatClampNeg).toNatClampNeg) ≤ (F 171 x2.toNatClampNeg) then (k x3 F)
  else (ixG (x3 - (1 : Int32)) 9 (
  ixG x3 9 (bnd (uF F 173 (upd (F 173) x3.toNatClampNeg (F 173 (x3 - (1 : Int32)).toNatClampNeg))) fun F_872 =>
  bnd (x3 + (-1 : Int32)) fun x3_873 =>
  L_X4_prepare_33_69 k x1 x2 I n x3_873 F_872)))))))
def L_X4_prepare_33_38 (k : WF → Option (WF)) (x1 : Int32) (I : WI) : Nat → Int32 → WF → Option (WF)
  | 0, _, _ => none
  | n + 1, x2, F =>
  if (I 49) ≤ x2 then (k F)
  else (Option.bind (f_X1_flightOver_12 x1 x2 I F) fun c_869 =>
  ixG x2 9 (bnd (uF F 171 (upd (F 171) x2.toNatClampNeg c_869)) fun F_870 =>
  bnd x2 fun x3_871 =>
  L_X4_prepare_33_69 (fun x3_874 F_875 => ixG x3_874 9 (bnd (uF F_875 173 (upd (F_875 173) x3_874.toNatClampNeg x2)) fun F_876 =>
  bnd (x2 + (1 : Int32)) fun x2_877 =>
  L_X4_prepare_33_38 k x1 I n x2_877 F_876)) x1 x2 I FU x3_871 F_870))
def f_X4_prepare_33 (x1 : Int32) (I : WI) (F : WF) : Option (WF) :=
  bnd (0 : Int32) fun x2_863 =>
  L_X4_prepare_33_2 (fun F_867 => bnd (0 : Int32) fun x2_868 =>
  L_X4_prepare_33_38 (fun F_878 => some F_878) x1 I FU x2_868 F_867) x1 I FU x2_863 F
set_option maxRecDepth 100000 in
set_option maxHeartbeats 4000000 in
theorem g_L_X4_prepare_33_2 {X : XT} {x1 : Int32} {I : WI} {J : WI} {K : WF} {a : WF} {k : WF → Option (WF)} (hk : ∀ (F' : WF), (k F' = some a → GG X md_X4_prepare (rmD 3) (gv_Z X (rmD 3).cells (rmD 3).slots none (mkW I a J K)) 0 0 36 [(0, .ref 33), (1, .int x1)] [] (mkW I F' J K))) : ∀ (n : Nat) (x2 : Int32) (F : WF), L_X4_prepare_33_2 k x1 I n x2 F = some a → GG X md_X4_prepare (rmD 3) (gv_Z X (rmD 3).cells (rmD 3).slots none (mkW I a J K)) 0 0 2 [(0, .ref 33), (1, .int x1), (2, .int x2)] [] (mkW I F J K) := by
  intro n
  induction n with
  | zero =>
    intro x2 F h
    rw [L_X4_prepare_33_2] at h
    cases h
  | succ n ih =>
    intro x2 F h
    rw [L_X4_prepare_33_2] at h
    refine G_iload_n (pc2 := 3) 2 rfl dX4_prepare_2 rfl rfl ?_
    refine G_aload_n (pc2 := 4) 0 rfl dX4_prepare_3 rfl rfl ?_
    refine T_33_2 (pc2 := 7) kw_307 dX4_prepare_4 rfl ?_
    refine T_12_0 (pc2 := 10) kw_258 dX4_prepare_7 rfl ?_
    refine T_13_2 (pc2 := 13) kw_108 dX4_prepare_10 rfl ?_
    refine B_icmp_ge (tgt := 36) (pc2 := 16) h dX4_prepare_13 (by decide) rfl (fun _ h => ?_) (fun _ h => ?_)
    · refine G_sub (ls' := [(0, .ref 33), (1, .int x1)]) [0, 1] rfl ?_
      exact hk F h
    · refine G_aload_n (pc2 := 17) 0 rfl dX4_prepare_16 rfl rfl ?_
      refine T_33_4 (pc2 := 20) kw_309 dX4_prepare_17 rfl ?_
      refine G_iload_n (pc2 := 21) 2 rfl dX4_prepare_20 rfl rfl ?_
      refine G_aload_n (pc2 := 22) 0 rfl dX4_prepare_21 rfl rfl ?_
      refine T_33_2 (pc2 := 25) kw_307 dX4_prepare_22 rfl ?_
      refine G_iload_n (pc2 := 26) 2 rfl dX4_prepare_25 rfl rfl ?_
      obtain ⟨c_864, hc_864, h⟩ := ob_e h
      refine B_callV (pc2 := 29) si_X4_58 (c_X1_timeOf_12 hc_864) (qo_12 _ _ _ _) rfl rfl rfl (st := [.int x2, .ref 36]) (stq := [.int c_864, .int x2, .ref 36]) rfl (by decide) (by decide) (Nat.le_of_ble_eq_true rfl) mkW_ll dX4_prepare_26 rfl rfl ?_ ⟨rfl, rfl⟩
      refine SC (pc2 := 30) (fa_36 _ _ _ _) h dX4_prepare_29 rfl (fun F_865 h => ?_)
      refine B_iinc (pc2 := 33) 2 (fun x2_866 => [(2, .int x2_866), (0, .ref 33), (1, .int x1)]) h rfl dX4_prepare_30 ic_1 (by decide) (fun _ => rfl) rfl (fun x2_866 h => ?_)
      refine G_goto (tgt := 2) dX4_prepare_33 (by decide) ?_
      refine G_sub (ls' := [(0, .ref 33), (1, .int x1), (2, .int x2_866)]) [1, 2, 0] rfl ?_
      exact ih x2_866 F_865 h
set_option maxRecDepth 100000 in
set_option maxHeartbeats 4000000 in
theorem g_L_X4_prepare_33_69 {X : XT} {x1 : Int32} {x2 : Int32} {I : WI} {J : WI} {K : WF} {a : WF} {k : Int32 → WF → Option (WF)} (hk : ∀ (e3 : Int32) (F' : WF), (k e3 F' = some a → GG X md_X4_prepare (rmD 3) (gv_Z X (rmD 3).cells (rmD 3).slots none (mkW I a J K)) 0 0 115 [(0, .ref 33), (1, .int x1), (2, .int x2), (3, .int e3)] [] (mkW I F' J K))) : ∀ (n : Nat) (x3 : Int32) (F : WF), L_X4_prepare_33_69 k x1 x2 I n x3 F = some a → GG X md_X4_prepare (rmD 3) (gv_Z X (rmD 3).cells (rmD 3).slots none (mkW I a J K)) 0 0 69 [(0, .ref 33), (1, .int x1), (2, .int x2), (3, .int x3)] [] (mkW I F J K) := by
  intro n
  induction n with
  | zero =>
    intro x3 F h
    rw [L_X4_prepare_33_69] at h
    cases h
  | succ n ih =>
    intro x3 F h
    rw [L_X4_prepare_33_69] at h
    refine G_iload_n (pc2 := 70) 3 rfl dX4_prepare_69 rfl rfl ?_
    refine B_if_le (tgt := 115) (pc2 := 73) h dX4_prepare_70 (by decide) rfl (fun _ h => ?_) (fun _ h => ?_)
    · exact hk x3 F h
    · refine G_aload_n (pc2 := 74) 0 rfl dX4_prepare_73 rfl rfl ?_
      refine T_33_3 (pc2 := 77) kw_308 dX4_prepare_74 rfl ?_
      refine G_aload_n (pc2 := 78) 0 rfl dX4_prepare_77 rfl rfl ?_
      refine T_33_5 (pc2 := 81) kw_310 dX4_prepare_78 rfl ?_
      refine G_iload_n (pc2 := 82) 3 rfl dX4_prepare_81 rfl rfl ?_
      refine G_iconst (pc2 := 83) dX4_prepare_82 ic_1 rfl ?_
      refine G_isub (pc2 := 84) dX4_prepare_83 rfl ?_
      refine AC (pc2 := 85) (fa_37 _ _ _ _) h dX4_prepare_84 rfl (fun h => ?_)
      refine AC (pc2 := 86) (fa_35 _ _ _ _) h dX4_prepare_85 rfl (fun h => ?_)
      refine G_aload_n (pc2 := 87) 0 rfl dX4_prepare_86 rfl rfl ?_
      refine T_33_3 (pc2 := 90) kw_308 dX4_prepare_87 rfl ?_
      refine G_iload_n (pc2 := 91) 2 rfl dX4_prepare_90 rfl rfl ?_
      refine AC (pc2 := 92) (fa_35 _ _ _ _) h dX4_prepare_91 rfl (fun h => ?_)
      refine B_icmp_le (tgt := 115) (pc2 := 95) h dX4_prepare_92 (by decide) rfl (fun _ h => ?_) (fun _ h => ?_)
      · exact hk x3 F h
      · refine G_aload_n (pc2 := 96) 0 rfl dX4_prepare_95 rfl rfl ?_
        refine T_33_5 (pc2 := 99) kw_310 dX4_prepare_96 rfl ?_
        refine G_iload_n (pc2 := 100) 3 rfl dX4_prepare_99 rfl rfl ?_
        refine G_aload_n (pc2 := 101) 0 rfl dX4_prepare_100 rfl rfl ?_
        refine T_33_5 (pc2 := 104) kw_310 dX4_prepare_101 rfl ?_
        refine G_iload_n (pc2 := 105) 3 rfl dX4_prepare_104 rfl rfl ?_
        refine G_iconst (pc2 := 106) dX4_prepare_105 ic_1 rfl ?_
        refine G_isub (pc2 := 107) dX4_prepare_106 rfl ?_
        refine AC (pc2 := 108) (fa_37 _ _ _ _) h dX4_prepare_107 rfl (fun h => ?_)
        refine SC (pc2 := 109) (fa_37 _ _ _ _) h dX4_prepare_108 rfl (fun F_872 h => ?_)
        refine B_iinc (pc2 := 112) 3 (fun x3_873 => [(3, .int x3_873), (0, .ref 33), (1, .int x1), (2, .int x2)]) h rfl dX4_prepare_109 ic_m1 (by decide) (fun _ => rfl) rfl (fun x3_873 h => ?_)
        refine G_goto (tgt := 69) dX4_prepare_112 (by decide) ?_
        refine G_sub (ls' := [(0, .ref 33), (1, .int x1), (2, .int x2), (3, .int x3_873)]) [1, 2, 3, 0] rfl ?_
        exact ih x3_873 F_872 h
set_option maxRecDepth 100000 in
set_option maxHeartbeats 4000000 in
theorem g_L_X4_prepare_33_38 {X : XT} {x1 : Int32} {I : WI} {J : WI} {K : WF} {a : WF} {k : WF → Option (WF)} (hk : ∀ (F' : WF), (k F' = some a → GG X md_X4_prepare (rmD 3) (gv_Z X (rmD 3).cells (rmD 3).slots none (mkW I a J K)) 0 0 128 [] [] (mkW I F' J K))) : ∀ (n : Nat) (x2 : Int32) (F : WF), L_X4_prepare_33_38 k x1 I n x2 F = some a → GG X md_X4_prepare (rmD 3) (gv_Z X (rmD 3).cells (rmD 3).slots none (mkW I a J K)) 0 0 38 [(0, .ref 33), (1, .int x1), (2, .int x2)] [] (mkW I F J K) := by
  intro n
  induction n with
  | zero =>
    intro x2 F h
    rw [L_X4_prepare_33_38] at h
    cases h
  | succ n ih =>
    intro x2 F h
    rw [L_X4_prepare_33_38] at h
    refine G_iload_n (pc2 := 39) 2 rfl dX4_prepare_38 rfl rfl ?_
    refine G_aload_n (pc2 := 40) 0 rfl dX4_prepare_39 rfl rfl ?_
    refine T_33_2 (pc2 := 43) kw_307 dX4_prepare_40 rfl ?_
    refine T_12_0 (pc2 := 46) kw_258 dX4_prepare_43 rfl ?_
    refine T_13_1 (pc2 := 49) kw_102 dX4_prepare_46 rfl ?_
    refine B_icmp_ge (tgt := 128) (pc2 := 52) h dX4_prepare_49 (by decide) rfl (fun _ h => ?_) (fun _ h => ?_)
    · refine G_sub (ls' := []) [] rfl ?_
      exact hk F h
    · refine G_aload_n (pc2 := 53) 0 rfl dX4_prepare_52 rfl rfl ?_
      refine T_33_3 (pc2 := 56) kw_308 dX4_prepare_53 rfl ?_
      refine G_iload_n (pc2 := 57) 2 rfl dX4_prepare_56 rfl rfl ?_
      refine G_aload_n (pc2 := 58) 0 rfl dX4_prepare_57 rfl rfl ?_
      refine T_33_2 (pc2 := 61) kw_307 dX4_prepare_58 rfl ?_
      refine G_iload_n (pc2 := 62) 1 rfl dX4_prepare_61 rfl rfl ?_
      refine G_iload_n (pc2 := 63) 2 rfl dX4_prepare_62 rfl rfl ?_
      obtain ⟨c_869, hc_869, h⟩ := ob_e h
      refine B_callV (pc2 := 66) si_X4_62 (c_X1_flightOver_12 hc_869) (qo_12 _ _ _ _) rfl rfl rfl (st := [.int x2, .ref 35]) (stq := [.int c_869, .int x2, .ref 35]) rfl (by decide) (by decide) (Nat.le_of_ble_eq_true rfl) mkW_ll dX4_prepare_63 rfl rfl ?_ ⟨rfl, rfl⟩
      refine SC (pc2 := 67) (fa_35 _ _ _ _) h dX4_prepare_66 rfl (fun F_870 h => ?_)
      refine G_iload_n (pc2 := 68) 2 rfl dX4_prepare_67 rfl rfl ?_
      refine B_istore_n (pc2 := 69) (fun x3_871 => [(3, .int x3_871), (0, .ref 33), (1, .int x1), (2, .int x2)]) h dX4_prepare_68 rfl (by decide) (fun _ => rfl) rfl (fun x3_871 h => ?_)
      refine G_sub (ls' := [(0, .ref 33), (1, .int x1), (2, .int x2), (3, .int x3_871)]) [1, 2, 3, 0] rfl ?_
      refine g_L_X4_prepare_33_69 (fun x3_874 F_875 h => ?_) FU x3_871 F_870 h
      refine G_aload_n (pc2 := 116) 0 rfl dX4_prepare_115 rfl rfl ?_
      refine T_33_5 (pc2 := 119) kw_310 dX4_prepare_116 rfl ?_
      refine G_iload_n (pc2 := 120) 3 rfl dX4_prepare_119 rfl rfl ?_
      refine G_iload_n (pc2 := 121) 2 rfl dX4_prepare_120 rfl rfl ?_
      refine SC (pc2 := 122) (fa_37 _ _ _ _) h dX4_prepare_121 rfl (fun F_876 h => ?_)
      refine B_iinc (pc2 := 125) 2 (fun x2_877 => [(2, .int x2_877), (0, .ref 33), (1, .int x1), (3, .int x3_874)]) h rfl dX4_prepare_122 ic_1 (by decide) (fun _ => rfl) rfl (fun x2_877 h => ?_)
      refine G_goto (tgt := 38) dX4_prepare_125 (by decide) ?_
      refine G_sub (ls' := [(0, .ref 33), (1, .int x1), (2, .int x2_877)]) [1, 2, 0] rfl ?_
      exact ih x2_877 F_876 h
set_option maxRecDepth 100000 in
set_option maxHeartbeats 4000000 in
theorem c_X4_prepare_33 {x1 : Int32} {I : WI} {F : WF} {J : WI} {K : WF} {a : WF} (h : f_X4_prepare_33 x1 I F = some a) : CT md_X4_prepare yX4_prepare (rmD 3) [.ref 33, .int x1] (mkW I F J K) none (mkW I a J K) := CT_of pn_X4 ⟨rfl, rfl⟩ (Nat.le_of_ble_eq_true rfl) (fun X => by
  show GG X md_X4_prepare (rmD 3) _ 0 0 0 [(0, .ref 33), (1, .int x1)] [] (mkW I F J K)
  unfold f_X4_prepare_33 at h
  refine G_iconst (pc2 := 1) dX4_prepare_0 ic_0 rfl ?_
  refine B_istore_n (pc2 := 2) (fun x2_863 => [(2, .int x2_863), (0, .ref 33), (1, .int x1)]) h dX4_prepare_1 rfl (by decide) (fun _ => rfl) rfl (fun x2_863 h => ?_)
  refine G_sub (ls' := [(0, .ref 33), (1, .int x1), (2, .int x2_863)]) [1, 2, 0] rfl ?_
  refine g_L_X4_prepare_33_2 (fun F_867 h => ?_) FU x2_863 F h
  refine G_iconst (pc2 := 37) dX4_prepare_36 ic_0 rfl ?_
  refine B_istore_n (pc2 := 38) (fun x2_868 => [(2, .int x2_868), (0, .ref 33), (1, .int x1)]) h dX4_prepare_37 rfl (by decide) (fun _ => rfl) rfl (fun x2_868 h => ?_)
  refine G_sub (ls' := [(0, .ref 33), (1, .int x1), (2, .int x2_868)]) [1, 2, 0] rfl ?_
  refine g_L_X4_prepare_33_38 (fun F_878 h => ?_) FU x2_868 F_867 h
  have ha := Option.some.inj h
  subst ha
  exact G_vret rfl dX4_prepare_128)
def L_X4_quickEnough_33_5 (k : Int32 → Option (Int32)) (x1 : Int32) (x2 : Int32) (I : WI) (F : WF) : Nat → Int32 → Int32 → Option (Int32)
  | 0, _, _ => none
  | n + 1, x3, x4 =>
  if (I 50) ≤ x4 then (k x3)
  else (bnd (fun (x3_890 : Int32) => bnd (x4 + (1 : Int32)) fun x4_891 =>
  L_X4_quickEnough_33_5 k x1 x2 I F n x3_890 x4_891) fun j44_889 =>
  if ((x2 >>> (x4 &&& 31)) &&& (1 : Int32)) = (1 : Int32) then (ixG x4 9 (
  if x1 < (F 172 x4.toNatClampNeg) then (j44_889 x3)
  else (bnd (x3 + (1 : Int32)) fun x3_892 =>
  j44_889 x3_892)))
  else (j44_889 x3))
def f_X4_quickEnough_33 (x1 : Int32) (x2 : Int32) (I : WI) (F : WF) : Option (Int32) :=
  bnd (0 : Int32) fun x3_887 =>
  bnd (0 : Int32) fun x4_888 =>
  L_X4_quickEnough_33_5 (fun x3_893 => some x3_893) x1 x2 I F FU x3_887 x4_888
set_option maxRecDepth 100000 in
set_option maxHeartbeats 4000000 in
theorem g_L_X4_quickEnough_33_5 {X : XT} {x1 : Int32} {x2 : Int32} {I : WI} {F : WF} {J : WI} {K : WF} {a : Int32} {k : Int32 → Option (Int32)} (hk : ∀ (e3 : Int32), (k e3 = some a → GG X md_X4_quickEnough (rmD 1) (gv_Z X (rmD 1).cells (rmD 1).slots (some (.int a)) (mkW I F J K)) 0 0 50 [(3, .int e3)] [] (mkW I F J K))) : ∀ (n : Nat) (x3 : Int32) (x4 : Int32), L_X4_quickEnough_33_5 k x1 x2 I F n x3 x4 = some a → GG X md_X4_quickEnough (rmD 1) (gv_Z X (rmD 1).cells (rmD 1).slots (some (.int a)) (mkW I F J K)) 0 0 5 [(0, .ref 33), (1, .int x1), (2, .int x2), (3, .int x3), (4, .int x4)] [] (mkW I F J K) := by
  intro n
  induction n with
  | zero =>
    intro x3 x4 h
    rw [L_X4_quickEnough_33_5] at h
    cases h
  | succ n ih =>
    intro x3 x4 h
    rw [L_X4_quickEnough_33_5] at h
    refine G_iload (pc2 := 7) 4 rfl dX4_quickEnough_5 rfl ?_
    refine G_aload_n (pc2 := 8) 0 rfl dX4_quickEnough_7 rfl rfl ?_
    refine T_33_2 (pc2 := 11) kw_307 dX4_quickEnough_8 rfl ?_
    refine T_12_0 (pc2 := 14) kw_258 dX4_quickEnough_11 rfl ?_
    refine T_13_2 (pc2 := 17) kw_108 dX4_quickEnough_14 rfl ?_
    refine B_icmp_ge (tgt := 50) (pc2 := 20) h dX4_quickEnough_17 (by decide) rfl (fun _ h => ?_) (fun _ h => ?_)
    · refine G_sub (ls' := [(3, .int x3)]) [3] rfl ?_
      exact hk x3 h
    · refine G_iload_n (pc2 := 21) 2 rfl dX4_quickEnough_20 rfl rfl ?_
      refine G_iload (pc2 := 23) 4 rfl dX4_quickEnough_21 rfl ?_
      refine G_ishr (pc2 := 24) dX4_quickEnough_23 rfl ?_
      refine G_iconst (pc2 := 25) dX4_quickEnough_24 ic_1 rfl ?_
      refine G_iand (pc2 := 26) dX4_quickEnough_25 rfl ?_
      refine G_iconst (pc2 := 27) dX4_quickEnough_26 ic_1 rfl ?_
      refine jn_e (Gj := True) (fun (j : Int32 → Option (Int32)) => ∀ (x3_890 : Int32), j x3_890 = some a → GG X md_X4_quickEnough (rmD 1) (gv_Z X (rmD 1).cells (rmD 1).slots (some (.int a)) (mkW I F J K)) 0 0 44 [(0, .ref 33), (1, .int x1), (2, .int x2), (3, .int x3_890), (4, .int x4)] [] (mkW I F J K)) h (fun x3_890 h => ?_) (fun j44_889 hj44_889 h => ?_)
      · refine B_iinc (pc2 := 47) 4 (fun x4_891 => [(4, .int x4_891), (0, .ref 33), (1, .int x1), (2, .int x2), (3, .int x3_890)]) h rfl dX4_quickEnough_44 ic_1 (by decide) (fun _ => rfl) rfl (fun x4_891 h => ?_)
        refine G_goto (tgt := 5) dX4_quickEnough_47 (by decide) ?_
        refine G_sub (ls' := [(0, .ref 33), (1, .int x1), (2, .int x2), (3, .int x3_890), (4, .int x4_891)]) [1, 2, 3, 4, 0] rfl ?_
        exact ih x3_890 x4_891 h
      refine B_icmp_ne (tgt := 44) (pc2 := 30) h dX4_quickEnough_27 (by decide) rfl (fun _ h => ?_) (fun _ h => ?_)
      · exact hj44_889 x3 h
      · refine G_aload_n (pc2 := 31) 0 rfl dX4_quickEnough_30 rfl rfl ?_
        refine T_33_4 (pc2 := 34) kw_309 dX4_quickEnough_31 rfl ?_
        refine G_iload (pc2 := 36) 4 rfl dX4_quickEnough_34 rfl ?_
        refine AC (pc2 := 37) (fa_36 _ _ _ _) h dX4_quickEnough_36 rfl (fun h => ?_)
        refine G_iload_n (pc2 := 38) 1 rfl dX4_quickEnough_37 rfl rfl ?_
        refine B_icmp_gt (tgt := 44) (pc2 := 41) h dX4_quickEnough_38 (by decide) rfl (fun _ h => ?_) (fun _ h => ?_)
        · exact hj44_889 x3 h
        · refine B_iinc (pc2 := 44) 3 (fun x3_892 => [(3, .int x3_892), (0, .ref 33), (1, .int x1), (2, .int x2), (4, .int x4)]) h rfl dX4_quickEnough_41 ic_1 (by decide) (fun _ => rfl) rfl (fun x3_892 h => ?_)
          refine G_sub (ls' := [(0, .ref 33), (1, .int x1), (2, .int x2), (3, .int x3_892), (4, .int x4)]) [1, 2, 3, 0, 4] rfl ?_
          exact hj44_889 x3_892 h
set_option maxRecDepth 100000 in
set_option maxHeartbeats 4000000 in
theorem c_X4_quickEnough_33 {x1 : Int32} {x2 : Int32} {I : WI} {F : WF} {J : WI} {K : WF} {a : Int32} (h : f_X4_quickEnough_33 x1 x2 I F = some a) : CT md_X4_quickEnough yX4_quickEnough (rmD 1) [.ref 33, .int x1, .int x2] (mkW I F J K) (some (.int a)) (mkW I F J K) := CT_of pn_X4 ⟨rfl, rfl⟩ (Nat.le_of_ble_eq_true rfl) (fun X => by
  show GG X md_X4_quickEnough (rmD 1) _ 0 0 0 [(0, .ref 33), (1, .int x1), (2, .int x2)] [] (mkW I F J K)
  unfold f_X4_quickEnough_33 at h
  refine G_iconst (pc2 := 1) dX4_quickEnough_0 ic_0 rfl ?_
  refine B_istore_n (pc2 := 2) (fun x3_887 => [(3, .int x3_887), (0, .ref 33), (1, .int x1), (2, .int x2)]) h dX4_quickEnough_1 rfl (by decide) (fun _ => rfl) rfl (fun x3_887 h => ?_)
  refine G_iconst (pc2 := 3) dX4_quickEnough_2 ic_0 rfl ?_
  refine B_istore (pc2 := 5) (fun x4_888 => [(4, .int x4_888), (3, .int x3_887), (0, .ref 33), (1, .int x1), (2, .int x2)]) h dX4_quickEnough_3 (by decide) (fun _ => rfl) rfl (fun x4_888 h => ?_)
  refine G_sub (ls' := [(0, .ref 33), (1, .int x1), (2, .int x2), (3, .int x3_887), (4, .int x4_888)]) [2, 3, 4, 1, 0] rfl ?_
  refine g_L_X4_quickEnough_33_5 (fun x3_893 h => ?_) FU x3_887 x4_888 h
  refine G_iload_n (pc2 := 51) 0 rfl dX4_quickEnough_50 rfl rfl ?_
  have ha := Option.some.inj h
  subst ha
  exact G_iret rfl dX4_quickEnough_51)
def L_X4_mostFrom_33_5 (k : Int32 → Option (Int32)) (x1 : Int32) (x2 : Int32) (I : WI) (F : WF) : Nat → Int32 → Int32 → Option (Int32)
  | 0, _, _ => none
  | n + 1, x3, x4 =>
  if (I 49) ≤ x4 then (k x3)
  else (ixG x4 9 (
  bnd (F 173 x4.toNatClampNeg) fun x5_883 =>
  bnd (fun (x3_885 : Int32) => bnd (x4 + (1 : Int32)) fun x4_886 =>
  L_X4_mostFrom_33_5 k x1 x2 I F n x3_885 x4_886) fun j54_884 =>
  if x5_883 < x1 then (j54_884 x3)
  else (ixG x5_883 9 (
  Option.bind (f_X4_quickEnough_33 (F 171 x5_883.toNatClampNeg) x2 I F) fun c_894 =>
  if c_894 ≤ x3 then (j54_884 x3)
  else (bnd (x3 + (1 : Int32)) fun x3_895 =>
  j54_884 x3_895)))))
def f_X4_mostFrom_33 (x1 : Int32) (x2 : Int32) (I : WI) (F : WF) : Option (Int32) :=
  bnd (0 : Int32) fun x3_881 =>
  bnd (0 : Int32) fun x4_882 =>
  L_X4_mostFrom_33_5 (fun x3_896 => some x3_896) x1 x2 I F FU x3_881 x4_882
set_option maxRecDepth 100000 in
set_option maxHeartbeats 4000000 in
theorem g_L_X4_mostFrom_33_5 {X : XT} {x1 : Int32} {x2 : Int32} {I : WI} {F : WF} {J : WI} {K : WF} {a : Int32} {k : Int32 → Option (Int32)} (hk : ∀ (e3 : Int32), (k e3 = some a → GG X md_X4_mostFrom (rmD 2) (gv_Z X (rmD 2).cells (rmD 2).slots (some (.int a)) (mkW I F J K)) 0 0 60 [(3, .int e3)] [] (mkW I F J K))) : ∀ (n : Nat) (x3 : Int32) (x4 : Int32), L_X4_mostFrom_33_5 k x1 x2 I F n x3 x4 = some a → GG X md_X4_mostFrom (rmD 2) (gv_Z X (rmD 2).cells (rmD 2).slots (some (.int a)) (mkW I F J K)) 0 0 5 [(0, .ref 33), (1, .int x1), (2, .int x2), (3, .int x3), (4, .int x4)] [] (mkW I F J K) := by
  intro n
  induction n with
  | zero =>
    intro x3 x4 h
    rw [L_X4_mostFrom_33_5] at h
    cases h
  | succ n ih =>
    intro x3 x4 h
    rw [L_X4_mostFrom_33_5] at h
    refine G_iload (pc2 := 7) 4 rfl dX4_mostFrom_5 rfl ?_
    refine G_aload_n (pc2 := 8) 0 rfl dX4_mostFrom_7 rfl rfl ?_
    refine T_33_2 (pc2 := 11) kw_307 dX4_mostFrom_8 rfl ?_
    refine T_12_0 (pc2 := 14) kw_258 dX4_mostFrom_11 rfl ?_
    refine T_13_1 (pc2 := 17) kw_102 dX4_mostFrom_14 rfl ?_
    refine B_icmp_ge (tgt := 60) (pc2 := 20) h dX4_mostFrom_17 (by decide) rfl (fun _ h => ?_) (fun _ h => ?_)
    · refine G_sub (ls' := [(3, .int x3)]) [3] rfl ?_
      exact hk x3 h
    · refine G_aload_n (pc2 := 21) 0 rfl dX4_mostFrom_20 rfl rfl ?_
      refine T_33_5 (pc2 := 24) kw_310 dX4_mostFrom_21 rfl ?_
      refine G_iload (pc2 := 26) 4 rfl dX4_mostFrom_24 rfl ?_
      refine AC (pc2 := 27) (fa_37 _ _ _ _) h dX4_mostFrom_26 rfl (fun h => ?_)
      refine B_istore (pc2 := 29) (fun x5_883 => [(5, .int x5_883), (0, .ref 33), (1, .int x1), (2, .int x2), (3, .int x3), (4, .int x4)]) h dX4_mostFrom_27 (by decide) (fun _ => rfl) rfl (fun x5_883 h => ?_)
      refine G_iload (pc2 := 31) 0 rfl dX4_mostFrom_29 rfl ?_
      refine G_iload_n (pc2 := 32) 2 rfl dX4_mostFrom_31 rfl rfl ?_
      refine jn_e (Gj := True) (fun (j : Int32 → Option (Int32)) => ∀ (x3_885 : Int32), j x3_885 = some a → GG X md_X4_mostFrom (rmD 2) (gv_Z X (rmD 2).cells (rmD 2).slots (some (.int a)) (mkW I F J K)) 0 0 54 [(0, .ref 33), (1, .int x1), (2, .int x2), (3, .int x3_885), (4, .int x4)] [] (mkW I F J K)) h (fun x3_885 h => ?_) (fun j54_884 hj54_884 h => ?_)
      · refine B_iinc (pc2 := 57) 4 (fun x4_886 => [(4, .int x4_886), (0, .ref 33), (1, .int x1), (2, .int x2), (3, .int x3_885)]) h rfl dX4_mostFrom_54 ic_1 (by decide) (fun _ => rfl) rfl (fun x4_886 h => ?_)
        refine G_goto (tgt := 5) dX4_mostFrom_57 (by decide) ?_
        refine G_sub (ls' := [(0, .ref 33), (1, .int x1), (2, .int x2), (3, .int x3_885), (4, .int x4_886)]) [1, 2, 3, 4, 0] rfl ?_
        exact ih x3_885 x4_886 h
      refine B_icmp_lt (tgt := 54) (pc2 := 35) h dX4_mostFrom_32 (by decide) rfl (fun _ h => ?_) (fun _ h => ?_)
      · refine G_sub (ls' := [(0, .ref 33), (1, .int x1), (2, .int x2), (3, .int x3), (4, .int x4)]) [1, 2, 3, 4, 5] rfl ?_
        exact hj54_884 x3 h
      · refine G_aload_n (pc2 := 36) 1 rfl dX4_mostFrom_35 rfl rfl ?_
        refine G_aload_n (pc2 := 37) 1 rfl dX4_mostFrom_36 rfl rfl ?_
        refine T_33_3 (pc2 := 40) kw_308 dX4_mostFrom_37 rfl ?_
        refine G_iload (pc2 := 42) 0 rfl dX4_mostFrom_40 rfl ?_
        refine AC (pc2 := 43) (fa_35 _ _ _ _) h dX4_mostFrom_42 rfl (fun h => ?_)
        refine G_iload_n (pc2 := 44) 3 rfl dX4_mostFrom_43 rfl rfl ?_
        obtain ⟨c_894, hc_894, h⟩ := ob_e h
        refine B_callV (pc2 := 47) si_X4_65 (c_X4_quickEnough_33 hc_894) (qo_33 _ _ _ _) rfl rfl rfl (st := []) (stq := [.int c_894]) rfl (by decide) (by decide) (Nat.le_of_ble_eq_true rfl) mkW_ll dX4_mostFrom_44 rfl rfl ?_ ⟨rfl, rfl⟩
        refine G_iload_n (pc2 := 48) 4 rfl dX4_mostFrom_47 rfl rfl ?_
        refine B_icmp_le (tgt := 54) (pc2 := 51) h dX4_mostFrom_48 (by decide) rfl (fun _ h => ?_) (fun _ h => ?_)
        · refine G_sub (ls' := [(0, .ref 33), (1, .int x1), (2, .int x2), (3, .int x3), (4, .int x4)]) [1, 2, 3, 4, 5] rfl ?_
          exact hj54_884 x3 h
        · refine B_iinc (pc2 := 54) 4 (fun x3_895 => [(3, .int x3_895), (5, .int x5_883), (0, .ref 33), (1, .int x1), (2, .int x2), (4, .int x4)]) h rfl dX4_mostFrom_51 ic_1 (by decide) (fun _ => rfl) rfl (fun x3_895 h => ?_)
          refine G_sub (ls' := [(0, .ref 33), (1, .int x1), (2, .int x2), (3, .int x3_895), (4, .int x4)]) [2, 3, 4, 0, 5] rfl ?_
          exact hj54_884 x3_895 h
set_option maxRecDepth 100000 in
set_option maxHeartbeats 4000000 in
theorem c_X4_mostFrom_33 {x1 : Int32} {x2 : Int32} {I : WI} {F : WF} {J : WI} {K : WF} {a : Int32} (h : f_X4_mostFrom_33 x1 x2 I F = some a) : CT md_X4_mostFrom yX4_mostFrom (rmD 2) [.ref 33, .int x1, .int x2] (mkW I F J K) (some (.int a)) (mkW I F J K) := CT_of pn_X4 ⟨rfl, rfl⟩ (Nat.le_of_ble_eq_true rfl) (fun X => by
  show GG X md_X4_mostFrom (rmD 2) _ 0 0 0 [(0, .ref 33), (1, .int x1), (2, .int x2)] [] (mkW I F J K)
  unfold f_X4_mostFrom_33 at h
  refine G_iconst (pc2 := 1) dX4_mostFrom_0 ic_0 rfl ?_
  refine B_istore_n (pc2 := 2) (fun x3_881 => [(3, .int x3_881), (0, .ref 33), (1, .int x1), (2, .int x2)]) h dX4_mostFrom_1 rfl (by decide) (fun _ => rfl) rfl (fun x3_881 h => ?_)
  refine G_iconst (pc2 := 3) dX4_mostFrom_2 ic_0 rfl ?_
  refine B_istore (pc2 := 5) (fun x4_882 => [(4, .int x4_882), (3, .int x3_881), (0, .ref 33), (1, .int x1), (2, .int x2)]) h dX4_mostFrom_3 (by decide) (fun _ => rfl) rfl (fun x4_882 h => ?_)
  refine G_sub (ls' := [(0, .ref 33), (1, .int x1), (2, .int x2), (3, .int x3_881), (4, .int x4_882)]) [2, 3, 4, 1, 0] rfl ?_
  refine g_L_X4_mostFrom_33_5 (fun x3_896 h => ?_) FU x3_881 x4_882 h
  refine G_iload_n (pc2 := 61) 0 rfl dX4_mostFrom_60 rfl rfl ?_
  have ha := Option.some.inj h
  subst ha
  exact G_iret rfl dX4_mostFrom_61)
def L_X4_leastFor_33_3 (k : Option (Int32)) (x1 : Int32) (x2 : Int32) (x3 : Int32) (I : WI) (F : WF) : Nat → Int32 → Option (Int32)
  | 0, _ => none
  | n + 1, x4 =>
  if (I 50) ≤ x4 then (k)
  else (bnd (fun (s_903 : Int32) => bnd s_903 fun x5_904 =>
  bnd (fun (_u : Unit) => bnd (x4 + (1 : Int32)) fun x4_906 =>
  L_X4_leastFor_33_3 k x1 x2 x3 I F n x4_906) fun j80_905 =>
  if x5_904 = 0 then (j80_905 ())
  else (Option.bind (f_X4_mostFrom_33 (x1 + (1 : Int32)) (x2 &&& (((1 : Int32) <<< (x4 &&& 31)) ^^^ (-1 : Int32))) I F) fun c_907 =>
  if c_907 = (x3 - (1 : Int32)) then (some x4)
  else (j80_905 ()))) fun j49_902 =>
  bnd (fun (_u : Unit) => j49_902 (0 : Int32)) fun j48_908 =>
  if ((x2 >>> (x4 &&& 31)) &&& (1 : Int32)) = (1 : Int32) then (ixG x4 9 (
  ixG x1 9 (
  if (F 171 x1.toNatClampNeg) < (F 172 x4.toNatClampNeg) then (j48_908 ())
  else (j49_902 (1 : Int32)))))
  else (j48_908 ()))
def f_X4_leastFor_33 (x1 : Int32) (x2 : Int32) (x3 : Int32) (I : WI) (F : WF) : Option (Int32) :=
  bnd (0 : Int32) fun x4_901 =>
  L_X4_leastFor_33_3 (some (-1 : Int32)) x1 x2 x3 I F FU x4_901
set_option maxRecDepth 100000 in
set_option maxHeartbeats 4000000 in
theorem g_L_X4_leastFor_33_3 {X : XT} {x1 : Int32} {x2 : Int32} {x3 : Int32} {I : WI} {F : WF} {J : WI} {K : WF} {a : Int32} {k : Option (Int32)} (hk : (k = some a → GG X md_X4_leastFor (rmD 3) (gv_Z X (rmD 3).cells (rmD 3).slots (some (.int a)) (mkW I F J K)) 0 0 86 [] [] (mkW I F J K))) : ∀ (n : Nat) (x4 : Int32), L_X4_leastFor_33_3 k x1 x2 x3 I F n x4 = some a → GG X md_X4_leastFor (rmD 3) (gv_Z X (rmD 3).cells (rmD 3).slots (some (.int a)) (mkW I F J K)) 0 0 3 [(0, .ref 33), (1, .int x1), (2, .int x2), (3, .int x3), (4, .int x4)] [] (mkW I F J K) := by
  intro n
  induction n with
  | zero =>
    intro x4 h
    rw [L_X4_leastFor_33_3] at h
    cases h
  | succ n ih =>
    intro x4 h
    rw [L_X4_leastFor_33_3] at h
    refine G_iload (pc2 := 5) 4 rfl dX4_leastFor_3 rfl ?_
    refine G_aload_n (pc2 := 6) 0 rfl dX4_leastFor_5 rfl rfl ?_
    refine T_33_2 (pc2 := 9) kw_307 dX4_leastFor_6 rfl ?_
    refine T_12_0 (pc2 := 12) kw_258 dX4_leastFor_9 rfl ?_
    refine T_13_2 (pc2 := 15) kw_108 dX4_leastFor_12 rfl ?_
    refine B_icmp_ge (tgt := 86) (pc2 := 18) h dX4_leastFor_15 (by decide) rfl (fun _ h => ?_) (fun _ h => ?_)
    · refine G_sub (ls' := []) [] rfl ?_
      exact hk  h
    · refine G_iload_n (pc2 := 19) 2 rfl dX4_leastFor_18 rfl rfl ?_
      refine G_iload (pc2 := 21) 4 rfl dX4_leastFor_19 rfl ?_
      refine G_ishr (pc2 := 22) dX4_leastFor_21 rfl ?_
      refine G_iconst (pc2 := 23) dX4_leastFor_22 ic_1 rfl ?_
      refine G_iand (pc2 := 24) dX4_leastFor_23 rfl ?_
      refine G_iconst (pc2 := 25) dX4_leastFor_24 ic_1 rfl ?_
      refine jn_e (Gj := True) (fun (j : Int32 → Option (Int32)) => ∀ (s_903 : Int32), j s_903 = some a → GG X md_X4_leastFor (rmD 3) (gv_Z X (rmD 3).cells (rmD 3).slots (some (.int a)) (mkW I F J K)) 0 0 49 [(0, .ref 33), (1, .int x1), (2, .int x2), (3, .int x3), (4, .int x4)] [.int s_903] (mkW I F J K)) h (fun s_903 h => ?_) (fun j49_902 hj49_902 h => ?_)
      · refine B_istore (pc2 := 51) (fun x5_904 => [(5, .int x5_904), (0, .ref 33), (1, .int x1), (2, .int x2), (3, .int x3), (4, .int x4)]) h dX4_leastFor_49 (by decide) (fun _ => rfl) rfl (fun x5_904 h => ?_)
        refine G_iload (pc2 := 53) 0 rfl dX4_leastFor_51 rfl ?_
        refine jn_e (Gj := True) (fun (j : Unit → Option (Int32)) => ∀ (_u : Unit), j _u = some a → GG X md_X4_leastFor (rmD 3) (gv_Z X (rmD 3).cells (rmD 3).slots (some (.int a)) (mkW I F J K)) 0 0 80 [(0, .ref 33), (1, .int x1), (2, .int x2), (3, .int x3), (4, .int x4)] [] (mkW I F J K)) h (fun _u h => ?_) (fun j80_905 hj80_905 h => ?_)
        · refine B_iinc (pc2 := 83) 4 (fun x4_906 => [(4, .int x4_906), (0, .ref 33), (1, .int x1), (2, .int x2), (3, .int x3)]) h rfl dX4_leastFor_80 ic_1 (by decide) (fun _ => rfl) rfl (fun x4_906 h => ?_)
          refine G_goto (tgt := 3) dX4_leastFor_83 (by decide) ?_
          refine G_sub (ls' := [(0, .ref 33), (1, .int x1), (2, .int x2), (3, .int x3), (4, .int x4_906)]) [1, 2, 3, 4, 0] rfl ?_
          exact ih x4_906 h
        refine B_if_eq (tgt := 80) (pc2 := 56) h dX4_leastFor_53 (by decide) rfl (fun _ h => ?_) (fun _ h => ?_)
        · refine G_sub (ls' := [(0, .ref 33), (1, .int x1), (2, .int x2), (3, .int x3), (4, .int x4)]) [1, 2, 3, 4, 5] rfl ?_
          exact hj80_905 () h
        · refine G_aload_n (pc2 := 57) 1 rfl dX4_leastFor_56 rfl rfl ?_
          refine G_iload_n (pc2 := 58) 2 rfl dX4_leastFor_57 rfl rfl ?_
          refine G_iconst (pc2 := 59) dX4_leastFor_58 ic_1 rfl ?_
          refine G_iadd (pc2 := 60) dX4_leastFor_59 rfl ?_
          refine G_iload_n (pc2 := 61) 3 rfl dX4_leastFor_60 rfl rfl ?_
          refine G_iconst (pc2 := 62) dX4_leastFor_61 ic_1 rfl ?_
          refine G_iload (pc2 := 64) 5 rfl dX4_leastFor_62 rfl ?_
          refine G_ishl (pc2 := 65) dX4_leastFor_64 rfl ?_
          refine G_iconst (pc2 := 66) dX4_leastFor_65 ic_m1 rfl ?_
          refine G_ixor (pc2 := 67) dX4_leastFor_66 rfl ?_
          refine G_iand (pc2 := 68) dX4_leastFor_67 rfl ?_
          obtain ⟨c_907, hc_907, h⟩ := ob_e h
          refine B_callV (pc2 := 71) si_X4_44 (c_X4_mostFrom_33 hc_907) (qo_33 _ _ _ _) rfl rfl rfl (st := []) (stq := [.int c_907]) rfl (by decide) (by decide) (Nat.le_of_ble_eq_true rfl) mkW_ll dX4_leastFor_68 rfl rfl ?_ ⟨rfl, rfl⟩
          refine G_iload_n (pc2 := 72) 4 rfl dX4_leastFor_71 rfl rfl ?_
          refine G_iconst (pc2 := 73) dX4_leastFor_72 ic_1 rfl ?_
          refine G_isub (pc2 := 74) dX4_leastFor_73 rfl ?_
          refine B_icmp_ne (tgt := 80) (pc2 := 77) h dX4_leastFor_74 (by decide) rfl (fun _ h => ?_) (fun _ h => ?_)
          · refine G_sub (ls' := [(0, .ref 33), (1, .int x1), (2, .int x2), (3, .int x3), (4, .int x4)]) [1, 2, 3, 4, 5] rfl ?_
            exact hj80_905 () h
          · refine G_iload (pc2 := 79) 5 rfl dX4_leastFor_77 rfl ?_
            have ha := Option.some.inj h
            subst ha
            exact G_iret rfl dX4_leastFor_79
      refine jn_e (Gj := True) (fun (j : Unit → Option (Int32)) => ∀ (_u : Unit), j _u = some a → GG X md_X4_leastFor (rmD 3) (gv_Z X (rmD 3).cells (rmD 3).slots (some (.int a)) (mkW I F J K)) 0 0 48 [(0, .ref 33), (1, .int x1), (2, .int x2), (3, .int x3), (4, .int x4)] [] (mkW I F J K)) h (fun _u h => ?_) (fun j48_908 hj48_908 h => ?_)
      · refine G_iconst (pc2 := 49) dX4_leastFor_48 ic_0 rfl ?_
        exact hj49_902 (0 : Int32) h
      refine B_icmp_ne (tgt := 48) (pc2 := 28) h dX4_leastFor_25 (by decide) rfl (fun _ h => ?_) (fun _ h => ?_)
      · exact hj48_908 () h
      · refine G_aload_n (pc2 := 29) 0 rfl dX4_leastFor_28 rfl rfl ?_
        refine T_33_4 (pc2 := 32) kw_309 dX4_leastFor_29 rfl ?_
        refine G_iload (pc2 := 34) 4 rfl dX4_leastFor_32 rfl ?_
        refine AC (pc2 := 35) (fa_36 _ _ _ _) h dX4_leastFor_34 rfl (fun h => ?_)
        refine G_aload_n (pc2 := 36) 0 rfl dX4_leastFor_35 rfl rfl ?_
        refine T_33_3 (pc2 := 39) kw_308 dX4_leastFor_36 rfl ?_
        refine G_iload_n (pc2 := 40) 1 rfl dX4_leastFor_39 rfl rfl ?_
        refine AC (pc2 := 41) (fa_35 _ _ _ _) h dX4_leastFor_40 rfl (fun h => ?_)
        refine B_icmp_gt (tgt := 48) (pc2 := 44) h dX4_leastFor_41 (by decide) rfl (fun _ h => ?_) (fun _ h => ?_)
        · exact hj48_908 () h
        · refine G_iconst (pc2 := 45) dX4_leastFor_44 ic_1 rfl ?_
          refine G_goto (tgt := 49) dX4_leastFor_45 (by decide) ?_
          exact hj49_902 (1 : Int32) h
set_option maxRecDepth 100000 in
set_option maxHeartbeats 4000000 in
theorem c_X4_leastFor_33 {x1 : Int32} {x2 : Int32} {x3 : Int32} {I : WI} {F : WF} {J : WI} {K : WF} {a : Int32} (h : f_X4_leastFor_33 x1 x2 x3 I F = some a) : CT md_X4_leastFor yX4_leastFor (rmD 3) [.ref 33, .int x1, .int x2, .int x3] (mkW I F J K) (some (.int a)) (mkW I F J K) := CT_of pn_X4 ⟨rfl, rfl⟩ (Nat.le_of_ble_eq_true rfl) (fun X => by
  show GG X md_X4_leastFor (rmD 3) _ 0 0 0 [(0, .ref 33), (1, .int x1), (2, .int x2), (3, .int x3)] [] (mkW I F J K)
  unfold f_X4_leastFor_33 at h
  refine G_iconst (pc2 := 1) dX4_leastFor_0 ic_0 rfl ?_
  refine B_istore (pc2 := 3) (fun x4_901 => [(4, .int x4_901), (0, .ref 33), (1, .int x1), (2, .int x2), (3, .int x3)]) h dX4_leastFor_1 (by decide) (fun _ => rfl) rfl (fun x4_901 h => ?_)
  refine G_sub (ls' := [(0, .ref 33), (1, .int x1), (2, .int x2), (3, .int x3), (4, .int x4_901)]) [1, 2, 3, 4, 0] rfl ?_
  refine g_L_X4_leastFor_33_3 (fun h => ?_) FU x4_901 h
  refine G_iconst (pc2 := 87) dX4_leastFor_86 ic_m1 rfl ?_
  have ha := Option.some.inj h
  subst ha
  exact G_iret rfl dX4_leastFor_87)
def L_X4_choose_33_38 (k : WF → Option (WI × WF))  (I : WI) : Nat → Int32 → Int32 → Int32 → WF → Option (WI × WF)
  | 0, _, _, _, _ => none
  | n + 1, x2, x3, x4, F =>
  if (I 49) ≤ x4 then (k F)
  else (Option.bind (f_X4_leastFor_33 x4 x2 x3 I F) fun c_909 =>
  ixG x4 9 (bnd (uF F 170 (upd (F 170) x4.toNatClampNeg c_909)) fun F_910 =>
  ixG x4 9 (
  bnd (fun (x2_912 : Int32) (x3_913 : Int32) => bnd (x4 + (1 : Int32)) fun x4_914 =>
  L_X4_choose_33_38 k I n x2_912 x3_913 x4_914 F_910) fun j96_911 =>
  if (F_910 170 x4.toNatClampNeg) = (-1 : Int32) then (j96_911 x2 x3)
  else (ixG x4 9 (
  bnd (x2 &&& (((1 : Int32) <<< ((F_910 170 x4.toNatClampNeg) &&& 31)) ^^^ (-1 : Int32))) fun x2_915 =>
  bnd (x3 + (-1 : Int32)) fun x3_916 =>
  j96_911 x2_915 x3_916)))))
def f_X4_choose_33 (x1 : Int32) (I : WI) (F : WF) : Option (WI × WF) :=
  Option.bind (f_X4_prepare_33 x1 I F) fun c_879 =>
  bnd (((1 : Int32) <<< ((I 50) &&& 31)) - (1 : Int32)) fun x2_880 =>
  Option.bind (f_X4_mostFrom_33 (0 : Int32) x2_880 I c_879) fun c_897 =>
  bnd (upd I 56 c_897) fun I_898 =>
  bnd (I_898 56) fun x3_899 =>
  bnd (0 : Int32) fun x4_900 =>
  L_X4_choose_33_38 (fun F_917 => some (I_898, F_917)) I_898 FU x2_880 x3_899 x4_900 c_879
set_option maxRecDepth 100000 in
set_option maxHeartbeats 4000000 in
theorem g_L_X4_choose_33_38 {X : XT} {I : WI} {J : WI} {K : WF} {a : WI × WF} {k : WF → Option (WI × WF)} (hk : ∀ (F' : WF), (k F' = some a → GG X md_X4_choose (rmD 4) (gv_Z X (rmD 4).cells (rmD 4).slots none (mkW a.1 a.2 J K)) 0 0 102 [] [] (mkW I F' J K))) : ∀ (n : Nat) (x2 : Int32) (x3 : Int32) (x4 : Int32) (F : WF), L_X4_choose_33_38 k I n x2 x3 x4 F = some a → GG X md_X4_choose (rmD 4) (gv_Z X (rmD 4).cells (rmD 4).slots none (mkW a.1 a.2 J K)) 0 0 38 [(0, .ref 33), (2, .int x2), (3, .int x3), (4, .int x4)] [] (mkW I F J K) := by
  intro n
  induction n with
  | zero =>
    intro x2 x3 x4 F h
    rw [L_X4_choose_33_38] at h
    cases h
  | succ n ih =>
    intro x2 x3 x4 F h
    rw [L_X4_choose_33_38] at h
    refine G_iload (pc2 := 40) 3 rfl dX4_choose_38 rfl ?_
    refine G_aload_n (pc2 := 41) 0 rfl dX4_choose_40 rfl rfl ?_
    refine T_33_2 (pc2 := 44) kw_307 dX4_choose_41 rfl ?_
    refine T_12_0 (pc2 := 47) kw_258 dX4_choose_44 rfl ?_
    refine T_13_1 (pc2 := 50) kw_102 dX4_choose_47 rfl ?_
    refine B_icmp_ge (tgt := 102) (pc2 := 53) h dX4_choose_50 (by decide) rfl (fun _ h => ?_) (fun _ h => ?_)
    · refine G_sub (ls' := []) [] rfl ?_
      exact hk F h
    · refine G_aload_n (pc2 := 54) 0 rfl dX4_choose_53 rfl rfl ?_
      refine T_33_1 (pc2 := 57) kw_305 dX4_choose_54 rfl ?_
      refine G_iload (pc2 := 59) 3 rfl dX4_choose_57 rfl ?_
      refine G_aload_n (pc2 := 60) 0 rfl dX4_choose_59 rfl rfl ?_
      refine G_iload (pc2 := 62) 3 rfl dX4_choose_60 rfl ?_
      refine G_iload_n (pc2 := 63) 1 rfl dX4_choose_62 rfl rfl ?_
      refine G_iload_n (pc2 := 64) 2 rfl dX4_choose_63 rfl rfl ?_
      obtain ⟨c_909, hc_909, h⟩ := ob_e h
      refine B_callV (pc2 := 67) si_X4_54 (c_X4_leastFor_33 hc_909) (qo_33 _ _ _ _) rfl rfl rfl (st := [.int x4, .ref 34]) (stq := [.int c_909, .int x4, .ref 34]) rfl (by decide) (by decide) (Nat.le_of_ble_eq_true rfl) mkW_ll dX4_choose_64 rfl rfl ?_ ⟨rfl, rfl⟩
      refine SC (pc2 := 68) (fa_34 _ _ _ _) h dX4_choose_67 rfl (fun F_910 h => ?_)
      refine G_aload_n (pc2 := 69) 0 rfl dX4_choose_68 rfl rfl ?_
      refine T_33_1 (pc2 := 72) kw_305 dX4_choose_69 rfl ?_
      refine G_iload (pc2 := 74) 3 rfl dX4_choose_72 rfl ?_
      refine AC (pc2 := 75) (fa_34 _ _ _ _) h dX4_choose_74 rfl (fun h => ?_)
      refine G_iconst (pc2 := 76) dX4_choose_75 ic_m1 rfl ?_
      refine jn_e (Gj := True) (fun (j : Int32 → Int32 → Option (WI × WF)) => ∀ (x2_912 : Int32) (x3_913 : Int32), j x2_912 x3_913 = some a → GG X md_X4_choose (rmD 4) (gv_Z X (rmD 4).cells (rmD 4).slots none (mkW a.1 a.2 J K)) 0 0 96 [(0, .ref 33), (2, .int x2_912), (3, .int x3_913), (4, .int x4)] [] (mkW I F_910 J K)) h (fun x2_912 x3_913 h => ?_) (fun j96_911 hj96_911 h => ?_)
      · refine B_iinc (pc2 := 99) 3 (fun x4_914 => [(4, .int x4_914), (0, .ref 33), (2, .int x2_912), (3, .int x3_913)]) h rfl dX4_choose_96 ic_1 (by decide) (fun _ => rfl) rfl (fun x4_914 h => ?_)
        refine G_goto (tgt := 38) dX4_choose_99 (by decide) ?_
        refine G_sub (ls' := [(0, .ref 33), (2, .int x2_912), (3, .int x3_913), (4, .int x4_914)]) [1, 2, 3, 0] rfl ?_
        exact ih x2_912 x3_913 x4_914 F_910 h
      refine B_icmp_eq (tgt := 96) (pc2 := 79) h dX4_choose_76 (by decide) rfl (fun _ h => ?_) (fun _ h => ?_)
      · exact hj96_911 x2 x3 h
      · refine G_iload_n (pc2 := 80) 1 rfl dX4_choose_79 rfl rfl ?_
        refine G_iconst (pc2 := 81) dX4_choose_80 ic_1 rfl ?_
        refine G_aload_n (pc2 := 82) 0 rfl dX4_choose_81 rfl rfl ?_
        refine T_33_1 (pc2 := 85) kw_305 dX4_choose_82 rfl ?_
        refine G_iload (pc2 := 87) 3 rfl dX4_choose_85 rfl ?_
        refine AC (pc2 := 88) (fa_34 _ _ _ _) h dX4_choose_87 rfl (fun h => ?_)
        refine G_ishl (pc2 := 89) dX4_choose_88 rfl ?_
        refine G_iconst (pc2 := 90) dX4_choose_89 ic_m1 rfl ?_
        refine G_ixor (pc2 := 91) dX4_choose_90 rfl ?_
        refine G_iand (pc2 := 92) dX4_choose_91 rfl ?_
        refine B_istore_n (pc2 := 93) (fun x2_915 => [(2, .int x2_915), (0, .ref 33), (3, .int x3), (4, .int x4)]) h dX4_choose_92 rfl (by decide) (fun _ => rfl) rfl (fun x2_915 h => ?_)
        refine B_iinc (pc2 := 96) 2 (fun x3_916 => [(3, .int x3_916), (2, .int x2_915), (0, .ref 33), (4, .int x4)]) h rfl dX4_choose_93 ic_m1 (by decide) (fun _ => rfl) rfl (fun x3_916 h => ?_)
        refine G_sub (ls' := [(0, .ref 33), (2, .int x2_915), (3, .int x3_916), (4, .int x4)]) [2, 1, 0, 3] rfl ?_
        exact hj96_911 x2_915 x3_916 h
set_option maxRecDepth 100000 in
set_option maxHeartbeats 4000000 in
theorem c_X4_choose_33 {x1 : Int32} {I : WI} {F : WF} {J : WI} {K : WF} {a : WI × WF} (h : f_X4_choose_33 x1 I F = some a) : CT md_X4_choose yX4_choose (rmD 4) [.ref 33, .int x1] (mkW I F J K) none (mkW a.1 a.2 J K) := CT_of pn_X4 ⟨rfl, rfl⟩ (Nat.le_of_ble_eq_true rfl) (fun X => by
  show GG X md_X4_choose (rmD 4) _ 0 0 0 [(0, .ref 33), (1, .int x1)] [] (mkW I F J K)
  unfold f_X4_choose_33 at h
  refine G_aload_n (pc2 := 1) 0 rfl dX4_choose_0 rfl rfl ?_
  refine G_iload_n (pc2 := 2) 1 rfl dX4_choose_1 rfl rfl ?_
  obtain ⟨c_879, hc_879, h⟩ := ob_e h
  refine B_callV (pc2 := 5) si_X4_28 (c_X4_prepare_33 hc_879) (qo_33 _ _ _ _) rfl rfl rfl (st := []) (stq := []) rfl (by decide) (by decide) (Nat.le_of_ble_eq_true rfl) mkW_ll dX4_choose_2 rfl rfl ?_ ⟨rfl, rfl⟩
  refine G_iconst (pc2 := 6) dX4_choose_5 ic_1 rfl ?_
  refine G_aload_n (pc2 := 7) 0 rfl dX4_choose_6 rfl rfl ?_
  refine T_33_2 (pc2 := 10) kw_307 dX4_choose_7 rfl ?_
  refine T_12_0 (pc2 := 13) kw_258 dX4_choose_10 rfl ?_
  refine T_13_2 (pc2 := 16) kw_108 dX4_choose_13 rfl ?_
  refine G_ishl (pc2 := 17) dX4_choose_16 rfl ?_
  refine G_iconst (pc2 := 18) dX4_choose_17 ic_1 rfl ?_
  refine G_isub (pc2 := 19) dX4_choose_18 rfl ?_
  refine B_istore_n (pc2 := 20) (fun x2_880 => [(2, .int x2_880), (0, .ref 33), (1, .int x1)]) h dX4_choose_19 rfl (by decide) (fun _ => rfl) rfl (fun x2_880 h => ?_)
  refine G_aload_n (pc2 := 21) 1 rfl dX4_choose_20 rfl rfl ?_
  refine G_aload_n (pc2 := 22) 1 rfl dX4_choose_21 rfl rfl ?_
  refine G_iconst (pc2 := 23) dX4_choose_22 ic_0 rfl ?_
  refine G_iload_n (pc2 := 24) 0 rfl dX4_choose_23 rfl rfl ?_
  obtain ⟨c_897, hc_897, h⟩ := ob_e h
  refine B_callV (pc2 := 27) si_X4_44 (c_X4_mostFrom_33 hc_897) (qo_33 _ _ _ _) rfl rfl rfl (st := [.ref 33]) (stq := [.int c_897, .ref 33]) rfl (by decide) (by decide) (Nat.le_of_ble_eq_true rfl) mkW_ll dX4_choose_24 rfl rfl ?_ ⟨rfl, rfl⟩
  refine P_33_0 (pc2 := 30) h kw_303 dX4_choose_27 rfl (fun I_898 h => ?_)
  refine G_aload_n (pc2 := 31) 1 rfl dX4_choose_30 rfl rfl ?_
  refine T_33_0 (pc2 := 34) kw_303 dX4_choose_31 rfl ?_
  refine B_istore_n (pc2 := 35) (fun x3_899 => [(3, .int x3_899), (2, .int x2_880), (0, .ref 33), (1, .int x1)]) h dX4_choose_34 rfl (by decide) (fun _ => rfl) rfl (fun x3_899 h => ?_)
  refine G_iconst (pc2 := 36) dX4_choose_35 ic_0 rfl ?_
  refine B_istore (pc2 := 38) (fun x4_900 => [(4, .int x4_900), (3, .int x3_899), (2, .int x2_880), (0, .ref 33), (1, .int x1)]) h dX4_choose_36 (by decide) (fun _ => rfl) rfl (fun x4_900 h => ?_)
  refine G_sub (ls' := [(0, .ref 33), (2, .int x2_880), (3, .int x3_899), (4, .int x4_900)]) [3, 2, 1, 0] rfl ?_
  refine g_L_X4_choose_33_38 (fun F_917 h => ?_) FU x2_880 x3_899 x4_900 c_879 h
  have ha := Option.some.inj h
  subst ha
  exact G_vret rfl dX4_choose_102)
def f_X10_posts (x1 : Int32) (x2 : Int32) (I : WI) (F : WF) : Option (Int32 × WI × WF) :=
  Option.bind (f_X7_hasJumper_13 x1 I F) fun c_861 =>
  if c_861 = 0 then (some ((-1000000001 : Int32), I, F))
  else (bnd (fun (_u : Unit) => Option.bind (f_X4_choose_33 x1 I F) fun c_918 =>
  if x2 = (-1 : Int32) then (some ((c_918.1 56), c_918.1, c_918.2))
  else (ixG x2 9 (
  some ((c_918.2 170 x2.toNatClampNeg), c_918.1, c_918.2)))) fun j30_862 =>
  if x2 = (-1 : Int32) then (j30_862 ())
  else (Option.bind (f_X7_hasBridge_13 x2 I F) fun c_919 =>
  if c_919 = 0 then (some ((-1000000001 : Int32), I, F))
  else (j30_862 ())))
set_option maxRecDepth 100000 in
set_option maxHeartbeats 4000000 in
theorem c_X10_posts {x1 : Int32} {x2 : Int32} {I : WI} {F : WF} {J : WI} {K : WF} {a : Int32 × WI × WF} (h : f_X10_posts x1 x2 I F = some a) : CT md_X10_posts yX10_posts (rmD 5) [.ref 0, .int x1, .int x2] (mkW I F J K) (some (.int a.1)) (mkW a.2.1 a.2.2 J K) := CT_of pn_X10 ⟨rfl, rfl⟩ (Nat.le_of_ble_eq_true rfl) (fun X => by
  show GG X md_X10_posts (rmD 5) _ 0 0 0 [(0, .ref 0), (1, .int x1), (2, .int x2)] [] (mkW I F J K)
  unfold f_X10_posts at h
  refine G_aload_n (pc2 := 1) 0 rfl dX10_posts_0 rfl rfl ?_
  refine T_0_2 (pc2 := 4) kw_402 dX10_posts_1 rfl ?_
  refine G_iload_n (pc2 := 5) 1 rfl dX10_posts_4 rfl rfl ?_
  obtain ⟨c_861, hc_861, h⟩ := ob_e h
  refine B_callV (pc2 := 8) si_X10_203 (c_X7_hasJumper_13 hc_861) (qo_13 _ _ _ _) rfl rfl rfl (st := []) (stq := [.int c_861]) rfl (by decide) (by decide) (Nat.le_of_ble_eq_true rfl) mkW_ll dX10_posts_5 rfl rfl ?_ ⟨rfl, rfl⟩
  refine B_if_eq (tgt := 27) (pc2 := 11) h dX10_posts_8 (by decide) rfl (fun _ h => ?_) (fun _ h => ?_)
  · refine G_ldc (pc2 := 29) kw_605 dX10_posts_27 rfl ?_
    have ha := Option.some.inj h
    subst ha
    exact G_iret rfl dX10_posts_29
  · refine G_iload_n (pc2 := 12) 2 rfl dX10_posts_11 rfl rfl ?_
    refine G_iconst (pc2 := 13) dX10_posts_12 ic_m1 rfl ?_
    refine jn_e (Gj := True) (fun (j : Unit → Option (Int32 × WI × WF)) => ∀ (_u : Unit), j _u = some a → GG X md_X10_posts (rmD 5) (gv_Z X (rmD 5).cells (rmD 5).slots (some (.int a.1)) (mkW a.2.1 a.2.2 J K)) 0 0 30 [(0, .ref 0), (1, .int x1), (2, .int x2)] [] (mkW I F J K)) h (fun _u h => ?_) (fun j30_862 hj30_862 h => ?_)
    · refine G_aload_n (pc2 := 31) 0 rfl dX10_posts_30 rfl rfl ?_
      refine T_0_5 (pc2 := 34) kw_405 dX10_posts_31 rfl ?_
      refine G_iload_n (pc2 := 35) 1 rfl dX10_posts_34 rfl rfl ?_
      obtain ⟨c_918, hc_918, h⟩ := ob_e h
      refine B_callV (pc2 := 38) si_X10_277 (c_X4_choose_33 hc_918) (qo_33 _ _ _ _) rfl rfl rfl (st := []) (stq := []) rfl (by decide) (by decide) (Nat.le_of_ble_eq_true rfl) mkW_ll dX10_posts_35 rfl rfl ?_ ⟨rfl, rfl⟩
      refine G_iload_n (pc2 := 39) 2 rfl dX10_posts_38 rfl rfl ?_
      refine G_iconst (pc2 := 40) dX10_posts_39 ic_m1 rfl ?_
      refine B_icmp_ne (tgt := 53) (pc2 := 43) h dX10_posts_40 (by decide) rfl (fun _ h => ?_) (fun _ h => ?_)
      · refine G_aload_n (pc2 := 54) 0 rfl dX10_posts_53 rfl rfl ?_
        refine T_0_5 (pc2 := 57) kw_405 dX10_posts_54 rfl ?_
        refine T_33_1 (pc2 := 60) kw_306 dX10_posts_57 rfl ?_
        refine G_iload_n (pc2 := 61) 2 rfl dX10_posts_60 rfl rfl ?_
        refine AC (pc2 := 62) (fa_34 _ _ _ _) h dX10_posts_61 rfl (fun h => ?_)
        have ha := Option.some.inj h
        subst ha
        exact G_iret rfl dX10_posts_62
      · refine G_aload_n (pc2 := 44) 0 rfl dX10_posts_43 rfl rfl ?_
        refine T_0_5 (pc2 := 47) kw_405 dX10_posts_44 rfl ?_
        refine T_33_0 (pc2 := 50) kw_304 dX10_posts_47 rfl ?_
        refine G_goto (tgt := 62) dX10_posts_50 (by decide) ?_
        have ha := Option.some.inj h
        subst ha
        exact G_iret rfl dX10_posts_62
    refine B_icmp_eq (tgt := 30) (pc2 := 16) h dX10_posts_13 (by decide) rfl (fun _ h => ?_) (fun _ h => ?_)
    · exact hj30_862 () h
    · refine G_aload_n (pc2 := 17) 0 rfl dX10_posts_16 rfl rfl ?_
      refine T_0_2 (pc2 := 20) kw_402 dX10_posts_17 rfl ?_
      refine G_iload_n (pc2 := 21) 2 rfl dX10_posts_20 rfl rfl ?_
      obtain ⟨c_919, hc_919, h⟩ := ob_e h
      refine B_callV (pc2 := 24) si_X10_160 (c_X7_hasBridge_13 hc_919) (qo_13 _ _ _ _) rfl rfl rfl (st := []) (stq := [.int c_919]) rfl (by decide) (by decide) (Nat.le_of_ble_eq_true rfl) mkW_ll dX10_posts_21 rfl rfl ?_ ⟨rfl, rfl⟩
      refine B_if_ne (tgt := 30) (pc2 := 27) h dX10_posts_24 (by decide) rfl (fun _ h => ?_) (fun _ h => ?_)
      · exact hj30_862 () h
      · refine G_ldc (pc2 := 29) kw_605 dX10_posts_27 rfl ?_
        have ha := Option.some.inj h
        subst ha
        exact G_iret rfl dX10_posts_29)
def L_X10_tires_64 (k : Option (Int32)) (x3 : Int32) (x4 : Int32) (I : WI) (F : WF) : Nat → Int32 → Option (Int32)
  | 0, _ => none
  | n + 1, x5 =>
  if (99 : Int32) < x5 then (k)
  else (Option.bind (f_X1_timeIfTired_12 x3 x5 I F) fun c_927 =>
  if c_927 ≤ x4 then (bnd (x5 + (1 : Int32)) fun x5_928 =>
  L_X10_tires_64 k x3 x4 I F n x5_928)
  else (ixG x3 9 (
  some (x5 - (F 2 x3.toNatClampNeg)))))
def f_X10_tires (x1 : Int32) (x2 : Int32) (I : WI) (F : WF) : Option (Int32) :=
  Option.bind (f_X7_hasJumper_13 x1 I F) fun c_920 =>
  if c_920 = 0 then (some (-1000000001 : Int32))
  else (Option.bind (f_X7_hasBridge_13 x2 I F) fun c_921 =>
  if c_921 = 0 then (some (-1000000001 : Int32))
  else (Option.bind (f_X1_keeperAt_12 x2 I F) fun c_922 =>
  bnd c_922 fun x3_923 =>
  if x3_923 = (-1 : Int32) then (some (-1000000003 : Int32))
  else (Option.bind (f_X1_flightOver_12 x1 x2 I F) fun c_924 =>
  bnd c_924 fun x4_925 =>
  ixG x3_923 9 (
  bnd (F 2 x3_923.toNatClampNeg) fun x5_926 =>
  L_X10_tires_64 (some (-1 : Int32)) x3_923 x4_925 I F FU x5_926))))
set_option maxRecDepth 100000 in
set_option maxHeartbeats 4000000 in
theorem g_L_X10_tires_64 {X : XT} {x3 : Int32} {x4 : Int32} {I : WI} {F : WF} {J : WI} {K : WF} {a : Int32} {k : Option (Int32)} (hk : (k = some a → GG X md_X10_tires (rmD 2) (gv_Z X (rmD 2).cells (rmD 2).slots (some (.int a)) (mkW I F J K)) 0 0 105 [] [] (mkW I F J K))) : ∀ (n : Nat) (x5 : Int32), L_X10_tires_64 k x3 x4 I F n x5 = some a → GG X md_X10_tires (rmD 2) (gv_Z X (rmD 2).cells (rmD 2).slots (some (.int a)) (mkW I F J K)) 0 0 64 [(0, .ref 0), (3, .int x3), (4, .int x4), (5, .int x5)] [] (mkW I F J K) := by
  intro n
  induction n with
  | zero =>
    intro x5 h
    rw [L_X10_tires_64] at h
    cases h
  | succ n ih =>
    intro x5 h
    rw [L_X10_tires_64] at h
    refine G_iload (pc2 := 66) 3 rfl dX10_tires_64 rfl ?_
    refine G_bipush (pc2 := 68) dX10_tires_66 ib_99 rfl ?_
    refine B_icmp_gt (tgt := 105) (pc2 := 71) h dX10_tires_68 (by decide) rfl (fun _ h => ?_) (fun _ h => ?_)
    · refine G_sub (ls' := []) [] rfl ?_
      exact hk  h
    · refine G_aload_n (pc2 := 72) 0 rfl dX10_tires_71 rfl rfl ?_
      refine T_0_1 (pc2 := 75) kw_401 dX10_tires_72 rfl ?_
      refine G_iload_n (pc2 := 76) 1 rfl dX10_tires_75 rfl rfl ?_
      refine G_iload (pc2 := 78) 3 rfl dX10_tires_76 rfl ?_
      obtain ⟨c_927, hc_927, h⟩ := ob_e h
      refine B_callV (pc2 := 81) si_X10_284 (c_X1_timeIfTired_12 hc_927) (qo_12 _ _ _ _) rfl rfl rfl (st := []) (stq := [.int c_927]) rfl (by decide) (by decide) (Nat.le_of_ble_eq_true rfl) mkW_ll dX10_tires_78 rfl rfl ?_ ⟨rfl, rfl⟩
      refine G_iload (pc2 := 83) 2 rfl dX10_tires_81 rfl ?_
      refine B_icmp_le (tgt := 99) (pc2 := 86) h dX10_tires_83 (by decide) rfl (fun _ h => ?_) (fun _ h => ?_)
      · refine B_iinc (pc2 := 102) 3 (fun x5_928 => [(5, .int x5_928), (0, .ref 0), (3, .int x3), (4, .int x4)]) h rfl dX10_tires_99 ic_1 (by decide) (fun _ => rfl) rfl (fun x5_928 h => ?_)
        refine G_goto (tgt := 64) dX10_tires_102 (by decide) ?_
        refine G_sub (ls' := [(0, .ref 0), (3, .int x3), (4, .int x4), (5, .int x5_928)]) [1, 2, 3, 0] rfl ?_
        exact ih x5_928 h
      · refine G_iload (pc2 := 88) 3 rfl dX10_tires_86 rfl ?_
        refine G_aload_n (pc2 := 89) 0 rfl dX10_tires_88 rfl rfl ?_
        refine T_0_3 (pc2 := 92) kw_403 dX10_tires_89 rfl ?_
        refine T_22_4 (pc2 := 95) kw_220 dX10_tires_92 rfl ?_
        refine G_iload_n (pc2 := 96) 1 rfl dX10_tires_95 rfl rfl ?_
        refine AC (pc2 := 97) (fa_25 _ _ _ _) h dX10_tires_96 rfl (fun h => ?_)
        refine G_isub (pc2 := 98) dX10_tires_97 rfl ?_
        have ha := Option.some.inj h
        subst ha
        exact G_iret rfl dX10_tires_98
set_option maxRecDepth 100000 in
set_option maxHeartbeats 4000000 in
theorem c_X10_tires {x1 : Int32} {x2 : Int32} {I : WI} {F : WF} {J : WI} {K : WF} {a : Int32} (h : f_X10_tires x1 x2 I F = some a) : CT md_X10_tires yX10_tires (rmD 2) [.ref 0, .int x1, .int x2] (mkW I F J K) (some (.int a)) (mkW I F J K) := CT_of pn_X10 ⟨rfl, rfl⟩ (Nat.le_of_ble_eq_true rfl) (fun X => by
  show GG X md_X10_tires (rmD 2) _ 0 0 0 [(0, .ref 0), (1, .int x1), (2, .int x2)] [] (mkW I F J K)
  unfold f_X10_tires at h
  refine G_aload_n (pc2 := 1) 0 rfl dX10_tires_0 rfl rfl ?_
  refine T_0_2 (pc2 := 4) kw_402 dX10_tires_1 rfl ?_
  refine G_iload_n (pc2 := 5) 1 rfl dX10_tires_4 rfl rfl ?_
  obtain ⟨c_920, hc_920, h⟩ := ob_e h
  refine B_callV (pc2 := 8) si_X10_203 (c_X7_hasJumper_13 hc_920) (qo_13 _ _ _ _) rfl rfl rfl (st := []) (stq := [.int c_920]) rfl (by decide) (by decide) (Nat.le_of_ble_eq_true rfl) mkW_ll dX10_tires_5 rfl rfl ?_ ⟨rfl, rfl⟩
  refine B_if_eq (tgt := 22) (pc2 := 11) h dX10_tires_8 (by decide) rfl (fun _ h => ?_) (fun _ h => ?_)
  · refine G_ldc (pc2 := 24) kw_605 dX10_tires_22 rfl ?_
    have ha := Option.some.inj h
    subst ha
    exact G_iret rfl dX10_tires_24
  · refine G_aload_n (pc2 := 12) 0 rfl dX10_tires_11 rfl rfl ?_
    refine T_0_2 (pc2 := 15) kw_402 dX10_tires_12 rfl ?_
    refine G_iload_n (pc2 := 16) 2 rfl dX10_tires_15 rfl rfl ?_
    obtain ⟨c_921, hc_921, h⟩ := ob_e h
    refine B_callV (pc2 := 19) si_X10_160 (c_X7_hasBridge_13 hc_921) (qo_13 _ _ _ _) rfl rfl rfl (st := []) (stq := [.int c_921]) rfl (by decide) (by decide) (Nat.le_of_ble_eq_true rfl) mkW_ll dX10_tires_16 rfl rfl ?_ ⟨rfl, rfl⟩
    refine B_if_ne (tgt := 25) (pc2 := 22) h dX10_tires_19 (by decide) rfl (fun _ h => ?_) (fun _ h => ?_)
    · refine G_aload_n (pc2 := 26) 0 rfl dX10_tires_25 rfl rfl ?_
      refine T_0_1 (pc2 := 29) kw_401 dX10_tires_26 rfl ?_
      refine G_iload_n (pc2 := 30) 2 rfl dX10_tires_29 rfl rfl ?_
      obtain ⟨c_922, hc_922, h⟩ := ob_e h
      refine B_callV (pc2 := 33) si_X10_178 (c_X1_keeperAt_12 hc_922) (qo_12 _ _ _ _) rfl rfl rfl (st := []) (stq := [.int c_922]) rfl (by decide) (by decide) (Nat.le_of_ble_eq_true rfl) mkW_ll dX10_tires_30 rfl rfl ?_ ⟨rfl, rfl⟩
      refine B_istore_n (pc2 := 34) (fun x3_923 => [(3, .int x3_923), (0, .ref 0), (1, .int x1), (2, .int x2)]) h dX10_tires_33 rfl (by decide) (fun _ => rfl) rfl (fun x3_923 h => ?_)
      refine G_iload_n (pc2 := 35) 0 rfl dX10_tires_34 rfl rfl ?_
      refine G_iconst (pc2 := 36) dX10_tires_35 ic_m1 rfl ?_
      refine B_icmp_ne (tgt := 42) (pc2 := 39) h dX10_tires_36 (by decide) rfl (fun _ h => ?_) (fun _ h => ?_)
      · refine G_aload_n (pc2 := 43) 1 rfl dX10_tires_42 rfl rfl ?_
        refine T_0_1 (pc2 := 46) kw_401 dX10_tires_43 rfl ?_
        refine G_iload_n (pc2 := 47) 2 rfl dX10_tires_46 rfl rfl ?_
        refine G_iload_n (pc2 := 48) 3 rfl dX10_tires_47 rfl rfl ?_
        obtain ⟨c_924, hc_924, h⟩ := ob_e h
        refine B_callV (pc2 := 51) si_X10_224 (c_X1_flightOver_12 hc_924) (qo_12 _ _ _ _) rfl rfl rfl (st := []) (stq := [.int c_924]) rfl (by decide) (by decide) (Nat.le_of_ble_eq_true rfl) mkW_ll dX10_tires_48 rfl rfl ?_ ⟨rfl, rfl⟩
        refine B_istore (pc2 := 53) (fun x4_925 => [(4, .int x4_925), (3, .int x3_923), (0, .ref 0), (1, .int x1), (2, .int x2)]) h dX10_tires_51 (by decide) (fun _ => rfl) rfl (fun x4_925 h => ?_)
        refine G_aload_n (pc2 := 54) 2 rfl dX10_tires_53 rfl rfl ?_
        refine T_0_3 (pc2 := 57) kw_403 dX10_tires_54 rfl ?_
        refine T_22_4 (pc2 := 60) kw_220 dX10_tires_57 rfl ?_
        refine G_iload_n (pc2 := 61) 1 rfl dX10_tires_60 rfl rfl ?_
        refine AC (pc2 := 62) (fa_25 _ _ _ _) h dX10_tires_61 rfl (fun h => ?_)
        refine B_istore (pc2 := 64) (fun x5_926 => [(5, .int x5_926), (4, .int x4_925), (3, .int x3_923), (0, .ref 0), (1, .int x1), (2, .int x2)]) h dX10_tires_62 (by decide) (fun _ => rfl) rfl (fun x5_926 h => ?_)
        refine G_sub (ls' := [(0, .ref 0), (3, .int x3_923), (4, .int x4_925), (5, .int x5_926)]) [3, 2, 1, 0] rfl ?_
        refine g_L_X10_tires_64 (fun h => ?_) FU x5_926 h
        refine G_iconst (pc2 := 106) dX10_tires_105 ic_m1 rfl ?_
        have ha := Option.some.inj h
        subst ha
        exact G_iret rfl dX10_tires_106
      · refine G_ldc (pc2 := 41) kw_671 dX10_tires_39 rfl ?_
        have ha := Option.some.inj h
        subst ha
        exact G_iret rfl dX10_tires_41
    · refine G_ldc (pc2 := 24) kw_605 dX10_tires_22 rfl ?_
      have ha := Option.some.inj h
      subst ha
      exact G_iret rfl dX10_tires_24)
def f_J6_bitCount_0f7a4 (x0 : Int32) : Option (Int32) :=
  bnd (x0 - (((x0.toUInt32 >>> ((1 : Int32).toUInt32 &&& Int32.toUInt32 31)).toInt32) &&& (1431655765 : Int32))) fun x0_935 =>
  bnd ((x0_935 &&& (858993459 : Int32)) + (((x0_935.toUInt32 >>> ((2 : Int32).toUInt32 &&& Int32.toUInt32 31)).toInt32) &&& (858993459 : Int32))) fun x0_936 =>
  bnd ((x0_936 + ((x0_936.toUInt32 >>> ((4 : Int32).toUInt32 &&& Int32.toUInt32 31)).toInt32)) &&& (252645135 : Int32)) fun x0_937 =>
  bnd (x0_937 + ((x0_937.toUInt32 >>> ((8 : Int32).toUInt32 &&& Int32.toUInt32 31)).toInt32)) fun x0_938 =>
  bnd (x0_938 + ((x0_938.toUInt32 >>> ((16 : Int32).toUInt32 &&& Int32.toUInt32 31)).toInt32)) fun x0_939 =>
  some (x0_939 &&& (63 : Int32))
set_option maxRecDepth 100000 in
set_option maxHeartbeats 4000000 in
theorem c_J6_bitCount_0f7a4 {x0 : Int32} {w : List va_E} {a : Int32} (h : f_J6_bitCount_0f7a4 x0 = some a) : CT md_J6_bitCount_0f7a4 yJ6_bitCount_0f7a4 (rmD 1) [.int x0] w (some (.int a)) w := CT_of pn_J6 ⟨rfl, rfl⟩ (Nat.le_of_ble_eq_true rfl) (fun X => by
  show GG X md_J6_bitCount_0f7a4 (rmD 1) _ 0 0 0 [(0, .int x0)] [] w
  unfold f_J6_bitCount_0f7a4 at h
  refine G_iload_n (pc2 := 1) 0 rfl dJ6_bitCount_0f7a4_0 rfl rfl ?_
  refine G_iload_n (pc2 := 2) 0 rfl dJ6_bitCount_0f7a4_1 rfl rfl ?_
  refine G_iconst (pc2 := 3) dJ6_bitCount_0f7a4_2 ic_1 rfl ?_
  refine G_iushr (pc2 := 4) dJ6_bitCount_0f7a4_3 rfl ?_
  refine G_ldcw (pc2 := 7) kw_823 dJ6_bitCount_0f7a4_4 rfl ?_
  refine G_iand (pc2 := 8) dJ6_bitCount_0f7a4_7 rfl ?_
  refine G_isub (pc2 := 9) dJ6_bitCount_0f7a4_8 rfl ?_
  refine B_istore_n (pc2 := 10) (fun x0_935 => [(0, .int x0_935)]) h dJ6_bitCount_0f7a4_9 rfl (by decide) (fun _ => rfl) rfl (fun x0_935 h => ?_)
  refine G_iload_n (pc2 := 11) 0 rfl dJ6_bitCount_0f7a4_10 rfl rfl ?_
  refine G_ldcw (pc2 := 14) kw_824 dJ6_bitCount_0f7a4_11 rfl ?_
  refine G_iand (pc2 := 15) dJ6_bitCount_0f7a4_14 rfl ?_
  refine G_iload_n (pc2 := 16) 0 rfl dJ6_bitCount_0f7a4_15 rfl rfl ?_
  refine G_iconst (pc2 := 17) dJ6_bitCount_0f7a4_16 ic_2 rfl ?_
  refine G_iushr (pc2 := 18) dJ6_bitCount_0f7a4_17 rfl ?_
  refine G_ldcw (pc2 := 21) kw_824 dJ6_bitCount_0f7a4_18 rfl ?_
  refine G_iand (pc2 := 22) dJ6_bitCount_0f7a4_21 rfl ?_
  refine G_iadd (pc2 := 23) dJ6_bitCount_0f7a4_22 rfl ?_
  refine B_istore_n (pc2 := 24) (fun x0_936 => [(0, .int x0_936)]) h dJ6_bitCount_0f7a4_23 rfl (by decide) (fun _ => rfl) rfl (fun x0_936 h => ?_)
  refine G_iload_n (pc2 := 25) 0 rfl dJ6_bitCount_0f7a4_24 rfl rfl ?_
  refine G_iload_n (pc2 := 26) 0 rfl dJ6_bitCount_0f7a4_25 rfl rfl ?_
  refine G_iconst (pc2 := 27) dJ6_bitCount_0f7a4_26 ic_4 rfl ?_
  refine G_iushr (pc2 := 28) dJ6_bitCount_0f7a4_27 rfl ?_
  refine G_iadd (pc2 := 29) dJ6_bitCount_0f7a4_28 rfl ?_
  refine G_ldcw (pc2 := 32) kw_825 dJ6_bitCount_0f7a4_29 rfl ?_
  refine G_iand (pc2 := 33) dJ6_bitCount_0f7a4_32 rfl ?_
  refine B_istore_n (pc2 := 34) (fun x0_937 => [(0, .int x0_937)]) h dJ6_bitCount_0f7a4_33 rfl (by decide) (fun _ => rfl) rfl (fun x0_937 h => ?_)
  refine G_iload_n (pc2 := 35) 0 rfl dJ6_bitCount_0f7a4_34 rfl rfl ?_
  refine G_iload_n (pc2 := 36) 0 rfl dJ6_bitCount_0f7a4_35 rfl rfl ?_
  refine G_bipush (pc2 := 38) dJ6_bitCount_0f7a4_36 ib_8 rfl ?_
  refine G_iushr (pc2 := 39) dJ6_bitCount_0f7a4_38 rfl ?_
  refine G_iadd (pc2 := 40) dJ6_bitCount_0f7a4_39 rfl ?_
  refine B_istore_n (pc2 := 41) (fun x0_938 => [(0, .int x0_938)]) h dJ6_bitCount_0f7a4_40 rfl (by decide) (fun _ => rfl) rfl (fun x0_938 h => ?_)
  refine G_iload_n (pc2 := 42) 0 rfl dJ6_bitCount_0f7a4_41 rfl rfl ?_
  refine G_iload_n (pc2 := 43) 0 rfl dJ6_bitCount_0f7a4_42 rfl rfl ?_
  refine G_bipush (pc2 := 45) dJ6_bitCount_0f7a4_43 ib_16 rfl ?_
  refine G_iushr (pc2 := 46) dJ6_bitCount_0f7a4_45 rfl ?_
  refine G_iadd (pc2 := 47) dJ6_bitCount_0f7a4_46 rfl ?_
  refine B_istore_n (pc2 := 48) (fun x0_939 => [(0, .int x0_939)]) h dJ6_bitCount_0f7a4_47 rfl (by decide) (fun _ => rfl) rfl (fun x0_939 h => ?_)
  refine G_iload_n (pc2 := 49) 0 rfl dJ6_bitCount_0f7a4_48 rfl rfl ?_
  refine G_bipush (pc2 := 51) dJ6_bitCount_0f7a4_49 ib_63 rfl ?_
  refine G_iand (pc2 := 52) dJ6_bitCount_0f7a4_51 rfl ?_
  have ha := Option.some.inj h
  subst ha
  exact G_iret rfl dJ6_bitCount_0f7a4_52)
def L_X9_fewestParting_31_26 (k : WF → Option (Int32 × WF)) (x1 : Int32) (x2 : Int32) (x3 : Int32) (x4 : Int32) (I : WI) : Nat → Int32 → WF → Option (Int32 × WF)
  | 0, _, _ => none
  | n + 1, x5, F =>
  if x3 ≤ x5 then (k F)
  else (Option.bind (f_J6_bitCount_0f7a4 x5) fun c_940 =>
  bnd (fun (F_942 : WF) => bnd (x5 + (1 : Int32)) fun x5_943 =>
  L_X9_fewestParting_31_26 k x1 x2 x3 x4 I n x5_943 F_942) fun j61_941 =>
  if c_940 = x4 then (Option.bind (f_X9_fewest_31 x1 x2 (x3 &&& (x5 ^^^ (-1 : Int32))) I F) fun c_944 =>
  if c_944.1 = (-1 : Int32) then (some (x5, c_944.2))
  else (j61_941 c_944.2))
  else (j61_941 F))
def L_X9_fewestParting_31_11 (k : WF → Option (Int32 × WF)) (x1 : Int32) (x2 : Int32) (x3 : Int32) (I : WI) : Nat → Int32 → WF → Option (Int32 × WF)
  | 0, _, _ => none
  | n + 1, x4, F =>
  if (I 49) ≤ x4 then (k F)
  else (bnd (0 : Int32) fun x5_934 =>
  L_X9_fewestParting_31_26 (fun F_945 => bnd (x4 + (1 : Int32)) fun x4_946 =>
  L_X9_fewestParting_31_11 k x1 x2 x3 I n x4_946 F_945) x1 x2 x3 x4 I FU x5_934 F)
def f_X9_fewestParting_31 (x1 : Int32) (x2 : Int32) (I : WI) (F : WF) : Option (Int32 × WF) :=
  Option.bind (f_X7_allBridges_13 I F) fun c_931 =>
  bnd c_931 fun x3_932 =>
  bnd (0 : Int32) fun x4_933 =>
  L_X9_fewestParting_31_11 (fun F_947 => some (x3_932, F_947)) x1 x2 x3_932 I FU x4_933 F
set_option maxRecDepth 100000 in
set_option maxHeartbeats 4000000 in
theorem g_L_X9_fewestParting_31_26 {X : XT} {x1 : Int32} {x2 : Int32} {x3 : Int32} {x4 : Int32} {I : WI} {J : WI} {K : WF} {a : Int32 × WF} {k : WF → Option (Int32 × WF)} (hk : ∀ (F' : WF), (k F' = some a → GG X md_X9_fewestParting (rmD 4) (gv_Z X (rmD 4).cells (rmD 4).slots (some (.int a.1)) (mkW I a.2 J K)) 0 0 67 [(0, .ref 31), (1, .int x1), (2, .int x2), (3, .int x3), (4, .int x4)] [] (mkW I F' J K))) : ∀ (n : Nat) (x5 : Int32) (F : WF), L_X9_fewestParting_31_26 k x1 x2 x3 x4 I n x5 F = some a → GG X md_X9_fewestParting (rmD 4) (gv_Z X (rmD 4).cells (rmD 4).slots (some (.int a.1)) (mkW I a.2 J K)) 0 0 26 [(0, .ref 31), (1, .int x1), (2, .int x2), (3, .int x3), (4, .int x4), (5, .int x5)] [] (mkW I F J K) := by
  intro n
  induction n with
  | zero =>
    intro x5 F h
    rw [L_X9_fewestParting_31_26] at h
    cases h
  | succ n ih =>
    intro x5 F h
    rw [L_X9_fewestParting_31_26] at h
    refine G_iload (pc2 := 28) 5 rfl dX9_fewestParting_26 rfl ?_
    refine G_iload_n (pc2 := 29) 3 rfl dX9_fewestParting_28 rfl rfl ?_
    refine B_icmp_ge (tgt := 67) (pc2 := 32) h dX9_fewestParting_29 (by decide) rfl (fun _ h => ?_) (fun _ h => ?_)
    · refine G_sub (ls' := [(0, .ref 31), (1, .int x1), (2, .int x2), (3, .int x3), (4, .int x4)]) [0, 1, 2, 3, 4] rfl ?_
      exact hk F h
    · refine G_iload (pc2 := 34) 5 rfl dX9_fewestParting_32 rfl ?_
      obtain ⟨c_940, hc_940, h⟩ := ob_e h
      refine B_callS (pc2 := 37) si_X9_89 (c_J6_bitCount_0f7a4 hc_940) rfl (st := []) (stq := [.int c_940]) rfl (by decide) (by decide) (Nat.le_of_ble_eq_true rfl) rfl dX9_fewestParting_34 rfl rfl ?_ ⟨rfl, rfl⟩
      refine G_iload (pc2 := 39) 4 rfl dX9_fewestParting_37 rfl ?_
      refine jn_e (Gj := True) (fun (j : WF → Option (Int32 × WF)) => ∀ (F_942 : WF), j F_942 = some a → GG X md_X9_fewestParting (rmD 4) (gv_Z X (rmD 4).cells (rmD 4).slots (some (.int a.1)) (mkW I a.2 J K)) 0 0 61 [(0, .ref 31), (1, .int x1), (2, .int x2), (3, .int x3), (4, .int x4), (5, .int x5)] [] (mkW I F_942 J K)) h (fun F_942 h => ?_) (fun j61_941 hj61_941 h => ?_)
      · refine B_iinc (pc2 := 64) 5 (fun x5_943 => [(5, .int x5_943), (0, .ref 31), (1, .int x1), (2, .int x2), (3, .int x3), (4, .int x4)]) h rfl dX9_fewestParting_61 ic_1 (by decide) (fun _ => rfl) rfl (fun x5_943 h => ?_)
        refine G_goto (tgt := 26) dX9_fewestParting_64 (by decide) ?_
        refine G_sub (ls' := [(0, .ref 31), (1, .int x1), (2, .int x2), (3, .int x3), (4, .int x4), (5, .int x5_943)]) [1, 2, 3, 4, 5, 0] rfl ?_
        exact ih x5_943 F_942 h
      refine B_icmp_ne (tgt := 61) (pc2 := 42) h dX9_fewestParting_39 (by decide) rfl (fun _ h => ?_) (fun _ h => ?_)
      · exact hj61_941 F h
      · refine G_aload_n (pc2 := 43) 0 rfl dX9_fewestParting_42 rfl rfl ?_
        refine G_iload_n (pc2 := 44) 1 rfl dX9_fewestParting_43 rfl rfl ?_
        refine G_iload_n (pc2 := 45) 2 rfl dX9_fewestParting_44 rfl rfl ?_
        refine G_iload_n (pc2 := 46) 3 rfl dX9_fewestParting_45 rfl rfl ?_
        refine G_iload (pc2 := 48) 5 rfl dX9_fewestParting_46 rfl ?_
        refine G_iconst (pc2 := 49) dX9_fewestParting_48 ic_m1 rfl ?_
        refine G_ixor (pc2 := 50) dX9_fewestParting_49 rfl ?_
        refine G_iand (pc2 := 51) dX9_fewestParting_50 rfl ?_
        obtain ⟨c_944, hc_944, h⟩ := ob_e h
        refine B_callV (pc2 := 54) si_X9_23 (c_X9_fewest_31 hc_944) (qo_31 _ _ _ _) rfl rfl rfl (st := []) (stq := [.int c_944.1]) rfl (by decide) (by decide) (Nat.le_of_ble_eq_true rfl) mkW_ll dX9_fewestParting_51 rfl rfl ?_ ⟨rfl, rfl⟩
        refine G_iconst (pc2 := 55) dX9_fewestParting_54 ic_m1 rfl ?_
        refine B_icmp_ne (tgt := 61) (pc2 := 58) h dX9_fewestParting_55 (by decide) rfl (fun _ h => ?_) (fun _ h => ?_)
        · exact hj61_941 c_944.2 h
        · refine G_iload (pc2 := 60) 5 rfl dX9_fewestParting_58 rfl ?_
          have ha := Option.some.inj h
          subst ha
          exact G_iret rfl dX9_fewestParting_60
set_option maxRecDepth 100000 in
set_option maxHeartbeats 4000000 in
theorem g_L_X9_fewestParting_31_11 {X : XT} {x1 : Int32} {x2 : Int32} {x3 : Int32} {I : WI} {J : WI} {K : WF} {a : Int32 × WF} {k : WF → Option (Int32 × WF)} (hk : ∀ (F' : WF), (k F' = some a → GG X md_X9_fewestParting (rmD 4) (gv_Z X (rmD 4).cells (rmD 4).slots (some (.int a.1)) (mkW I a.2 J K)) 0 0 73 [(3, .int x3)] [] (mkW I F' J K))) : ∀ (n : Nat) (x4 : Int32) (F : WF), L_X9_fewestParting_31_11 k x1 x2 x3 I n x4 F = some a → GG X md_X9_fewestParting (rmD 4) (gv_Z X (rmD 4).cells (rmD 4).slots (some (.int a.1)) (mkW I a.2 J K)) 0 0 11 [(0, .ref 31), (1, .int x1), (2, .int x2), (3, .int x3), (4, .int x4)] [] (mkW I F J K) := by
  intro n
  induction n with
  | zero =>
    intro x4 F h
    rw [L_X9_fewestParting_31_11] at h
    cases h
  | succ n ih =>
    intro x4 F h
    rw [L_X9_fewestParting_31_11] at h
    refine G_iload (pc2 := 13) 4 rfl dX9_fewestParting_11 rfl ?_
    refine G_aload_n (pc2 := 14) 0 rfl dX9_fewestParting_13 rfl rfl ?_
    refine T_31_2 (pc2 := 17) kw_280 dX9_fewestParting_14 rfl ?_
    refine T_13_1 (pc2 := 20) kw_103 dX9_fewestParting_17 rfl ?_
    refine B_icmp_ge (tgt := 73) (pc2 := 23) h dX9_fewestParting_20 (by decide) rfl (fun _ h => ?_) (fun _ h => ?_)
    · refine G_sub (ls' := [(3, .int x3)]) [3] rfl ?_
      exact hk F h
    · refine G_iconst (pc2 := 24) dX9_fewestParting_23 ic_0 rfl ?_
      refine B_istore (pc2 := 26) (fun x5_934 => [(5, .int x5_934), (0, .ref 31), (1, .int x1), (2, .int x2), (3, .int x3), (4, .int x4)]) h dX9_fewestParting_24 (by decide) (fun _ => rfl) rfl (fun x5_934 h => ?_)
      refine G_sub (ls' := [(0, .ref 31), (1, .int x1), (2, .int x2), (3, .int x3), (4, .int x4), (5, .int x5_934)]) [1, 2, 3, 4, 5, 0] rfl ?_
      refine g_L_X9_fewestParting_31_26 (fun F_945 h => ?_) FU x5_934 F h
      refine B_iinc (pc2 := 70) 4 (fun x4_946 => [(4, .int x4_946), (0, .ref 31), (1, .int x1), (2, .int x2), (3, .int x3)]) h rfl dX9_fewestParting_67 ic_1 (by decide) (fun _ => rfl) rfl (fun x4_946 h => ?_)
      refine G_goto (tgt := 11) dX9_fewestParting_70 (by decide) ?_
      refine G_sub (ls' := [(0, .ref 31), (1, .int x1), (2, .int x2), (3, .int x3), (4, .int x4_946)]) [1, 2, 3, 4, 0] rfl ?_
      exact ih x4_946 F_945 h
set_option maxRecDepth 100000 in
set_option maxHeartbeats 4000000 in
theorem c_X9_fewestParting_31 {x1 : Int32} {x2 : Int32} {I : WI} {F : WF} {J : WI} {K : WF} {a : Int32 × WF} (h : f_X9_fewestParting_31 x1 x2 I F = some a) : CT md_X9_fewestParting yX9_fewestParting (rmD 4) [.ref 31, .int x1, .int x2] (mkW I F J K) (some (.int a.1)) (mkW I a.2 J K) := CT_of pn_X9 ⟨rfl, rfl⟩ (Nat.le_of_ble_eq_true rfl) (fun X => by
  show GG X md_X9_fewestParting (rmD 4) _ 0 0 0 [(0, .ref 31), (1, .int x1), (2, .int x2)] [] (mkW I F J K)
  unfold f_X9_fewestParting_31 at h
  refine G_aload_n (pc2 := 1) 0 rfl dX9_fewestParting_0 rfl rfl ?_
  refine T_31_2 (pc2 := 4) kw_280 dX9_fewestParting_1 rfl ?_
  obtain ⟨c_931, hc_931, h⟩ := ob_e h
  refine B_callV (pc2 := 7) si_X9_80 (c_X7_allBridges_13 hc_931) (qo_13 _ _ _ _) rfl rfl rfl (st := []) (stq := [.int c_931]) rfl (by decide) (by decide) (Nat.le_of_ble_eq_true rfl) mkW_ll dX9_fewestParting_4 rfl rfl ?_ ⟨rfl, rfl⟩
  refine B_istore_n (pc2 := 8) (fun x3_932 => [(3, .int x3_932), (0, .ref 31), (1, .int x1), (2, .int x2)]) h dX9_fewestParting_7 rfl (by decide) (fun _ => rfl) rfl (fun x3_932 h => ?_)
  refine G_iconst (pc2 := 9) dX9_fewestParting_8 ic_0 rfl ?_
  refine B_istore (pc2 := 11) (fun x4_933 => [(4, .int x4_933), (3, .int x3_932), (0, .ref 31), (1, .int x1), (2, .int x2)]) h dX9_fewestParting_9 (by decide) (fun _ => rfl) rfl (fun x4_933 h => ?_)
  refine G_sub (ls' := [(0, .ref 31), (1, .int x1), (2, .int x2), (3, .int x3_932), (4, .int x4_933)]) [2, 3, 4, 1, 0] rfl ?_
  refine g_L_X9_fewestParting_31_11 (fun F_947 h => ?_) FU x4_933 F h
  refine G_iload_n (pc2 := 74) 0 rfl dX9_fewestParting_73 rfl rfl ?_
  have ha := Option.some.inj h
  subst ha
  exact G_iret rfl dX9_fewestParting_74)
def f_X10_parted (x1 : Int32) (x2 : Int32) (I : WI) (F : WF) : Option (Int32 × WF) :=
  Option.bind (f_X7_hasPlace_13 x1 I F) fun c_929 =>
  if c_929 = 0 then (some ((-1000000001 : Int32), F))
  else (Option.bind (f_X7_hasPlace_13 x2 I F) fun c_930 =>
  if c_930 = 0 then (some ((-1000000001 : Int32), F))
  else (if x1 = x2 then (some ((-1000000001 : Int32), F))
  else (Option.bind (f_X9_fewestParting_31 x1 x2 I F) fun c_948 =>
  some (c_948.1, c_948.2))))
set_option maxRecDepth 100000 in
set_option maxHeartbeats 4000000 in
theorem c_X10_parted {x1 : Int32} {x2 : Int32} {I : WI} {F : WF} {J : WI} {K : WF} {a : Int32 × WF} (h : f_X10_parted x1 x2 I F = some a) : CT md_X10_parted yX10_parted (rmD 5) [.ref 0, .int x1, .int x2] (mkW I F J K) (some (.int a.1)) (mkW I a.2 J K) := CT_of pn_X10 ⟨rfl, rfl⟩ (Nat.le_of_ble_eq_true rfl) (fun X => by
  show GG X md_X10_parted (rmD 5) _ 0 0 0 [(0, .ref 0), (1, .int x1), (2, .int x2)] [] (mkW I F J K)
  unfold f_X10_parted at h
  refine G_aload_n (pc2 := 1) 0 rfl dX10_parted_0 rfl rfl ?_
  refine T_0_2 (pc2 := 4) kw_402 dX10_parted_1 rfl ?_
  refine G_iload_n (pc2 := 5) 1 rfl dX10_parted_4 rfl rfl ?_
  obtain ⟨c_929, hc_929, h⟩ := ob_e h
  refine B_callV (pc2 := 8) si_X10_257 (c_X7_hasPlace_13 hc_929) (qo_13 _ _ _ _) rfl rfl rfl (st := []) (stq := [.int c_929]) rfl (by decide) (by decide) (Nat.le_of_ble_eq_true rfl) mkW_ll dX10_parted_5 rfl rfl ?_ ⟨rfl, rfl⟩
  refine B_if_eq (tgt := 27) (pc2 := 11) h dX10_parted_8 (by decide) rfl (fun _ h => ?_) (fun _ h => ?_)
  · refine G_ldc (pc2 := 29) kw_605 dX10_parted_27 rfl ?_
    have ha := Option.some.inj h
    subst ha
    exact G_iret rfl dX10_parted_29
  · refine G_aload_n (pc2 := 12) 0 rfl dX10_parted_11 rfl rfl ?_
    refine T_0_2 (pc2 := 15) kw_402 dX10_parted_12 rfl ?_
    refine G_iload_n (pc2 := 16) 2 rfl dX10_parted_15 rfl rfl ?_
    obtain ⟨c_930, hc_930, h⟩ := ob_e h
    refine B_callV (pc2 := 19) si_X10_257 (c_X7_hasPlace_13 hc_930) (qo_13 _ _ _ _) rfl rfl rfl (st := []) (stq := [.int c_930]) rfl (by decide) (by decide) (Nat.le_of_ble_eq_true rfl) mkW_ll dX10_parted_16 rfl rfl ?_ ⟨rfl, rfl⟩
    refine B_if_eq (tgt := 27) (pc2 := 22) h dX10_parted_19 (by decide) rfl (fun _ h => ?_) (fun _ h => ?_)
    · refine G_ldc (pc2 := 29) kw_605 dX10_parted_27 rfl ?_
      have ha := Option.some.inj h
      subst ha
      exact G_iret rfl dX10_parted_29
    · refine G_iload_n (pc2 := 23) 1 rfl dX10_parted_22 rfl rfl ?_
      refine G_iload_n (pc2 := 24) 2 rfl dX10_parted_23 rfl rfl ?_
      refine B_icmp_ne (tgt := 30) (pc2 := 27) h dX10_parted_24 (by decide) rfl (fun _ h => ?_) (fun _ h => ?_)
      · refine G_aload_n (pc2 := 31) 0 rfl dX10_parted_30 rfl rfl ?_
        refine T_0_4 (pc2 := 34) kw_404 dX10_parted_31 rfl ?_
        refine G_iload_n (pc2 := 35) 1 rfl dX10_parted_34 rfl rfl ?_
        refine G_iload_n (pc2 := 36) 2 rfl dX10_parted_35 rfl rfl ?_
        obtain ⟨c_948, hc_948, h⟩ := ob_e h
        refine B_callV (pc2 := 39) si_X10_287 (c_X9_fewestParting_31 hc_948) (qo_31 _ _ _ _) rfl rfl rfl (st := []) (stq := [.int c_948.1]) rfl (by decide) (by decide) (Nat.le_of_ble_eq_true rfl) mkW_ll dX10_parted_36 rfl rfl ?_ ⟨rfl, rfl⟩
        have ha := Option.some.inj h
        subst ha
        exact G_iret rfl dX10_parted_39
      · refine G_ldc (pc2 := 29) kw_605 dX10_parted_27 rfl ?_
        have ha := Option.some.inj h
        subst ha
        exact G_iret rfl dX10_parted_29)
def L_X10_pays_37 (k : Int32 → Option (Int32)) (x1 : Int32) (x2 : Int32) : Nat → Int32 → Int64 → Int32 → Int32 → Option (Int32)
  | 0, _, _, _, _ => none
  | n + 1, x3, x4, x6, x7 =>
  if (30 : Int32) < x7 then (k x3)
  else (Option.bind (f_X10_partOf x6 x2) fun c_953 =>
  bnd c_953 fun x6_954 =>
  bnd ((x7.toInt64 * x1.toInt64) * x6_954.toInt64) fun x8_955 =>
  bnd (fun (x3_957 : Int32) (x4_958 : Int64) => bnd (x7 + (1 : Int32)) fun x7_959 =>
  L_X10_pays_37 k x1 x2 n x3_957 x4_958 x6_954 x7_959) fun j79_956 =>
  if (lg_cmp x8_955 x4) ≤ 0 then (j79_956 x3 x4)
  else (bnd x8_955 fun x4_960 =>
  bnd x7 fun x3_961 =>
  j79_956 x3_961 x4_960))
def f_X10_pays (x1 : Int32) (x2 : Int32) : Option (Int32) :=
  if x1 < (1 : Int32) then (some (-1000000002 : Int32))
  else (if (99 : Int32) < x1 then (some (-1000000002 : Int32))
  else (if x2 < 0 then (some (-1000000002 : Int32))
  else (if x2 ≤ (100 : Int32) then (bnd (0 : Int32) fun x3_949 =>
  bnd (0 : Int64) fun x4_950 =>
  bnd (1000000000 : Int32) fun x6_951 =>
  bnd (1 : Int32) fun x7_952 =>
  L_X10_pays_37 (fun x3_962 => some x3_962) x1 x2 FU x3_949 x4_950 x6_951 x7_952)
  else (some (-1000000002 : Int32)))))
set_option maxRecDepth 100000 in
set_option maxHeartbeats 4000000 in
theorem g_L_X10_pays_37 {X : XT} {x1 : Int32} {x2 : Int32} {w : List va_E} {a : Int32} {k : Int32 → Option (Int32)} (hk : ∀ (e3 : Int32), (k e3 = some a → GG X md_X10_pays (rmD 2) (gv_Z X (rmD 2).cells (rmD 2).slots (some (.int a)) w) 0 0 85 [(3, .int e3)] [] w)) : ∀ (n : Nat) (x3 : Int32) (x4 : Int64) (x6 : Int32) (x7 : Int32), L_X10_pays_37 k x1 x2 n x3 x4 x6 x7 = some a → GG X md_X10_pays (rmD 2) (gv_Z X (rmD 2).cells (rmD 2).slots (some (.int a)) w) 0 0 37 [(1, .int x1), (2, .int x2), (3, .int x3), (4, .long x4), (6, .int x6), (7, .int x7)] [] w := by
  intro n
  induction n with
  | zero =>
    intro x3 x4 x6 x7 h
    rw [L_X10_pays_37] at h
    cases h
  | succ n ih =>
    intro x3 x4 x6 x7 h
    rw [L_X10_pays_37] at h
    refine G_iload (pc2 := 39) 5 rfl dX10_pays_37 rfl ?_
    refine G_bipush (pc2 := 41) dX10_pays_39 ib_30 rfl ?_
    refine B_icmp_gt (tgt := 85) (pc2 := 44) h dX10_pays_41 (by decide) rfl (fun _ h => ?_) (fun _ h => ?_)
    · refine G_sub (ls' := [(3, .int x3)]) [2] rfl ?_
      exact hk x3 h
    · refine G_iload (pc2 := 46) 4 rfl dX10_pays_44 rfl ?_
      refine G_iload_n (pc2 := 47) 1 rfl dX10_pays_46 rfl rfl ?_
      obtain ⟨c_953, hc_953, h⟩ := ob_e h
      refine B_callS (pc2 := 50) si_X10_291 (c_X10_partOf hc_953) rfl (st := []) (stq := [.int c_953]) rfl (by decide) (by decide) (Nat.le_of_ble_eq_true rfl) rfl dX10_pays_47 rfl rfl ?_ ⟨rfl, rfl⟩
      refine B_istore (pc2 := 52) (fun x6_954 => [(6, .int x6_954), (1, .int x1), (2, .int x2), (3, .int x3), (4, .long x4), (7, .int x7)]) h dX10_pays_50 (by decide) (fun _ => rfl) rfl (fun x6_954 h => ?_)
      refine G_iload (pc2 := 54) 5 rfl dX10_pays_52 rfl ?_
      refine G_i2l (pc2 := 55) dX10_pays_54 rfl ?_
      refine G_iload_n (pc2 := 56) 1 rfl dX10_pays_55 rfl rfl ?_
      refine G_i2l (pc2 := 57) dX10_pays_56 rfl ?_
      refine G_lmul (pc2 := 58) dX10_pays_57 rfl ?_
      refine G_iload (pc2 := 60) 0 rfl dX10_pays_58 rfl ?_
      refine G_i2l (pc2 := 61) dX10_pays_60 rfl ?_
      refine G_lmul (pc2 := 62) dX10_pays_61 rfl ?_
      refine B_lstore (pc2 := 64) (fun x8_955 => [(8, .long x8_955), (6, .int x6_954), (1, .int x1), (2, .int x2), (3, .int x3), (4, .long x4), (7, .int x7)]) h dX10_pays_62 (by decide) (fun _ => rfl) rfl (fun x8_955 h => ?_)
      refine G_lload (pc2 := 66) 0 rfl dX10_pays_64 rfl ?_
      refine G_lload (pc2 := 68) 5 rfl dX10_pays_66 rfl ?_
      refine G_lcmp (pc2 := 69) dX10_pays_68 rfl ?_
      refine jn_e (Gj := True) (fun (j : Int32 → Int64 → Option (Int32)) => ∀ (x3_957 : Int32) (x4_958 : Int64), j x3_957 x4_958 = some a → GG X md_X10_pays (rmD 2) (gv_Z X (rmD 2).cells (rmD 2).slots (some (.int a)) w) 0 0 79 [(1, .int x1), (2, .int x2), (3, .int x3_957), (4, .long x4_958), (6, .int x6_954), (7, .int x7)] [] w) h (fun x3_957 x4_958 h => ?_) (fun j79_956 hj79_956 h => ?_)
      · refine B_iinc (pc2 := 82) 5 (fun x7_959 => [(7, .int x7_959), (1, .int x1), (2, .int x2), (3, .int x3_957), (4, .long x4_958), (6, .int x6_954)]) h rfl dX10_pays_79 ic_1 (by decide) (fun _ => rfl) rfl (fun x7_959 h => ?_)
        refine G_goto (tgt := 37) dX10_pays_82 (by decide) ?_
        refine G_sub (ls' := [(1, .int x1), (2, .int x2), (3, .int x3_957), (4, .long x4_958), (6, .int x6_954), (7, .int x7_959)]) [1, 2, 3, 4, 5, 0] rfl ?_
        exact ih x3_957 x4_958 x6_954 x7_959 h
      refine B_if_le (tgt := 79) (pc2 := 72) h dX10_pays_69 (by decide) rfl (fun _ h => ?_) (fun _ h => ?_)
      · refine G_sub (ls' := [(1, .int x1), (2, .int x2), (3, .int x3), (4, .long x4), (6, .int x6_954), (7, .int x7)]) [2, 3, 4, 5, 1, 6] rfl ?_
        exact hj79_956 x3 x4 h
      · refine G_lload (pc2 := 74) 0 rfl dX10_pays_72 rfl ?_
        refine B_lstore (pc2 := 76) (fun x4_960 => [(4, .long x4_960), (8, .long x8_955), (6, .int x6_954), (1, .int x1), (2, .int x2), (3, .int x3), (7, .int x7)]) h dX10_pays_74 (by decide) (fun _ => rfl) rfl (fun x4_960 h => ?_)
        refine G_iload (pc2 := 78) 6 rfl dX10_pays_76 rfl ?_
        refine B_istore_n (pc2 := 79) (fun x3_961 => [(3, .int x3_961), (4, .long x4_960), (8, .long x8_955), (6, .int x6_954), (1, .int x1), (2, .int x2), (7, .int x7)]) h dX10_pays_78 rfl (by decide) (fun _ => rfl) rfl (fun x3_961 h => ?_)
        refine G_sub (ls' := [(1, .int x1), (2, .int x2), (3, .int x3_961), (4, .long x4_960), (6, .int x6_954), (7, .int x7)]) [4, 5, 0, 1, 3, 6] rfl ?_
        exact hj79_956 x3_961 x4_960 h
set_option maxRecDepth 100000 in
set_option maxHeartbeats 4000000 in
theorem c_X10_pays {x1 : Int32} {x2 : Int32} {w : List va_E} {a : Int32} (h : f_X10_pays x1 x2 = some a) : CT md_X10_pays yX10_pays (rmD 2) [.ref 0, .int x1, .int x2] w (some (.int a)) w := CT_of pn_X10 ⟨rfl, rfl⟩ (Nat.le_of_ble_eq_true rfl) (fun X => by
  show GG X md_X10_pays (rmD 2) _ 0 0 0 [(0, .ref 0), (1, .int x1), (2, .int x2)] [] w
  unfold f_X10_pays at h
  refine G_iload_n (pc2 := 1) 1 rfl dX10_pays_0 rfl rfl ?_
  refine G_iconst (pc2 := 2) dX10_pays_1 ic_1 rfl ?_
  refine B_icmp_lt (tgt := 21) (pc2 := 5) h dX10_pays_2 (by decide) rfl (fun _ h => ?_) (fun _ h => ?_)
  · refine G_ldc (pc2 := 23) kw_435 dX10_pays_21 rfl ?_
    have ha := Option.some.inj h
    subst ha
    exact G_iret rfl dX10_pays_23
  · refine G_iload_n (pc2 := 6) 1 rfl dX10_pays_5 rfl rfl ?_
    refine G_bipush (pc2 := 8) dX10_pays_6 ib_99 rfl ?_
    refine B_icmp_gt (tgt := 21) (pc2 := 11) h dX10_pays_8 (by decide) rfl (fun _ h => ?_) (fun _ h => ?_)
    · refine G_ldc (pc2 := 23) kw_435 dX10_pays_21 rfl ?_
      have ha := Option.some.inj h
      subst ha
      exact G_iret rfl dX10_pays_23
    · refine G_iload_n (pc2 := 12) 2 rfl dX10_pays_11 rfl rfl ?_
      refine B_if_lt (tgt := 21) (pc2 := 15) h dX10_pays_12 (by decide) rfl (fun _ h => ?_) (fun _ h => ?_)
      · refine G_ldc (pc2 := 23) kw_435 dX10_pays_21 rfl ?_
        have ha := Option.some.inj h
        subst ha
        exact G_iret rfl dX10_pays_23
      · refine G_iload_n (pc2 := 16) 2 rfl dX10_pays_15 rfl rfl ?_
        refine G_bipush (pc2 := 18) dX10_pays_16 ib_100 rfl ?_
        refine B_icmp_le (tgt := 24) (pc2 := 21) h dX10_pays_18 (by decide) rfl (fun _ h => ?_) (fun _ h => ?_)
        · refine G_iconst (pc2 := 25) dX10_pays_24 ic_0 rfl ?_
          refine B_istore_n (pc2 := 26) (fun x3_949 => [(3, .int x3_949), (0, .ref 0), (1, .int x1), (2, .int x2)]) h dX10_pays_25 rfl (by decide) (fun _ => rfl) rfl (fun x3_949 h => ?_)
          refine G_lconst (pc2 := 27) (v := 0) dX10_pays_26 (by decide) rfl ?_
          refine B_lstore (pc2 := 29) (fun x4_950 => [(4, .long x4_950), (3, .int x3_949), (0, .ref 0), (1, .int x1), (2, .int x2)]) h dX10_pays_27 (by decide) (fun _ => rfl) rfl (fun x4_950 h => ?_)
          refine G_ldcw (pc2 := 32) kw_830 dX10_pays_29 rfl ?_
          refine B_istore (pc2 := 34) (fun x6_951 => [(6, .int x6_951), (4, .long x4_950), (3, .int x3_949), (0, .ref 0), (1, .int x1), (2, .int x2)]) h dX10_pays_32 (by decide) (fun _ => rfl) rfl (fun x6_951 h => ?_)
          refine G_iconst (pc2 := 35) dX10_pays_34 ic_1 rfl ?_
          refine B_istore (pc2 := 37) (fun x7_952 => [(7, .int x7_952), (6, .int x6_951), (4, .long x4_950), (3, .int x3_949), (0, .ref 0), (1, .int x1), (2, .int x2)]) h dX10_pays_35 (by decide) (fun _ => rfl) rfl (fun x7_952 h => ?_)
          refine G_sub (ls' := [(1, .int x1), (2, .int x2), (3, .int x3_949), (4, .long x4_950), (6, .int x6_951), (7, .int x7_952)]) [5, 6, 3, 2, 1, 0] rfl ?_
          refine g_L_X10_pays_37 (fun x3_962 h => ?_) FU x3_949 x4_950 x6_951 x7_952 h
          refine G_iload_n (pc2 := 86) 0 rfl dX10_pays_85 rfl rfl ?_
          have ha := Option.some.inj h
          subst ha
          exact G_iret rfl dX10_pays_86
        · refine G_ldc (pc2 := 23) kw_435 dX10_pays_21 rfl ?_
          have ha := Option.some.inj h
          subst ha
          exact G_iret rfl dX10_pays_23)
def L_X10_exact_30 (k : Int32 → Option (Int32)) (x1 : Int32) (x2 : Int32) : Nat → Int32 → Int32 → Option (Int32)
  | 0, _, _ => none
  | n + 1, x3, x4 =>
  if x1 ≤ x4 then (k x3)
  else (Option.bind (f_X10_partOf x3 x2) fun c_965 =>
  bnd c_965 fun x3_966 =>
  bnd (x4 + (1 : Int32)) fun x4_967 =>
  L_X10_exact_30 k x1 x2 n x3_966 x4_967)
def f_X10_exact (x1 : Int32) (x2 : Int32) : Option (Int32) :=
  if x1 < 0 then (some (-1000000002 : Int32))
  else (if (60 : Int32) < x1 then (some (-1000000002 : Int32))
  else (if x2 < 0 then (some (-1000000002 : Int32))
  else (if x2 ≤ (100 : Int32) then (bnd (1000000000 : Int32) fun x3_963 =>
  bnd (0 : Int32) fun x4_964 =>
  L_X10_exact_30 (fun x3_968 => some x3_968) x1 x2 FU x3_963 x4_964)
  else (some (-1000000002 : Int32)))))
set_option maxRecDepth 100000 in
set_option maxHeartbeats 4000000 in
theorem g_L_X10_exact_30 {X : XT} {x1 : Int32} {x2 : Int32} {w : List va_E} {a : Int32} {k : Int32 → Option (Int32)} (hk : ∀ (e3 : Int32), (k e3 = some a → GG X md_X10_exact (rmD 2) (gv_Z X (rmD 2).cells (rmD 2).slots (some (.int a)) w) 0 0 48 [(3, .int e3)] [] w)) : ∀ (n : Nat) (x3 : Int32) (x4 : Int32), L_X10_exact_30 k x1 x2 n x3 x4 = some a → GG X md_X10_exact (rmD 2) (gv_Z X (rmD 2).cells (rmD 2).slots (some (.int a)) w) 0 0 30 [(1, .int x1), (2, .int x2), (3, .int x3), (4, .int x4)] [] w := by
  intro n
  induction n with
  | zero =>
    intro x3 x4 h
    rw [L_X10_exact_30] at h
    cases h
  | succ n ih =>
    intro x3 x4 h
    rw [L_X10_exact_30] at h
    refine G_iload (pc2 := 32) 3 rfl dX10_exact_30 rfl ?_
    refine G_iload_n (pc2 := 33) 0 rfl dX10_exact_32 rfl rfl ?_
    refine B_icmp_ge (tgt := 48) (pc2 := 36) h dX10_exact_33 (by decide) rfl (fun _ h => ?_) (fun _ h => ?_)
    · refine G_sub (ls' := [(3, .int x3)]) [2] rfl ?_
      exact hk x3 h
    · refine G_iload_n (pc2 := 37) 2 rfl dX10_exact_36 rfl rfl ?_
      refine G_iload_n (pc2 := 38) 1 rfl dX10_exact_37 rfl rfl ?_
      obtain ⟨c_965, hc_965, h⟩ := ob_e h
      refine B_callS (pc2 := 41) si_X10_291 (c_X10_partOf hc_965) rfl (st := []) (stq := [.int c_965]) rfl (by decide) (by decide) (Nat.le_of_ble_eq_true rfl) rfl dX10_exact_38 rfl rfl ?_ ⟨rfl, rfl⟩
      refine B_istore_n (pc2 := 42) (fun x3_966 => [(3, .int x3_966), (1, .int x1), (2, .int x2), (4, .int x4)]) h dX10_exact_41 rfl (by decide) (fun _ => rfl) rfl (fun x3_966 h => ?_)
      refine B_iinc (pc2 := 45) 3 (fun x4_967 => [(4, .int x4_967), (3, .int x3_966), (1, .int x1), (2, .int x2)]) h rfl dX10_exact_42 ic_1 (by decide) (fun _ => rfl) rfl (fun x4_967 h => ?_)
      refine G_goto (tgt := 30) dX10_exact_45 (by decide) ?_
      refine G_sub (ls' := [(1, .int x1), (2, .int x2), (3, .int x3_966), (4, .int x4_967)]) [2, 3, 1, 0] rfl ?_
      exact ih x3_966 x4_967 h
set_option maxRecDepth 100000 in
set_option maxHeartbeats 4000000 in
theorem c_X10_exact {x1 : Int32} {x2 : Int32} {w : List va_E} {a : Int32} (h : f_X10_exact x1 x2 = some a) : CT md_X10_exact yX10_exact (rmD 2) [.ref 0, .int x1, .int x2] w (some (.int a)) w := CT_of pn_X10 ⟨rfl, rfl⟩ (Nat.le_of_ble_eq_true rfl) (fun X => by
  show GG X md_X10_exact (rmD 2) _ 0 0 0 [(0, .ref 0), (1, .int x1), (2, .int x2)] [] w
  unfold f_X10_exact at h
  refine G_iload_n (pc2 := 1) 1 rfl dX10_exact_0 rfl rfl ?_
  refine B_if_lt (tgt := 20) (pc2 := 4) h dX10_exact_1 (by decide) rfl (fun _ h => ?_) (fun _ h => ?_)
  · refine G_ldc (pc2 := 22) kw_435 dX10_exact_20 rfl ?_
    have ha := Option.some.inj h
    subst ha
    exact G_iret rfl dX10_exact_22
  · refine G_iload_n (pc2 := 5) 1 rfl dX10_exact_4 rfl rfl ?_
    refine G_bipush (pc2 := 7) dX10_exact_5 ib_60 rfl ?_
    refine B_icmp_gt (tgt := 20) (pc2 := 10) h dX10_exact_7 (by decide) rfl (fun _ h => ?_) (fun _ h => ?_)
    · refine G_ldc (pc2 := 22) kw_435 dX10_exact_20 rfl ?_
      have ha := Option.some.inj h
      subst ha
      exact G_iret rfl dX10_exact_22
    · refine G_iload_n (pc2 := 11) 2 rfl dX10_exact_10 rfl rfl ?_
      refine B_if_lt (tgt := 20) (pc2 := 14) h dX10_exact_11 (by decide) rfl (fun _ h => ?_) (fun _ h => ?_)
      · refine G_ldc (pc2 := 22) kw_435 dX10_exact_20 rfl ?_
        have ha := Option.some.inj h
        subst ha
        exact G_iret rfl dX10_exact_22
      · refine G_iload_n (pc2 := 15) 2 rfl dX10_exact_14 rfl rfl ?_
        refine G_bipush (pc2 := 17) dX10_exact_15 ib_100 rfl ?_
        refine B_icmp_le (tgt := 23) (pc2 := 20) h dX10_exact_17 (by decide) rfl (fun _ h => ?_) (fun _ h => ?_)
        · refine G_ldcw (pc2 := 26) kw_830 dX10_exact_23 rfl ?_
          refine B_istore_n (pc2 := 27) (fun x3_963 => [(3, .int x3_963), (0, .ref 0), (1, .int x1), (2, .int x2)]) h dX10_exact_26 rfl (by decide) (fun _ => rfl) rfl (fun x3_963 h => ?_)
          refine G_iconst (pc2 := 28) dX10_exact_27 ic_0 rfl ?_
          refine B_istore (pc2 := 30) (fun x4_964 => [(4, .int x4_964), (3, .int x3_963), (0, .ref 0), (1, .int x1), (2, .int x2)]) h dX10_exact_28 (by decide) (fun _ => rfl) rfl (fun x4_964 h => ?_)
          refine G_sub (ls' := [(1, .int x1), (2, .int x2), (3, .int x3_963), (4, .int x4_964)]) [3, 4, 1, 0] rfl ?_
          refine g_L_X10_exact_30 (fun x3_968 h => ?_) FU x3_963 x4_964 h
          refine G_iload_n (pc2 := 49) 0 rfl dX10_exact_48 rfl rfl ?_
          have ha := Option.some.inj h
          subst ha
          exact G_iret rfl dX10_exact_49
        · refine G_ldc (pc2 := 22) kw_435 dX10_exact_20 rfl ?_
          have ha := Option.some.inj h
          subst ha
          exact G_iret rfl dX10_exact_22)
def f_X5_add_38 (x1 : Int32) (x2 : Int32) (I : WI) (F : WF) : Option (WI) :=
  bnd (upd I 57 ((I 57) + (1 : Int32))) fun I_969 =>
  if x2 = 0 then (bnd (upd I_969 58 (if (I_969 58) < (x1 + (1 : Int32)) then (x1 + (1 : Int32)) else (I_969 58))) fun I_970 =>
  some I_970)
  else (bnd (upd I_969 59 (if x1 < (I_969 59) then x1 else (I_969 59))) fun I_971 =>
  some I_971)
set_option maxRecDepth 100000 in
set_option maxHeartbeats 4000000 in
theorem c_X5_add_38 {x1 : Int32} {x2 : Int32} {I : WI} {F : WF} {J : WI} {K : WF} {a : WI} (h : f_X5_add_38 x1 x2 I F = some a) : CT md_X5_add yX5_add (rmD 1) [.ref 38, .int x1, .int x2] (mkW I F J K) none (mkW a F J K) := CT_of pn_X5 ⟨rfl, rfl⟩ (Nat.le_of_ble_eq_true rfl) (fun X => by
  show GG X md_X5_add (rmD 1) _ 0 0 0 [(0, .ref 38), (1, .int x1), (2, .int x2)] [] (mkW I F J K)
  unfold f_X5_add_38 at h
  refine G_aload_n (pc2 := 1) 0 rfl dX5_add_0 rfl rfl ?_
  refine G_dup (pc2 := 2) rfl dX5_add_1 rfl ?_
  refine T_38_0 (pc2 := 5) kw_330 dX5_add_2 rfl ?_
  refine G_iconst (pc2 := 6) dX5_add_5 ic_1 rfl ?_
  refine G_iadd (pc2 := 7) dX5_add_6 rfl ?_
  refine P_38_0 (pc2 := 10) h kw_330 dX5_add_7 rfl (fun I_969 h => ?_)
  refine G_iload_n (pc2 := 11) 2 rfl dX5_add_10 rfl rfl ?_
  refine B_if_eq (tgt := 29) (pc2 := 14) h dX5_add_11 (by decide) rfl (fun _ h => ?_) (fun _ h => ?_)
  · refine G_aload_n (pc2 := 30) 0 rfl dX5_add_29 rfl rfl ?_
    refine G_aload_n (pc2 := 31) 0 rfl dX5_add_30 rfl rfl ?_
    refine T_38_1 (pc2 := 34) kw_332 dX5_add_31 rfl ?_
    refine G_iload_n (pc2 := 35) 1 rfl dX5_add_34 rfl rfl ?_
    refine G_iconst (pc2 := 36) dX5_add_35 ic_1 rfl ?_
    refine G_iadd (pc2 := 37) dX5_add_36 rfl ?_
    refine G_max (pc2 := 40) kw_845 ⟨by decide, by decide, Nat.le_refl _, Nat.le_refl _⟩ (Nat.le_of_ble_eq_true rfl) dX5_add_37 rfl ?_
    refine P_38_1 (pc2 := 43) h kw_332 dX5_add_40 rfl (fun I_970 h => ?_)
    have ha := Option.some.inj h
    subst ha
    exact G_vret rfl dX5_add_43
  · refine G_aload_n (pc2 := 15) 0 rfl dX5_add_14 rfl rfl ?_
    refine G_aload_n (pc2 := 16) 0 rfl dX5_add_15 rfl rfl ?_
    refine T_38_2 (pc2 := 19) kw_334 dX5_add_16 rfl ?_
    refine G_iload_n (pc2 := 20) 1 rfl dX5_add_19 rfl rfl ?_
    refine G_min (pc2 := 23) kw_844 ⟨by decide, by decide, Nat.le_refl _, Nat.le_refl _⟩ (Nat.le_of_ble_eq_true rfl) dX5_add_20 rfl ?_
    refine P_38_2 (pc2 := 26) h kw_334 dX5_add_23 rfl (fun I_971 h => ?_)
    refine G_goto (tgt := 43) dX5_add_26 (by decide) ?_
    have ha := Option.some.inj h
    subst ha
    exact G_vret rfl dX5_add_43)
def f_X10_see (x1 : Int32) (x2 : Int32) (I : WI) (F : WF) : Option (Int32 × WI) :=
  if x1 < 0 then (some ((-1000000002 : Int32), I))
  else (if x1 ≤ (40 : Int32) then (if (I 57) < (6 : Int32) then (Option.bind (f_X5_add_38 x1 x2 I F) fun c_972 =>
  some ((c_972 57), c_972))
  else (some ((-1000000004 : Int32), I)))
  else (some ((-1000000002 : Int32), I)))
set_option maxRecDepth 100000 in
set_option maxHeartbeats 4000000 in
theorem c_X10_see {x1 : Int32} {x2 : Int32} {I : WI} {F : WF} {J : WI} {K : WF} {a : Int32 × WI} (h : f_X10_see x1 x2 I F = some a) : CT md_X10_see yX10_see (rmD 2) [.ref 0, .int x1, .int x2] (mkW I F J K) (some (.int a.1)) (mkW a.2 F J K) := CT_of pn_X10 ⟨rfl, rfl⟩ (Nat.le_of_ble_eq_true rfl) (fun X => by
  show GG X md_X10_see (rmD 2) _ 0 0 0 [(0, .ref 0), (1, .int x1), (2, .int x2)] [] (mkW I F J K)
  unfold f_X10_see at h
  refine G_iload_n (pc2 := 1) 1 rfl dX10_see_0 rfl rfl ?_
  refine B_if_lt (tgt := 10) (pc2 := 4) h dX10_see_1 (by decide) rfl (fun _ h => ?_) (fun _ h => ?_)
  · refine G_ldc (pc2 := 12) kw_435 dX10_see_10 rfl ?_
    have ha := Option.some.inj h
    subst ha
    exact G_iret rfl dX10_see_12
  · refine G_iload_n (pc2 := 5) 1 rfl dX10_see_4 rfl rfl ?_
    refine G_bipush (pc2 := 7) dX10_see_5 ib_40 rfl ?_
    refine B_icmp_le (tgt := 13) (pc2 := 10) h dX10_see_7 (by decide) rfl (fun _ h => ?_) (fun _ h => ?_)
    · refine G_aload_n (pc2 := 14) 0 rfl dX10_see_13 rfl rfl ?_
      refine T_0_6 (pc2 := 17) kw_406 dX10_see_14 rfl ?_
      refine T_38_0 (pc2 := 20) kw_331 dX10_see_17 rfl ?_
      refine G_bipush (pc2 := 22) dX10_see_20 ib_6 rfl ?_
      refine B_icmp_lt (tgt := 28) (pc2 := 25) h dX10_see_22 (by decide) rfl (fun _ h => ?_) (fun _ h => ?_)
      · refine G_aload_n (pc2 := 29) 0 rfl dX10_see_28 rfl rfl ?_
        refine T_0_6 (pc2 := 32) kw_406 dX10_see_29 rfl ?_
        refine G_iload_n (pc2 := 33) 1 rfl dX10_see_32 rfl rfl ?_
        refine G_iload_n (pc2 := 34) 2 rfl dX10_see_33 rfl rfl ?_
        obtain ⟨c_972, hc_972, h⟩ := ob_e h
        refine B_callV (pc2 := 37) si_X10_294 (c_X5_add_38 hc_972) (qo_38 _ _ _ _) rfl rfl rfl (st := []) (stq := []) rfl (by decide) (by decide) (Nat.le_of_ble_eq_true rfl) mkW_ll dX10_see_34 rfl rfl ?_ ⟨rfl, rfl⟩
        refine G_aload_n (pc2 := 38) 0 rfl dX10_see_37 rfl rfl ?_
        refine T_0_6 (pc2 := 41) kw_406 dX10_see_38 rfl ?_
        refine T_38_0 (pc2 := 44) kw_331 dX10_see_41 rfl ?_
        have ha := Option.some.inj h
        subst ha
        exact G_iret rfl dX10_see_44
      · refine G_ldc (pc2 := 27) kw_436 dX10_see_25 rfl ?_
        have ha := Option.some.inj h
        subst ha
        exact G_iret rfl dX10_see_27
    · refine G_ldc (pc2 := 12) kw_435 dX10_see_10 rfl ?_
      have ha := Option.some.inj h
      subst ha
      exact G_iret rfl dX10_see_12)
def f_X5_fitting_38 (I : WI) (F : WF) : Option (Int32) :=
  some (if (0 : Int32) < (((I 59) - (I 58)) + (1 : Int32)) then (((I 59) - (I 58)) + (1 : Int32)) else (0 : Int32))
set_option maxRecDepth 100000 in
set_option maxHeartbeats 4000000 in
theorem c_X5_fitting_38 {I : WI} {F : WF} {J : WI} {K : WF} {a : Int32} (h : f_X5_fitting_38  I F = some a) : CT md_X5_fitting yX5_fitting (rmD 1) [.ref 38] (mkW I F J K) (some (.int a)) (mkW I F J K) := CT_of pn_X5 ⟨rfl, rfl⟩ (Nat.le_of_ble_eq_true rfl) (fun X => by
  show GG X md_X5_fitting (rmD 1) _ 0 0 0 [(0, .ref 38)] [] (mkW I F J K)
  unfold f_X5_fitting_38 at h
  refine G_iconst (pc2 := 1) dX5_fitting_0 ic_0 rfl ?_
  refine G_aload_n (pc2 := 2) 0 rfl dX5_fitting_1 rfl rfl ?_
  refine T_38_2 (pc2 := 5) kw_334 dX5_fitting_2 rfl ?_
  refine G_aload_n (pc2 := 6) 0 rfl dX5_fitting_5 rfl rfl ?_
  refine T_38_1 (pc2 := 9) kw_332 dX5_fitting_6 rfl ?_
  refine G_isub (pc2 := 10) dX5_fitting_9 rfl ?_
  refine G_iconst (pc2 := 11) dX5_fitting_10 ic_1 rfl ?_
  refine G_iadd (pc2 := 12) dX5_fitting_11 rfl ?_
  refine G_max (pc2 := 15) kw_845 ⟨by decide, by decide, Nat.le_refl _, Nat.le_refl _⟩ (Nat.le_of_ble_eq_true rfl) dX5_fitting_12 rfl ?_
  have ha := Option.some.inj h
  subst ha
  exact G_iret rfl dX5_fitting_15)
def f_X10_quick (x1 : Int32) (I : WI) (F : WF) : Option (Int32) :=
  if x1 = (0 : Int32) then (Option.bind (f_X5_fitting_38 I F) fun c_973 =>
  some c_973)
  else if x1 = (1 : Int32) then (Option.bind (f_X5_fitting_38 I F) fun c_975 =>
  if c_975 = 0 then (some (-1 : Int32))
  else (some (I 58)))
  else if x1 = (2 : Int32) then (Option.bind (f_X5_fitting_38 I F) fun c_977 =>
  if c_977 = 0 then (some (-1 : Int32))
  else (some (I 59)))
  else some (-1000000002 : Int32)
set_option maxRecDepth 100000 in
set_option maxHeartbeats 4000000 in
theorem c_X10_quick {x1 : Int32} {I : WI} {F : WF} {J : WI} {K : WF} {a : Int32} (h : f_X10_quick x1 I F = some a) : CT md_X10_quick yX10_quick (rmD 2) [.ref 0, .int x1] (mkW I F J K) (some (.int a)) (mkW I F J K) := CT_of pn_X10 ⟨rfl, rfl⟩ (Nat.le_of_ble_eq_true rfl) (fun X => by
  show GG X md_X10_quick (rmD 2) _ 0 0 0 [(0, .ref 0), (1, .int x1)] [] (mkW I F J K)
  unfold f_X10_quick at h
  refine G_iload_n (pc2 := 1) 1 rfl dX10_quick_0 rfl rfl ?_
  by_cases qx_974 : x1 = (0 : Int32)
  · have h := ite_t h qx_974
    refine B_tabIn (tgt := 28) (off := 27) (0 : Int32) qx_974 dX10_quick_1 (by decide) (by decide) (by decide) (by decide) ?_
    refine G_aload_n (pc2 := 29) 0 rfl dX10_quick_28 rfl rfl ?_
    refine T_0_6 (pc2 := 32) kw_406 dX10_quick_29 rfl ?_
    obtain ⟨c_973, hc_973, h⟩ := ob_e h
    refine B_callV (pc2 := 35) si_X10_297 (c_X5_fitting_38 hc_973) (qo_38 _ _ _ _) rfl rfl rfl (st := []) (stq := [.int c_973]) rfl (by decide) (by decide) (Nat.le_of_ble_eq_true rfl) mkW_ll dX10_quick_32 rfl rfl ?_ ⟨rfl, rfl⟩
    have ha := Option.some.inj h
    subst ha
    exact G_iret rfl dX10_quick_35
  have h := ite_f h qx_974
  by_cases qx_976 : x1 = (1 : Int32)
  · have h := ite_t h qx_976
    refine B_tabIn (tgt := 36) (off := 35) (1 : Int32) qx_976 dX10_quick_1 (by decide) (by decide) (by decide) (by decide) ?_
    refine G_aload_n (pc2 := 37) 0 rfl dX10_quick_36 rfl rfl ?_
    refine T_0_6 (pc2 := 40) kw_406 dX10_quick_37 rfl ?_
    obtain ⟨c_975, hc_975, h⟩ := ob_e h
    refine B_callV (pc2 := 43) si_X10_297 (c_X5_fitting_38 hc_975) (qo_38 _ _ _ _) rfl rfl rfl (st := []) (stq := [.int c_975]) rfl (by decide) (by decide) (Nat.le_of_ble_eq_true rfl) mkW_ll dX10_quick_40 rfl rfl ?_ ⟨rfl, rfl⟩
    refine B_if_ne (tgt := 50) (pc2 := 46) h dX10_quick_43 (by decide) rfl (fun _ h => ?_) (fun _ h => ?_)
    · refine G_aload_n (pc2 := 51) 0 rfl dX10_quick_50 rfl rfl ?_
      refine T_0_6 (pc2 := 54) kw_406 dX10_quick_51 rfl ?_
      refine T_38_1 (pc2 := 57) kw_333 dX10_quick_54 rfl ?_
      have ha := Option.some.inj h
      subst ha
      exact G_iret rfl dX10_quick_57
    · refine G_iconst (pc2 := 47) dX10_quick_46 ic_m1 rfl ?_
      refine G_goto (tgt := 57) dX10_quick_47 (by decide) ?_
      have ha := Option.some.inj h
      subst ha
      exact G_iret rfl dX10_quick_57
  have h := ite_f h qx_976
  by_cases qx_978 : x1 = (2 : Int32)
  · have h := ite_t h qx_978
    refine B_tabIn (tgt := 58) (off := 57) (2 : Int32) qx_978 dX10_quick_1 (by decide) (by decide) (by decide) (by decide) ?_
    refine G_aload_n (pc2 := 59) 0 rfl dX10_quick_58 rfl rfl ?_
    refine T_0_6 (pc2 := 62) kw_406 dX10_quick_59 rfl ?_
    obtain ⟨c_977, hc_977, h⟩ := ob_e h
    refine B_callV (pc2 := 65) si_X10_297 (c_X5_fitting_38 hc_977) (qo_38 _ _ _ _) rfl rfl rfl (st := []) (stq := [.int c_977]) rfl (by decide) (by decide) (Nat.le_of_ble_eq_true rfl) mkW_ll dX10_quick_62 rfl rfl ?_ ⟨rfl, rfl⟩
    refine B_if_ne (tgt := 72) (pc2 := 68) h dX10_quick_65 (by decide) rfl (fun _ h => ?_) (fun _ h => ?_)
    · refine G_aload_n (pc2 := 73) 0 rfl dX10_quick_72 rfl rfl ?_
      refine T_0_6 (pc2 := 76) kw_406 dX10_quick_73 rfl ?_
      refine T_38_2 (pc2 := 79) kw_335 dX10_quick_76 rfl ?_
      have ha := Option.some.inj h
      subst ha
      exact G_iret rfl dX10_quick_79
    · refine G_iconst (pc2 := 69) dX10_quick_68 ic_m1 rfl ?_
      refine G_goto (tgt := 79) dX10_quick_69 (by decide) ?_
      have ha := Option.some.inj h
      subst ha
      exact G_iret rfl dX10_quick_79
  have h := ite_f h qx_978
  refine G_tableOut (tgt := 80) dX10_quick_1 (tab_out _ 0 2 (by decide) (fun j q1 q2 => by match j, q1, q2 with | 0, _, _ => exact qx_974 | 1, _, _ => exact qx_976 | 2, _, _ => exact qx_978 | (j + 3), _, q => exact absurd q (by omega))) (by decide) ?_
  refine G_ldc (pc2 := 82) kw_435 dX10_quick_80 rfl ?_
  have ha := Option.some.inj h
  subst ha
  exact G_iret rfl dX10_quick_82)
def f_X5_bestFlight_38 (I : WI) (F : WF) : Option (Int32) :=
  Option.bind (f_X5_fitting_38 I F) fun c_979 =>
  bnd c_979 fun x1_980 =>
  if (2 : Int32) ≤ x1_980 then (some (((I 58) + (x1_980 / (2 : Int32))) - (1 : Int32)))
  else (some (-1 : Int32))
set_option maxRecDepth 100000 in
set_option maxHeartbeats 4000000 in
theorem c_X5_bestFlight_38 {I : WI} {F : WF} {J : WI} {K : WF} {a : Int32} (h : f_X5_bestFlight_38  I F = some a) : CT md_X5_bestFlight yX5_bestFlight (rmD 2) [.ref 38] (mkW I F J K) (some (.int a)) (mkW I F J K) := CT_of pn_X5 ⟨rfl, rfl⟩ (Nat.le_of_ble_eq_true rfl) (fun X => by
  show GG X md_X5_bestFlight (rmD 2) _ 0 0 0 [(0, .ref 38)] [] (mkW I F J K)
  unfold f_X5_bestFlight_38 at h
  refine G_aload_n (pc2 := 1) 0 rfl dX5_bestFlight_0 rfl rfl ?_
  obtain ⟨c_979, hc_979, h⟩ := ob_e h
  refine B_callV (pc2 := 4) si_X5_30 (c_X5_fitting_38 hc_979) (qo_38 _ _ _ _) rfl rfl rfl (st := []) (stq := [.int c_979]) rfl (by decide) (by decide) (Nat.le_of_ble_eq_true rfl) mkW_ll dX5_bestFlight_1 rfl rfl ?_ ⟨rfl, rfl⟩
  refine B_istore_n (pc2 := 5) (fun x1_980 => [(1, .int x1_980), (0, .ref 38)]) h dX5_bestFlight_4 rfl (by decide) (fun _ => rfl) rfl (fun x1_980 h => ?_)
  refine G_iload_n (pc2 := 6) 0 rfl dX5_bestFlight_5 rfl rfl ?_
  refine G_iconst (pc2 := 7) dX5_bestFlight_6 ic_2 rfl ?_
  refine B_icmp_ge (tgt := 14) (pc2 := 10) h dX5_bestFlight_7 (by decide) rfl (fun _ h => ?_) (fun _ h => ?_)
  · refine G_aload_n (pc2 := 15) 1 rfl dX5_bestFlight_14 rfl rfl ?_
    refine T_38_1 (pc2 := 18) kw_332 dX5_bestFlight_15 rfl ?_
    refine G_iload_n (pc2 := 19) 0 rfl dX5_bestFlight_18 rfl rfl ?_
    refine G_iconst (pc2 := 20) dX5_bestFlight_19 ic_2 rfl ?_
    refine G_idiv (pc2 := 21) dX5_bestFlight_20 (by decide) rfl ?_
    refine G_iadd (pc2 := 22) dX5_bestFlight_21 rfl ?_
    refine G_iconst (pc2 := 23) dX5_bestFlight_22 ic_1 rfl ?_
    refine G_isub (pc2 := 24) dX5_bestFlight_23 rfl ?_
    have ha := Option.some.inj h
    subst ha
    exact G_iret rfl dX5_bestFlight_24
  · refine G_iconst (pc2 := 11) dX5_bestFlight_10 ic_m1 rfl ?_
    refine G_goto (tgt := 24) dX5_bestFlight_11 (by decide) ?_
    have ha := Option.some.inj h
    subst ha
    exact G_iret rfl dX5_bestFlight_24)
def f_X10_watch (I : WI) (F : WF) : Option (Int32) :=
  Option.bind (f_X5_bestFlight_38 I F) fun c_981 =>
  some c_981
set_option maxRecDepth 100000 in
set_option maxHeartbeats 4000000 in
theorem c_X10_watch {I : WI} {F : WF} {J : WI} {K : WF} {a : Int32} (h : f_X10_watch  I F = some a) : CT md_X10_watch yX10_watch (rmD 3) [.ref 0] (mkW I F J K) (some (.int a)) (mkW I F J K) := CT_of pn_X10 ⟨rfl, rfl⟩ (Nat.le_of_ble_eq_true rfl) (fun X => by
  show GG X md_X10_watch (rmD 3) _ 0 0 0 [(0, .ref 0)] [] (mkW I F J K)
  unfold f_X10_watch at h
  refine G_aload_n (pc2 := 1) 0 rfl dX10_watch_0 rfl rfl ?_
  refine T_0_6 (pc2 := 4) kw_406 dX10_watch_1 rfl ?_
  obtain ⟨c_981, hc_981, h⟩ := ob_e h
  refine B_callV (pc2 := 7) si_X10_306 (c_X5_bestFlight_38 hc_981) (qo_38 _ _ _ _) rfl rfl rfl (st := []) (stq := [.int c_981]) rfl (by decide) (by decide) (Nat.le_of_ble_eq_true rfl) mkW_ll dX10_watch_4 rfl rfl ?_ ⟨rfl, rfl⟩
  have ha := Option.some.inj h
  subst ha
  exact G_iret rfl dX10_watch_7)
def f_X0_add_39 (x1 : Int32) (x2 : Int32) (I : WI) (F : WF) : Option (WI × WF) :=
  ixG (I 60) 15 (bnd (uF F 174 (upd (F 174) (I 60).toNatClampNeg x1)) fun F_984 =>
  ixG (I 60) 15 (bnd (uF F_984 175 (upd (F_984 175) (I 60).toNatClampNeg x2)) fun F_985 =>
  bnd (upd I 60 ((I 60) + (1 : Int32))) fun I_986 =>
  some (I_986, F_985)))
set_option maxRecDepth 100000 in
set_option maxHeartbeats 4000000 in
theorem c_X0_add_39 {x1 : Int32} {x2 : Int32} {I : WI} {F : WF} {J : WI} {K : WF} {a : WI × WF} (h : f_X0_add_39 x1 x2 I F = some a) : CT md_X0_add yX0_add (rmD 1) [.ref 39, .int x1, .int x2] (mkW I F J K) none (mkW a.1 a.2 J K) := CT_of pn_X0 ⟨rfl, rfl⟩ (Nat.le_of_ble_eq_true rfl) (fun X => by
  show GG X md_X0_add (rmD 1) _ 0 0 0 [(0, .ref 39), (1, .int x1), (2, .int x2)] [] (mkW I F J K)
  unfold f_X0_add_39 at h
  refine G_aload_n (pc2 := 1) 0 rfl dX0_add_0 rfl rfl ?_
  refine T_39_1 (pc2 := 4) kw_351 dX0_add_1 rfl ?_
  refine G_aload_n (pc2 := 5) 0 rfl dX0_add_4 rfl rfl ?_
  refine T_39_0 (pc2 := 8) kw_349 dX0_add_5 rfl ?_
  refine G_iload_n (pc2 := 9) 1 rfl dX0_add_8 rfl rfl ?_
  refine SC (pc2 := 10) (fa_40 _ _ _ _) h dX0_add_9 rfl (fun F_984 h => ?_)
  refine G_aload_n (pc2 := 11) 0 rfl dX0_add_10 rfl rfl ?_
  refine T_39_2 (pc2 := 14) kw_352 dX0_add_11 rfl ?_
  refine G_aload_n (pc2 := 15) 0 rfl dX0_add_14 rfl rfl ?_
  refine T_39_0 (pc2 := 18) kw_349 dX0_add_15 rfl ?_
  refine G_iload_n (pc2 := 19) 2 rfl dX0_add_18 rfl rfl ?_
  refine SC (pc2 := 20) (fa_41 _ _ _ _) h dX0_add_19 rfl (fun F_985 h => ?_)
  refine G_aload_n (pc2 := 21) 0 rfl dX0_add_20 rfl rfl ?_
  refine G_dup (pc2 := 22) rfl dX0_add_21 rfl ?_
  refine T_39_0 (pc2 := 25) kw_349 dX0_add_22 rfl ?_
  refine G_iconst (pc2 := 26) dX0_add_25 ic_1 rfl ?_
  refine G_iadd (pc2 := 27) dX0_add_26 rfl ?_
  refine P_39_0 (pc2 := 30) h kw_349 dX0_add_27 rfl (fun I_986 h => ?_)
  have ha := Option.some.inj h
  subst ha
  exact G_vret rfl dX0_add_30)
def f_X10_write (x1 : Int32) (x2 : Int32) (I : WI) (F : WF) : Option (Int32 × WI × WF) :=
  Option.bind (f_X7_hasJumper_13 x1 I F) fun c_982 =>
  if c_982 = 0 then (some ((-1000000001 : Int32), I, F))
  else (Option.bind (f_X7_hasPlace_13 x2 I F) fun c_983 =>
  if c_983 = 0 then (some ((-1000000001 : Int32), I, F))
  else (if (I 60) < (15 : Int32) then (Option.bind (f_X0_add_39 x1 x2 I F) fun c_987 =>
  some ((c_987.1 60), c_987.1, c_987.2))
  else (some ((-1000000004 : Int32), I, F))))
set_option maxRecDepth 100000 in
set_option maxHeartbeats 4000000 in
theorem c_X10_write {x1 : Int32} {x2 : Int32} {I : WI} {F : WF} {J : WI} {K : WF} {a : Int32 × WI × WF} (h : f_X10_write x1 x2 I F = some a) : CT md_X10_write yX10_write (rmD 2) [.ref 0, .int x1, .int x2] (mkW I F J K) (some (.int a.1)) (mkW a.2.1 a.2.2 J K) := CT_of pn_X10 ⟨rfl, rfl⟩ (Nat.le_of_ble_eq_true rfl) (fun X => by
  show GG X md_X10_write (rmD 2) _ 0 0 0 [(0, .ref 0), (1, .int x1), (2, .int x2)] [] (mkW I F J K)
  unfold f_X10_write at h
  refine G_aload_n (pc2 := 1) 0 rfl dX10_write_0 rfl rfl ?_
  refine T_0_2 (pc2 := 4) kw_402 dX10_write_1 rfl ?_
  refine G_iload_n (pc2 := 5) 1 rfl dX10_write_4 rfl rfl ?_
  obtain ⟨c_982, hc_982, h⟩ := ob_e h
  refine B_callV (pc2 := 8) si_X10_203 (c_X7_hasJumper_13 hc_982) (qo_13 _ _ _ _) rfl rfl rfl (st := []) (stq := [.int c_982]) rfl (by decide) (by decide) (Nat.le_of_ble_eq_true rfl) mkW_ll dX10_write_5 rfl rfl ?_ ⟨rfl, rfl⟩
  refine B_if_eq (tgt := 22) (pc2 := 11) h dX10_write_8 (by decide) rfl (fun _ h => ?_) (fun _ h => ?_)
  · refine G_ldc (pc2 := 24) kw_605 dX10_write_22 rfl ?_
    have ha := Option.some.inj h
    subst ha
    exact G_iret rfl dX10_write_24
  · refine G_aload_n (pc2 := 12) 0 rfl dX10_write_11 rfl rfl ?_
    refine T_0_2 (pc2 := 15) kw_402 dX10_write_12 rfl ?_
    refine G_iload_n (pc2 := 16) 2 rfl dX10_write_15 rfl rfl ?_
    obtain ⟨c_983, hc_983, h⟩ := ob_e h
    refine B_callV (pc2 := 19) si_X10_257 (c_X7_hasPlace_13 hc_983) (qo_13 _ _ _ _) rfl rfl rfl (st := []) (stq := [.int c_983]) rfl (by decide) (by decide) (Nat.le_of_ble_eq_true rfl) mkW_ll dX10_write_16 rfl rfl ?_ ⟨rfl, rfl⟩
    refine B_if_ne (tgt := 25) (pc2 := 22) h dX10_write_19 (by decide) rfl (fun _ h => ?_) (fun _ h => ?_)
    · refine G_aload_n (pc2 := 26) 0 rfl dX10_write_25 rfl rfl ?_
      refine T_0_7 (pc2 := 29) kw_407 dX10_write_26 rfl ?_
      refine T_39_0 (pc2 := 32) kw_350 dX10_write_29 rfl ?_
      refine G_bipush (pc2 := 34) dX10_write_32 ib_15 rfl ?_
      refine B_icmp_lt (tgt := 40) (pc2 := 37) h dX10_write_34 (by decide) rfl (fun _ h => ?_) (fun _ h => ?_)
      · refine G_aload_n (pc2 := 41) 0 rfl dX10_write_40 rfl rfl ?_
        refine T_0_7 (pc2 := 44) kw_407 dX10_write_41 rfl ?_
        refine G_iload_n (pc2 := 45) 1 rfl dX10_write_44 rfl rfl ?_
        refine G_iload_n (pc2 := 46) 2 rfl dX10_write_45 rfl rfl ?_
        obtain ⟨c_987, hc_987, h⟩ := ob_e h
        refine B_callV (pc2 := 49) si_X10_309 (c_X0_add_39 hc_987) (qo_39 _ _ _ _) rfl rfl rfl (st := []) (stq := []) rfl (by decide) (by decide) (Nat.le_of_ble_eq_true rfl) mkW_ll dX10_write_46 rfl rfl ?_ ⟨rfl, rfl⟩
        refine G_aload_n (pc2 := 50) 0 rfl dX10_write_49 rfl rfl ?_
        refine T_0_7 (pc2 := 53) kw_407 dX10_write_50 rfl ?_
        refine T_39_0 (pc2 := 56) kw_350 dX10_write_53 rfl ?_
        have ha := Option.some.inj h
        subst ha
        exact G_iret rfl dX10_write_56
      · refine G_ldc (pc2 := 39) kw_436 dX10_write_37 rfl ?_
        have ha := Option.some.inj h
        subst ha
        exact G_iret rfl dX10_write_39
    · refine G_ldc (pc2 := 24) kw_605 dX10_write_22 rfl ?_
      have ha := Option.some.inj h
      subst ha
      exact G_iret rfl dX10_write_24)
def f_X10_tear (I : WI) (F : WF) : Option (Int32 × WI) :=
  bnd ((I 57) + (I 60)) fun x1_988 =>
  Option.bind (f_X5_forget_38 I F) fun c_989 =>
  bnd (upd c_989 60 (0 : Int32)) fun I_990 =>
  some (x1_988, I_990)
set_option maxRecDepth 100000 in
set_option maxHeartbeats 4000000 in
theorem c_X10_tear {I : WI} {F : WF} {J : WI} {K : WF} {a : Int32 × WI} (h : f_X10_tear  I F = some a) : CT md_X10_tear yX10_tear (rmD 2) [.ref 0] (mkW I F J K) (some (.int a.1)) (mkW a.2 F J K) := CT_of pn_X10 ⟨rfl, rfl⟩ (Nat.le_of_ble_eq_true rfl) (fun X => by
  show GG X md_X10_tear (rmD 2) _ 0 0 0 [(0, .ref 0)] [] (mkW I F J K)
  unfold f_X10_tear at h
  refine G_aload_n (pc2 := 1) 0 rfl dX10_tear_0 rfl rfl ?_
  refine T_0_6 (pc2 := 4) kw_406 dX10_tear_1 rfl ?_
  refine T_38_0 (pc2 := 7) kw_331 dX10_tear_4 rfl ?_
  refine G_aload_n (pc2 := 8) 0 rfl dX10_tear_7 rfl rfl ?_
  refine T_0_7 (pc2 := 11) kw_407 dX10_tear_8 rfl ?_
  refine T_39_0 (pc2 := 14) kw_350 dX10_tear_11 rfl ?_
  refine G_iadd (pc2 := 15) dX10_tear_14 rfl ?_
  refine B_istore_n (pc2 := 16) (fun x1_988 => [(1, .int x1_988), (0, .ref 0)]) h dX10_tear_15 rfl (by decide) (fun _ => rfl) rfl (fun x1_988 h => ?_)
  refine G_aload_n (pc2 := 17) 1 rfl dX10_tear_16 rfl rfl ?_
  refine T_0_6 (pc2 := 20) kw_406 dX10_tear_17 rfl ?_
  obtain ⟨c_989, hc_989, h⟩ := ob_e h
  refine B_callV (pc2 := 23) si_X10_108 (c_X5_forget_38 hc_989) (qo_38 _ _ _ _) rfl rfl rfl (st := []) (stq := []) rfl (by decide) (by decide) (Nat.le_of_ble_eq_true rfl) mkW_ll dX10_tear_20 rfl rfl ?_ ⟨rfl, rfl⟩
  refine G_aload_n (pc2 := 24) 1 rfl dX10_tear_23 rfl rfl ?_
  refine T_0_7 (pc2 := 27) kw_407 dX10_tear_24 rfl ?_
  refine G_iconst (pc2 := 28) dX10_tear_27 ic_0 rfl ?_
  refine P_39_0 (pc2 := 31) h kw_350 dX10_tear_28 rfl (fun I_990 h => ?_)
  refine G_iload_n (pc2 := 32) 0 rfl dX10_tear_31 rfl rfl ?_
  have ha := Option.some.inj h
  subst ha
  exact G_iret rfl dX10_tear_32)
def L_X0_firstWrong_39_22_2 (k : Option (Int32))  (I : WI) (F : WF) : Nat → Int32 → Option (Int32)
  | 0, _ => none
  | n + 1, x2 =>
  if (I 60) ≤ x2 then (k)
  else (ixG x2 15 (
  ixG (F 174 x2.toNatClampNeg) 6 (
  ixG x2 15 (
  if (F 3 (F 174 x2.toNatClampNeg).toNatClampNeg) = (F 175 x2.toNatClampNeg) then (bnd (x2 + (1 : Int32)) fun x2_992 =>
  L_X0_firstWrong_39_22_2 k I F n x2_992)
  else (some x2)))))
def f_X0_firstWrong_39_22 (I : WI) (F : WF) : Option (Int32) :=
  bnd (0 : Int32) fun x2_991 =>
  L_X0_firstWrong_39_22_2 (some (-1 : Int32)) I F FU x2_991
set_option maxRecDepth 100000 in
set_option maxHeartbeats 4000000 in
theorem g_L_X0_firstWrong_39_22_2 {X : XT} {I : WI} {F : WF} {J : WI} {K : WF} {a : Int32} {k : Option (Int32)} (hk : (k = some a → GG X md_X0_firstWrong (rmD 1) (gv_Z X (rmD 1).cells (rmD 1).slots (some (.int a)) (mkW I F J K)) 0 0 38 [] [] (mkW I F J K))) : ∀ (n : Nat) (x2 : Int32), L_X0_firstWrong_39_22_2 k I F n x2 = some a → GG X md_X0_firstWrong (rmD 1) (gv_Z X (rmD 1).cells (rmD 1).slots (some (.int a)) (mkW I F J K)) 0 0 2 [(0, .ref 39), (1, .ref 22), (2, .int x2)] [] (mkW I F J K) := by
  intro n
  induction n with
  | zero =>
    intro x2 h
    rw [L_X0_firstWrong_39_22_2] at h
    cases h
  | succ n ih =>
    intro x2 h
    rw [L_X0_firstWrong_39_22_2] at h
    refine G_iload_n (pc2 := 3) 2 rfl dX0_firstWrong_2 rfl rfl ?_
    refine G_aload_n (pc2 := 4) 0 rfl dX0_firstWrong_3 rfl rfl ?_
    refine T_39_0 (pc2 := 7) kw_349 dX0_firstWrong_4 rfl ?_
    refine B_icmp_ge (tgt := 38) (pc2 := 10) h dX0_firstWrong_7 (by decide) rfl (fun _ h => ?_) (fun _ h => ?_)
    · refine G_sub (ls' := []) [] rfl ?_
      exact hk  h
    · refine G_aload_n (pc2 := 11) 1 rfl dX0_firstWrong_10 rfl rfl ?_
      refine T_22_5 (pc2 := 14) kw_222 dX0_firstWrong_11 rfl ?_
      refine G_aload_n (pc2 := 15) 0 rfl dX0_firstWrong_14 rfl rfl ?_
      refine T_39_1 (pc2 := 18) kw_351 dX0_firstWrong_15 rfl ?_
      refine G_iload_n (pc2 := 19) 2 rfl dX0_firstWrong_18 rfl rfl ?_
      refine AC (pc2 := 20) (fa_40 _ _ _ _) h dX0_firstWrong_19 rfl (fun h => ?_)
      refine AC (pc2 := 21) (fa_26 _ _ _ _) h dX0_firstWrong_20 rfl (fun h => ?_)
      refine G_aload_n (pc2 := 22) 0 rfl dX0_firstWrong_21 rfl rfl ?_
      refine T_39_2 (pc2 := 25) kw_352 dX0_firstWrong_22 rfl ?_
      refine G_iload_n (pc2 := 26) 2 rfl dX0_firstWrong_25 rfl rfl ?_
      refine AC (pc2 := 27) (fa_41 _ _ _ _) h dX0_firstWrong_26 rfl (fun h => ?_)
      refine B_icmp_eq (tgt := 32) (pc2 := 30) h dX0_firstWrong_27 (by decide) rfl (fun _ h => ?_) (fun _ h => ?_)
      · refine B_iinc (pc2 := 35) 2 (fun x2_992 => [(2, .int x2_992), (0, .ref 39), (1, .ref 22)]) h rfl dX0_firstWrong_32 ic_1 (by decide) (fun _ => rfl) rfl (fun x2_992 h => ?_)
        refine G_goto (tgt := 2) dX0_firstWrong_35 (by decide) ?_
        refine G_sub (ls' := [(0, .ref 39), (1, .ref 22), (2, .int x2_992)]) [1, 2, 0] rfl ?_
        exact ih x2_992 h
      · refine G_iload_n (pc2 := 31) 2 rfl dX0_firstWrong_30 rfl rfl ?_
        have ha := Option.some.inj h
        subst ha
        exact G_iret rfl dX0_firstWrong_31
set_option maxRecDepth 100000 in
set_option maxHeartbeats 4000000 in
theorem c_X0_firstWrong_39_22 {I : WI} {F : WF} {J : WI} {K : WF} {a : Int32} (h : f_X0_firstWrong_39_22  I F = some a) : CT md_X0_firstWrong yX0_firstWrong (rmD 1) [.ref 39, .ref 22] (mkW I F J K) (some (.int a)) (mkW I F J K) := CT_of pn_X0 ⟨rfl, rfl⟩ (Nat.le_of_ble_eq_true rfl) (fun X => by
  show GG X md_X0_firstWrong (rmD 1) _ 0 0 0 [(0, .ref 39), (1, .ref 22)] [] (mkW I F J K)
  unfold f_X0_firstWrong_39_22 at h
  refine G_iconst (pc2 := 1) dX0_firstWrong_0 ic_0 rfl ?_
  refine B_istore_n (pc2 := 2) (fun x2_991 => [(2, .int x2_991), (0, .ref 39), (1, .ref 22)]) h dX0_firstWrong_1 rfl (by decide) (fun _ => rfl) rfl (fun x2_991 h => ?_)
  refine G_sub (ls' := [(0, .ref 39), (1, .ref 22), (2, .int x2_991)]) [1, 2, 0] rfl ?_
  refine g_L_X0_firstWrong_39_22_2 (fun h => ?_) FU x2_991 h
  refine G_iconst (pc2 := 39) dX0_firstWrong_38 ic_m1 rfl ?_
  have ha := Option.some.inj h
  subst ha
  exact G_iret rfl dX0_firstWrong_39)
def f_X10_judge (I : WI) (F : WF) : Option (Int32) :=
  Option.bind (f_X0_firstWrong_39_22 I F) fun c_993 =>
  some c_993
set_option maxRecDepth 100000 in
set_option maxHeartbeats 4000000 in
theorem c_X10_judge {I : WI} {F : WF} {J : WI} {K : WF} {a : Int32} (h : f_X10_judge  I F = some a) : CT md_X10_judge yX10_judge (rmD 2) [.ref 0] (mkW I F J K) (some (.int a)) (mkW I F J K) := CT_of pn_X10 ⟨rfl, rfl⟩ (Nat.le_of_ble_eq_true rfl) (fun X => by
  show GG X md_X10_judge (rmD 2) _ 0 0 0 [(0, .ref 0)] [] (mkW I F J K)
  unfold f_X10_judge at h
  refine G_aload_n (pc2 := 1) 0 rfl dX10_judge_0 rfl rfl ?_
  refine T_0_7 (pc2 := 4) kw_407 dX10_judge_1 rfl ?_
  refine G_aload_n (pc2 := 5) 0 rfl dX10_judge_4 rfl rfl ?_
  refine T_0_3 (pc2 := 8) kw_403 dX10_judge_5 rfl ?_
  obtain ⟨c_993, hc_993, h⟩ := ob_e h
  refine B_callV (pc2 := 11) si_X10_312 (c_X0_firstWrong_39_22 hc_993) (qo_39 _ _ _ _) rfl rfl rfl (st := []) (stq := [.int c_993]) rfl (by decide) (by decide) (Nat.le_of_ble_eq_true rfl) mkW_ll dX10_judge_8 rfl rfl ?_ ⟨rfl, rfl⟩
  have ha := Option.some.inj h
  subst ha
  exact G_iret rfl dX10_judge_11)
def f_X10_seed (x1 : Int32) (I : WI) (F : WF) : Option (Int32 × WI) :=
  if 0 ≤ x1 then (bnd (I 47) fun x2_994 =>
  bnd (upd I 47 x1) fun I_995 =>
  some (x2_994, I_995))
  else (some ((-1000000002 : Int32), I))
set_option maxRecDepth 100000 in
set_option maxHeartbeats 4000000 in
theorem c_X10_seed {x1 : Int32} {I : WI} {F : WF} {J : WI} {K : WF} {a : Int32 × WI} (h : f_X10_seed x1 I F = some a) : CT md_X10_seed yX10_seed (rmD 1) [.ref 0, .int x1] (mkW I F J K) (some (.int a.1)) (mkW a.2 F J K) := CT_of pn_X10 ⟨rfl, rfl⟩ (Nat.le_of_ble_eq_true rfl) (fun X => by
  show GG X md_X10_seed (rmD 1) _ 0 0 0 [(0, .ref 0), (1, .int x1)] [] (mkW I F J K)
  unfold f_X10_seed at h
  refine G_iload_n (pc2 := 1) 1 rfl dX10_seed_0 rfl rfl ?_
  refine B_if_ge (tgt := 7) (pc2 := 4) h dX10_seed_1 (by decide) rfl (fun _ h => ?_) (fun _ h => ?_)
  · refine G_aload_n (pc2 := 8) 0 rfl dX10_seed_7 rfl rfl ?_
    refine T_0_1 (pc2 := 11) kw_401 dX10_seed_8 rfl ?_
    refine T_12_2 (pc2 := 14) kw_262 dX10_seed_11 rfl ?_
    refine B_istore_n (pc2 := 15) (fun x2_994 => [(2, .int x2_994), (0, .ref 0), (1, .int x1)]) h dX10_seed_14 rfl (by decide) (fun _ => rfl) rfl (fun x2_994 h => ?_)
    refine G_aload_n (pc2 := 16) 1 rfl dX10_seed_15 rfl rfl ?_
    refine T_0_1 (pc2 := 19) kw_401 dX10_seed_16 rfl ?_
    refine G_iload_n (pc2 := 20) 2 rfl dX10_seed_19 rfl rfl ?_
    refine P_12_2 (pc2 := 23) h kw_262 dX10_seed_20 rfl (fun I_995 h => ?_)
    refine G_iload_n (pc2 := 24) 0 rfl dX10_seed_23 rfl rfl ?_
    have ha := Option.some.inj h
    subst ha
    exact G_iret rfl dX10_seed_24
  · refine G_ldc (pc2 := 6) kw_435 dX10_seed_4 rfl ?_
    have ha := Option.some.inj h
    subst ha
    exact G_iret rfl dX10_seed_6)
end
