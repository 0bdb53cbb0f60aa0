theorem nf_f_X8_add_1 (x1 : Int32) (I : WI) (F : WF) : f_X8_add_1 x1 I F = (ixG (I 38) 240 (bnd (uF F 160 (upd (F 160) (I 38).toNatClampNeg x1)) fun F_1 =>
  bnd (upd I 38 ((I 38) + (nI 1))) fun I_2 =>
  some (I_2, F_1))) := rfl
theorem nf_f_X10_feed (x1 : Int32) (I : WI) (F : WF) : f_X10_feed x1 I F = (if x1 < (nI 0) then (some ((-1000000002 : Int32), I, F))
  else (if x1 ≤ (nI 255) then (if (I 38) < (nI 240) then (Option.bind (f_X8_add_1 x1 I F) fun c_3 =>
  some ((c_3.1 38), c_3.1, c_3.2))
  else (some ((-1000000004 : Int32), I, F)))
  else (some ((-1000000002 : Int32), I, F)))) := rfl
theorem nf_f_X7_clear_2 (I : WI) (F : WF) : f_X7_clear_2 I F = (bnd (upd I 43 (nI 0)) fun I_4 =>
  bnd (upd I_4 44 (nI 0)) fun I_5 =>
  bnd (upd I_5 45 (nI 0)) fun I_6 =>
  bnd (upd I_6 46 (nI 0)) fun I_7 =>
  some I_7) := rfl
theorem nf_L_X8_skipBlanks_1_0 (k : WI → Option (WI))  (F : WF) (n : Nat) (I : WI) : L_X8_skipBlanks_1_0 k F (n + 1) I = (if (I 38) ≤ (I 41) then (k I)
  else (ixG (I 41) 240 (
  if (F 160 (I 41).toNatClampNeg) = (nI 32) then (bnd (upd I 41 ((I 41) + (nI 1))) fun I_13 =>
  L_X8_skipBlanks_1_0 k F n I_13)
  else (k I)))) := rfl
theorem nf_f_X8_skipBlanks_1 (I : WI) (F : WF) : f_X8_skipBlanks_1 I F = (if (I 38) ≤ (I 41) then (some I)
  else (ixG (I 41) 240 (
  if (F 160 (I 41).toNatClampNeg) = (nI 32) then (bnd (upd I 41 ((I 41) + (nI 1))) fun I_12 =>
  L_X8_skipBlanks_1_0 (fun I_14 => some I_14) F FU I_12)
  else (some I)))) := rfl
theorem nf_f_X8_isWordHere_1 (x1 : Int32) (I : WI) (F : WF) : f_X8_isWordHere_1 x1 I F = (if (I 43) = (nI 0) then (if x1 = (nI 110) then (some (nI 1))
  else (some (nI 0)))
  else (if x1 = (nI 110) then (some (nI 1))
  else (if x1 = (nI 98) then (some (nI 1))
  else (if x1 = (nI 107) then (some (nI 1))
  else (if x1 = (nI 106) then (some (nI 1))
  else (some (nI 0))))))) := rfl
theorem nf_f_X8_isOneTooMany_1 (x1 : Int32) (I : WI) (F : WF) : f_X8_isOneTooMany_1 x1 I F = (if x1 = (nI 98) then (if (I 44) < (nI 9) then (some (nI 0))
  else (some (nI 1)))
  else if x1 = (nI 107) then (if (I 45) < (nI 9) then (some (nI 0))
  else (some (nI 1)))
  else if x1 = (nI 110) then (if (I 43) ≤ (nI 0) then (some (nI 0))
  else (some (nI 1)))
  else if (I 46) < (nI 6) then (some (nI 0))
  else (some (nI 1))) := rfl
theorem nf_f_X8_isFigure (x0 : Int32) : f_X8_isFigure x0 = (if x0 < (nI 48) then (some (nI 0))
  else (if (nI 57) < x0 then (some (nI 0))
  else (some (nI 1)))) := rfl
theorem nf_f_X8_fail_1 (x1 : Int32) (x2 : Int32) (I : WI) (F : WF) : f_X8_fail_1 x1 x2 I F = (bnd (upd I 39 x1) fun I_36 =>
  bnd (upd I_36 40 x2) fun I_37 =>
  some I_37) := rfl
theorem nf_L_X8_readNumber_1_23 (k : Int32 → WI → Option (Int32 × WI)) (x1 : Int32) (x2 : Int32) (F : WF) (n : Nat) (x3 : Int32) (I : WI) : L_X8_readNumber_1_23 k x1 x2 F (n + 1) x3 I = (if (I 38) ≤ (I 41) then (k x3 I)
  else (ixG (I 41) 240 (
  Option.bind (f_X8_isFigure (F 160 (I 41).toNatClampNeg)) fun c_27 =>
  if c_27 = (nI 0) then (k x3 I)
  else (bnd (fun (x3_29 : Int32) => bnd (upd I 41 ((I 41) + (nI 1))) fun I_30 =>
  L_X8_readNumber_1_23 k x1 x2 F n x3_29 I_30) fun j80_28 =>
  if (nI 3) ≤ ((I 41) - (I 42)) then (j80_28 x3)
  else (ixG (I 41) 240 (
  bnd (((x3 * (nI 10)) + (F 160 (I 41).toNatClampNeg)) - (nI 48)) fun x3_31 =>
  j80_28 x3_31)))))) := rfl
theorem nf_f_X8_readNumber_1 (x1 : Int32) (x2 : Int32) (I : WI) (F : WF) : f_X8_readNumber_1 x1 x2 I F = (if (I 39) = (nI 0) then (Option.bind (f_X8_skipBlanks_1 I F) fun c_24 =>
  bnd (upd c_24 42 (c_24 41)) fun I_25 =>
  bnd (nI 0) fun x3_26 =>
  L_X8_readNumber_1_23 (fun x3_32 I_33 => bnd ((I_33 41) - (I_33 42)) fun x4_34 =>
  if x4_34 = (nI 0) then (Option.bind (f_X8_fail_1 (nI 1) (I_33 41) I_33 F) fun c_39 =>
  some (x3_32, c_39))
  else (bnd (fun (_u : Unit) => Option.bind (f_X8_fail_1 (nI 2) (I_33 42) I_33 F) fun c_38 =>
  some (x3_32, c_38)) fun j137_35 =>
  if (nI 3) < x4_34 then (j137_35 ())
  else (if x3_32 < x1 then (j137_35 ())
  else (if x3_32 ≤ x2 then (some (x3_32, I_33))
  else (j137_35 ()))))) x1 x2 F FU x3_26 I_25)
  else (some ((-1 : Int32), I))) := rfl
theorem nf_f_X8_readPlace_1 (I : WI) (F : WF) : f_X8_readPlace_1 I F = (Option.bind (f_X8_readNumber_1 (nI 0) ((I 43) - (nI 1)) I F) fun c_40 =>
  some (c_40.1, c_40.2)) := rfl
theorem nf_f_X8_endsClause_1 (I : WI) (F : WF) : f_X8_endsClause_1 I F = (if (I 39) = (nI 0) then (Option.bind (f_X8_skipBlanks_1 I F) fun c_51 =>
  bnd (fun (_u : Unit) => Option.bind (f_X8_fail_1 (nI 1) (c_51 41) c_51 F) fun c_53 =>
  some ((nI 0), c_53)) fun j38_52 =>
  if (c_51 38) ≤ (c_51 41) then (j38_52 ())
  else (ixG (c_51 41) 240 (
  if (F 160 (c_51 41).toNatClampNeg) = (nI 59) then (bnd (upd c_51 41 ((c_51 41) + (nI 1))) fun I_54 =>
  some ((nI 1), I_54))
  else (j38_52 ()))))
  else (some ((nI 0), I))) := rfl
theorem nf_f_X7_addBridge_2 (x1 : Int32) (x2 : Int32) (x3 : Int32) (x4 : Int32) (I : WI) (F : WF) : f_X7_addBridge_2 x1 x2 x3 x4 I F = (ixG (I 44) 9 (bnd (uF F 152 (upd (F 152) (I 44).toNatClampNeg x1)) fun F_56 =>
  ixG (I 44) 9 (bnd (uF F_56 153 (upd (F_56 153) (I 44).toNatClampNeg x2)) fun F_57 =>
  ixG (I 44) 9 (bnd (uF F_57 154 (upd (F_57 154) (I 44).toNatClampNeg x3)) fun F_58 =>
  ixG (I 44) 9 (bnd (uF F_58 155 (upd (F_58 155) (I 44).toNatClampNeg x4)) fun F_59 =>
  bnd (upd I 44 ((I 44) + (nI 1))) fun I_60 =>
  some (I_60, F_59)))))) := rfl
theorem nf_f_X7_touches_2 (x1 : Int32) (x2 : Int32) (I : WI) (F : WF) : f_X7_touches_2 x1 x2 I F = (ixG x1 9 (
  if (F 152 x1.toNatClampNeg) = x2 then (some (nI 1))
  else (ixG x1 9 (
  if (F 153 x1.toNatClampNeg) = x2 then (some (nI 1))
  else (some (nI 0)))))) := rfl
theorem nf_f_X7_beyond_2 (x1 : Int32) (x2 : Int32) (I : WI) (F : WF) : f_X7_beyond_2 x1 x2 I F = (ixG x1 9 (
  if (F 152 x1.toNatClampNeg) = x2 then (ixG x1 9 (
  some (F 153 x1.toNatClampNeg)))
  else (ixG x1 9 (
  some (F 152 x1.toNatClampNeg))))) := rfl
theorem nf_L_X7_joined_2_2 (k : Option (Int32)) (x1 : Int32) (x2 : Int32) (I : WI) (F : WF) (n : Nat) (x3 : Int32) : L_X7_joined_2_2 k x1 x2 I F (n + 1) x3 = (if (I 44) ≤ x3 then (k)
  else (Option.bind (f_X7_touches_2 x3 x1 I F) fun c_65 =>
  bnd (fun (_u : Unit) => bnd (x3 + (nI 1)) fun x3_67 =>
  L_X7_joined_2_2 k x1 x2 I F n x3_67) fun j31_66 =>
  if c_65 = (nI 0) then (j31_66 ())
  else (Option.bind (f_X7_beyond_2 x3 x1 I F) fun c_68 =>
  if c_68 = x2 then (some (nI 1))
  else (j31_66 ())))) := rfl
theorem nf_f_X7_joined_2 (x1 : Int32) (x2 : Int32) (I : WI) (F : WF) : f_X7_joined_2 x1 x2 I F = (bnd (nI 0) fun x3_64 =>
  L_X7_joined_2_2 (some (nI 0)) x1 x2 I F FU x3_64) := rfl
theorem nf_f_X8_readBridge_1 (I : WI) (F : WF) : f_X8_readBridge_1 I F = (Option.bind (f_X8_readPlace_1 I F) fun c_41 =>
  bnd c_41.1 fun x1_42 =>
  Option.bind (f_X8_readPlace_1 c_41.2 F) fun c_43 =>
  bnd c_43.1 fun x2_44 =>
  bnd (fun (I_46 : WI) => Option.bind (f_X8_readNumber_1 (nI 2) (nI 40) I_46 F) fun c_47 =>
  bnd c_47.1 fun x3_48 =>
  Option.bind (f_X8_readNumber_1 (nI 0) (nI 99) c_47.2 F) fun c_49 =>
  bnd c_49.1 fun x4_50 =>
  Option.bind (f_X8_endsClause_1 c_49.2 F) fun c_55 =>
  if c_55.1 = (nI 0) then (some (c_55.2, F))
  else (Option.bind (f_X7_addBridge_2 x1_42 x2_44 x3_48 x4_50 c_55.2 F) fun c_61 =>
  some (c_61.1, c_61.2))) fun j43_45 =>
  if (c_43.2 39) = (nI 0) then (bnd (fun (_u : Unit) => Option.bind (f_X8_fail_1 (nI 4) (c_43.2 42) c_43.2 F) fun c_63 =>
  j43_45 c_63) fun j34_62 =>
  if x1_42 = x2_44 then (j34_62 ())
  else (Option.bind (f_X7_joined_2 x1_42 x2_44 c_43.2 F) fun c_69 =>
  if c_69 = (nI 0) then (j43_45 c_43.2)
  else (j34_62 ())))
  else (j43_45 c_43.2)) := rfl
theorem nf_f_X7_addKeeper_2 (x1 : Int32) (x2 : Int32) (I : WI) (F : WF) : f_X7_addKeeper_2 x1 x2 I F = (ixG (I 45) 9 (bnd (uF F 156 (upd (F 156) (I 45).toNatClampNeg x1)) fun F_77 =>
  ixG (I 45) 9 (bnd (uF F_77 157 (upd (F_77 157) (I 45).toNatClampNeg x2)) fun F_78 =>
  bnd (upd I 45 ((I 45) + (nI 1))) fun I_79 =>
  some (I_79, F_78)))) := rfl
theorem nf_f_X8_readKeeper_1 (I : WI) (F : WF) : f_X8_readKeeper_1 I F = (Option.bind (f_X8_readNumber_1 (nI 0) (nI 3) I F) fun c_72 =>
  bnd c_72.1 fun x1_73 =>
  Option.bind (f_X8_readNumber_1 (nI 1) (nI 40) c_72.2 F) fun c_74 =>
  bnd c_74.1 fun x2_75 =>
  Option.bind (f_X8_endsClause_1 c_74.2 F) fun c_76 =>
  if c_76.1 = (nI 0) then (some (c_76.2, F))
  else (Option.bind (f_X7_addKeeper_2 x1_73 x2_75 c_76.2 F) fun c_80 =>
  some (c_80.1, c_80.2))) := rfl
theorem nf_f_X8_readPlaces_1 (I : WI) (F : WF) : f_X8_readPlaces_1 I F = (Option.bind (f_X8_readNumber_1 (nI 2) (nI 8) I F) fun c_83 =>
  bnd c_83.1 fun x1_84 =>
  Option.bind (f_X8_endsClause_1 c_83.2 F) fun c_85 =>
  if c_85.1 = (nI 0) then (some c_85.2)
  else (bnd (upd c_85.2 43 x1_84) fun I_86 =>
  some I_86)) := rfl
theorem nf_f_X7_addJumper_2 (x1 : Int32) (x2 : Int32) (I : WI) (F : WF) : f_X7_addJumper_2 x1 x2 I F = (ixG (I 46) 6 (bnd (uF F 158 (upd (F 158) (I 46).toNatClampNeg x1)) fun F_94 =>
  ixG (I 46) 6 (bnd (uF F_94 159 (upd (F_94 159) (I 46).toNatClampNeg x2)) fun F_95 =>
  bnd (upd I 46 ((I 46) + (nI 1))) fun I_96 =>
  some (I_96, F_95)))) := rfl
theorem nf_f_X8_readJumper_1 (I : WI) (F : WF) : f_X8_readJumper_1 I F = (Option.bind (f_X8_readNumber_1 (nI 0) (nI 3) I F) fun c_89 =>
  bnd c_89.1 fun x1_90 =>
  Option.bind (f_X8_readPlace_1 c_89.2 F) fun c_91 =>
  bnd c_91.1 fun x2_92 =>
  Option.bind (f_X8_endsClause_1 c_91.2 F) fun c_93 =>
  if c_93.1 = (nI 0) then (some (c_93.2, F))
  else (Option.bind (f_X7_addJumper_2 x1_90 x2_92 c_93.2 F) fun c_97 =>
  some (c_97.1, c_97.2))) := rfl
theorem nf_f_X8_readClause_1 (I : WI) (F : WF) : f_X8_readClause_1 I F = (ixG (I 41) 240 (
  bnd (F 160 (I 41).toNatClampNeg) fun x1_17 =>
  Option.bind (f_X8_isWordHere_1 x1_17 I F) fun c_18 =>
  if c_18 = (nI 0) then (Option.bind (f_X8_fail_1 (nI 1) (I 41) I F) fun c_100 =>
  some (c_100, F))
  else (Option.bind (f_X8_isOneTooMany_1 x1_17 I F) fun c_22 =>
  if c_22 = (nI 0) then (bnd (upd I 41 ((I 41) + (nI 1))) fun I_23 =>
  if x1_17 = (nI 98) then (Option.bind (f_X8_readBridge_1 I_23 F) fun c_70 =>
  some (c_70.1, c_70.2))
  else if x1_17 = (nI 107) then (Option.bind (f_X8_readKeeper_1 I_23 F) fun c_81 =>
  some (c_81.1, c_81.2))
  else if x1_17 = (nI 110) then (Option.bind (f_X8_readPlaces_1 I_23 F) fun c_87 =>
  some (c_87, F))
  else Option.bind (f_X8_readJumper_1 I_23 F) fun c_98 =>
  some (c_98.1, c_98.2))
  else (Option.bind (f_X8_fail_1 (nI 3) (I 41) I F) fun c_99 =>
  some (c_99, F))))) := rfl
theorem nf_L_X8_readTown_1_28 (k : WI → WF → Option (WI × WF))  (n : Nat) (x1 : Int32) (I : WI) (F : WF) : L_X8_readTown_1_28 k (n + 1) x1 I F = (if (nI 240) ≤ x1 then (k I F)
  else (if (I 38) ≤ (I 41) then (k I F)
  else (if (I 39) = (nI 0) then (Option.bind (f_X8_readClause_1 I F) fun c_101 =>
  Option.bind (f_X8_skipBlanks_1 c_101.1 c_101.2) fun c_102 =>
  bnd (x1 + (nI 1)) fun x1_103 =>
  L_X8_readTown_1_28 k n x1_103 c_102 c_101.2)
  else (k I F)))) := rfl
theorem nf_f_X8_readTown_1 (I : WI) (F : WF) : f_X8_readTown_1 I F = (Option.bind (f_X7_clear_2 I F) fun c_8 =>
  bnd (upd c_8 39 (nI 0)) fun I_9 =>
  bnd (upd I_9 40 (-1 : Int32)) fun I_10 =>
  bnd (upd I_10 41 (nI 0)) fun I_11 =>
  Option.bind (f_X8_skipBlanks_1 I_11 F) fun c_15 =>
  bnd (nI 0) fun x1_16 =>
  L_X8_readTown_1_28 (fun I_104 F_105 => some (I_104, F_105))  FU x1_16 c_15 F) := rfl
theorem nf_f_X7_copyFrom_13_2 (I : WI) (F : WF) : f_X7_copyFrom_13_2 I F = (bnd (upd I 48 (I 43)) fun I_108 =>
  bnd (upd I_108 49 (I_108 44)) fun I_109 =>
  bnd (upd I_109 50 (I_109 45)) fun I_110 =>
  bnd (upd I_110 51 (I_110 46)) fun I_111 =>
  bnd (uF F 161 (va_cpy (F 152) (F 161) 0 0 9)) fun F_112 =>
  bnd (uF F_112 162 (va_cpy (F_112 153) (F_112 162) 0 0 9)) fun F_113 =>
  bnd (uF F_113 163 (va_cpy (F_113 154) (F_113 163) 0 0 9)) fun F_114 =>
  bnd (uF F_114 164 (va_cpy (F_114 155) (F_114 164) 0 0 9)) fun F_115 =>
  bnd (uF F_115 165 (va_cpy (F_115 156) (F_115 165) 0 0 9)) fun F_116 =>
  bnd (uF F_116 166 (va_cpy (F_116 157) (F_116 166) 0 0 9)) fun F_117 =>
  bnd (uF F_117 167 (va_cpy (F_117 158) (F_117 167) 0 0 6)) fun F_118 =>
  bnd (uF F_118 168 (va_cpy (F_118 159) (F_118 168) 0 0 6)) fun F_119 =>
  some (I_111, F_119)) := rfl
theorem nf_L_X6_begin_22_13_12 (k : WF → Option (WI × WF))  (I : WI) (n : Nat) (x2 : Int32) (F : WF) : L_X6_begin_22_13_12 k I (n + 1) x2 F = (if (I 50) ≤ x2 then (k F)
  else (ixG x2 9 (
  ixG x2 9 (bnd (uF F 0 (upd (F 0) x2.toNatClampNeg (F 166 x2.toNatClampNeg))) fun F_124 =>
  bnd (fun (s_126 : Int32) => ixG x2 9 (bnd (uF F_124 1 (upd (F_124 1) x2.toNatClampNeg s_126)) fun F_127 =>
  ixG x2 9 (bnd (uF F_127 2 (upd (F_127 2) x2.toNatClampNeg (nI 0))) fun F_128 =>
  bnd (x2 + (nI 1)) fun x2_129 =>
  L_X6_begin_22_13_12 k I n x2_129 F_128))) fun j50_125 =>
  if (I 49) ≤ x2 then (j50_125 (-1 : Int32))
  else (j50_125 x2))))) := rfl
theorem nf_L_X6_begin_22_13_66 (k : WF → Option (WI × WF))  (I : WI) (n : Nat) (x2 : Int32) (F : WF) : L_X6_begin_22_13_66 k I (n + 1) x2 F = (if (I 51) ≤ x2 then (k F)
  else (ixG x2 6 (
  ixG x2 6 (bnd (uF F 3 (upd (F 3) x2.toNatClampNeg (F 168 x2.toNatClampNeg))) fun F_132 =>
  ixG x2 6 (bnd (uF F_132 4 (upd (F_132 4) x2.toNatClampNeg (nI 0))) fun F_133 =>
  ixG x2 6 (bnd (uF F_133 5 (upd (F_133 5) x2.toNatClampNeg (nI 0))) fun F_134 =>
  ixG x2 6 (bnd (uF F_134 6 (upd (F_134 6) x2.toNatClampNeg (nI 0))) fun F_135 =>
  bnd (x2 + (nI 1)) fun x2_136 =>
  L_X6_begin_22_13_66 k I n x2_136 F_135))))))) := rfl
theorem nf_f_X6_begin_22_13 (I : WI) (F : WF) : f_X6_begin_22_13 I F = (bnd (upd I 0 (nI 0)) fun I_121 =>
  bnd (upd I_121 1 (nI 0)) fun I_122 =>
  bnd (nI 0) fun x2_123 =>
  L_X6_begin_22_13_12 (fun F_130 => bnd (nI 0) fun x2_131 =>
  L_X6_begin_22_13_66 (fun F_137 => some (I_122, F_137)) I_122 FU x2_131 F_130) I_122 FU x2_123 F) := rfl
theorem nf_f_X5_forget_38 (I : WI) (F : WF) : f_X5_forget_38 I F = (bnd (upd I 57 (nI 0)) fun I_139 =>
  bnd (upd I_139 58 (nI 1)) fun I_140 =>
  bnd (upd I_140 59 (nI 40)) fun I_141 =>
  some I_141) := rfl
theorem nf_f_X3_forget_42 (I : WI) (F : WF) : f_X3_forget_42 I F = (bnd (upd I 61 (nI 0)) fun I_144 =>
  some I_144) := rfl
theorem nf_L_X10_town_85 (k : WI → Option (Int32 × WI × WF))  (F : WF) (n : Nat) (x1 : Int32) (I : WI) : L_X10_town_85 k F (n + 1) x1 I = (if (nI 2) ≤ x1 then (k I)
  else (if x1 = (nI 0) then (bnd (upd I 63 (nI 0)) fun I_147 =>
  bnd (x1 + (nI 1)) fun x1_148 =>
  L_X10_town_85 k F n x1_148 I_147)
  else if x1 = (nI 1) then (bnd (upd I 65 (nI 0)) fun I_150 =>
  bnd (x1 + (nI 1)) fun x1_151 =>
  L_X10_town_85 k F n x1_151 I_150)
  else none)) := rfl
theorem nf_f_X10_town (I : WI) (F : WF) : f_X10_town I F = (Option.bind (f_X8_readTown_1 I F) fun c_106 =>
  bnd (upd c_106.1 38 (nI 0)) fun I_107 =>
  if (I_107 39) = (nI 0) then (Option.bind (f_X7_copyFrom_13_2 I_107 c_106.2) fun c_120 =>
  Option.bind (f_X6_begin_22_13 c_120.1 c_120.2) fun c_138 =>
  Option.bind (f_X5_forget_38 c_138.1 c_138.2) fun c_142 =>
  bnd (upd c_142 60 (nI 0)) fun I_143 =>
  Option.bind (f_X3_forget_42 I_143 c_138.2) fun c_145 =>
  bnd (nI 0) fun x1_146 =>
  L_X10_town_85 (fun I_153 => some ((I_153 49), I_153, c_138.2)) c_138.2 FU x1_146 c_145)
  else (some (((-10 : Int32) - (I_107 39)), I_107, c_106.2))) := rfl
theorem nf_f_X10_fault (I : WI) (F : WF) : f_X10_fault I F = (some (I 40)) := rfl
theorem nf_L_X1_keptBridges_12_4 (k : Int32 → Option (Int32))  (I : WI) (F : WF) (n : Nat) (x1 : Int32) (x2 : Int32) : L_X1_keptBridges_12_4 k I F (n + 1) x1 x2 = (if (I 50) ≤ x2 then (k x1)
  else (ixG x2 9 (
  bnd (fun (x1_163 : Int32) => bnd (x2 + (nI 1)) fun x2_164 =>
  L_X1_keptBridges_12_4 k I F n x1_163 x2_164) fun j31_162 =>
  if (F 1 x2.toNatClampNeg) = (-1 : Int32) then (j31_162 x1)
  else (bnd (x1 + (nI 1)) fun x1_165 =>
  j31_162 x1_165)))) := rfl
theorem nf_f_X1_keptBridges_12 (I : WI) (F : WF) : f_X1_keptBridges_12 I F = (bnd (nI 0) fun x1_160 =>
  bnd (nI 0) fun x2_161 =>
  L_X1_keptBridges_12_4 (fun x1_166 => some x1_166) I F FU x1_160 x2_161) := rfl
theorem nf_f_X7_allBridges_13 (I : WI) (F : WF) : f_X7_allBridges_13 I F = (some ((nI 1 <<< ((I 49) &&& nI 31)) - (nI 1))) := rfl
theorem nf_f_X9_isIn (x0 : Int32) (x1 : Int32) : f_X9_isIn x0 x1 = (if ((x1 >>> (x0 &&& nI 31)) &&& (nI 1)) = (nI 1) then (some (nI 1))
  else (some (nI 0))) := rfl
theorem nf_f_X9_spread_31 (x1 : Int32) (x2 : Int32) (x3 : Int32) (I : WI) (F : WF) : f_X9_spread_31 x1 x2 x3 I F = (ixG x1 8 (
  if (F 169 x1.toNatClampNeg) = x3 then (ixG x2 8 (
  if (F 169 x2.toNatClampNeg) = (-1 : Int32) then (ixG x2 8 (bnd (uF F 169 (upd (F 169) x2.toNatClampNeg (x3 + (nI 1)))) fun F_184 =>
  some F_184))
  else (some F)))
  else (some F))) := rfl
theorem nf_L_X9_measure_31_2 (k : WF → Option (WF)) (x1 : Int32) (x2 : Int32) (I : WI) (n : Nat) (x3 : Int32) (F : WF) : L_X9_measure_31_2 k x1 x2 I (n + 1) x3 F = (if (I 48) ≤ x3 then (k F)
  else (ixG x3 8 (bnd (uF F 169 (upd (F 169) x3.toNatClampNeg (-1 : Int32))) fun F_174 =>
  bnd (x3 + (nI 1)) fun x3_175 =>
  L_X9_measure_31_2 k x1 x2 I n x3_175 F_174))) := rfl
theorem nf_L_X9_measure_31_49 (k : WF → Option (WF)) (x2 : Int32) (x3 : Int32) (I : WI) (n : Nat) (x4 : Int32) (F : WF) : L_X9_measure_31_49 k x2 x3 I (n + 1) x4 F = (if (I 49) ≤ x4 then (k F)
  else (Option.bind (f_X9_isIn x4 x2) fun c_180 =>
  bnd (fun (F_182 : WF) => bnd (x4 + (nI 1)) fun x4_183 =>
  L_X9_measure_31_49 k x2 x3 I n x4_183 F_182) fun j120_181 =>
  if c_180 = (nI 0) then (j120_181 F)
  else (ixG x4 9 (
  ixG x4 9 (
  Option.bind (f_X9_spread_31 (F 161 x4.toNatClampNeg) (F 162 x4.toNatClampNeg) x3 I F) fun c_185 =>
  ixG x4 9 (
  ixG x4 9 (
  Option.bind (f_X9_spread_31 (c_185 162 x4.toNatClampNeg) (c_185 161 x4.toNatClampNeg) x3 I c_185) fun c_186 =>
  j120_181 c_186))))))) := rfl
theorem nf_L_X9_measure_31_35 (k : WF → Option (WF)) (x2 : Int32) (I : WI) (n : Nat) (x3 : Int32) (F : WF) : L_X9_measure_31_35 k x2 I (n + 1) x3 F = (if (I 48) ≤ x3 then (k F)
  else (bnd (nI 0) fun x4_179 =>
  L_X9_measure_31_49 (fun F_187 => bnd (x3 + (nI 1)) fun x3_188 =>
  L_X9_measure_31_35 k x2 I n x3_188 F_187) x2 x3 I FU x4_179 F)) := rfl
theorem nf_f_X9_measure_31 (x1 : Int32) (x2 : Int32) (I : WI) (F : WF) : f_X9_measure_31 x1 x2 I F = (bnd (nI 0) fun x3_173 =>
  L_X9_measure_31_2 (fun F_176 => ixG x1 8 (bnd (uF F_176 169 (upd (F_176 169) x1.toNatClampNeg (nI 0))) fun F_177 =>
  bnd (nI 0) fun x3_178 =>
  L_X9_measure_31_35 (fun F_189 => some F_189) x2 I FU x3_178 F_177)) x1 x2 I FU x3_173 F) := rfl
theorem nf_f_X9_fewest_31 (x1 : Int32) (x2 : Int32) (x3 : Int32) (I : WI) (F : WF) : f_X9_fewest_31 x1 x2 x3 I F = (Option.bind (f_X9_measure_31 x2 x3 I F) fun c_190 =>
  ixG x1 8 (
  some ((c_190 169 x1.toNatClampNeg), c_190))) := rfl
theorem nf_L_X9_bottles_31_4 (k : Int32 → WF → Option (Int32 × WF))  (I : WI) (n : Nat) (x1 : Int32) (x2 : Int32) (F : WF) : L_X9_bottles_31_4 k I (n + 1) x1 x2 F = (if (I 49) ≤ x2 then (k x1 F)
  else (Option.bind (f_X7_allBridges_13 I F) fun c_171 =>
  bnd (c_171 &&& ((nI 1 <<< (x2 &&& nI 31)) ^^^ (-1 : Int32))) fun x3_172 =>
  ixG x2 9 (
  ixG x2 9 (
  Option.bind (f_X9_fewest_31 (F 161 x2.toNatClampNeg) (F 162 x2.toNatClampNeg) x3_172 I F) fun c_191 =>
  bnd (fun (x1_193 : Int32) => bnd (x2 + (nI 1)) fun x2_194 =>
  L_X9_bottles_31_4 k I n x1_193 x2_194 c_191.2) fun j62_192 =>
  if c_191.1 = (-1 : Int32) then (bnd (x1 ||| (nI 1 <<< (x2 &&& nI 31))) fun x1_195 =>
  j62_192 x1_195)
  else (j62_192 x1))))) := rfl
theorem nf_f_X9_bottles_31 (I : WI) (F : WF) : f_X9_bottles_31 I F = (bnd (nI 0) fun x1_169 =>
  bnd (nI 0) fun x2_170 =>
  L_X9_bottles_31_4 (fun x1_196 F_197 => some (x1_196, F_197)) I FU x1_169 x2_170 F) := rfl
theorem nf_L_X9_farthest_31_29 (k : Int32 → Option (Int32 × WF)) (x2 : Int32) (I : WI) (F : WF) (n : Nat) (x1 : Int32) (x3 : Int32) : L_X9_farthest_31_29 k x2 I F (n + 1) x1 x3 = (if (I 48) ≤ x3 then (k x1)
  else (ixG x3 8 (
  bnd (if x1 < (F 169 x3.toNatClampNeg) then (F 169 x3.toNatClampNeg) else x1) fun x1_205 =>
  bnd (x3 + (nI 1)) fun x3_206 =>
  L_X9_farthest_31_29 k x2 I F n x1_205 x3_206))) := rfl
theorem nf_L_X9_farthest_31_4 (k : Int32 → WF → Option (Int32 × WF))  (I : WI) (n : Nat) (x1 : Int32) (x2 : Int32) (F : WF) : L_X9_farthest_31_4 k I (n + 1) x1 x2 F = (if (I 48) ≤ x2 then (k x1 F)
  else (Option.bind (f_X7_allBridges_13 I F) fun c_202 =>
  Option.bind (f_X9_measure_31 x2 c_202 I F) fun c_203 =>
  bnd (nI 0) fun x3_204 =>
  L_X9_farthest_31_29 (fun x1_207 => bnd (x2 + (nI 1)) fun x2_208 =>
  L_X9_farthest_31_4 k I n x1_207 x2_208 c_203) x2 I c_203 FU x1 x3_204)) := rfl
theorem nf_f_X9_farthest_31 (I : WI) (F : WF) : f_X9_farthest_31 I F = (bnd (nI 0) fun x1_200 =>
  bnd (nI 0) fun x2_201 =>
  L_X9_farthest_31_4 (fun x1_209 F_210 => some (x1_209, F_210)) I FU x1_200 x2_201 F) := rfl
theorem nf_L_X1_trusted_12_4 (k : Int32 → Option (Int32))  (I : WI) (F : WF) (n : Nat) (x1 : Int32) (x2 : Int32) : L_X1_trusted_12_4 k I F (n + 1) x1 x2 = (if (I 51) ≤ x2 then (k x1)
  else (ixG x2 6 (
  ixG x2 6 (
  bnd (fun (x1_216 : Int32) => bnd (x2 + (nI 1)) fun x2_217 =>
  L_X1_trusted_12_4 k I F n x1_216 x2_217) fun j42_215 =>
  if (F 5 x2.toNatClampNeg) ≤ (F 6 x2.toNatClampNeg) then (j42_215 x1)
  else (bnd (x1 ||| (nI 1 <<< (x2 &&& nI 31))) fun x1_218 =>
  j42_215 x1_218))))) := rfl
theorem nf_f_X1_trusted_12 (I : WI) (F : WF) : f_X1_trusted_12 I F = (bnd (nI 0) fun x1_213 =>
  bnd (nI 0) fun x2_214 =>
  L_X1_trusted_12_4 (fun x1_219 => some x1_219) I F FU x1_213 x2_214) := rfl
theorem nf_L_X1_driest_12_4 (k : Int32 → Option (Int32))  (I : WI) (F : WF) (n : Nat) (x1 : Int32) (x2 : Int32) : L_X1_driest_12_4 k I F (n + 1) x1 x2 = (if (I 51) ≤ x2 then (k x1)
  else (bnd (fun (x1_225 : Int32) => bnd (x2 + (nI 1)) fun x2_226 =>
  L_X1_driest_12_4 k I F n x1_225 x2_226) fun j43_224 =>
  bnd (fun (_u : Unit) => bnd x2 fun x1_228 =>
  j43_224 x1_228) fun j41_227 =>
  if x1 = (-1 : Int32) then (j41_227 ())
  else (ixG x2 6 (
  ixG x1 6 (
  if (F 6 x1.toNatClampNeg) ≤ (F 6 x2.toNatClampNeg) then (j43_224 x1)
  else (j41_227 ())))))) := rfl
theorem nf_f_X1_driest_12 (I : WI) (F : WF) : f_X1_driest_12 I F = (bnd (-1 : Int32) fun x1_222 =>
  bnd (nI 0) fun x2_223 =>
  L_X1_driest_12_4 (fun x1_229 => some x1_229) I F FU x1_222 x2_223) := rfl
theorem nf_f_X10_told (x1 : Int32) (I : WI) (F : WF) : f_X10_told x1 I F = (if x1 = (nI 0) then (some ((I 48), F))
  else if x1 = (nI 1) then (some ((I 49), F))
  else if x1 = (nI 2) then (some ((I 50), F))
  else if x1 = (nI 3) then (some ((I 51), F))
  else if x1 = (nI 4) then (some ((I 38), F))
  else if x1 = (nI 5) then (some ((I 0), F))
  else if x1 = (nI 6) then (Option.bind (f_X1_keptBridges_12 I F) fun c_167 =>
  some (c_167, F))
  else if x1 = (nI 7) then (Option.bind (f_X9_bottles_31 I F) fun c_198 =>
  some (c_198.1, c_198.2))
  else if x1 = (nI 8) then (Option.bind (f_X9_farthest_31 I F) fun c_211 =>
  some (c_211.1, c_211.2))
  else if x1 = (nI 9) then (Option.bind (f_X1_trusted_12 I F) fun c_220 =>
  some (c_220, F))
  else if x1 = (nI 10) then (Option.bind (f_X1_driest_12 I F) fun c_230 =>
  some (c_230, F))
  else if x1 = (nI 11) then (some ((I 1), F))
  else if x1 = (nI 12) then (some ((I 57), F))
  else if x1 = (nI 13) then (some ((I 60), F))
  else if x1 = (nI 14) then (some ((I 61), F))
  else some ((-1000000002 : Int32), F)) := rfl
theorem nf_f_X7_hasBridge_13 (x1 : Int32) (I : WI) (F : WF) : f_X7_hasBridge_13 x1 I F = (if x1 < (nI 0) then (some (nI 0))
  else (if (I 49) ≤ x1 then (some (nI 0))
  else (some (nI 1)))) := rfl
theorem nf_L_X1_keeperAt_12_2 (k : Option (Int32)) (x1 : Int32) (I : WI) (F : WF) (n : Nat) (x2 : Int32) : L_X1_keeperAt_12_2 k x1 I F (n + 1) x2 = (if (I 50) ≤ x2 then (k)
  else (ixG x2 9 (
  if (F 1 x2.toNatClampNeg) = x1 then (some x2)
  else (bnd (x2 + (nI 1)) fun x2_242 =>
  L_X1_keeperAt_12_2 k x1 I F n x2_242)))) := rfl
theorem nf_f_X1_keeperAt_12 (x1 : Int32) (I : WI) (F : WF) : f_X1_keeperAt_12 x1 I F = (bnd (nI 0) fun x2_241 =>
  L_X1_keeperAt_12_2 (some (-1 : Int32)) x1 I F FU x2_241) := rfl
theorem nf_f_X1_timeIfTired_12 (x1 : Int32) (x2 : Int32) (I : WI) (F : WF) : f_X1_timeIfTired_12 x1 x2 I F = (ixG x1 9 (
  bnd (F 0 x1.toNatClampNeg) fun x3_247 =>
  ixG x1 9 (
  if (F 165 x1.toNatClampNeg) = (nI 1) then (some (x3_247 + (((I 0) - (I 0) / (nI 2) * (nI 2)) * (nI 2))))
  else if (F 165 x1.toNatClampNeg) = (nI 2) then (some (x3_247 + x2))
  else if (F 165 x1.toNatClampNeg) = (nI 3) then (some (x3_247 + (x2 / (nI 3))))
  else some x3_247))) := rfl
theorem nf_f_X1_timeOf_12 (x1 : Int32) (I : WI) (F : WF) : f_X1_timeOf_12 x1 I F = (ixG x1 9 (
  Option.bind (f_X1_timeIfTired_12 x1 (F 2 x1.toNatClampNeg) I F) fun c_251 =>
  some c_251)) := rfl
theorem nf_f_X1_timeAt_12 (x1 : Int32) (I : WI) (F : WF) : f_X1_timeAt_12 x1 I F = (Option.bind (f_X1_keeperAt_12 x1 I F) fun c_245 =>
  bnd c_245 fun x2_246 =>
  if x2_246 = (-1 : Int32) then (some (-1 : Int32))
  else (Option.bind (f_X1_timeOf_12 x2_246 I F) fun c_252 =>
  some c_252)) := rfl
theorem nf_f_X10_bridge (x1 : Int32) (x2 : Int32) (I : WI) (F : WF) : f_X10_bridge x1 x2 I F = (Option.bind (f_X7_hasBridge_13 x1 I F) fun c_236 =>
  if c_236 = (nI 0) then (some (-1000000001 : Int32))
  else (if x2 = (nI 0) then (ixG x1 9 (
  some (F 161 x1.toNatClampNeg)))
  else if x2 = (nI 1) then (ixG x1 9 (
  some (F 162 x1.toNatClampNeg)))
  else if x2 = (nI 2) then (ixG x1 9 (
  some (F 163 x1.toNatClampNeg)))
  else if x2 = (nI 3) then (ixG x1 9 (
  some (F 164 x1.toNatClampNeg)))
  else if x2 = (nI 4) then (Option.bind (f_X1_keeperAt_12 x1 I F) fun c_243 =>
  some c_243)
  else if x2 = (nI 5) then (Option.bind (f_X1_timeAt_12 x1 I F) fun c_253 =>
  some c_253)
  else some (-1000000002 : Int32))) := rfl
theorem nf_f_X7_hasKeeper_13 (x1 : Int32) (I : WI) (F : WF) : f_X7_hasKeeper_13 x1 I F = (if x1 < (nI 0) then (some (nI 0))
  else (if (I 50) ≤ x1 then (some (nI 0))
  else (some (nI 1)))) := rfl
theorem nf_f_X10_keeper (x1 : Int32) (x2 : Int32) (I : WI) (F : WF) : f_X10_keeper x1 x2 I F = (Option.bind (f_X7_hasKeeper_13 x1 I F) fun c_255 =>
  if c_255 = (nI 0) then (some (-1000000001 : Int32))
  else (if x2 = (nI 0) then (ixG x1 9 (
  some (F 165 x1.toNatClampNeg)))
  else if x2 = (nI 1) then (ixG x1 9 (
  some (F 0 x1.toNatClampNeg)))
  else if x2 = (nI 2) then (ixG x1 9 (
  some (F 1 x1.toNatClampNeg)))
  else if x2 = (nI 3) then (ixG x1 9 (
  some (F 2 x1.toNatClampNeg)))
  else if x2 = (nI 4) then (Option.bind (f_X1_timeOf_12 x1 I F) fun c_260 =>
  some c_260)
  else some (-1000000002 : Int32))) := rfl
theorem nf_f_X7_hasJumper_13 (x1 : Int32) (I : WI) (F : WF) : f_X7_hasJumper_13 x1 I F = (if x1 < (nI 0) then (some (nI 0))
  else (if (I 51) ≤ x1 then (some (nI 0))
  else (some (nI 1)))) := rfl
theorem nf_f_X1_flightOver_12 (x1 : Int32) (x2 : Int32) (I : WI) (F : WF) : f_X1_flightOver_12 x1 x2 I F = (ixG x2 9 (
  bnd (F 163 x2.toNatClampNeg) fun x3_273 =>
  ixG x1 6 (
  bnd (F 4 x1.toNatClampNeg) fun x4_274 =>
  ixG x1 6 (
  if (F 167 x1.toNatClampNeg) = (nI 1) then (some (if (nI 0) < (x3_273 - x4_274) then (x3_273 - x4_274) else (nI 0)))
  else if (F 167 x1.toNatClampNeg) = (nI 2) then (some (if (nI 0) < ((x3_273 - (x4_274 / (nI 2))) - ((I 0) - (I 0) / (nI 2) * (nI 2))) then ((x3_273 - (x4_274 / (nI 2))) - ((I 0) - (I 0) / (nI 2) * (nI 2))) else (nI 0)))
  else if (F 167 x1.toNatClampNeg) = (nI 3) then (some (x3_273 / (nI 2)))
  else some x3_273)))) := rfl
theorem nf_f_X1_comesOver_12 (x1 : Int32) (x2 : Int32) (I : WI) (F : WF) : f_X1_comesOver_12 x1 x2 I F = (Option.bind (f_X1_keeperAt_12 x2 I F) fun c_270 =>
  bnd c_270 fun x3_271 =>
  if x3_271 = (-1 : Int32) then (some (nI 0))
  else (Option.bind (f_X1_timeOf_12 x3_271 I F) fun c_272 =>
  Option.bind (f_X1_flightOver_12 x1 x2 I F) fun c_278 =>
  if c_278 < c_272 then (some (nI 0))
  else (some (nI 1)))) := rfl
theorem nf_L_X1_dares_12_4 (k : Int32 → Option (Int32)) (x1 : Int32) (I : WI) (F : WF) (n : Nat) (x2 : Int32) (x3 : Int32) : L_X1_dares_12_4 k x1 I F (n + 1) x2 x3 = (if (I 49) ≤ x3 then (k x2)
  else (Option.bind (f_X1_comesOver_12 x1 x3 I F) fun c_279 =>
  bnd (fun (x2_281 : Int32) => bnd (x3 + (nI 1)) fun x3_282 =>
  L_X1_dares_12_4 k x1 I F n x2_281 x3_282) fun j30_280 =>
  if c_279 = (nI 0) then (j30_280 x2)
  else (bnd (x2 ||| (nI 1 <<< (x3 &&& nI 31))) fun x2_283 =>
  j30_280 x2_283))) := rfl
theorem nf_f_X1_dares_12 (x1 : Int32) (I : WI) (F : WF) : f_X1_dares_12 x1 I F = (bnd (nI 0) fun x2_268 =>
  bnd (nI 0) fun x3_269 =>
  L_X1_dares_12_4 (fun x2_284 => some x2_284) x1 I F FU x2_268 x3_269) := rfl
theorem nf_f_X10_jumper (x1 : Int32) (x2 : Int32) (I : WI) (F : WF) : f_X10_jumper x1 x2 I F = (Option.bind (f_X7_hasJumper_13 x1 I F) fun c_262 =>
  if c_262 = (nI 0) then (some (-1000000001 : Int32))
  else (if x2 = (nI 0) then (ixG x1 6 (
  some (F 167 x1.toNatClampNeg)))
  else if x2 = (nI 1) then (ixG x1 6 (
  some (F 3 x1.toNatClampNeg)))
  else if x2 = (nI 2) then (ixG x1 6 (
  some (F 4 x1.toNatClampNeg)))
  else if x2 = (nI 3) then (ixG x1 6 (
  some (F 5 x1.toNatClampNeg)))
  else if x2 = (nI 4) then (ixG x1 6 (
  some (F 6 x1.toNatClampNeg)))
  else if x2 = (nI 5) then (Option.bind (f_X1_dares_12 x1 I F) fun c_285 =>
  some c_285)
  else some (-1000000002 : Int32))) := rfl
theorem nf_f_X10_flight (x1 : Int32) (x2 : Int32) (I : WI) (F : WF) : f_X10_flight x1 x2 I F = (Option.bind (f_X7_hasJumper_13 x1 I F) fun c_287 =>
  if c_287 = (nI 0) then (some (-1000000001 : Int32))
  else (Option.bind (f_X7_hasBridge_13 x2 I F) fun c_288 =>
  if c_288 = (nI 0) then (some (-1000000001 : Int32))
  else (Option.bind (f_X1_flightOver_12 x1 x2 I F) fun c_289 =>
  some c_289))) := rfl
theorem nf_f_X6_rollEntry_22 (x1 : Int32) (x2 : Int32) (I : WI) (F : WF) : f_X6_rollEntry_22 x1 x2 I F = (if x1 < (nI 0) then (some (-1 : Int32))
  else (if x1 < (I 1) then (ixG x1 20 (
  bnd (F 7 x1.toNatClampNeg) fun x3_290 =>
  if x2 = (nI 0) then (some (x3_290 >>> ((nI 8) &&& nI 31)))
  else if x2 = (nI 1) then (some ((x3_290 >>> ((nI 5) &&& nI 31)) &&& (nI 7)))
  else if x2 = (nI 2) then (some ((x3_290 >>> ((nI 1) &&& nI 31)) &&& (nI 15)))
  else some (x3_290 &&& (nI 1))))
  else (some (-1 : Int32)))) := rfl
theorem nf_f_X10_roll (x1 : Int32) (x2 : Int32) (I : WI) (F : WF) : f_X10_roll x1 x2 I F = (if x2 < (nI 0) then (some (-1000000002 : Int32))
  else (if x2 ≤ (nI 3) then (Option.bind (f_X6_rollEntry_22 x1 x2 I F) fun c_294 =>
  some c_294)
  else (some (-1000000002 : Int32)))) := rfl
theorem nf_f_X7_touches_13 (x1 : Int32) (x2 : Int32) (I : WI) (F : WF) : f_X7_touches_13 x1 x2 I F = (ixG x1 9 (
  if (F 161 x1.toNatClampNeg) = x2 then (some (nI 1))
  else (ixG x1 9 (
  if (F 162 x1.toNatClampNeg) = x2 then (some (nI 1))
  else (some (nI 0)))))) := rfl
theorem nf_f_X6_copyFrom_44_22 (I : WI) (F : WF) : f_X6_copyFrom_44_22 I F = (bnd (upd I 2 (I 0)) fun I_298 =>
  bnd (upd I_298 3 (I_298 1)) fun I_299 =>
  bnd (uF F 8 (va_cpy (F 0) (F 8) 0 0 9)) fun F_300 =>
  bnd (uF F_300 9 (va_cpy (F_300 1) (F_300 9) 0 0 9)) fun F_301 =>
  bnd (uF F_301 10 (va_cpy (F_301 2) (F_301 10) 0 0 9)) fun F_302 =>
  bnd (uF F_302 11 (va_cpy (F_302 3) (F_302 11) 0 0 6)) fun F_303 =>
  bnd (uF F_303 12 (va_cpy (F_303 4) (F_303 12) 0 0 6)) fun F_304 =>
  bnd (uF F_304 13 (va_cpy (F_304 5) (F_304 13) 0 0 6)) fun F_305 =>
  bnd (uF F_305 14 (va_cpy (F_305 6) (F_305 14) 0 0 6)) fun F_306 =>
  bnd (uF F_306 15 (va_cpy (F_306 7) (F_306 15) 0 0 20)) fun F_307 =>
  some (I_299, F_307)) := rfl
theorem nf_f_X6_copyFrom_53_22 (I : WI) (F : WF) : f_X6_copyFrom_53_22 I F = (bnd (upd I 4 (I 0)) fun I_312 =>
  bnd (upd I_312 5 (I_312 1)) fun I_313 =>
  bnd (uF F 16 (va_cpy (F 0) (F 16) 0 0 9)) fun F_314 =>
  bnd (uF F_314 17 (va_cpy (F_314 1) (F_314 17) 0 0 9)) fun F_315 =>
  bnd (uF F_315 18 (va_cpy (F_315 2) (F_315 18) 0 0 9)) fun F_316 =>
  bnd (uF F_316 19 (va_cpy (F_316 3) (F_316 19) 0 0 6)) fun F_317 =>
  bnd (uF F_317 20 (va_cpy (F_317 4) (F_317 20) 0 0 6)) fun F_318 =>
  bnd (uF F_318 21 (va_cpy (F_318 5) (F_318 21) 0 0 6)) fun F_319 =>
  bnd (uF F_319 22 (va_cpy (F_319 6) (F_319 22) 0 0 6)) fun F_320 =>
  bnd (uF F_320 23 (va_cpy (F_320 7) (F_320 23) 0 0 20)) fun F_321 =>
  some (I_313, F_321)) := rfl
theorem nf_f_X6_copyFrom_62_22 (I : WI) (F : WF) : f_X6_copyFrom_62_22 I F = (bnd (upd I 6 (I 0)) fun I_326 =>
  bnd (upd I_326 7 (I_326 1)) fun I_327 =>
  bnd (uF F 24 (va_cpy (F 0) (F 24) 0 0 9)) fun F_328 =>
  bnd (uF F_328 25 (va_cpy (F_328 1) (F_328 25) 0 0 9)) fun F_329 =>
  bnd (uF F_329 26 (va_cpy (F_329 2) (F_329 26) 0 0 9)) fun F_330 =>
  bnd (uF F_330 27 (va_cpy (F_330 3) (F_330 27) 0 0 6)) fun F_331 =>
  bnd (uF F_331 28 (va_cpy (F_331 4) (F_331 28) 0 0 6)) fun F_332 =>
  bnd (uF F_332 29 (va_cpy (F_332 5) (F_332 29) 0 0 6)) fun F_333 =>
  bnd (uF F_333 30 (va_cpy (F_333 6) (F_333 30) 0 0 6)) fun F_334 =>
  bnd (uF F_334 31 (va_cpy (F_334 7) (F_334 31) 0 0 20)) fun F_335 =>
  some (I_327, F_335)) := rfl
theorem nf_f_X6_copyFrom_71_22 (I : WI) (F : WF) : f_X6_copyFrom_71_22 I F = (bnd (upd I 8 (I 0)) fun I_340 =>
  bnd (upd I_340 9 (I_340 1)) fun I_341 =>
  bnd (uF F 32 (va_cpy (F 0) (F 32) 0 0 9)) fun F_342 =>
  bnd (uF F_342 33 (va_cpy (F_342 1) (F_342 33) 0 0 9)) fun F_343 =>
  bnd (uF F_343 34 (va_cpy (F_343 2) (F_343 34) 0 0 9)) fun F_344 =>
  bnd (uF F_344 35 (va_cpy (F_344 3) (F_344 35) 0 0 6)) fun F_345 =>
  bnd (uF F_345 36 (va_cpy (F_345 4) (F_345 36) 0 0 6)) fun F_346 =>
  bnd (uF F_346 37 (va_cpy (F_346 5) (F_346 37) 0 0 6)) fun F_347 =>
  bnd (uF F_347 38 (va_cpy (F_347 6) (F_347 38) 0 0 6)) fun F_348 =>
  bnd (uF F_348 39 (va_cpy (F_348 7) (F_348 39) 0 0 20)) fun F_349 =>
  some (I_341, F_349)) := rfl
theorem nf_f_X6_copyFrom_80_22 (I : WI) (F : WF) : f_X6_copyFrom_80_22 I F = (bnd (upd I 10 (I 0)) fun I_354 =>
  bnd (upd I_354 11 (I_354 1)) fun I_355 =>
  bnd (uF F 40 (va_cpy (F 0) (F 40) 0 0 9)) fun F_356 =>
  bnd (uF F_356 41 (va_cpy (F_356 1) (F_356 41) 0 0 9)) fun F_357 =>
  bnd (uF F_357 42 (va_cpy (F_357 2) (F_357 42) 0 0 9)) fun F_358 =>
  bnd (uF F_358 43 (va_cpy (F_358 3) (F_358 43) 0 0 6)) fun F_359 =>
  bnd (uF F_359 44 (va_cpy (F_359 4) (F_359 44) 0 0 6)) fun F_360 =>
  bnd (uF F_360 45 (va_cpy (F_360 5) (F_360 45) 0 0 6)) fun F_361 =>
  bnd (uF F_361 46 (va_cpy (F_361 6) (F_361 46) 0 0 6)) fun F_362 =>
  bnd (uF F_362 47 (va_cpy (F_362 7) (F_362 47) 0 0 20)) fun F_363 =>
  some (I_355, F_363)) := rfl
theorem nf_f_X6_copyFrom_89_22 (I : WI) (F : WF) : f_X6_copyFrom_89_22 I F = (bnd (upd I 12 (I 0)) fun I_368 =>
  bnd (upd I_368 13 (I_368 1)) fun I_369 =>
  bnd (uF F 48 (va_cpy (F 0) (F 48) 0 0 9)) fun F_370 =>
  bnd (uF F_370 49 (va_cpy (F_370 1) (F_370 49) 0 0 9)) fun F_371 =>
  bnd (uF F_371 50 (va_cpy (F_371 2) (F_371 50) 0 0 9)) fun F_372 =>
  bnd (uF F_372 51 (va_cpy (F_372 3) (F_372 51) 0 0 6)) fun F_373 =>
  bnd (uF F_373 52 (va_cpy (F_373 4) (F_373 52) 0 0 6)) fun F_374 =>
  bnd (uF F_374 53 (va_cpy (F_374 5) (F_374 53) 0 0 6)) fun F_375 =>
  bnd (uF F_375 54 (va_cpy (F_375 6) (F_375 54) 0 0 6)) fun F_376 =>
  bnd (uF F_376 55 (va_cpy (F_376 7) (F_376 55) 0 0 20)) fun F_377 =>
  some (I_369, F_377)) := rfl
theorem nf_f_X6_copyFrom_98_22 (I : WI) (F : WF) : f_X6_copyFrom_98_22 I F = (bnd (upd I 14 (I 0)) fun I_382 =>
  bnd (upd I_382 15 (I_382 1)) fun I_383 =>
  bnd (uF F 56 (va_cpy (F 0) (F 56) 0 0 9)) fun F_384 =>
  bnd (uF F_384 57 (va_cpy (F_384 1) (F_384 57) 0 0 9)) fun F_385 =>
  bnd (uF F_385 58 (va_cpy (F_385 2) (F_385 58) 0 0 9)) fun F_386 =>
  bnd (uF F_386 59 (va_cpy (F_386 3) (F_386 59) 0 0 6)) fun F_387 =>
  bnd (uF F_387 60 (va_cpy (F_387 4) (F_387 60) 0 0 6)) fun F_388 =>
  bnd (uF F_388 61 (va_cpy (F_388 5) (F_388 61) 0 0 6)) fun F_389 =>
  bnd (uF F_389 62 (va_cpy (F_389 6) (F_389 62) 0 0 6)) fun F_390 =>
  bnd (uF F_390 63 (va_cpy (F_390 7) (F_390 63) 0 0 20)) fun F_391 =>
  some (I_383, F_391)) := rfl
theorem nf_f_X6_copyFrom_107_22 (I : WI) (F : WF) : f_X6_copyFrom_107_22 I F = (bnd (upd I 16 (I 0)) fun I_396 =>
  bnd (upd I_396 17 (I_396 1)) fun I_397 =>
  bnd (uF F 64 (va_cpy (F 0) (F 64) 0 0 9)) fun F_398 =>
  bnd (uF F_398 65 (va_cpy (F_398 1) (F_398 65) 0 0 9)) fun F_399 =>
  bnd (uF F_399 66 (va_cpy (F_399 2) (F_399 66) 0 0 9)) fun F_400 =>
  bnd (uF F_400 67 (va_cpy (F_400 3) (F_400 67) 0 0 6)) fun F_401 =>
  bnd (uF F_401 68 (va_cpy (F_401 4) (F_401 68) 0 0 6)) fun F_402 =>
  bnd (uF F_402 69 (va_cpy (F_402 5) (F_402 69) 0 0 6)) fun F_403 =>
  bnd (uF F_403 70 (va_cpy (F_403 6) (F_403 70) 0 0 6)) fun F_404 =>
  bnd (uF F_404 71 (va_cpy (F_404 7) (F_404 71) 0 0 20)) fun F_405 =>
  some (I_397, F_405)) := rfl
theorem nf_f_X6_copyFrom_116_22 (I : WI) (F : WF) : f_X6_copyFrom_116_22 I F = (bnd (upd I 18 (I 0)) fun I_410 =>
  bnd (upd I_410 19 (I_410 1)) fun I_411 =>
  bnd (uF F 72 (va_cpy (F 0) (F 72) 0 0 9)) fun F_412 =>
  bnd (uF F_412 73 (va_cpy (F_412 1) (F_412 73) 0 0 9)) fun F_413 =>
  bnd (uF F_413 74 (va_cpy (F_413 2) (F_413 74) 0 0 9)) fun F_414 =>
  bnd (uF F_414 75 (va_cpy (F_414 3) (F_414 75) 0 0 6)) fun F_415 =>
  bnd (uF F_415 76 (va_cpy (F_415 4) (F_415 76) 0 0 6)) fun F_416 =>
  bnd (uF F_416 77 (va_cpy (F_416 5) (F_416 77) 0 0 6)) fun F_417 =>
  bnd (uF F_417 78 (va_cpy (F_417 6) (F_417 78) 0 0 6)) fun F_418 =>
  bnd (uF F_418 79 (va_cpy (F_418 7) (F_418 79) 0 0 20)) fun F_419 =>
  some (I_411, F_419)) := rfl
theorem nf_f_X6_copyFrom_125_22 (I : WI) (F : WF) : f_X6_copyFrom_125_22 I F = (bnd (upd I 20 (I 0)) fun I_424 =>
  bnd (upd I_424 21 (I_424 1)) fun I_425 =>
  bnd (uF F 80 (va_cpy (F 0) (F 80) 0 0 9)) fun F_426 =>
  bnd (uF F_426 81 (va_cpy (F_426 1) (F_426 81) 0 0 9)) fun F_427 =>
  bnd (uF F_427 82 (va_cpy (F_427 2) (F_427 82) 0 0 9)) fun F_428 =>
  bnd (uF F_428 83 (va_cpy (F_428 3) (F_428 83) 0 0 6)) fun F_429 =>
  bnd (uF F_429 84 (va_cpy (F_429 4) (F_429 84) 0 0 6)) fun F_430 =>
  bnd (uF F_430 85 (va_cpy (F_430 5) (F_430 85) 0 0 6)) fun F_431 =>
  bnd (uF F_431 86 (va_cpy (F_431 6) (F_431 86) 0 0 6)) fun F_432 =>
  bnd (uF F_432 87 (va_cpy (F_432 7) (F_432 87) 0 0 20)) fun F_433 =>
  some (I_425, F_433)) := rfl
theorem nf_f_X6_copyFrom_134_22 (I : WI) (F : WF) : f_X6_copyFrom_134_22 I F = (bnd (upd I 22 (I 0)) fun I_438 =>
  bnd (upd I_438 23 (I_438 1)) fun I_439 =>
  bnd (uF F 88 (va_cpy (F 0) (F 88) 0 0 9)) fun F_440 =>
  bnd (uF F_440 89 (va_cpy (F_440 1) (F_440 89) 0 0 9)) fun F_441 =>
  bnd (uF F_441 90 (va_cpy (F_441 2) (F_441 90) 0 0 9)) fun F_442 =>
  bnd (uF F_442 91 (va_cpy (F_442 3) (F_442 91) 0 0 6)) fun F_443 =>
  bnd (uF F_443 92 (va_cpy (F_443 4) (F_443 92) 0 0 6)) fun F_444 =>
  bnd (uF F_444 93 (va_cpy (F_444 5) (F_444 93) 0 0 6)) fun F_445 =>
  bnd (uF F_445 94 (va_cpy (F_445 6) (F_445 94) 0 0 6)) fun F_446 =>
  bnd (uF F_446 95 (va_cpy (F_446 7) (F_446 95) 0 0 20)) fun F_447 =>
  some (I_439, F_447)) := rfl
theorem nf_f_X6_copyFrom_143_22 (I : WI) (F : WF) : f_X6_copyFrom_143_22 I F = (bnd (upd I 24 (I 0)) fun I_452 =>
  bnd (upd I_452 25 (I_452 1)) fun I_453 =>
  bnd (uF F 96 (va_cpy (F 0) (F 96) 0 0 9)) fun F_454 =>
  bnd (uF F_454 97 (va_cpy (F_454 1) (F_454 97) 0 0 9)) fun F_455 =>
  bnd (uF F_455 98 (va_cpy (F_455 2) (F_455 98) 0 0 9)) fun F_456 =>
  bnd (uF F_456 99 (va_cpy (F_456 3) (F_456 99) 0 0 6)) fun F_457 =>
  bnd (uF F_457 100 (va_cpy (F_457 4) (F_457 100) 0 0 6)) fun F_458 =>
  bnd (uF F_458 101 (va_cpy (F_458 5) (F_458 101) 0 0 6)) fun F_459 =>
  bnd (uF F_459 102 (va_cpy (F_459 6) (F_459 102) 0 0 6)) fun F_460 =>
  bnd (uF F_460 103 (va_cpy (F_460 7) (F_460 103) 0 0 20)) fun F_461 =>
  some (I_453, F_461)) := rfl
theorem nf_f_X6_copyFrom_152_22 (I : WI) (F : WF) : f_X6_copyFrom_152_22 I F = (bnd (upd I 26 (I 0)) fun I_466 =>
  bnd (upd I_466 27 (I_466 1)) fun I_467 =>
  bnd (uF F 104 (va_cpy (F 0) (F 104) 0 0 9)) fun F_468 =>
  bnd (uF F_468 105 (va_cpy (F_468 1) (F_468 105) 0 0 9)) fun F_469 =>
  bnd (uF F_469 106 (va_cpy (F_469 2) (F_469 106) 0 0 9)) fun F_470 =>
  bnd (uF F_470 107 (va_cpy (F_470 3) (F_470 107) 0 0 6)) fun F_471 =>
  bnd (uF F_471 108 (va_cpy (F_471 4) (F_471 108) 0 0 6)) fun F_472 =>
  bnd (uF F_472 109 (va_cpy (F_472 5) (F_472 109) 0 0 6)) fun F_473 =>
  bnd (uF F_473 110 (va_cpy (F_473 6) (F_473 110) 0 0 6)) fun F_474 =>
  bnd (uF F_474 111 (va_cpy (F_474 7) (F_474 111) 0 0 20)) fun F_475 =>
  some (I_467, F_475)) := rfl
theorem nf_f_X6_copyFrom_161_22 (I : WI) (F : WF) : f_X6_copyFrom_161_22 I F = (bnd (upd I 28 (I 0)) fun I_480 =>
  bnd (upd I_480 29 (I_480 1)) fun I_481 =>
  bnd (uF F 112 (va_cpy (F 0) (F 112) 0 0 9)) fun F_482 =>
  bnd (uF F_482 113 (va_cpy (F_482 1) (F_482 113) 0 0 9)) fun F_483 =>
  bnd (uF F_483 114 (va_cpy (F_483 2) (F_483 114) 0 0 9)) fun F_484 =>
  bnd (uF F_484 115 (va_cpy (F_484 3) (F_484 115) 0 0 6)) fun F_485 =>
  bnd (uF F_485 116 (va_cpy (F_485 4) (F_485 116) 0 0 6)) fun F_486 =>
  bnd (uF F_486 117 (va_cpy (F_486 5) (F_486 117) 0 0 6)) fun F_487 =>
  bnd (uF F_487 118 (va_cpy (F_487 6) (F_487 118) 0 0 6)) fun F_488 =>
  bnd (uF F_488 119 (va_cpy (F_488 7) (F_488 119) 0 0 20)) fun F_489 =>
  some (I_481, F_489)) := rfl
theorem nf_f_X6_copyFrom_170_22 (I : WI) (F : WF) : f_X6_copyFrom_170_22 I F = (bnd (upd I 30 (I 0)) fun I_494 =>
  bnd (upd I_494 31 (I_494 1)) fun I_495 =>
  bnd (uF F 120 (va_cpy (F 0) (F 120) 0 0 9)) fun F_496 =>
  bnd (uF F_496 121 (va_cpy (F_496 1) (F_496 121) 0 0 9)) fun F_497 =>
  bnd (uF F_497 122 (va_cpy (F_497 2) (F_497 122) 0 0 9)) fun F_498 =>
  bnd (uF F_498 123 (va_cpy (F_498 3) (F_498 123) 0 0 6)) fun F_499 =>
  bnd (uF F_499 124 (va_cpy (F_499 4) (F_499 124) 0 0 6)) fun F_500 =>
  bnd (uF F_500 125 (va_cpy (F_500 5) (F_500 125) 0 0 6)) fun F_501 =>
  bnd (uF F_501 126 (va_cpy (F_501 6) (F_501 126) 0 0 6)) fun F_502 =>
  bnd (uF F_502 127 (va_cpy (F_502 7) (F_502 127) 0 0 20)) fun F_503 =>
  some (I_495, F_503)) := rfl
theorem nf_f_X6_copyFrom_179_22 (I : WI) (F : WF) : f_X6_copyFrom_179_22 I F = (bnd (upd I 32 (I 0)) fun I_508 =>
  bnd (upd I_508 33 (I_508 1)) fun I_509 =>
  bnd (uF F 128 (va_cpy (F 0) (F 128) 0 0 9)) fun F_510 =>
  bnd (uF F_510 129 (va_cpy (F_510 1) (F_510 129) 0 0 9)) fun F_511 =>
  bnd (uF F_511 130 (va_cpy (F_511 2) (F_511 130) 0 0 9)) fun F_512 =>
  bnd (uF F_512 131 (va_cpy (F_512 3) (F_512 131) 0 0 6)) fun F_513 =>
  bnd (uF F_513 132 (va_cpy (F_513 4) (F_513 132) 0 0 6)) fun F_514 =>
  bnd (uF F_514 133 (va_cpy (F_514 5) (F_514 133) 0 0 6)) fun F_515 =>
  bnd (uF F_515 134 (va_cpy (F_515 6) (F_515 134) 0 0 6)) fun F_516 =>
  bnd (uF F_516 135 (va_cpy (F_516 7) (F_516 135) 0 0 20)) fun F_517 =>
  some (I_509, F_517)) := rfl
theorem nf_f_X3_remember_42_22 (I : WI) (F : WF) : f_X3_remember_42_22 I F = (if (I 62) = (nI 0) then (Option.bind (f_X6_copyFrom_44_22 I F) fun c_308 =>
  bnd (upd c_308.1 62 (((c_308.1 62) + (nI 1)) - ((c_308.1 62) + (nI 1)) / (nI 16) * (nI 16))) fun I_309 =>
  bnd (upd I_309 61 (if (nI 16) < ((I_309 61) + (nI 1)) then (nI 16) else ((I_309 61) + (nI 1)))) fun I_310 =>
  some (I_310, c_308.2))
  else if (I 62) = (nI 1) then (Option.bind (f_X6_copyFrom_53_22 I F) fun c_322 =>
  bnd (upd c_322.1 62 (((c_322.1 62) + (nI 1)) - ((c_322.1 62) + (nI 1)) / (nI 16) * (nI 16))) fun I_323 =>
  bnd (upd I_323 61 (if (nI 16) < ((I_323 61) + (nI 1)) then (nI 16) else ((I_323 61) + (nI 1)))) fun I_324 =>
  some (I_324, c_322.2))
  else if (I 62) = (nI 2) then (Option.bind (f_X6_copyFrom_62_22 I F) fun c_336 =>
  bnd (upd c_336.1 62 (((c_336.1 62) + (nI 1)) - ((c_336.1 62) + (nI 1)) / (nI 16) * (nI 16))) fun I_337 =>
  bnd (upd I_337 61 (if (nI 16) < ((I_337 61) + (nI 1)) then (nI 16) else ((I_337 61) + (nI 1)))) fun I_338 =>
  some (I_338, c_336.2))
  else if (I 62) = (nI 3) then (Option.bind (f_X6_copyFrom_71_22 I F) fun c_350 =>
  bnd (upd c_350.1 62 (((c_350.1 62) + (nI 1)) - ((c_350.1 62) + (nI 1)) / (nI 16) * (nI 16))) fun I_351 =>
  bnd (upd I_351 61 (if (nI 16) < ((I_351 61) + (nI 1)) then (nI 16) else ((I_351 61) + (nI 1)))) fun I_352 =>
  some (I_352, c_350.2))
  else if (I 62) = (nI 4) then (Option.bind (f_X6_copyFrom_80_22 I F) fun c_364 =>
  bnd (upd c_364.1 62 (((c_364.1 62) + (nI 1)) - ((c_364.1 62) + (nI 1)) / (nI 16) * (nI 16))) fun I_365 =>
  bnd (upd I_365 61 (if (nI 16) < ((I_365 61) + (nI 1)) then (nI 16) else ((I_365 61) + (nI 1)))) fun I_366 =>
  some (I_366, c_364.2))
  else if (I 62) = (nI 5) then (Option.bind (f_X6_copyFrom_89_22 I F) fun c_378 =>
  bnd (upd c_378.1 62 (((c_378.1 62) + (nI 1)) - ((c_378.1 62) + (nI 1)) / (nI 16) * (nI 16))) fun I_379 =>
  bnd (upd I_379 61 (if (nI 16) < ((I_379 61) + (nI 1)) then (nI 16) else ((I_379 61) + (nI 1)))) fun I_380 =>
  some (I_380, c_378.2))
  else if (I 62) = (nI 6) then (Option.bind (f_X6_copyFrom_98_22 I F) fun c_392 =>
  bnd (upd c_392.1 62 (((c_392.1 62) + (nI 1)) - ((c_392.1 62) + (nI 1)) / (nI 16) * (nI 16))) fun I_393 =>
  bnd (upd I_393 61 (if (nI 16) < ((I_393 61) + (nI 1)) then (nI 16) else ((I_393 61) + (nI 1)))) fun I_394 =>
  some (I_394, c_392.2))
  else if (I 62) = (nI 7) then (Option.bind (f_X6_copyFrom_107_22 I F) fun c_406 =>
  bnd (upd c_406.1 62 (((c_406.1 62) + (nI 1)) - ((c_406.1 62) + (nI 1)) / (nI 16) * (nI 16))) fun I_407 =>
  bnd (upd I_407 61 (if (nI 16) < ((I_407 61) + (nI 1)) then (nI 16) else ((I_407 61) + (nI 1)))) fun I_408 =>
  some (I_408, c_406.2))
  else if (I 62) = (nI 8) then (Option.bind (f_X6_copyFrom_116_22 I F) fun c_420 =>
  bnd (upd c_420.1 62 (((c_420.1 62) + (nI 1)) - ((c_420.1 62) + (nI 1)) / (nI 16) * (nI 16))) fun I_421 =>
  bnd (upd I_421 61 (if (nI 16) < ((I_421 61) + (nI 1)) then (nI 16) else ((I_421 61) + (nI 1)))) fun I_422 =>
  some (I_422, c_420.2))
  else if (I 62) = (nI 9) then (Option.bind (f_X6_copyFrom_125_22 I F) fun c_434 =>
  bnd (upd c_434.1 62 (((c_434.1 62) + (nI 1)) - ((c_434.1 62) + (nI 1)) / (nI 16) * (nI 16))) fun I_435 =>
  bnd (upd I_435 61 (if (nI 16) < ((I_435 61) + (nI 1)) then (nI 16) else ((I_435 61) + (nI 1)))) fun I_436 =>
  some (I_436, c_434.2))
  else if (I 62) = (nI 10) then (Option.bind (f_X6_copyFrom_134_22 I F) fun c_448 =>
  bnd (upd c_448.1 62 (((c_448.1 62) + (nI 1)) - ((c_448.1 62) + (nI 1)) / (nI 16) * (nI 16))) fun I_449 =>
  bnd (upd I_449 61 (if (nI 16) < ((I_449 61) + (nI 1)) then (nI 16) else ((I_449 61) + (nI 1)))) fun I_450 =>
  some (I_450, c_448.2))
  else if (I 62) = (nI 11) then (Option.bind (f_X6_copyFrom_143_22 I F) fun c_462 =>
  bnd (upd c_462.1 62 (((c_462.1 62) + (nI 1)) - ((c_462.1 62) + (nI 1)) / (nI 16) * (nI 16))) fun I_463 =>
  bnd (upd I_463 61 (if (nI 16) < ((I_463 61) + (nI 1)) then (nI 16) else ((I_463 61) + (nI 1)))) fun I_464 =>
  some (I_464, c_462.2))
  else if (I 62) = (nI 12) then (Option.bind (f_X6_copyFrom_152_22 I F) fun c_476 =>
  bnd (upd c_476.1 62 (((c_476.1 62) + (nI 1)) - ((c_476.1 62) + (nI 1)) / (nI 16) * (nI 16))) fun I_477 =>
  bnd (upd I_477 61 (if (nI 16) < ((I_477 61) + (nI 1)) then (nI 16) else ((I_477 61) + (nI 1)))) fun I_478 =>
  some (I_478, c_476.2))
  else if (I 62) = (nI 13) then (Option.bind (f_X6_copyFrom_161_22 I F) fun c_490 =>
  bnd (upd c_490.1 62 (((c_490.1 62) + (nI 1)) - ((c_490.1 62) + (nI 1)) / (nI 16) * (nI 16))) fun I_491 =>
  bnd (upd I_491 61 (if (nI 16) < ((I_491 61) + (nI 1)) then (nI 16) else ((I_491 61) + (nI 1)))) fun I_492 =>
  some (I_492, c_490.2))
  else if (I 62) = (nI 14) then (Option.bind (f_X6_copyFrom_170_22 I F) fun c_504 =>
  bnd (upd c_504.1 62 (((c_504.1 62) + (nI 1)) - ((c_504.1 62) + (nI 1)) / (nI 16) * (nI 16))) fun I_505 =>
  bnd (upd I_505 61 (if (nI 16) < ((I_505 61) + (nI 1)) then (nI 16) else ((I_505 61) + (nI 1)))) fun I_506 =>
  some (I_506, c_504.2))
  else if (I 62) = (nI 15) then (Option.bind (f_X6_copyFrom_179_22 I F) fun c_518 =>
  bnd (upd c_518.1 62 (((c_518.1 62) + (nI 1)) - ((c_518.1 62) + (nI 1)) / (nI 16) * (nI 16))) fun I_519 =>
  bnd (upd I_519 61 (if (nI 16) < ((I_519 61) + (nI 1)) then (nI 16) else ((I_519 61) + (nI 1)))) fun I_520 =>
  some (I_520, c_518.2))
  else none) := rfl
theorem nf_L_X6_enter_22_4 (k : WF → Option (WI × WF)) (x1 : Int32) (x2 : Int32) (x3 : Int32) (I : WI) (n : Nat) (x4 : Int32) (F : WF) : L_X6_enter_22_4 k x1 x2 x3 I (n + 1) x4 F = (if x4 ≤ (nI 0) then (k F)
  else (ixG (x4 - (nI 1)) 20 (
  ixG x4 20 (bnd (uF F 7 (upd (F 7) x4.toNatClampNeg (F 7 (x4 - (nI 1)).toNatClampNeg))) fun F_533 =>
  bnd (x4 + (-1 : Int32)) fun x4_534 =>
  L_X6_enter_22_4 k x1 x2 x3 I n x4_534 F_533)))) := rfl
theorem nf_f_X6_enter_22 (x1 : Int32) (x2 : Int32) (x3 : Int32) (I : WI) (F : WF) : f_X6_enter_22 x1 x2 x3 I F = (bnd (nI 19) fun x4_532 =>
  L_X6_enter_22_4 (fun F_535 => bnd (fun (s_537 : Int32) => bnd (uF F_535 7 (upd (F_535 7) 0 (((((I 0) <<< ((nI 8) &&& nI 31)) ||| (x1 <<< ((nI 5) &&& nI 31))) ||| (x2 <<< ((nI 1) &&& nI 31))) ||| s_537))) fun F_538 =>
  bnd (upd I 1 (if (nI 20) < ((I 1) + (nI 1)) then (nI 20) else ((I 1) + (nI 1)))) fun I_539 =>
  some (I_539, F_538)) fun j60_536 =>
  if x3 = (nI 0) then (j60_536 (nI 0))
  else (j60_536 (nI 1))) x1 x2 x3 I FU x4_532 F) := rfl
theorem nf_f_X7_beyond_13 (x1 : Int32) (x2 : Int32) (I : WI) (F : WF) : f_X7_beyond_13 x1 x2 I F = (ixG x1 9 (
  if (F 161 x1.toNatClampNeg) = x2 then (ixG x1 9 (
  some (F 162 x1.toNatClampNeg)))
  else (ixG x1 9 (
  some (F 161 x1.toNatClampNeg))))) := rfl
theorem nf_f_X1_jump_12 (x1 : Int32) (x2 : Int32) (x3 : Int32) (I : WI) (F : WF) : f_X1_jump_12 x1 x2 x3 I F = (bnd (fun (s_524 : Int32) => bnd s_524 fun x4_525 =>
  bnd (fun (F_527 : WF) => Option.bind (f_X1_keeperAt_12 x2 I F_527) fun c_528 =>
  bnd c_528 fun x5_529 =>
  bnd (fun (F_531 : WF) => Option.bind (f_X6_enter_22 x1 x2 x4_525 I F_531) fun c_540 =>
  bzG x4_525 (some (x4_525, c_540.1, c_540.2))) fun j193_530 =>
  if x5_529 = (-1 : Int32) then (j193_530 F_527)
  else (ixG x5_529 9 (
  ixG x5_529 9 (bnd (uF F_527 2 (upd (F_527 2) x5_529.toNatClampNeg (if ((F_527 2 x5_529.toNatClampNeg) + (nI 1)) < (nI 99) then ((F_527 2 x5_529.toNatClampNeg) + (nI 1)) else (nI 99)))) fun F_542 =>
  j193_530 F_542)))) fun j153_526 =>
  if x4_525 = (nI 0) then (ixG x1 6 (
  ixG x1 6 (bnd (uF F 4 (upd (F 4) x1.toNatClampNeg (if ((F 4 x1.toNatClampNeg) + (nI 2)) < (nI 30) then ((F 4 x1.toNatClampNeg) + (nI 2)) else (nI 30)))) fun F_543 =>
  ixG x1 6 (
  ixG x1 6 (bnd (uF F_543 6 (upd (F_543 6) x1.toNatClampNeg (if ((F_543 6 x1.toNatClampNeg) + (nI 1)) < (nI 999999) then ((F_543 6 x1.toNatClampNeg) + (nI 1)) else (nI 999999)))) fun F_544 =>
  j153_526 F_544)))))
  else (ixG x1 6 (
  Option.bind (f_X7_beyond_13 x2 (F 3 x1.toNatClampNeg) I F) fun c_545 =>
  ixG x1 6 (bnd (uF F 3 (upd (F 3) x1.toNatClampNeg c_545)) fun F_546 =>
  ixG x1 6 (
  ixG x1 6 (bnd (uF F_546 4 (upd (F_546 4) x1.toNatClampNeg (if (nI 0) < ((F_546 4 x1.toNatClampNeg) - (nI 1)) then ((F_546 4 x1.toNatClampNeg) - (nI 1)) else (nI 0)))) fun F_547 =>
  ixG x1 6 (
  ixG x1 6 (bnd (uF F_547 5 (upd (F_547 5) x1.toNatClampNeg (if ((F_547 5 x1.toNatClampNeg) + (nI 1)) < (nI 999999) then ((F_547 5 x1.toNatClampNeg) + (nI 1)) else (nI 999999)))) fun F_548 =>
  j153_526 F_548)))))))) fun j18_523 =>
  bnd (fun (_u : Unit) => j18_523 (nI 0)) fun j17_549 =>
  if x3 = (nI 0) then (Option.bind (f_X1_comesOver_12 x1 x2 I F) fun c_550 =>
  if c_550 = (nI 0) then (j17_549 ())
  else (j18_523 (nI 1)))
  else (j17_549 ())) := rfl
theorem nf_f_X10_leap (x1 : Int32) (x2 : Int32) (I : WI) (F : WF) : f_X10_leap x1 x2 I F = (Option.bind (f_X7_hasJumper_13 x1 I F) fun c_295 =>
  if c_295 = (nI 0) then (some ((-1000000001 : Int32), I, F))
  else (Option.bind (f_X7_hasBridge_13 x2 I F) fun c_296 =>
  if c_296 = (nI 0) then (some ((-1000000001 : Int32), I, F))
  else (ixG x1 6 (
  Option.bind (f_X7_touches_13 x2 (F 3 x1.toNatClampNeg) I F) fun c_297 =>
  if c_297 = (nI 0) then (some ((-1000000003 : Int32), I, F))
  else (Option.bind (f_X3_remember_42_22 I F) fun c_522 =>
  Option.bind (f_X1_jump_12 x1 x2 (nI 0) c_522.1 c_522.2) fun c_551 =>
  if c_551.1 = (nI 0) then (some ((nI 0), c_551.2.1, c_551.2.2))
  else (some ((nI 1), c_551.2.1, c_551.2.2))))))) := rfl
theorem nf_f_X10_post (x1 : Int32) (x2 : Int32) (I : WI) (F : WF) : f_X10_post x1 x2 I F = (Option.bind (f_X7_hasKeeper_13 x1 I F) fun c_552 =>
  if c_552 = (nI 0) then (some ((-1000000001 : Int32), I, F))
  else (Option.bind (f_X7_hasBridge_13 x2 I F) fun c_553 =>
  if c_553 = (nI 0) then (some ((-1000000001 : Int32), I, F))
  else (Option.bind (f_X1_keeperAt_12 x2 I F) fun c_554 =>
  if c_554 = (-1 : Int32) then (Option.bind (f_X3_remember_42_22 I F) fun c_555 =>
  ixG x1 9 (
  bnd (c_555.2 1 x1.toNatClampNeg) fun x3_556 =>
  ixG x1 9 (bnd (uF c_555.2 1 (upd (c_555.2 1) x1.toNatClampNeg x2)) fun F_557 =>
  some (x3_556, c_555.1, F_557))))
  else (some ((-1000000003 : Int32), I, F))))) := rfl
theorem nf_f_X10_rest (x1 : Int32) (I : WI) (F : WF) : f_X10_rest x1 I F = (Option.bind (f_X7_hasKeeper_13 x1 I F) fun c_558 =>
  if c_558 = (nI 0) then (some ((-1000000001 : Int32), I, F))
  else (ixG x1 9 (
  bnd (F 1 x1.toNatClampNeg) fun x2_559 =>
  if x2_559 = (-1 : Int32) then (some ((-1000000003 : Int32), I, F))
  else (Option.bind (f_X3_remember_42_22 I F) fun c_560 =>
  ixG x1 9 (bnd (uF c_560.2 1 (upd (c_560.2 1) x1.toNatClampNeg (-1 : Int32))) fun F_561 =>
  some (x2_559, c_560.1, F_561)))))) := rfl
theorem nf_f_X10_train (x1 : Int32) (I : WI) (F : WF) : f_X10_train x1 I F = (Option.bind (f_X7_hasKeeper_13 x1 I F) fun c_562 =>
  if c_562 = (nI 0) then (some ((-1000000001 : Int32), I, F))
  else (ixG x1 9 (
  if (nI 1) < (F 0 x1.toNatClampNeg) then (Option.bind (f_X3_remember_42_22 I F) fun c_563 =>
  ixG x1 9 (
  ixG x1 9 (bnd (uF c_563.2 0 (upd (c_563.2 0) x1.toNatClampNeg ((c_563.2 0 x1.toNatClampNeg) - (nI 1)))) fun F_564 =>
  ixG x1 9 (
  some ((F_564 0 x1.toNatClampNeg), c_563.1, F_564)))))
  else (some ((-1000000003 : Int32), I, F))))) := rfl
theorem nf_f_X10_talk (x1 : Int32) (x2 : Int32) (I : WI) (F : WF) : f_X10_talk x1 x2 I F = (Option.bind (f_X7_hasJumper_13 x1 I F) fun c_565 =>
  if c_565 = (nI 0) then (some ((-1000000001 : Int32), I, F))
  else (if x2 < (nI 0) then (some ((-1000000002 : Int32), I, F))
  else (if x2 ≤ (nI 30) then (Option.bind (f_X3_remember_42_22 I F) fun c_566 =>
  ixG x1 6 (
  bnd (c_566.2 4 x1.toNatClampNeg) fun x3_567 =>
  ixG x1 6 (bnd (uF c_566.2 4 (upd (c_566.2 4) x1.toNatClampNeg x2)) fun F_568 =>
  some (x3_567, c_566.1, F_568))))
  else (some ((-1000000002 : Int32), I, F))))) := rfl
theorem nf_L_X1_oneHour_12_2 (k : WF → Option (WI × WF))  (I : WI) (n : Nat) (x1 : Int32) (F : WF) : L_X1_oneHour_12_2 k I (n + 1) x1 F = (if (I 50) ≤ x1 then (k F)
  else (ixG x1 9 (
  bnd (fun (s_576 : Int32) => bnd s_576 fun x2_577 =>
  ixG x1 9 (
  ixG x1 9 (bnd (uF F 2 (upd (F 2) x1.toNatClampNeg (if (nI 0) < ((F 2 x1.toNatClampNeg) - x2_577) then ((F 2 x1.toNatClampNeg) - x2_577) else (nI 0)))) fun F_578 =>
  bnd (x1 + (nI 1)) fun x1_579 =>
  L_X1_oneHour_12_2 k I n x1_579 F_578))) fun j31_575 =>
  if (F 1 x1.toNatClampNeg) = (-1 : Int32) then (j31_575 (nI 3))
  else (j31_575 (nI 1))))) := rfl
theorem nf_L_X1_oneHour_12_64 (k : WF → Option (WI × WF))  (I : WI) (n : Nat) (x1 : Int32) (F : WF) : L_X1_oneHour_12_64 k I (n + 1) x1 F = (if (I 51) ≤ x1 then (k F)
  else (ixG x1 6 (
  bnd (fun (F_583 : WF) => bnd (x1 + (nI 1)) fun x1_584 =>
  L_X1_oneHour_12_64 k I n x1_584 F_583) fun j103_582 =>
  if ((F 4 x1.toNatClampNeg) - (F 4 x1.toNatClampNeg) / (nI 2) * (nI 2)) = (nI 1) then (ixG x1 6 (
  ixG x1 6 (bnd (uF F 4 (upd (F 4) x1.toNatClampNeg ((F 4 x1.toNatClampNeg) - (nI 1)))) fun F_585 =>
  j103_582 F_585)))
  else (j103_582 F)))) := rfl
theorem nf_f_X1_oneHour_12 (I : WI) (F : WF) : f_X1_oneHour_12 I F = (bnd (nI 0) fun x1_574 =>
  L_X1_oneHour_12_2 (fun F_580 => bnd (nI 0) fun x1_581 =>
  L_X1_oneHour_12_64 (fun F_586 => bnd (upd I 0 ((I 0) + (nI 1))) fun I_587 =>
  some (I_587, F_586)) I FU x1_581 F_580) I FU x1_574 F) := rfl
theorem nf_f_X1_draw_12 (x1 : Int32) (I : WI) (F : WF) : f_X1_draw_12 x1 I F = (bnd (upd I 47 ((((((I 47).toInt64) * (1103515245 : Int64)) + (12345 : Int64)) &&& (2147483647 : Int64)).toInt32)) fun I_590 =>
  if x1 ≤ (nI 0) then (some ((nI 0), I_590))
  else (nzI x1 (
  some ((((I_590 47) / (nI 65536)) - ((I_590 47) / (nI 65536)) / x1 * x1), I_590)))) := rfl
theorem nf_f_X1_drawnJump_12 (I : WI) (F : WF) : f_X1_drawnJump_12 I F = (if (I 51) = (nI 0) then (some (I, F))
  else (if (I 49) = (nI 0) then (some (I, F))
  else (Option.bind (f_X1_draw_12 (I 51) I F) fun c_592 =>
  bnd c_592.1 fun x1_593 =>
  Option.bind (f_X1_draw_12 (c_592.2 49) c_592.2 F) fun c_594 =>
  bnd c_594.1 fun x2_595 =>
  Option.bind (f_X1_draw_12 (nI 100) c_594.2 F) fun c_596 =>
  bnd c_596.1 fun x3_597 =>
  ixG x1_593 6 (
  Option.bind (f_X7_touches_13 x2_595 (F 3 x1_593.toNatClampNeg) c_596.2 F) fun c_598 =>
  if c_598 = (nI 0) then (some (c_596.2, F))
  else (ixG x2_595 9 (
  bnd (fun (s_600 : Int32) => Option.bind (f_X1_jump_12 x1_593 x2_595 s_600 c_596.2 F) fun c_601 =>
  some (c_601.2.1, c_601.2.2)) fun j93_599 =>
  if (F 164 x2_595.toNatClampNeg) ≤ x3_597 then (j93_599 (nI 0))
  else (j93_599 (nI 1)))))))) := rfl
theorem nf_L_X10_passHours_56 (k : WI → WF → Option (Int32 × WI × WF)) (x1 : Int32) (x2 : Int32) (n : Nat) (x3 : Int32) (I : WI) (F : WF) : L_X10_passHours_56 k x1 x2 (n + 1) x3 I F = (if x1 ≤ x3 then (k I F)
  else (bnd (fun (I_572 : WI) (F_573 : WF) => Option.bind (f_X1_oneHour_12 I_572 F_573) fun c_588 =>
  bnd (x3 + (nI 1)) fun x3_589 =>
  L_X10_passHours_56 k x1 x2 n x3_589 c_588.1 c_588.2) fun j72_571 =>
  if x2 = (nI 0) then (j72_571 I F)
  else (Option.bind (f_X1_drawnJump_12 I F) fun c_602 =>
  j72_571 c_602.1 c_602.2))) := rfl
theorem nf_f_X10_passHours (x1 : Int32) (x2 : Int32) (I : WI) (F : WF) : f_X10_passHours x1 x2 I F = (if x1 < (nI 1) then (some ((-1000000002 : Int32), I, F))
  else (if x1 ≤ (nI 60) then (if (I 48) = (nI 0) then (some ((-1000000003 : Int32), I, F))
  else (if (I 0) ≤ (nI 9000) then (Option.bind (f_X3_remember_42_22 I F) fun c_569 =>
  bnd (nI 0) fun x3_570 =>
  L_X10_passHours_56 (fun I_603 F_604 => some ((I_603 0), I_603, F_604)) x1 x2 FU x3_570 c_569.1 c_569.2)
  else (some ((-1000000004 : Int32), I, F))))
  else (some ((-1000000002 : Int32), I, F)))) := rfl
theorem nf_f_X10_hour (x1 : Int32) (I : WI) (F : WF) : f_X10_hour x1 I F = (Option.bind (f_X10_passHours x1 (nI 0) I F) fun c_605 =>
  some (c_605.1, c_605.2.1, c_605.2.2)) := rfl
theorem nf_f_X10_drift (x1 : Int32) (I : WI) (F : WF) : f_X10_drift x1 I F = (Option.bind (f_X10_passHours x1 (nI 1) I F) fun c_606 =>
  some (c_606.1, c_606.2.1, c_606.2.2)) := rfl
theorem nf_f_X6_copyFrom_22_44 (I : WI) (F : WF) : f_X6_copyFrom_22_44 I F = (bnd (upd I 0 (I 2)) fun I_608 =>
  bnd (upd I_608 1 (I_608 3)) fun I_609 =>
  bnd (uF F 0 (va_cpy (F 8) (F 0) 0 0 9)) fun F_610 =>
  bnd (uF F_610 1 (va_cpy (F_610 9) (F_610 1) 0 0 9)) fun F_611 =>
  bnd (uF F_611 2 (va_cpy (F_611 10) (F_611 2) 0 0 9)) fun F_612 =>
  bnd (uF F_612 3 (va_cpy (F_612 11) (F_612 3) 0 0 6)) fun F_613 =>
  bnd (uF F_613 4 (va_cpy (F_613 12) (F_613 4) 0 0 6)) fun F_614 =>
  bnd (uF F_614 5 (va_cpy (F_614 13) (F_614 5) 0 0 6)) fun F_615 =>
  bnd (uF F_615 6 (va_cpy (F_615 14) (F_615 6) 0 0 6)) fun F_616 =>
  bnd (uF F_616 7 (va_cpy (F_616 15) (F_616 7) 0 0 20)) fun F_617 =>
  some (I_609, F_617)) := rfl
theorem nf_f_X6_copyFrom_22_53 (I : WI) (F : WF) : f_X6_copyFrom_22_53 I F = (bnd (upd I 0 (I 4)) fun I_621 =>
  bnd (upd I_621 1 (I_621 5)) fun I_622 =>
  bnd (uF F 0 (va_cpy (F 16) (F 0) 0 0 9)) fun F_623 =>
  bnd (uF F_623 1 (va_cpy (F_623 17) (F_623 1) 0 0 9)) fun F_624 =>
  bnd (uF F_624 2 (va_cpy (F_624 18) (F_624 2) 0 0 9)) fun F_625 =>
  bnd (uF F_625 3 (va_cpy (F_625 19) (F_625 3) 0 0 6)) fun F_626 =>
  bnd (uF F_626 4 (va_cpy (F_626 20) (F_626 4) 0 0 6)) fun F_627 =>
  bnd (uF F_627 5 (va_cpy (F_627 21) (F_627 5) 0 0 6)) fun F_628 =>
  bnd (uF F_628 6 (va_cpy (F_628 22) (F_628 6) 0 0 6)) fun F_629 =>
  bnd (uF F_629 7 (va_cpy (F_629 23) (F_629 7) 0 0 20)) fun F_630 =>
  some (I_622, F_630)) := rfl
theorem nf_f_X6_copyFrom_22_62 (I : WI) (F : WF) : f_X6_copyFrom_22_62 I F = (bnd (upd I 0 (I 6)) fun I_634 =>
  bnd (upd I_634 1 (I_634 7)) fun I_635 =>
  bnd (uF F 0 (va_cpy (F 24) (F 0) 0 0 9)) fun F_636 =>
  bnd (uF F_636 1 (va_cpy (F_636 25) (F_636 1) 0 0 9)) fun F_637 =>
  bnd (uF F_637 2 (va_cpy (F_637 26) (F_637 2) 0 0 9)) fun F_638 =>
  bnd (uF F_638 3 (va_cpy (F_638 27) (F_638 3) 0 0 6)) fun F_639 =>
  bnd (uF F_639 4 (va_cpy (F_639 28) (F_639 4) 0 0 6)) fun F_640 =>
  bnd (uF F_640 5 (va_cpy (F_640 29) (F_640 5) 0 0 6)) fun F_641 =>
  bnd (uF F_641 6 (va_cpy (F_641 30) (F_641 6) 0 0 6)) fun F_642 =>
  bnd (uF F_642 7 (va_cpy (F_642 31) (F_642 7) 0 0 20)) fun F_643 =>
  some (I_635, F_643)) := rfl
theorem nf_f_X6_copyFrom_22_71 (I : WI) (F : WF) : f_X6_copyFrom_22_71 I F = (bnd (upd I 0 (I 8)) fun I_647 =>
  bnd (upd I_647 1 (I_647 9)) fun I_648 =>
  bnd (uF F 0 (va_cpy (F 32) (F 0) 0 0 9)) fun F_649 =>
  bnd (uF F_649 1 (va_cpy (F_649 33) (F_649 1) 0 0 9)) fun F_650 =>
  bnd (uF F_650 2 (va_cpy (F_650 34) (F_650 2) 0 0 9)) fun F_651 =>
  bnd (uF F_651 3 (va_cpy (F_651 35) (F_651 3) 0 0 6)) fun F_652 =>
  bnd (uF F_652 4 (va_cpy (F_652 36) (F_652 4) 0 0 6)) fun F_653 =>
  bnd (uF F_653 5 (va_cpy (F_653 37) (F_653 5) 0 0 6)) fun F_654 =>
  bnd (uF F_654 6 (va_cpy (F_654 38) (F_654 6) 0 0 6)) fun F_655 =>
  bnd (uF F_655 7 (va_cpy (F_655 39) (F_655 7) 0 0 20)) fun F_656 =>
  some (I_648, F_656)) := rfl
theorem nf_f_X6_copyFrom_22_80 (I : WI) (F : WF) : f_X6_copyFrom_22_80 I F = (bnd (upd I 0 (I 10)) fun I_660 =>
  bnd (upd I_660 1 (I_660 11)) fun I_661 =>
  bnd (uF F 0 (va_cpy (F 40) (F 0) 0 0 9)) fun F_662 =>
  bnd (uF F_662 1 (va_cpy (F_662 41) (F_662 1) 0 0 9)) fun F_663 =>
  bnd (uF F_663 2 (va_cpy (F_663 42) (F_663 2) 0 0 9)) fun F_664 =>
  bnd (uF F_664 3 (va_cpy (F_664 43) (F_664 3) 0 0 6)) fun F_665 =>
  bnd (uF F_665 4 (va_cpy (F_665 44) (F_665 4) 0 0 6)) fun F_666 =>
  bnd (uF F_666 5 (va_cpy (F_666 45) (F_666 5) 0 0 6)) fun F_667 =>
  bnd (uF F_667 6 (va_cpy (F_667 46) (F_667 6) 0 0 6)) fun F_668 =>
  bnd (uF F_668 7 (va_cpy (F_668 47) (F_668 7) 0 0 20)) fun F_669 =>
  some (I_661, F_669)) := rfl
theorem nf_f_X6_copyFrom_22_89 (I : WI) (F : WF) : f_X6_copyFrom_22_89 I F = (bnd (upd I 0 (I 12)) fun I_673 =>
  bnd (upd I_673 1 (I_673 13)) fun I_674 =>
  bnd (uF F 0 (va_cpy (F 48) (F 0) 0 0 9)) fun F_675 =>
  bnd (uF F_675 1 (va_cpy (F_675 49) (F_675 1) 0 0 9)) fun F_676 =>
  bnd (uF F_676 2 (va_cpy (F_676 50) (F_676 2) 0 0 9)) fun F_677 =>
  bnd (uF F_677 3 (va_cpy (F_677 51) (F_677 3) 0 0 6)) fun F_678 =>
  bnd (uF F_678 4 (va_cpy (F_678 52) (F_678 4) 0 0 6)) fun F_679 =>
  bnd (uF F_679 5 (va_cpy (F_679 53) (F_679 5) 0 0 6)) fun F_680 =>
  bnd (uF F_680 6 (va_cpy (F_680 54) (F_680 6) 0 0 6)) fun F_681 =>
  bnd (uF F_681 7 (va_cpy (F_681 55) (F_681 7) 0 0 20)) fun F_682 =>
  some (I_674, F_682)) := rfl
theorem nf_f_X6_copyFrom_22_98 (I : WI) (F : WF) : f_X6_copyFrom_22_98 I F = (bnd (upd I 0 (I 14)) fun I_686 =>
  bnd (upd I_686 1 (I_686 15)) fun I_687 =>
  bnd (uF F 0 (va_cpy (F 56) (F 0) 0 0 9)) fun F_688 =>
  bnd (uF F_688 1 (va_cpy (F_688 57) (F_688 1) 0 0 9)) fun F_689 =>
  bnd (uF F_689 2 (va_cpy (F_689 58) (F_689 2) 0 0 9)) fun F_690 =>
  bnd (uF F_690 3 (va_cpy (F_690 59) (F_690 3) 0 0 6)) fun F_691 =>
  bnd (uF F_691 4 (va_cpy (F_691 60) (F_691 4) 0 0 6)) fun F_692 =>
  bnd (uF F_692 5 (va_cpy (F_692 61) (F_692 5) 0 0 6)) fun F_693 =>
  bnd (uF F_693 6 (va_cpy (F_693 62) (F_693 6) 0 0 6)) fun F_694 =>
  bnd (uF F_694 7 (va_cpy (F_694 63) (F_694 7) 0 0 20)) fun F_695 =>
  some (I_687, F_695)) := rfl
theorem nf_f_X6_copyFrom_22_107 (I : WI) (F : WF) : f_X6_copyFrom_22_107 I F = (bnd (upd I 0 (I 16)) fun I_699 =>
  bnd (upd I_699 1 (I_699 17)) fun I_700 =>
  bnd (uF F 0 (va_cpy (F 64) (F 0) 0 0 9)) fun F_701 =>
  bnd (uF F_701 1 (va_cpy (F_701 65) (F_701 1) 0 0 9)) fun F_702 =>
  bnd (uF F_702 2 (va_cpy (F_702 66) (F_702 2) 0 0 9)) fun F_703 =>
  bnd (uF F_703 3 (va_cpy (F_703 67) (F_703 3) 0 0 6)) fun F_704 =>
  bnd (uF F_704 4 (va_cpy (F_704 68) (F_704 4) 0 0 6)) fun F_705 =>
  bnd (uF F_705 5 (va_cpy (F_705 69) (F_705 5) 0 0 6)) fun F_706 =>
  bnd (uF F_706 6 (va_cpy (F_706 70) (F_706 6) 0 0 6)) fun F_707 =>
  bnd (uF F_707 7 (va_cpy (F_707 71) (F_707 7) 0 0 20)) fun F_708 =>
  some (I_700, F_708)) := rfl
theorem nf_f_X6_copyFrom_22_116 (I : WI) (F : WF) : f_X6_copyFrom_22_116 I F = (bnd (upd I 0 (I 18)) fun I_712 =>
  bnd (upd I_712 1 (I_712 19)) fun I_713 =>
  bnd (uF F 0 (va_cpy (F 72) (F 0) 0 0 9)) fun F_714 =>
  bnd (uF F_714 1 (va_cpy (F_714 73) (F_714 1) 0 0 9)) fun F_715 =>
  bnd (uF F_715 2 (va_cpy (F_715 74) (F_715 2) 0 0 9)) fun F_716 =>
  bnd (uF F_716 3 (va_cpy (F_716 75) (F_716 3) 0 0 6)) fun F_717 =>
  bnd (uF F_717 4 (va_cpy (F_717 76) (F_717 4) 0 0 6)) fun F_718 =>
  bnd (uF F_718 5 (va_cpy (F_718 77) (F_718 5) 0 0 6)) fun F_719 =>
  bnd (uF F_719 6 (va_cpy (F_719 78) (F_719 6) 0 0 6)) fun F_720 =>
  bnd (uF F_720 7 (va_cpy (F_720 79) (F_720 7) 0 0 20)) fun F_721 =>
  some (I_713, F_721)) := rfl
theorem nf_f_X6_copyFrom_22_125 (I : WI) (F : WF) : f_X6_copyFrom_22_125 I F = (bnd (upd I 0 (I 20)) fun I_725 =>
  bnd (upd I_725 1 (I_725 21)) fun I_726 =>
  bnd (uF F 0 (va_cpy (F 80) (F 0) 0 0 9)) fun F_727 =>
  bnd (uF F_727 1 (va_cpy (F_727 81) (F_727 1) 0 0 9)) fun F_728 =>
  bnd (uF F_728 2 (va_cpy (F_728 82) (F_728 2) 0 0 9)) fun F_729 =>
  bnd (uF F_729 3 (va_cpy (F_729 83) (F_729 3) 0 0 6)) fun F_730 =>
  bnd (uF F_730 4 (va_cpy (F_730 84) (F_730 4) 0 0 6)) fun F_731 =>
  bnd (uF F_731 5 (va_cpy (F_731 85) (F_731 5) 0 0 6)) fun F_732 =>
  bnd (uF F_732 6 (va_cpy (F_732 86) (F_732 6) 0 0 6)) fun F_733 =>
  bnd (uF F_733 7 (va_cpy (F_733 87) (F_733 7) 0 0 20)) fun F_734 =>
  some (I_726, F_734)) := rfl
theorem nf_f_X6_copyFrom_22_134 (I : WI) (F : WF) : f_X6_copyFrom_22_134 I F = (bnd (upd I 0 (I 22)) fun I_738 =>
  bnd (upd I_738 1 (I_738 23)) fun I_739 =>
  bnd (uF F 0 (va_cpy (F 88) (F 0) 0 0 9)) fun F_740 =>
  bnd (uF F_740 1 (va_cpy (F_740 89) (F_740 1) 0 0 9)) fun F_741 =>
  bnd (uF F_741 2 (va_cpy (F_741 90) (F_741 2) 0 0 9)) fun F_742 =>
  bnd (uF F_742 3 (va_cpy (F_742 91) (F_742 3) 0 0 6)) fun F_743 =>
  bnd (uF F_743 4 (va_cpy (F_743 92) (F_743 4) 0 0 6)) fun F_744 =>
  bnd (uF F_744 5 (va_cpy (F_744 93) (F_744 5) 0 0 6)) fun F_745 =>
  bnd (uF F_745 6 (va_cpy (F_745 94) (F_745 6) 0 0 6)) fun F_746 =>
  bnd (uF F_746 7 (va_cpy (F_746 95) (F_746 7) 0 0 20)) fun F_747 =>
  some (I_739, F_747)) := rfl
theorem nf_f_X6_copyFrom_22_143 (I : WI) (F : WF) : f_X6_copyFrom_22_143 I F = (bnd (upd I 0 (I 24)) fun I_751 =>
  bnd (upd I_751 1 (I_751 25)) fun I_752 =>
  bnd (uF F 0 (va_cpy (F 96) (F 0) 0 0 9)) fun F_753 =>
  bnd (uF F_753 1 (va_cpy (F_753 97) (F_753 1) 0 0 9)) fun F_754 =>
  bnd (uF F_754 2 (va_cpy (F_754 98) (F_754 2) 0 0 9)) fun F_755 =>
  bnd (uF F_755 3 (va_cpy (F_755 99) (F_755 3) 0 0 6)) fun F_756 =>
  bnd (uF F_756 4 (va_cpy (F_756 100) (F_756 4) 0 0 6)) fun F_757 =>
  bnd (uF F_757 5 (va_cpy (F_757 101) (F_757 5) 0 0 6)) fun F_758 =>
  bnd (uF F_758 6 (va_cpy (F_758 102) (F_758 6) 0 0 6)) fun F_759 =>
  bnd (uF F_759 7 (va_cpy (F_759 103) (F_759 7) 0 0 20)) fun F_760 =>
  some (I_752, F_760)) := rfl
theorem nf_f_X6_copyFrom_22_152 (I : WI) (F : WF) : f_X6_copyFrom_22_152 I F = (bnd (upd I 0 (I 26)) fun I_764 =>
  bnd (upd I_764 1 (I_764 27)) fun I_765 =>
  bnd (uF F 0 (va_cpy (F 104) (F 0) 0 0 9)) fun F_766 =>
  bnd (uF F_766 1 (va_cpy (F_766 105) (F_766 1) 0 0 9)) fun F_767 =>
  bnd (uF F_767 2 (va_cpy (F_767 106) (F_767 2) 0 0 9)) fun F_768 =>
  bnd (uF F_768 3 (va_cpy (F_768 107) (F_768 3) 0 0 6)) fun F_769 =>
  bnd (uF F_769 4 (va_cpy (F_769 108) (F_769 4) 0 0 6)) fun F_770 =>
  bnd (uF F_770 5 (va_cpy (F_770 109) (F_770 5) 0 0 6)) fun F_771 =>
  bnd (uF F_771 6 (va_cpy (F_771 110) (F_771 6) 0 0 6)) fun F_772 =>
  bnd (uF F_772 7 (va_cpy (F_772 111) (F_772 7) 0 0 20)) fun F_773 =>
  some (I_765, F_773)) := rfl
theorem nf_f_X6_copyFrom_22_161 (I : WI) (F : WF) : f_X6_copyFrom_22_161 I F = (bnd (upd I 0 (I 28)) fun I_777 =>
  bnd (upd I_777 1 (I_777 29)) fun I_778 =>
  bnd (uF F 0 (va_cpy (F 112) (F 0) 0 0 9)) fun F_779 =>
  bnd (uF F_779 1 (va_cpy (F_779 113) (F_779 1) 0 0 9)) fun F_780 =>
  bnd (uF F_780 2 (va_cpy (F_780 114) (F_780 2) 0 0 9)) fun F_781 =>
  bnd (uF F_781 3 (va_cpy (F_781 115) (F_781 3) 0 0 6)) fun F_782 =>
  bnd (uF F_782 4 (va_cpy (F_782 116) (F_782 4) 0 0 6)) fun F_783 =>
  bnd (uF F_783 5 (va_cpy (F_783 117) (F_783 5) 0 0 6)) fun F_784 =>
  bnd (uF F_784 6 (va_cpy (F_784 118) (F_784 6) 0 0 6)) fun F_785 =>
  bnd (uF F_785 7 (va_cpy (F_785 119) (F_785 7) 0 0 20)) fun F_786 =>
  some (I_778, F_786)) := rfl
theorem nf_f_X6_copyFrom_22_170 (I : WI) (F : WF) : f_X6_copyFrom_22_170 I F = (bnd (upd I 0 (I 30)) fun I_790 =>
  bnd (upd I_790 1 (I_790 31)) fun I_791 =>
  bnd (uF F 0 (va_cpy (F 120) (F 0) 0 0 9)) fun F_792 =>
  bnd (uF F_792 1 (va_cpy (F_792 121) (F_792 1) 0 0 9)) fun F_793 =>
  bnd (uF F_793 2 (va_cpy (F_793 122) (F_793 2) 0 0 9)) fun F_794 =>
  bnd (uF F_794 3 (va_cpy (F_794 123) (F_794 3) 0 0 6)) fun F_795 =>
  bnd (uF F_795 4 (va_cpy (F_795 124) (F_795 4) 0 0 6)) fun F_796 =>
  bnd (uF F_796 5 (va_cpy (F_796 125) (F_796 5) 0 0 6)) fun F_797 =>
  bnd (uF F_797 6 (va_cpy (F_797 126) (F_797 6) 0 0 6)) fun F_798 =>
  bnd (uF F_798 7 (va_cpy (F_798 127) (F_798 7) 0 0 20)) fun F_799 =>
  some (I_791, F_799)) := rfl
theorem nf_f_X6_copyFrom_22_179 (I : WI) (F : WF) : f_X6_copyFrom_22_179 I F = (bnd (upd I 0 (I 32)) fun I_803 =>
  bnd (upd I_803 1 (I_803 33)) fun I_804 =>
  bnd (uF F 0 (va_cpy (F 128) (F 0) 0 0 9)) fun F_805 =>
  bnd (uF F_805 1 (va_cpy (F_805 129) (F_805 1) 0 0 9)) fun F_806 =>
  bnd (uF F_806 2 (va_cpy (F_806 130) (F_806 2) 0 0 9)) fun F_807 =>
  bnd (uF F_807 3 (va_cpy (F_807 131) (F_807 3) 0 0 6)) fun F_808 =>
  bnd (uF F_808 4 (va_cpy (F_808 132) (F_808 4) 0 0 6)) fun F_809 =>
  bnd (uF F_809 5 (va_cpy (F_809 133) (F_809 5) 0 0 6)) fun F_810 =>
  bnd (uF F_810 6 (va_cpy (F_810 134) (F_810 6) 0 0 6)) fun F_811 =>
  bnd (uF F_811 7 (va_cpy (F_811 135) (F_811 7) 0 0 20)) fun F_812 =>
  some (I_804, F_812)) := rfl
theorem nf_f_X3_bringBack_42_22 (I : WI) (F : WF) : f_X3_bringBack_42_22 I F = (bnd (upd I 62 ((((I 62) + (nI 16)) - (nI 1)) - (((I 62) + (nI 16)) - (nI 1)) / (nI 16) * (nI 16))) fun I_607 =>
  if (I_607 62) = (nI 0) then (Option.bind (f_X6_copyFrom_22_44 I_607 F) fun c_618 =>
  bnd (upd c_618.1 61 ((c_618.1 61) - (nI 1))) fun I_619 =>
  some (I_619, c_618.2))
  else if (I_607 62) = (nI 1) then (Option.bind (f_X6_copyFrom_22_53 I_607 F) fun c_631 =>
  bnd (upd c_631.1 61 ((c_631.1 61) - (nI 1))) fun I_632 =>
  some (I_632, c_631.2))
  else if (I_607 62) = (nI 2) then (Option.bind (f_X6_copyFrom_22_62 I_607 F) fun c_644 =>
  bnd (upd c_644.1 61 ((c_644.1 61) - (nI 1))) fun I_645 =>
  some (I_645, c_644.2))
  else if (I_607 62) = (nI 3) then (Option.bind (f_X6_copyFrom_22_71 I_607 F) fun c_657 =>
  bnd (upd c_657.1 61 ((c_657.1 61) - (nI 1))) fun I_658 =>
  some (I_658, c_657.2))
  else if (I_607 62) = (nI 4) then (Option.bind (f_X6_copyFrom_22_80 I_607 F) fun c_670 =>
  bnd (upd c_670.1 61 ((c_670.1 61) - (nI 1))) fun I_671 =>
  some (I_671, c_670.2))
  else if (I_607 62) = (nI 5) then (Option.bind (f_X6_copyFrom_22_89 I_607 F) fun c_683 =>
  bnd (upd c_683.1 61 ((c_683.1 61) - (nI 1))) fun I_684 =>
  some (I_684, c_683.2))
  else if (I_607 62) = (nI 6) then (Option.bind (f_X6_copyFrom_22_98 I_607 F) fun c_696 =>
  bnd (upd c_696.1 61 ((c_696.1 61) - (nI 1))) fun I_697 =>
  some (I_697, c_696.2))
  else if (I_607 62) = (nI 7) then (Option.bind (f_X6_copyFrom_22_107 I_607 F) fun c_709 =>
  bnd (upd c_709.1 61 ((c_709.1 61) - (nI 1))) fun I_710 =>
  some (I_710, c_709.2))
  else if (I_607 62) = (nI 8) then (Option.bind (f_X6_copyFrom_22_116 I_607 F) fun c_722 =>
  bnd (upd c_722.1 61 ((c_722.1 61) - (nI 1))) fun I_723 =>
  some (I_723, c_722.2))
  else if (I_607 62) = (nI 9) then (Option.bind (f_X6_copyFrom_22_125 I_607 F) fun c_735 =>
  bnd (upd c_735.1 61 ((c_735.1 61) - (nI 1))) fun I_736 =>
  some (I_736, c_735.2))
  else if (I_607 62) = (nI 10) then (Option.bind (f_X6_copyFrom_22_134 I_607 F) fun c_748 =>
  bnd (upd c_748.1 61 ((c_748.1 61) - (nI 1))) fun I_749 =>
  some (I_749, c_748.2))
  else if (I_607 62) = (nI 11) then (Option.bind (f_X6_copyFrom_22_143 I_607 F) fun c_761 =>
  bnd (upd c_761.1 61 ((c_761.1 61) - (nI 1))) fun I_762 =>
  some (I_762, c_761.2))
  else if (I_607 62) = (nI 12) then (Option.bind (f_X6_copyFrom_22_152 I_607 F) fun c_774 =>
  bnd (upd c_774.1 61 ((c_774.1 61) - (nI 1))) fun I_775 =>
  some (I_775, c_774.2))
  else if (I_607 62) = (nI 13) then (Option.bind (f_X6_copyFrom_22_161 I_607 F) fun c_787 =>
  bnd (upd c_787.1 61 ((c_787.1 61) - (nI 1))) fun I_788 =>
  some (I_788, c_787.2))
  else if (I_607 62) = (nI 14) then (Option.bind (f_X6_copyFrom_22_170 I_607 F) fun c_800 =>
  bnd (upd c_800.1 61 ((c_800.1 61) - (nI 1))) fun I_801 =>
  some (I_801, c_800.2))
  else if (I_607 62) = (nI 15) then (Option.bind (f_X6_copyFrom_22_179 I_607 F) fun c_813 =>
  bnd (upd c_813.1 61 ((c_813.1 61) - (nI 1))) fun I_814 =>
  some (I_814, c_813.2))
  else none) := rfl
theorem nf_f_X10_undo (I : WI) (F : WF) : f_X10_undo I F = (if (I 61) = (nI 0) then (some ((-1000000003 : Int32), I, F))
  else (Option.bind (f_X3_bringBack_42_22 I F) fun c_816 =>
  some ((c_816.1 61), c_816.1, c_816.2))) := rfl
theorem nf_f_X7_hasPlace_13 (x1 : Int32) (I : WI) (F : WF) : f_X7_hasPlace_13 x1 I F = (if x1 < (nI 0) then (some (nI 0))
  else (if (I 48) ≤ x1 then (some (nI 0))
  else (some (nI 1)))) := rfl
theorem nf_L_X9_firstOfFewest_31_12 (k : Option (Int32 × WF)) (x1 : Int32) (x3 : Int32) (x4 : Int32) (I : WI) (F : WF) (n : Nat) (x5 : Int32) : L_X9_firstOfFewest_31_12 k x1 x3 x4 I F (n + 1) x5 = (if (I 49) ≤ x5 then (k)
  else (if x4 ≤ (nI 0) then (k)
  else (Option.bind (f_X9_isIn x5 x3) fun c_824 =>
  bnd (fun (s_826 : Int32) => bnd s_826 fun x6_827 =>
  bnd (fun (_u : Unit) => bnd (x5 + (nI 1)) fun x5_829 =>
  L_X9_firstOfFewest_31_12 k x1 x3 x4 I F n x5_829) fun j88_828 =>
  if x6_827 = (nI 0) then (j88_828 ())
  else (Option.bind (f_X7_beyond_13 x5 x1 I F) fun c_830 =>
  ixG c_830 8 (
  if (F 169 c_830.toNatClampNeg) = (x4 - (nI 1)) then (some (x5, F))
  else (j88_828 ())))) fun j56_825 =>
  bnd (fun (_u : Unit) => j56_825 (nI 0)) fun j55_831 =>
  if c_824 = (nI 0) then (j55_831 ())
  else (Option.bind (f_X7_touches_13 x5 x1 I F) fun c_832 =>
  if c_832 = (nI 0) then (j55_831 ())
  else (j56_825 (nI 1)))))) := rfl
theorem nf_f_X9_firstOfFewest_31 (x1 : Int32) (x2 : Int32) (x3 : Int32) (I : WI) (F : WF) : f_X9_firstOfFewest_31 x1 x2 x3 I F = (Option.bind (f_X9_fewest_31 x1 x2 x3 I F) fun c_821 =>
  bnd c_821.1 fun x4_822 =>
  bnd (nI 0) fun x5_823 =>
  L_X9_firstOfFewest_31_12 (some ((-1 : Int32), c_821.2)) x1 x3 x4_822 I c_821.2 FU x5_823) := rfl
theorem nf_f_X10_way (x1 : Int32) (x2 : Int32) (x3 : Int32) (I : WI) (F : WF) : f_X10_way x1 x2 x3 I F = (Option.bind (f_X7_hasJumper_13 x1 I F) fun c_817 =>
  if c_817 = (nI 0) then (some ((-1000000001 : Int32), F))
  else (Option.bind (f_X7_hasPlace_13 x2 I F) fun c_818 =>
  if c_818 = (nI 0) then (some ((-1000000001 : Int32), F))
  else (if x3 < (nI 0) then (some ((-1000000002 : Int32), F))
  else (if x3 ≤ (nI 1) then (Option.bind (f_X1_dares_12 x1 I F) fun c_819 =>
  bnd c_819 fun x4_820 =>
  if x3 = (nI 0) then (ixG x1 6 (
  Option.bind (f_X9_fewest_31 (F 3 x1.toNatClampNeg) x2 x4_820 I F) fun c_834 =>
  some (c_834.1, c_834.2)))
  else (ixG x1 6 (
  Option.bind (f_X9_firstOfFewest_31 (F 3 x1.toNatClampNeg) x2 x4_820 I F) fun c_833 =>
  some (c_833.1, c_833.2))))
  else (some ((-1000000002 : Int32), F)))))) := rfl
theorem nf_f_X10_partOf (x0 : Int32) (x1 : Int32) : f_X10_partOf x0 x1 = (some (((x0.toInt64 * x1.toInt64) / (100 : Int64)).toInt32)) := rfl
theorem nf_L_X9_walk_31_37 (rec : Int32 → Int32 → Int32 → Int32 → Int32 → WI → WF → Option (WI)) (k : WI → Option (WI)) (x1 : Int32) (x2 : Int32) (x3 : Int32) (x4 : Int32) (x5 : Int32) (F : WF) (n : Nat) (x7 : Int32) (I : WI) : L_X9_walk_31_37 rec k x1 x2 x3 x4 x5 F (n + 1) x7 I = (if (I 49) ≤ x7 then (k I)
  else (if (nI 8) ≤ x5 then (k I)
  else (Option.bind (f_X9_isIn x7 (I 55)) fun c_843 =>
  bnd (fun (I_845 : WI) => bnd (x7 + (nI 1)) fun x7_846 =>
  L_X9_walk_31_37 rec k x1 x2 x3 x4 x5 F n x7_846 I_845) fun j147_844 =>
  if c_843 = (nI 0) then (j147_844 I)
  else (Option.bind (f_X7_touches_13 x7 x1 I F) fun c_847 =>
  if c_847 = (nI 0) then (j147_844 I)
  else (Option.bind (f_X7_beyond_13 x7 x1 I F) fun c_848 =>
  bnd c_848 fun x8_849 =>
  Option.bind (f_X9_isIn x8_849 x2) fun c_850 =>
  if c_850 = (nI 0) then (ixG x7 9 (
  Option.bind (f_X10_partOf x3 ((nI 100) - (F 164 x7.toNatClampNeg))) fun c_851 =>
  bnd c_851 fun x9_852 =>
  bnd (fun (s_854 : Int32) => Option.bind (rec x8_849 (x2 ||| (nI 1 <<< (x8_849 &&& nI 31))) x9_852 s_854 (x5 + (nI 1)) I F) fun c_855 =>
  j147_844 c_855) fun j140_853 =>
  if x4 = (-1 : Int32) then (j140_853 x7)
  else (j140_853 x4)))
  else (j147_844 I)))))) := rfl
theorem nf_f_X9_walk_31 (n : Nat) (x1 : Int32) (x2 : Int32) (x3 : Int32) (x4 : Int32) (x5 : Int32) (I : WI) (F : WF) : f_X9_walk_31 (n + 1) x1 x2 x3 x4 x5 I F = (bnd (f_X9_walk_31 n) fun rec =>
  if x1 = (I 54) then (if x3 ≤ (I 52) then (some I)
  else (bnd (upd I 52 x3) fun I_857 =>
  bnd (upd I_857 53 x4) fun I_858 =>
  some I_858))
  else (bnd (nI 0) fun x7_842 =>
  L_X9_walk_31_37 rec (fun I_856 => some I_856) x1 x2 x3 x4 x5 F FU x7_842 I)) := rfl
theorem nf_f_X9_findSafest_31 (x1 : Int32) (x2 : Int32) (x3 : Int32) (I : WI) (F : WF) : f_X9_findSafest_31 x1 x2 x3 I F = (bnd (upd I 54 x2) fun I_838 =>
  bnd (upd I_838 55 x3) fun I_839 =>
  bnd (upd I_839 52 (-1 : Int32)) fun I_840 =>
  bnd (upd I_840 53 (-1 : Int32)) fun I_841 =>
  Option.bind (f_X9_walk_31 10 x1 (nI 1 <<< (x1 &&& nI 31)) (nI 1000000000) (-1 : Int32) (nI 0) I_841 F) fun c_859 =>
  some c_859) := rfl
theorem nf_f_X10_safest (x1 : Int32) (x2 : Int32) (x3 : Int32) (I : WI) (F : WF) : f_X10_safest x1 x2 x3 I F = (Option.bind (f_X7_hasJumper_13 x1 I F) fun c_835 =>
  if c_835 = (nI 0) then (some ((-1000000001 : Int32), I))
  else (Option.bind (f_X7_hasPlace_13 x2 I F) fun c_836 =>
  if c_836 = (nI 0) then (some ((-1000000001 : Int32), I))
  else (if x3 < (nI 0) then (some ((-1000000002 : Int32), I))
  else (if x3 ≤ (nI 1) then (ixG x1 6 (
  Option.bind (f_X1_dares_12 x1 I F) fun c_837 =>
  Option.bind (f_X9_findSafest_31 (F 3 x1.toNatClampNeg) x2 c_837 I F) fun c_860 =>
  if x3 = (nI 0) then (some ((c_860 52), c_860))
  else (some ((c_860 53), c_860))))
  else (some ((-1000000002 : Int32), I)))))) := rfl
theorem nf_L_X4_prepare_33_2 (k : WF → Option (WF)) (x1 : Int32) (I : WI) (n : Nat) (x2 : Int32) (F : WF) : L_X4_prepare_33_2 k x1 I (n + 1) x2 F = (if (I 50) ≤ x2 then (k F)
  else (Option.bind (f_X1_timeOf_12 x2 I F) fun c_864 =>
  ixG x2 9 (bnd (uF F 172 (upd (F 172) x2.toNatClampNeg c_864)) fun F_865 =>
  bnd (x2 + (nI 1)) fun x2_866 =>
  L_X4_prepare_33_2 k x1 I n x2_866 F_865))) := rfl
theorem nf_L_X4_prepare_33_69 (k : Int32 → WF → Option (WF)) (x1 : Int32) (x2 : Int32) (I : WI) (n : Nat) (x3 : Int32) (F : WF) : L_X4_prepare_33_69 k x1 x2 I (n + 1) x3 F = (if x3 ≤ (nI 0) then (k x3 F)
  else (ixG (x3 - (nI 1)) 9 (
  ixG (F 173 (x3 - (nI 1)).toNatClampNeg) 9 (
  ixG x2 9 (
  if (F 171 (F 173 (x3 - (nI 1)).toNatClampNeg).toNatClampNeg) ≤ (F 171 x2.toNatClampNeg) then (k x3 F)
  else (ixG (x3 - (nI 1)) 9 (
  ixG x3 9 (bnd (uF F 173 (upd (F 173) x3.toNatClampNeg (F 173 (x3 - (nI 1)).toNatClampNeg))) fun F_872 =>
  bnd (x3 + (-1 : Int32)) fun x3_873 =>
  L_X4_prepare_33_69 k x1 x2 I n x3_873 F_872)))))))) := rfl
theorem nf_L_X4_prepare_33_38 (k : WF → Option (WF)) (x1 : Int32) (I : WI) (n : Nat) (x2 : Int32) (F : WF) : L_X4_prepare_33_38 k x1 I (n + 1) x2 F = (if (I 49) ≤ x2 then (k F)
  else (Option.bind (f_X1_flightOver_12 x1 x2 I F) fun c_869 =>
  ixG x2 9 (bnd (uF F 171 (upd (F 171) x2.toNatClampNeg c_869)) fun F_870 =>
  bnd x2 fun x3_871 =>
  L_X4_prepare_33_69 (fun x3_874 F_875 => ixG x3_874 9 (bnd (uF F_875 173 (upd (F_875 173) x3_874.toNatClampNeg x2)) fun F_876 =>
  bnd (x2 + (nI 1)) fun x2_877 =>
  L_X4_prepare_33_38 k x1 I n x2_877 F_876)) x1 x2 I FU x3_871 F_870))) := rfl
theorem nf_f_X4_prepare_33 (x1 : Int32) (I : WI) (F : WF) : f_X4_prepare_33 x1 I F = (bnd (nI 0) fun x2_863 =>
  L_X4_prepare_33_2 (fun F_867 => bnd (nI 0) fun x2_868 =>
  L_X4_prepare_33_38 (fun F_878 => some F_878) x1 I FU x2_868 F_867) x1 I FU x2_863 F) := rfl
theorem nf_L_X4_quickEnough_33_5 (k : Int32 → Option (Int32)) (x1 : Int32) (x2 : Int32) (I : WI) (F : WF) (n : Nat) (x3 : Int32) (x4 : Int32) : L_X4_quickEnough_33_5 k x1 x2 I F (n + 1) x3 x4 = (if (I 50) ≤ x4 then (k x3)
  else (bnd (fun (x3_890 : Int32) => bnd (x4 + (nI 1)) fun x4_891 =>
  L_X4_quickEnough_33_5 k x1 x2 I F n x3_890 x4_891) fun j44_889 =>
  if ((x2 >>> (x4 &&& nI 31)) &&& (nI 1)) = (nI 1) then (ixG x4 9 (
  if x1 < (F 172 x4.toNatClampNeg) then (j44_889 x3)
  else (bnd (x3 + (nI 1)) fun x3_892 =>
  j44_889 x3_892)))
  else (j44_889 x3))) := rfl
theorem nf_f_X4_quickEnough_33 (x1 : Int32) (x2 : Int32) (I : WI) (F : WF) : f_X4_quickEnough_33 x1 x2 I F = (bnd (nI 0) fun x3_887 =>
  bnd (nI 0) fun x4_888 =>
  L_X4_quickEnough_33_5 (fun x3_893 => some x3_893) x1 x2 I F FU x3_887 x4_888) := rfl
theorem nf_L_X4_mostFrom_33_5 (k : Int32 → Option (Int32)) (x1 : Int32) (x2 : Int32) (I : WI) (F : WF) (n : Nat) (x3 : Int32) (x4 : Int32) : L_X4_mostFrom_33_5 k x1 x2 I F (n + 1) x3 x4 = (if (I 49) ≤ x4 then (k x3)
  else (ixG x4 9 (
  bnd (F 173 x4.toNatClampNeg) fun x5_883 =>
  bnd (fun (x3_885 : Int32) => bnd (x4 + (nI 1)) fun x4_886 =>
  L_X4_mostFrom_33_5 k x1 x2 I F n x3_885 x4_886) fun j54_884 =>
  if x5_883 < x1 then (j54_884 x3)
  else (ixG x5_883 9 (
  Option.bind (f_X4_quickEnough_33 (F 171 x5_883.toNatClampNeg) x2 I F) fun c_894 =>
  if c_894 ≤ x3 then (j54_884 x3)
  else (bnd (x3 + (nI 1)) fun x3_895 =>
  j54_884 x3_895)))))) := rfl
theorem nf_f_X4_mostFrom_33 (x1 : Int32) (x2 : Int32) (I : WI) (F : WF) : f_X4_mostFrom_33 x1 x2 I F = (bnd (nI 0) fun x3_881 =>
  bnd (nI 0) fun x4_882 =>
  L_X4_mostFrom_33_5 (fun x3_896 => some x3_896) x1 x2 I F FU x3_881 x4_882) := rfl
theorem nf_L_X4_leastFor_33_3 (k : Option (Int32)) (x1 : Int32) (x2 : Int32) (x3 : Int32) (I : WI) (F : WF) (n : Nat) (x4 : Int32) : L_X4_leastFor_33_3 k x1 x2 x3 I F (n + 1) x4 = (if (I 50) ≤ x4 then (k)
  else (bnd (fun (s_903 : Int32) => bnd s_903 fun x5_904 =>
  bnd (fun (_u : Unit) => bnd (x4 + (nI 1)) fun x4_906 =>
  L_X4_leastFor_33_3 k x1 x2 x3 I F n x4_906) fun j80_905 =>
  if x5_904 = (nI 0) then (j80_905 ())
  else (Option.bind (f_X4_mostFrom_33 (x1 + (nI 1)) (x2 &&& ((nI 1 <<< (x4 &&& nI 31)) ^^^ (-1 : Int32))) I F) fun c_907 =>
  if c_907 = (x3 - (nI 1)) then (some x4)
  else (j80_905 ()))) fun j49_902 =>
  bnd (fun (_u : Unit) => j49_902 (nI 0)) fun j48_908 =>
  if ((x2 >>> (x4 &&& nI 31)) &&& (nI 1)) = (nI 1) then (ixG x4 9 (
  ixG x1 9 (
  if (F 171 x1.toNatClampNeg) < (F 172 x4.toNatClampNeg) then (j48_908 ())
  else (j49_902 (nI 1)))))
  else (j48_908 ()))) := rfl
theorem nf_f_X4_leastFor_33 (x1 : Int32) (x2 : Int32) (x3 : Int32) (I : WI) (F : WF) : f_X4_leastFor_33 x1 x2 x3 I F = (bnd (nI 0) fun x4_901 =>
  L_X4_leastFor_33_3 (some (-1 : Int32)) x1 x2 x3 I F FU x4_901) := rfl
theorem nf_L_X4_choose_33_38 (k : WF → Option (WI × WF))  (I : WI) (n : Nat) (x2 : Int32) (x3 : Int32) (x4 : Int32) (F : WF) : L_X4_choose_33_38 k I (n + 1) x2 x3 x4 F = (if (I 49) ≤ x4 then (k F)
  else (Option.bind (f_X4_leastFor_33 x4 x2 x3 I F) fun c_909 =>
  ixG x4 9 (bnd (uF F 170 (upd (F 170) x4.toNatClampNeg c_909)) fun F_910 =>
  ixG x4 9 (
  bnd (fun (x2_912 : Int32) (x3_913 : Int32) => bnd (x4 + (nI 1)) fun x4_914 =>
  L_X4_choose_33_38 k I n x2_912 x3_913 x4_914 F_910) fun j96_911 =>
  if (F_910 170 x4.toNatClampNeg) = (-1 : Int32) then (j96_911 x2 x3)
  else (ixG x4 9 (
  bnd (x2 &&& ((nI 1 <<< ((F_910 170 x4.toNatClampNeg) &&& nI 31)) ^^^ (-1 : Int32))) fun x2_915 =>
  bnd (x3 + (-1 : Int32)) fun x3_916 =>
  j96_911 x2_915 x3_916)))))) := rfl
theorem nf_f_X4_choose_33 (x1 : Int32) (I : WI) (F : WF) : f_X4_choose_33 x1 I F = (Option.bind (f_X4_prepare_33 x1 I F) fun c_879 =>
  bnd ((nI 1 <<< ((I 50) &&& nI 31)) - (nI 1)) fun x2_880 =>
  Option.bind (f_X4_mostFrom_33 (nI 0) x2_880 I c_879) fun c_897 =>
  bnd (upd I 56 c_897) fun I_898 =>
  bnd (I_898 56) fun x3_899 =>
  bnd (nI 0) fun x4_900 =>
  L_X4_choose_33_38 (fun F_917 => some (I_898, F_917)) I_898 FU x2_880 x3_899 x4_900 c_879) := rfl
theorem nf_f_X10_posts (x1 : Int32) (x2 : Int32) (I : WI) (F : WF) : f_X10_posts x1 x2 I F = (Option.bind (f_X7_hasJumper_13 x1 I F) fun c_861 =>
  if c_861 = (nI 0) then (some ((-1000000001 : Int32), I, F))
  else (bnd (fun (_u : Unit) => Option.bind (f_X4_choose_33 x1 I F) fun c_918 =>
  if x2 = (-1 : Int32) then (some ((c_918.1 56), c_918.1, c_918.2))
  else (ixG x2 9 (
  some ((c_918.2 170 x2.toNatClampNeg), c_918.1, c_918.2)))) fun j30_862 =>
  if x2 = (-1 : Int32) then (j30_862 ())
  else (Option.bind (f_X7_hasBridge_13 x2 I F) fun c_919 =>
  if c_919 = (nI 0) then (some ((-1000000001 : Int32), I, F))
  else (j30_862 ())))) := rfl
theorem nf_L_X10_tires_64 (k : Option (Int32)) (x3 : Int32) (x4 : Int32) (I : WI) (F : WF) (n : Nat) (x5 : Int32) : L_X10_tires_64 k x3 x4 I F (n + 1) x5 = (if (nI 99) < x5 then (k)
  else (Option.bind (f_X1_timeIfTired_12 x3 x5 I F) fun c_927 =>
  if c_927 ≤ x4 then (bnd (x5 + (nI 1)) fun x5_928 =>
  L_X10_tires_64 k x3 x4 I F n x5_928)
  else (ixG x3 9 (
  some (x5 - (F 2 x3.toNatClampNeg)))))) := rfl
theorem nf_f_X10_tires (x1 : Int32) (x2 : Int32) (I : WI) (F : WF) : f_X10_tires x1 x2 I F = (Option.bind (f_X7_hasJumper_13 x1 I F) fun c_920 =>
  if c_920 = (nI 0) then (some (-1000000001 : Int32))
  else (Option.bind (f_X7_hasBridge_13 x2 I F) fun c_921 =>
  if c_921 = (nI 0) then (some (-1000000001 : Int32))
  else (Option.bind (f_X1_keeperAt_12 x2 I F) fun c_922 =>
  bnd c_922 fun x3_923 =>
  if x3_923 = (-1 : Int32) then (some (-1000000003 : Int32))
  else (Option.bind (f_X1_flightOver_12 x1 x2 I F) fun c_924 =>
  bnd c_924 fun x4_925 =>
  ixG x3_923 9 (
  bnd (F 2 x3_923.toNatClampNeg) fun x5_926 =>
  L_X10_tires_64 (some (-1 : Int32)) x3_923 x4_925 I F FU x5_926))))) := rfl
theorem nf_f_J6_bitCount_0f7a4 (x0 : Int32) : f_J6_bitCount_0f7a4 x0 = (bnd (x0 - (((x0.toUInt32 >>> ((nI 1).toUInt32 &&& Int32.toUInt32 31)).toInt32) &&& (nI 1431655765))) fun x0_935 =>
  bnd ((x0_935 &&& (nI 858993459)) + (((x0_935.toUInt32 >>> ((nI 2).toUInt32 &&& Int32.toUInt32 31)).toInt32) &&& (nI 858993459))) fun x0_936 =>
  bnd ((x0_936 + ((x0_936.toUInt32 >>> ((nI 4).toUInt32 &&& Int32.toUInt32 31)).toInt32)) &&& (nI 252645135)) fun x0_937 =>
  bnd (x0_937 + ((x0_937.toUInt32 >>> ((nI 8).toUInt32 &&& Int32.toUInt32 31)).toInt32)) fun x0_938 =>
  bnd (x0_938 + ((x0_938.toUInt32 >>> ((nI 16).toUInt32 &&& Int32.toUInt32 31)).toInt32)) fun x0_939 =>
  some (x0_939 &&& (nI 63))) := rfl
theorem nf_L_X9_fewestParting_31_26 (k : WF → Option (Int32 × WF)) (x1 : Int32) (x2 : Int32) (x3 : Int32) (x4 : Int32) (I : WI) (n : Nat) (x5 : Int32) (F : WF) : L_X9_fewestParting_31_26 k x1 x2 x3 x4 I (n + 1) x5 F = (if x3 ≤ x5 then (k F)
  else (Option.bind (f_J6_bitCount_0f7a4 x5) fun c_940 =>
  bnd (fun (F_942 : WF) => bnd (x5 + (nI 1)) fun x5_943 =>
  L_X9_fewestParting_31_26 k x1 x2 x3 x4 I n x5_943 F_942) fun j61_941 =>
  if c_940 = x4 then (Option.bind (f_X9_fewest_31 x1 x2 (x3 &&& (x5 ^^^ (-1 : Int32))) I F) fun c_944 =>
  if c_944.1 = (-1 : Int32) then (some (x5, c_944.2))
  else (j61_941 c_944.2))
  else (j61_941 F))) := rfl
theorem nf_L_X9_fewestParting_31_11 (k : WF → Option (Int32 × WF)) (x1 : Int32) (x2 : Int32) (x3 : Int32) (I : WI) (n : Nat) (x4 : Int32) (F : WF) : L_X9_fewestParting_31_11 k x1 x2 x3 I (n + 1) x4 F = (if (I 49) ≤ x4 then (k F)
  else (bnd (nI 0) fun x5_934 =>
  L_X9_fewestParting_31_26 (fun F_945 => bnd (x4 + (nI 1)) fun x4_946 =>
  L_X9_fewestParting_31_11 k x1 x2 x3 I n x4_946 F_945) x1 x2 x3 x4 I FU x5_934 F)) := rfl
theorem nf_f_X9_fewestParting_31 (x1 : Int32) (x2 : Int32) (I : WI) (F : WF) : f_X9_fewestParting_31 x1 x2 I F = (Option.bind (f_X7_allBridges_13 I F) fun c_931 =>
  bnd c_931 fun x3_932 =>
  bnd (nI 0) fun x4_933 =>
  L_X9_fewestParting_31_11 (fun F_947 => some (x3_932, F_947)) x1 x2 x3_932 I FU x4_933 F) := rfl
theorem nf_f_X10_parted (x1 : Int32) (x2 : Int32) (I : WI) (F : WF) : f_X10_parted x1 x2 I F = (Option.bind (f_X7_hasPlace_13 x1 I F) fun c_929 =>
  if c_929 = (nI 0) then (some ((-1000000001 : Int32), F))
  else (Option.bind (f_X7_hasPlace_13 x2 I F) fun c_930 =>
  if c_930 = (nI 0) then (some ((-1000000001 : Int32), F))
  else (if x1 = x2 then (some ((-1000000001 : Int32), F))
  else (Option.bind (f_X9_fewestParting_31 x1 x2 I F) fun c_948 =>
  some (c_948.1, c_948.2))))) := rfl
theorem nf_L_X10_pays_37 (k : Int32 → Option (Int32)) (x1 : Int32) (x2 : Int32) (n : Nat) (x3 : Int32) (x4 : Int64) (x6 : Int32) (x7 : Int32) : L_X10_pays_37 k x1 x2 (n + 1) x3 x4 x6 x7 = (if (nI 30) < x7 then (k x3)
  else (Option.bind (f_X10_partOf x6 x2) fun c_953 =>
  bnd c_953 fun x6_954 =>
  bnd ((x7.toInt64 * x1.toInt64) * x6_954.toInt64) fun x8_955 =>
  bnd (fun (x3_957 : Int32) (x4_958 : Int64) => bnd (x7 + (nI 1)) fun x7_959 =>
  L_X10_pays_37 k x1 x2 n x3_957 x4_958 x6_954 x7_959) fun j79_956 =>
  if (lg_cmp x8_955 x4) ≤ (nI 0) then (j79_956 x3 x4)
  else (bnd x8_955 fun x4_960 =>
  bnd x7 fun x3_961 =>
  j79_956 x3_961 x4_960))) := rfl
theorem nf_f_X10_pays (x1 : Int32) (x2 : Int32) : f_X10_pays x1 x2 = (if x1 < (nI 1) then (some (-1000000002 : Int32))
  else (if (nI 99) < x1 then (some (-1000000002 : Int32))
  else (if x2 < (nI 0) then (some (-1000000002 : Int32))
  else (if x2 ≤ (nI 100) then (bnd (nI 0) fun x3_949 =>
  bnd (0 : Int64) fun x4_950 =>
  bnd (nI 1000000000) fun x6_951 =>
  bnd (nI 1) fun x7_952 =>
  L_X10_pays_37 (fun x3_962 => some x3_962) x1 x2 FU x3_949 x4_950 x6_951 x7_952)
  else (some (-1000000002 : Int32)))))) := rfl
theorem nf_L_X10_exact_30 (k : Int32 → Option (Int32)) (x1 : Int32) (x2 : Int32) (n : Nat) (x3 : Int32) (x4 : Int32) : L_X10_exact_30 k x1 x2 (n + 1) x3 x4 = (if x1 ≤ x4 then (k x3)
  else (Option.bind (f_X10_partOf x3 x2) fun c_965 =>
  bnd c_965 fun x3_966 =>
  bnd (x4 + (nI 1)) fun x4_967 =>
  L_X10_exact_30 k x1 x2 n x3_966 x4_967)) := rfl
theorem nf_f_X10_exact (x1 : Int32) (x2 : Int32) : f_X10_exact x1 x2 = (if x1 < (nI 0) then (some (-1000000002 : Int32))
  else (if (nI 60) < x1 then (some (-1000000002 : Int32))
  else (if x2 < (nI 0) then (some (-1000000002 : Int32))
  else (if x2 ≤ (nI 100) then (bnd (nI 1000000000) fun x3_963 =>
  bnd (nI 0) fun x4_964 =>
  L_X10_exact_30 (fun x3_968 => some x3_968) x1 x2 FU x3_963 x4_964)
  else (some (-1000000002 : Int32)))))) := rfl
theorem nf_f_X5_add_38 (x1 : Int32) (x2 : Int32) (I : WI) (F : WF) : f_X5_add_38 x1 x2 I F = (bnd (upd I 57 ((I 57) + (nI 1))) fun I_969 =>
  if x2 = (nI 0) then (bnd (upd I_969 58 (if (I_969 58) < (x1 + (nI 1)) then (x1 + (nI 1)) else (I_969 58))) fun I_970 =>
  some I_970)
  else (bnd (upd I_969 59 (if x1 < (I_969 59) then x1 else (I_969 59))) fun I_971 =>
  some I_971)) := rfl
theorem nf_f_X10_see (x1 : Int32) (x2 : Int32) (I : WI) (F : WF) : f_X10_see x1 x2 I F = (if x1 < (nI 0) then (some ((-1000000002 : Int32), I))
  else (if x1 ≤ (nI 40) then (if (I 57) < (nI 6) then (Option.bind (f_X5_add_38 x1 x2 I F) fun c_972 =>
  some ((c_972 57), c_972))
  else (some ((-1000000004 : Int32), I)))
  else (some ((-1000000002 : Int32), I)))) := rfl
theorem nf_f_X5_fitting_38 (I : WI) (F : WF) : f_X5_fitting_38 I F = (some (if (nI 0) < (((I 59) - (I 58)) + (nI 1)) then (((I 59) - (I 58)) + (nI 1)) else (nI 0))) := rfl
theorem nf_f_X10_quick (x1 : Int32) (I : WI) (F : WF) : f_X10_quick x1 I F = (if x1 = (nI 0) then (Option.bind (f_X5_fitting_38 I F) fun c_973 =>
  some c_973)
  else if x1 = (nI 1) then (Option.bind (f_X5_fitting_38 I F) fun c_975 =>
  if c_975 = (nI 0) then (some (-1 : Int32))
  else (some (I 58)))
  else if x1 = (nI 2) then (Option.bind (f_X5_fitting_38 I F) fun c_977 =>
  if c_977 = (nI 0) then (some (-1 : Int32))
  else (some (I 59)))
  else some (-1000000002 : Int32)) := rfl
theorem nf_f_X5_bestFlight_38 (I : WI) (F : WF) : f_X5_bestFlight_38 I F = (Option.bind (f_X5_fitting_38 I F) fun c_979 =>
  bnd c_979 fun x1_980 =>
  if (nI 2) ≤ x1_980 then (some (((I 58) + (x1_980 / (nI 2))) - (nI 1)))
  else (some (-1 : Int32))) := rfl
theorem nf_f_X10_watch (I : WI) (F : WF) : f_X10_watch I F = (Option.bind (f_X5_bestFlight_38 I F) fun c_981 =>
  some c_981) := rfl
theorem nf_f_X0_add_39 (x1 : Int32) (x2 : Int32) (I : WI) (F : WF) : f_X0_add_39 x1 x2 I F = (ixG (I 60) 15 (bnd (uF F 174 (upd (F 174) (I 60).toNatClampNeg x1)) fun F_984 =>
  ixG (I 60) 15 (bnd (uF F_984 175 (upd (F_984 175) (I 60).toNatClampNeg x2)) fun F_985 =>
  bnd (upd I 60 ((I 60) + (nI 1))) fun I_986 =>
  some (I_986, F_985)))) := rfl
theorem nf_f_X10_write (x1 : Int32) (x2 : Int32) (I : WI) (F : WF) : f_X10_write x1 x2 I F = (Option.bind (f_X7_hasJumper_13 x1 I F) fun c_982 =>
  if c_982 = (nI 0) then (some ((-1000000001 : Int32), I, F))
  else (Option.bind (f_X7_hasPlace_13 x2 I F) fun c_983 =>
  if c_983 = (nI 0) then (some ((-1000000001 : Int32), I, F))
  else (if (I 60) < (nI 15) then (Option.bind (f_X0_add_39 x1 x2 I F) fun c_987 =>
  some ((c_987.1 60), c_987.1, c_987.2))
  else (some ((-1000000004 : Int32), I, F))))) := rfl
theorem nf_f_X10_tear (I : WI) (F : WF) : f_X10_tear I F = (bnd ((I 57) + (I 60)) fun x1_988 =>
  Option.bind (f_X5_forget_38 I F) fun c_989 =>
  bnd (upd c_989 60 (nI 0)) fun I_990 =>
  some (x1_988, I_990)) := rfl
theorem nf_L_X0_firstWrong_39_22_2 (k : Option (Int32))  (I : WI) (F : WF) (n : Nat) (x2 : Int32) : L_X0_firstWrong_39_22_2 k I F (n + 1) x2 = (if (I 60) ≤ x2 then (k)
  else (ixG x2 15 (
  ixG (F 174 x2.toNatClampNeg) 6 (
  ixG x2 15 (
  if (F 3 (F 174 x2.toNatClampNeg).toNatClampNeg) = (F 175 x2.toNatClampNeg) then (bnd (x2 + (nI 1)) fun x2_992 =>
  L_X0_firstWrong_39_22_2 k I F n x2_992)
  else (some x2)))))) := rfl
theorem nf_f_X0_firstWrong_39_22 (I : WI) (F : WF) : f_X0_firstWrong_39_22 I F = (bnd (nI 0) fun x2_991 =>
  L_X0_firstWrong_39_22_2 (some (-1 : Int32)) I F FU x2_991) := rfl
theorem nf_f_X10_judge (I : WI) (F : WF) : f_X10_judge I F = (Option.bind (f_X0_firstWrong_39_22 I F) fun c_993 =>
  some c_993) := rfl
theorem nf_f_X10_seed (x1 : Int32) (I : WI) (F : WF) : f_X10_seed x1 I F = (if (nI 0) ≤ x1 then (bnd (I 47) fun x2_994 =>
  bnd (upd I 47 x1) fun I_995 =>
  some (x2_994, I_995))
  else (some ((-1000000002 : Int32), I))) := rfl
theorem nf_f_X6_copyFrom_190_22 (I : WI) (F : WF) : f_X6_copyFrom_190_22 I F = (bnd (upd I 34 (I 0)) fun I_998 =>
  bnd (upd I_998 35 (I_998 1)) fun I_999 =>
  bnd (uF F 136 (va_cpy (F 0) (F 136) 0 0 9)) fun F_1000 =>
  bnd (uF F_1000 137 (va_cpy (F_1000 1) (F_1000 137) 0 0 9)) fun F_1001 =>
  bnd (uF F_1001 138 (va_cpy (F_1001 2) (F_1001 138) 0 0 9)) fun F_1002 =>
  bnd (uF F_1002 139 (va_cpy (F_1002 3) (F_1002 139) 0 0 6)) fun F_1003 =>
  bnd (uF F_1003 140 (va_cpy (F_1003 4) (F_1003 140) 0 0 6)) fun F_1004 =>
  bnd (uF F_1004 141 (va_cpy (F_1004 5) (F_1004 141) 0 0 6)) fun F_1005 =>
  bnd (uF F_1005 142 (va_cpy (F_1005 6) (F_1005 142) 0 0 6)) fun F_1006 =>
  bnd (uF F_1006 143 (va_cpy (F_1006 7) (F_1006 143) 0 0 20)) fun F_1007 =>
  some (I_999, F_1007)) := rfl
theorem nf_f_X6_copyFrom_200_22 (I : WI) (F : WF) : f_X6_copyFrom_200_22 I F = (bnd (upd I 36 (I 0)) fun I_1013 =>
  bnd (upd I_1013 37 (I_1013 1)) fun I_1014 =>
  bnd (uF F 144 (va_cpy (F 0) (F 144) 0 0 9)) fun F_1015 =>
  bnd (uF F_1015 145 (va_cpy (F_1015 1) (F_1015 145) 0 0 9)) fun F_1016 =>
  bnd (uF F_1016 146 (va_cpy (F_1016 2) (F_1016 146) 0 0 9)) fun F_1017 =>
  bnd (uF F_1017 147 (va_cpy (F_1017 3) (F_1017 147) 0 0 6)) fun F_1018 =>
  bnd (uF F_1018 148 (va_cpy (F_1018 4) (F_1018 148) 0 0 6)) fun F_1019 =>
  bnd (uF F_1019 149 (va_cpy (F_1019 5) (F_1019 149) 0 0 6)) fun F_1020 =>
  bnd (uF F_1020 150 (va_cpy (F_1020 6) (F_1020 150) 0 0 6)) fun F_1021 =>
  bnd (uF F_1021 151 (va_cpy (F_1021 7) (F_1021 151) 0 0 20)) fun F_1022 =>
  some (I_1014, F_1022)) := rfl
theorem nf_f_X10_keep (x1 : Int32) (I : WI) (F : WF) : f_X10_keep x1 I F = (if x1 < (nI 0) then (some ((-1000000001 : Int32), I, F))
  else (if x1 < (nI 2) then (if x1 = (nI 0) then (bnd (upd I 63 (nI 1)) fun I_996 =>
  bnd (upd I_996 64 (I_996 47)) fun I_997 =>
  Option.bind (f_X6_copyFrom_190_22 I_997 F) fun c_1008 =>
  Option.bind (f_X3_forget_42 c_1008.1 c_1008.2) fun c_1009 =>
  some ((nI 1), c_1009, c_1008.2))
  else if x1 = (nI 1) then (bnd (upd I 65 (nI 1)) fun I_1011 =>
  bnd (upd I_1011 66 (I_1011 47)) fun I_1012 =>
  Option.bind (f_X6_copyFrom_200_22 I_1012 F) fun c_1023 =>
  Option.bind (f_X3_forget_42 c_1023.1 c_1023.2) fun c_1024 =>
  some ((nI 1), c_1024, c_1023.2))
  else none)
  else (some ((-1000000001 : Int32), I, F)))) := rfl
theorem nf_f_X6_copyFrom_22_190 (I : WI) (F : WF) : f_X6_copyFrom_22_190 I F = (bnd (upd I 0 (I 34)) fun I_1027 =>
  bnd (upd I_1027 1 (I_1027 35)) fun I_1028 =>
  bnd (uF F 0 (va_cpy (F 136) (F 0) 0 0 9)) fun F_1029 =>
  bnd (uF F_1029 1 (va_cpy (F_1029 137) (F_1029 1) 0 0 9)) fun F_1030 =>
  bnd (uF F_1030 2 (va_cpy (F_1030 138) (F_1030 2) 0 0 9)) fun F_1031 =>
  bnd (uF F_1031 3 (va_cpy (F_1031 139) (F_1031 3) 0 0 6)) fun F_1032 =>
  bnd (uF F_1032 4 (va_cpy (F_1032 140) (F_1032 4) 0 0 6)) fun F_1033 =>
  bnd (uF F_1033 5 (va_cpy (F_1033 141) (F_1033 5) 0 0 6)) fun F_1034 =>
  bnd (uF F_1034 6 (va_cpy (F_1034 142) (F_1034 6) 0 0 6)) fun F_1035 =>
  bnd (uF F_1035 7 (va_cpy (F_1035 143) (F_1035 7) 0 0 20)) fun F_1036 =>
  some (I_1028, F_1036)) := rfl
theorem nf_f_X6_copyFrom_22_200 (I : WI) (F : WF) : f_X6_copyFrom_22_200 I F = (bnd (upd I 0 (I 36)) fun I_1041 =>
  bnd (upd I_1041 1 (I_1041 37)) fun I_1042 =>
  bnd (uF F 0 (va_cpy (F 144) (F 0) 0 0 9)) fun F_1043 =>
  bnd (uF F_1043 1 (va_cpy (F_1043 145) (F_1043 1) 0 0 9)) fun F_1044 =>
  bnd (uF F_1044 2 (va_cpy (F_1044 146) (F_1044 2) 0 0 9)) fun F_1045 =>
  bnd (uF F_1045 3 (va_cpy (F_1045 147) (F_1045 3) 0 0 6)) fun F_1046 =>
  bnd (uF F_1046 4 (va_cpy (F_1046 148) (F_1046 4) 0 0 6)) fun F_1047 =>
  bnd (uF F_1047 5 (va_cpy (F_1047 149) (F_1047 5) 0 0 6)) fun F_1048 =>
  bnd (uF F_1048 6 (va_cpy (F_1048 150) (F_1048 6) 0 0 6)) fun F_1049 =>
  bnd (uF F_1049 7 (va_cpy (F_1049 151) (F_1049 7) 0 0 20)) fun F_1050 =>
  some (I_1042, F_1050)) := rfl
theorem nf_f_X10_goBack (x1 : Int32) (I : WI) (F : WF) : f_X10_goBack x1 I F = (if x1 < (nI 0) then (some ((-1000000001 : Int32), I, F))
  else (if x1 < (nI 2) then (if x1 = (nI 0) then (if (I 63) = (nI 0) then (some ((-1000000003 : Int32), I, F))
  else (bnd (upd I 47 (I 64)) fun I_1026 =>
  Option.bind (f_X6_copyFrom_22_190 I_1026 F) fun c_1037 =>
  Option.bind (f_X3_forget_42 c_1037.1 c_1037.2) fun c_1038 =>
  some ((nI 1), c_1038, c_1037.2)))
  else if x1 = (nI 1) then (if (I 65) = (nI 0) then (some ((-1000000003 : Int32), I, F))
  else (bnd (upd I 47 (I 66)) fun I_1040 =>
  Option.bind (f_X6_copyFrom_22_200 I_1040 F) fun c_1051 =>
  Option.bind (f_X3_forget_42 c_1051.1 c_1051.2) fun c_1052 =>
  some ((nI 1), c_1052, c_1051.2)))
  else none)
  else (some ((-1000000001 : Int32), I, F)))) := rfl
theorem nf_f_X11_in (x0 : Int32) (x1 : Int32) (x2 : Int32) : f_X11_in x0 x1 x2 = (if x0 < x1 then (some (nI 0))
  else (if x2 < x0 then (some (nI 0))
  else (some (nI 1)))) := rfl
theorem nf_f_X11_feed (x1 : Int32) (I : WI) (F : WF) : f_X11_feed x1 I F = (bnd (upd I 0 (nI 0)) fun I_1054 =>
  Option.bind (f_X11_in x1 (nI 0) (nI 255)) fun c_1055 =>
  if c_1055 = (nI 0) then (some ((-1000000002 : Int32), I_1054, F))
  else (if (I_1054 1) = (nI 240) then (some ((-1000000004 : Int32), I_1054, F))
  else (ixG (I_1054 1) 240 (bnd (uF F 0 (upd (F 0) (I_1054 1).toNatClampNeg x1)) fun F_1056 =>
  bnd (upd I_1054 1 ((I_1054 1) + (nI 1))) fun I_1057 =>
  some ((I_1057 1), I_1057, F_1056))))) := rfl
theorem nf_f_X11_letterAt (x1 : Int32) (I : WI) (F : WF) : f_X11_letterAt x1 I F = (if (I 1) ≤ x1 then (some (-1 : Int32))
  else (ixG x1 240 (
  some (F 0 x1.toNatClampNeg)))) := rfl
theorem nf_L_X11_blanks_0 (k : WI → Option (WI))  (F : WF) (n : Nat) (I : WI) : L_X11_blanks_0 k F (n + 1) I = (Option.bind (f_X11_letterAt (I 2) I F) fun c_1067 =>
  if c_1067 = (nI 32) then (bnd (upd I 2 ((I 2) + (nI 1))) fun I_1068 =>
  L_X11_blanks_0 k F n I_1068)
  else (k I)) := rfl
theorem nf_f_X11_blanks (I : WI) (F : WF) : f_X11_blanks I F = (Option.bind (f_X11_letterAt (I 2) I F) fun c_1065 =>
  if c_1065 = (nI 32) then (bnd (upd I 2 ((I 2) + (nI 1))) fun I_1066 =>
  L_X11_blanks_0 (fun I_1069 => some I_1069) F FU I_1066)
  else (some I)) := rfl
theorem nf_f_X11_isWell (I : WI) (F : WF) : f_X11_isWell I F = (if (I 3) = (nI 0) then (some (nI 1))
  else (some (nI 0))) := rfl
theorem nf_f_X11_isMore (x1 : Int32) (I : WI) (F : WF) : f_X11_isMore x1 I F = (bnd (fun (s_1081 : Int32) => bnd s_1081 fun x2_1082 =>
  if x2_1082 = (nI 0) then (bnd (fun (_u : Unit) => if x1 = (nI 106) then (if (F 1 3) = (nI 6) then (some (nI 1))
  else (some (nI 0)))
  else (some (nI 0))) fun j59_1083 =>
  if x1 = (nI 107) then (if (F 1 2) = (nI 9) then (some (nI 1))
  else (j59_1083 ()))
  else (j59_1083 ()))
  else (some (nI 1))) fun j37_1080 =>
  bnd (fun (_u : Unit) => j37_1080 (nI 1)) fun j32_1084 =>
  bnd (fun (_u : Unit) => bnd (fun (_u : Unit) => j37_1080 (nI 0)) fun j36_1086 =>
  if x1 = (nI 98) then (if (F 1 1) = (nI 9) then (j32_1084 ())
  else (j36_1086 ()))
  else (j36_1086 ())) fun j15_1085 =>
  if x1 = (nI 110) then (if (nI 0) < (F 1 0) then (j32_1084 ())
  else (j15_1085 ()))
  else (j15_1085 ())) := rfl
theorem nf_f_X11_faulty (x1 : Int32) (x2 : Int32) (I : WI) (F : WF) : f_X11_faulty x1 x2 I F = (Option.bind (f_X11_isWell I F) fun c_1103 =>
  if c_1103 = (nI 0) then (some I)
  else (bnd (upd I 3 x1) fun I_1104 =>
  bnd (upd I_1104 4 x2) fun I_1105 =>
  some I_1105)) := rfl
theorem nf_L_X11_due_23 (k : Int32 → WI → Option (Int32 × WI)) (x1 : Int32) (x2 : Int32) (F : WF) (n : Nat) (x3 : Int32) (I : WI) : L_X11_due_23 k x1 x2 F (n + 1) x3 I = (Option.bind (f_X11_letterAt (I 2) I F) fun c_1093 =>
  Option.bind (f_X11_in c_1093 (nI 48) (nI 57)) fun c_1094 =>
  if c_1094 = (nI 0) then (k x3 I)
  else (bnd (fun (s_1096 : Int32) => bnd s_1096 fun x3_1097 =>
  bnd (upd I 2 ((I 2) + (nI 1))) fun I_1098 =>
  L_X11_due_23 k x1 x2 F n x3_1097 I_1098) fun j68_1095 =>
  if x3 ≤ (nI 9999) then (Option.bind (f_X11_letterAt (I 2) I F) fun c_1099 =>
  j68_1095 ((((nI 10) * x3) + c_1099) - (nI 48)))
  else (j68_1095 x3))) := rfl
theorem nf_f_X11_due (x1 : Int32) (x2 : Int32) (I : WI) (F : WF) : f_X11_due x1 x2 I F = (Option.bind (f_X11_isWell I F) fun c_1089 =>
  if c_1089 = (nI 0) then (some ((nI 0), I))
  else (Option.bind (f_X11_blanks I F) fun c_1090 =>
  bnd (upd c_1090 9 (c_1090 2)) fun I_1091 =>
  bnd (nI 0) fun x3_1092 =>
  L_X11_due_23 (fun x3_1100 I_1101 => if (I_1101 2) = (I_1101 9) then (Option.bind (f_X11_faulty (nI 1) (I_1101 9) I_1101 F) fun c_1108 =>
  some (x3_1100, c_1108))
  else (bnd (fun (_u : Unit) => Option.bind (f_X11_faulty (nI 2) (I_1101 9) I_1101 F) fun c_1106 =>
  some (x3_1100, c_1106)) fun j127_1102 =>
  if (nI 3) < ((I_1101 2) - (I_1101 9)) then (j127_1102 ())
  else (Option.bind (f_X11_in x3_1100 x1 x2) fun c_1107 =>
  if c_1107 = (nI 0) then (j127_1102 ())
  else (some (x3_1100, I_1101))))) x1 x2 F FU x3_1092 I_1091)) := rfl
theorem nf_L_X11_bridges_50 (k : Int32 → Option (WI × WF)) (x1 : Int32) (x2 : Int32) (x3 : Int32) (I : WI) (F : WF) (n : Nat) (x4 : Int32) (x5 : Int32) : L_X11_bridges_50 k x1 x2 x3 I F (n + 1) x4 x5 = (if x1 ≤ x5 then (k x4)
  else (bnd (fun (s_1129 : Int32) => bnd s_1129 fun x4_1130 =>
  bnd (x5 + (nI 1)) fun x5_1131 =>
  L_X11_bridges_50 k x1 x2 x3 I F n x4_1130 x5_1131) fun j120_1128 =>
  bnd (fun (_u : Unit) => j120_1128 (nI 1)) fun j115_1132 =>
  if x4 = (nI 0) then (ixG ((nI 4) + x5) 70 (
  bnd (fun (_u : Unit) => ixG ((nI 4) + x5) 70 (
  bnd (fun (_u : Unit) => j120_1128 (nI 0)) fun j119_1134 =>
  if (F 1 ((nI 4) + x5).toNatClampNeg) = x3 then (ixG ((nI 13) + x5) 70 (
  if (F 1 ((nI 13) + x5).toNatClampNeg) = x2 then (j115_1132 ())
  else (j119_1134 ())))
  else (j119_1134 ()))) fun j88_1133 =>
  if (F 1 ((nI 4) + x5).toNatClampNeg) = x2 then (ixG ((nI 13) + x5) 70 (
  if (F 1 ((nI 13) + x5).toNatClampNeg) = x3 then (j115_1132 ())
  else (j88_1133 ())))
  else (j88_1133 ())))
  else (j115_1132 ()))) := rfl
theorem nf_f_X11_bridges (I : WI) (F : WF) : f_X11_bridges I F = (bnd (F 1 1) fun x1_1119 =>
  Option.bind (f_X11_due (nI 0) ((F 1 0) - (nI 1)) I F) fun c_1120 =>
  bnd c_1120.1 fun x2_1121 =>
  Option.bind (f_X11_due (nI 0) ((F 1 0) - (nI 1)) c_1120.2 F) fun c_1122 =>
  bnd c_1122.1 fun x3_1123 =>
  bnd (fun (s_1125 : Int32) => bnd s_1125 fun x4_1126 =>
  bnd (nI 0) fun x5_1127 =>
  L_X11_bridges_50 (fun x4_1135 => bnd (fun (I_1137 : WI) => ixG ((nI 4) + x1_1119) 70 (bnd (uF F 1 (upd (F 1) ((nI 4) + x1_1119).toNatClampNeg x2_1121)) fun F_1138 =>
  ixG ((nI 13) + x1_1119) 70 (bnd (uF F_1138 1 (upd (F_1138 1) ((nI 13) + x1_1119).toNatClampNeg x3_1123)) fun F_1139 =>
  Option.bind (f_X11_due (nI 2) (nI 40) I_1137 F_1139) fun c_1140 =>
  ixG ((nI 22) + x1_1119) 70 (bnd (uF F_1139 1 (upd (F_1139 1) ((nI 22) + x1_1119).toNatClampNeg c_1140.1)) fun F_1141 =>
  Option.bind (f_X11_due (nI 0) (nI 99) c_1140.2 F_1141) fun c_1142 =>
  ixG ((nI 31) + x1_1119) 70 (bnd (uF F_1141 1 (upd (F_1141 1) ((nI 31) + x1_1119).toNatClampNeg c_1142.1)) fun F_1143 =>
  bnd (uF F_1143 1 (upd (F_1143 1) 1 ((F_1143 1 1) + (nI 1)))) fun F_1144 =>
  some (c_1142.2, F_1144)))))) fun j142_1136 =>
  if x4_1135 = (nI 0) then (j142_1136 c_1122.2)
  else (Option.bind (f_X11_faulty (nI 4) (c_1122.2 9) c_1122.2 F) fun c_1145 =>
  j142_1136 c_1145)) x1_1119 x2_1121 x3_1123 c_1122.2 F FU x4_1126 x5_1127) fun j45_1124 =>
  if x2_1121 = x3_1123 then (j45_1124 (nI 1))
  else (j45_1124 (nI 0))) := rfl
theorem nf_f_X11_tells (x1 : Int32) (I : WI) (F : WF) : f_X11_tells x1 I F = (if x1 = (nI 110) then (Option.bind (f_X11_due (nI 2) (nI 8) I F) fun c_1147 =>
  bnd (uF F 1 (upd (F 1) 0 c_1147.1)) fun F_1148 =>
  some (c_1147.2, F_1148))
  else (if x1 = (nI 98) then (Option.bind (f_X11_bridges I F) fun c_1146 =>
  some (c_1146.1, c_1146.2))
  else (if x1 = (nI 107) then (Option.bind (f_X11_due (nI 0) (nI 3) I F) fun c_1114 =>
  ixG ((nI 40) + (F 1 2)) 70 (bnd (uF F 1 (upd (F 1) ((nI 40) + (F 1 2)).toNatClampNeg c_1114.1)) fun F_1115 =>
  Option.bind (f_X11_due (nI 1) (nI 40) c_1114.2 F_1115) fun c_1116 =>
  ixG ((nI 49) + (F_1115 1 2)) 70 (bnd (uF F_1115 1 (upd (F_1115 1) ((nI 49) + (F_1115 1 2)).toNatClampNeg c_1116.1)) fun F_1117 =>
  bnd (uF F_1117 1 (upd (F_1117 1) 2 ((F_1117 1 2) + (nI 1)))) fun F_1118 =>
  some (c_1116.2, F_1118))))
  else (Option.bind (f_X11_due (nI 0) (nI 3) I F) fun c_1109 =>
  ixG ((nI 58) + (F 1 3)) 70 (bnd (uF F 1 (upd (F 1) ((nI 58) + (F 1 3)).toNatClampNeg c_1109.1)) fun F_1110 =>
  Option.bind (f_X11_due (nI 0) ((F_1110 1 0) - (nI 1)) c_1109.2 F_1110) fun c_1111 =>
  ixG ((nI 64) + (F_1110 1 3)) 70 (bnd (uF F_1110 1 (upd (F_1110 1) ((nI 64) + (F_1110 1 3)).toNatClampNeg c_1111.1)) fun F_1112 =>
  bnd (uF F_1112 1 (upd (F_1112 1) 3 ((F_1112 1 3) + (nI 1)))) fun F_1113 =>
  some (c_1111.2, F_1113))))))) := rfl
theorem nf_f_X11_ends (I : WI) (F : WF) : f_X11_ends I F = (Option.bind (f_X11_isWell I F) fun c_1150 =>
  if c_1150 = (nI 0) then (some I)
  else (Option.bind (f_X11_blanks I F) fun c_1151 =>
  Option.bind (f_X11_letterAt (c_1151 2) c_1151 F) fun c_1152 =>
  bnd (fun (I_1154 : WI) => bnd (upd I_1154 2 ((I_1154 2) + (nI 1))) fun I_1155 =>
  some I_1155) fun j33_1153 =>
  if c_1152 = (nI 59) then (j33_1153 c_1151)
  else (Option.bind (f_X11_faulty (nI 1) (c_1151 2) c_1151 F) fun c_1156 =>
  j33_1153 c_1156))) := rfl
theorem nf_L_X11_reads_4 (k : WI → WF → Option (WI × WF))  (n : Nat) (I : WI) (F : WF) : L_X11_reads_4 k (n + 1) I F = (Option.bind (f_X11_isWell I F) fun c_1071 =>
  if c_1071 = (nI 0) then (k I F)
  else (if (I 1) ≤ (I 2) then (k I F)
  else (Option.bind (f_X11_letterAt (I 2) I F) fun c_1072 =>
  bnd c_1072 fun x1_1073 =>
  bnd (fun (s_1075 : Int32) => bnd s_1075 fun x2_1076 =>
  bnd (fun (I_1078 : WI) (F_1079 : WF) => L_X11_reads_4 k n I_1078 F_1079) fun j129_1077 =>
  if x2_1076 = (nI 0) then (Option.bind (f_X11_faulty (nI 1) (I 2) I F) fun c_1160 =>
  j129_1077 c_1160 F)
  else (Option.bind (f_X11_isMore x1_1073 I F) fun c_1087 =>
  if c_1087 = (nI 0) then (bnd (upd I 2 ((I 2) + (nI 1))) fun I_1088 =>
  Option.bind (f_X11_tells x1_1073 I_1088 F) fun c_1149 =>
  Option.bind (f_X11_ends c_1149.1 c_1149.2) fun c_1157 =>
  Option.bind (f_X11_blanks c_1157 c_1149.2) fun c_1158 =>
  j129_1077 c_1158 c_1149.2)
  else (Option.bind (f_X11_faulty (nI 3) (I 2) I F) fun c_1159 =>
  j129_1077 c_1159 F))) fun j69_1074 =>
  bnd (fun (_u : Unit) => j69_1074 (nI 1)) fun j64_1161 =>
  if x1_1073 = (nI 110) then (j64_1161 ())
  else (bnd (fun (_u : Unit) => j69_1074 (nI 0)) fun j68_1162 =>
  if (F 1 0) ≤ (nI 0) then (j68_1162 ())
  else (if x1_1073 = (nI 98) then (j64_1161 ())
  else (if x1_1073 = (nI 107) then (j64_1161 ())
  else (if x1_1073 = (nI 106) then (j64_1161 ())
  else (j68_1162 ())))))))) := rfl
theorem nf_f_X11_reads (I : WI) (F : WF) : f_X11_reads I F = (Option.bind (f_X11_blanks I F) fun c_1070 =>
  L_X11_reads_4 (fun I_1163 F_1164 => some (I_1163, F_1164))  FU c_1070 F) := rfl
theorem nf_L_X11_settles_2 (k : WF → Option (WI × WF))  (I : WI) (n : Nat) (x1 : Int32) (F : WF) : L_X11_settles_2 k I (n + 1) x1 F = (if (nI 70) ≤ x1 then (k F)
  else (ixG x1 70 (
  ixG x1 70 (bnd (uF F 2 (upd (F 2) x1.toNatClampNeg (F 1 x1.toNatClampNeg))) fun F_1173 =>
  bnd (x1 + (nI 1)) fun x1_1174 =>
  L_X11_settles_2 k I n x1_1174 F_1173)))) := rfl
theorem nf_L_X11_settles_28 (k : WF → Option (WI × WF))  (I : WI) (n : Nat) (x1 : Int32) (F : WF) : L_X11_settles_28 k I (n + 1) x1 F = (if (nI 133) ≤ x1 then (k F)
  else (ixG x1 134 (bnd (uF F 3 (upd (F 3) x1.toNatClampNeg (nI 0))) fun F_1177 =>
  bnd (x1 + (nI 1)) fun x1_1178 =>
  L_X11_settles_28 k I n x1_1178 F_1177))) := rfl
theorem nf_L_X11_settles_50 (k : WF → Option (WI × WF))  (I : WI) (n : Nat) (x1 : Int32) (F : WF) : L_X11_settles_50 k I (n + 1) x1 F = (if (nI 6) ≤ x1 then (k F)
  else (ixG ((nI 64) + x1) 70 (
  ixG ((nI 0) + x1) 134 (bnd (uF F 3 (upd (F 3) ((nI 0) + x1).toNatClampNeg (F 2 ((nI 64) + x1).toNatClampNeg))) fun F_1181 =>
  bnd (x1 + (nI 1)) fun x1_1182 =>
  L_X11_settles_50 k I n x1_1182 F_1181)))) := rfl
theorem nf_L_X11_settles_81 (k : WF → Option (WI × WF))  (I : WI) (n : Nat) (x1 : Int32) (F : WF) : L_X11_settles_81 k I (n + 1) x1 F = (if (nI 9) ≤ x1 then (k F)
  else (ixG ((nI 49) + x1) 70 (
  ixG ((nI 42) + x1) 134 (bnd (uF F 3 (upd (F 3) ((nI 42) + x1).toNatClampNeg (F 2 ((nI 49) + x1).toNatClampNeg))) fun F_1185 =>
  bnd (fun (s_1187 : Int32) => ixG ((nI 24) + x1) 134 (bnd (uF F_1185 3 (upd (F_1185 3) ((nI 24) + x1).toNatClampNeg s_1187)) fun F_1188 =>
  bnd (x1 + (nI 1)) fun x1_1189 =>
  L_X11_settles_81 k I n x1_1189 F_1188)) fun j138_1186 =>
  bnd (fun (_u : Unit) => j138_1186 (-1 : Int32)) fun j137_1190 =>
  if (F_1185 2 2) ≤ x1 then (j137_1190 ())
  else (if (F_1185 2 1) ≤ x1 then (j137_1190 ())
  else (j138_1186 x1)))))) := rfl
theorem nf_f_X11_settles (I : WI) (F : WF) : f_X11_settles I F = (bnd (nI 0) fun x1_1172 =>
  L_X11_settles_2 (fun F_1175 => bnd (nI 0) fun x1_1176 =>
  L_X11_settles_28 (fun F_1179 => bnd (nI 0) fun x1_1180 =>
  L_X11_settles_50 (fun F_1183 => bnd (nI 0) fun x1_1184 =>
  L_X11_settles_81 (fun F_1191 => bnd (upd I 7 (nI 0)) fun I_1192 =>
  bnd (upd I_1192 8 (nI 0)) fun I_1193 =>
  bnd (upd I_1193 6 (nI 0)) fun I_1194 =>
  bnd (uF F_1191 5 (upd (F_1191 5) 0 (vp_nar .boolean (nI 0)))) fun F_1195 =>
  bnd (uF F_1195 5 (upd (F_1195 5) 1 (vp_nar .boolean (nI 0)))) fun F_1196 =>
  some (I_1194, F_1196)) I FU x1_1184 F_1183) I FU x1_1180 F_1179) I FU x1_1176 F_1175) I FU x1_1172 F) := rfl
theorem nf_L_X11_town_17 (k : WF → Option (Int32 × WI × WF))  (I : WI) (n : Nat) (x1 : Int32) (F : WF) : L_X11_town_17 k I (n + 1) x1 F = (if (nI 70) ≤ x1 then (k F)
  else (ixG x1 70 (bnd (uF F 1 (upd (F 1) x1.toNatClampNeg (nI 0))) fun F_1062 =>
  bnd (x1 + (nI 1)) fun x1_1063 =>
  L_X11_town_17 k I n x1_1063 F_1062))) := rfl
theorem nf_f_X11_town (I : WI) (F : WF) : f_X11_town I F = (bnd (upd I 0 (nI 0)) fun I_1058 =>
  bnd (upd I_1058 2 (nI 0)) fun I_1059 =>
  bnd (upd I_1059 3 (nI 0)) fun I_1060 =>
  bnd (nI 0) fun x1_1061 =>
  L_X11_town_17 (fun F_1064 => Option.bind (f_X11_reads I_1060 F_1064) fun c_1165 =>
  bnd (upd c_1165.1 1 (nI 0)) fun I_1166 =>
  Option.bind (f_X11_isWell I_1166 c_1165.2) fun c_1167 =>
  bnd (fun (s_1169 : Int32) => bnd (upd I_1166 5 s_1169) fun I_1170 =>
  Option.bind (f_X11_isWell I_1170 c_1165.2) fun c_1171 =>
  if c_1171 = (nI 0) then (some (((-10 : Int32) - (I_1170 3)), I_1170, c_1165.2))
  else (Option.bind (f_X11_settles I_1170 c_1165.2) fun c_1197 =>
  some ((c_1197.2 2 1), c_1197.1, c_1197.2))) fun j61_1168 =>
  if c_1167 = (nI 0) then (j61_1168 (I_1166 4))
  else (j61_1168 (-1 : Int32))) I_1060 FU x1_1061 F) := rfl
theorem nf_f_X11_fault (I : WI) (F : WF) : f_X11_fault I F = (bnd (upd I 0 (nI 0)) fun I_1198 =>
  some ((I_1198 5), I_1198)) := rfl
theorem nf_L_X11_driest_11 (k : Int32 → Option (Int32))  (I : WI) (F : WF) (n : Nat) (x1 : Int32) (x2 : Int32) : L_X11_driest_11 k I F (n + 1) x1 x2 = (if x2 < (nI 0) then (k x1)
  else (bnd (fun (s_1204 : Int32) => bnd s_1204 fun x1_1205 =>
  bnd (x2 + (-1 : Int32)) fun x2_1206 =>
  L_X11_driest_11 k I F n x1_1205 x2_1206) fun j46_1203 =>
  bnd (fun (_u : Unit) => j46_1203 x2) fun j41_1207 =>
  if x1 = (-1 : Int32) then (j41_1207 ())
  else (ixG ((nI 18) + x2) 134 (
  ixG ((nI 18) + x1) 134 (
  if (F 3 ((nI 18) + x1).toNatClampNeg) < (F 3 ((nI 18) + x2).toNatClampNeg) then (j46_1203 x1)
  else (j41_1207 ())))))) := rfl
theorem nf_f_X11_driest (I : WI) (F : WF) : f_X11_driest I F = (bnd (-1 : Int32) fun x1_1201 =>
  bnd ((F 2 3) - (nI 1)) fun x2_1202 =>
  L_X11_driest_11 (fun x1_1208 => some x1_1208) I F FU x1_1201 x2_1202) := rfl
theorem nf_L_X11_trusted_4 (k : Int32 → Option (Int32))  (I : WI) (F : WF) (n : Nat) (x1 : Int32) (x2 : Int32) : L_X11_trusted_4 k I F (n + 1) x1 x2 = (if (F 2 3) ≤ x2 then (k x1)
  else (ixG ((nI 12) + x2) 134 (
  ixG ((nI 18) + x2) 134 (
  bnd (fun (s_1213 : Int32) => bnd (x1 ||| s_1213) fun x1_1214 =>
  bnd (x2 + (nI 1)) fun x2_1215 =>
  L_X11_trusted_4 k I F n x1_1214 x2_1215) fun j43_1212 =>
  if (F 3 ((nI 12) + x2).toNatClampNeg) ≤ (F 3 ((nI 18) + x2).toNatClampNeg) then (j43_1212 (nI 0))
  else (j43_1212 (nI 1 <<< (x2 &&& nI 31))))))) := rfl
theorem nf_f_X11_trusted (I : WI) (F : WF) : f_X11_trusted I F = (bnd (nI 0) fun x1_1210 =>
  bnd (nI 0) fun x2_1211 =>
  L_X11_trusted_4 (fun x1_1216 => some x1_1216) I F FU x1_1210 x2_1211) := rfl
theorem nf_f_X11_allBridges (I : WI) (F : WF) : f_X11_allBridges I F = (some ((nI 1 <<< ((F 2 1) &&& nI 31)) - (nI 1))) := rfl
theorem nf_f_X11_has (x0 : Int32) (x1 : Int32) : f_X11_has x0 x1 = (if ((x0 >>> (x1 &&& nI 31)) &&& (nI 1)) = (nI 1) then (some (nI 1))
  else (some (nI 0))) := rfl
theorem nf_L_X11_fars_2 (k : WF → Option (WF)) (x1 : Int32) (x2 : Int32) (I : WI) (n : Nat) (x3 : Int32) (F : WF) : L_X11_fars_2 k x1 x2 I (n + 1) x3 F = (if (nI 8) ≤ x3 then (k F)
  else (bnd (fun (s_1223 : Int32) => ixG x3 8 (bnd (uF F 11 (upd (F 11) x3.toNatClampNeg s_1223)) fun F_1224 =>
  bnd (x3 + (nI 1)) fun x3_1225 =>
  L_X11_fars_2 k x1 x2 I n x3_1225 F_1224)) fun j24_1222 =>
  if x3 = x1 then (j24_1222 (nI 0))
  else (j24_1222 (nI 99)))) := rfl
theorem nf_L_X11_fars_42 (k : WF → Option (WF)) (x2 : Int32) (x3 : Int32) (I : WI) (n : Nat) (x4 : Int32) (F : WF) : L_X11_fars_42 k x2 x3 I (n + 1) x4 F = (if (F 2 1) ≤ x4 then (k F)
  else (Option.bind (f_X11_has x2 x4) fun c_1229 =>
  bnd (fun (F_1231 : WF) => bnd (x4 + (nI 1)) fun x4_1232 =>
  L_X11_fars_42 k x2 x3 I n x4_1232 F_1231) fun j175_1230 =>
  if c_1229 = (nI 0) then (j175_1230 F)
  else (ixG ((nI 4) + x4) 70 (
  bnd (F 2 ((nI 4) + x4).toNatClampNeg) fun x5_1233 =>
  ixG ((nI 13) + x4) 70 (
  bnd (F 2 ((nI 13) + x4).toNatClampNeg) fun x6_1234 =>
  ixG x6_1234 8 (
  ixG x5_1233 8 (
  bnd (fun (s_1236 : Int32) => ixG x5_1233 8 (bnd (uF F 11 (upd (F 11) x5_1233.toNatClampNeg s_1236)) fun F_1237 =>
  ixG x5_1233 8 (
  ixG x6_1234 8 (
  bnd (fun (s_1239 : Int32) => ixG x6_1234 8 (bnd (uF F_1237 11 (upd (F_1237 11) x6_1234.toNatClampNeg s_1239)) fun F_1240 =>
  j175_1230 F_1240)) fun j174_1238 =>
  if (F_1237 11 x6_1234.toNatClampNeg) ≤ ((F_1237 11 x5_1233.toNatClampNeg) + (nI 1)) then (ixG x6_1234 8 (
  j174_1238 (F_1237 11 x6_1234.toNatClampNeg)))
  else (ixG x5_1233 8 (
  j174_1238 ((F_1237 11 x5_1233.toNatClampNeg) + (nI 1)))))))) fun j129_1235 =>
  if (F 11 x5_1233.toNatClampNeg) ≤ ((F 11 x6_1234.toNatClampNeg) + (nI 1)) then (ixG x5_1233 8 (
  j129_1235 (F 11 x5_1233.toNatClampNeg)))
  else (ixG x6_1234 8 (
  j129_1235 ((F 11 x6_1234.toNatClampNeg) + (nI 1))))))))))) := rfl
theorem nf_L_X11_fars_33 (k : WF → Option (WF)) (x2 : Int32) (I : WI) (n : Nat) (x3 : Int32) (F : WF) : L_X11_fars_33 k x2 I (n + 1) x3 F = (if (nI 8) ≤ x3 then (k F)
  else (bnd (nI 0) fun x4_1228 =>
  L_X11_fars_42 (fun F_1241 => bnd (x3 + (nI 1)) fun x3_1242 =>
  L_X11_fars_33 k x2 I n x3_1242 F_1241) x2 x3 I FU x4_1228 F)) := rfl
theorem nf_f_X11_fars (x1 : Int32) (x2 : Int32) (I : WI) (F : WF) : f_X11_fars x1 x2 I F = (bnd (nI 0) fun x3_1221 =>
  L_X11_fars_2 (fun F_1226 => bnd (nI 0) fun x3_1227 =>
  L_X11_fars_33 (fun F_1243 => some F_1243) x2 I FU x3_1227 F_1226) x1 x2 I FU x3_1221 F) := rfl
theorem nf_L_X11_farthest_25 (k : Int32 → Option (Int32 × WF)) (x2 : Int32) (I : WI) (F : WF) (n : Nat) (x1 : Int32) (x3 : Int32) : L_X11_farthest_25 k x2 I F (n + 1) x1 x3 = (if (F 2 0) ≤ x3 then (k x1)
  else (ixG x3 8 (
  bnd (fun (s_1247 : Int32) => bnd s_1247 fun x1_1248 =>
  bnd (x3 + (nI 1)) fun x3_1249 =>
  L_X11_farthest_25 k x2 I F n x1_1248 x3_1249) fun j66_1246 =>
  bnd (fun (_u : Unit) => j66_1246 x1) fun j65_1250 =>
  if (nI 99) ≤ (F 11 x3.toNatClampNeg) then (j65_1250 ())
  else (ixG x3 8 (
  if (F 11 x3.toNatClampNeg) ≤ x1 then (j65_1250 ())
  else (ixG x3 8 (
  j66_1246 (F 11 x3.toNatClampNeg)))))))) := rfl
theorem nf_L_X11_farthest_4 (k : Int32 → WF → Option (Int32 × WF))  (I : WI) (n : Nat) (x1 : Int32) (x2 : Int32) (F : WF) : L_X11_farthest_4 k I (n + 1) x1 x2 F = (if (F 2 0) ≤ x2 then (k x1 F)
  else (Option.bind (f_X11_allBridges I F) fun c_1220 =>
  Option.bind (f_X11_fars x2 c_1220 I F) fun c_1244 =>
  bnd (nI 0) fun x3_1245 =>
  L_X11_farthest_25 (fun x1_1251 => bnd (x2 + (nI 1)) fun x2_1252 =>
  L_X11_farthest_4 k I n x1_1251 x2_1252 c_1244) x2 I c_1244 FU x1 x3_1245)) := rfl
theorem nf_f_X11_farthest (I : WI) (F : WF) : f_X11_farthest I F = (bnd (nI 0) fun x1_1218 =>
  bnd (nI 0) fun x2_1219 =>
  L_X11_farthest_4 (fun x1_1253 F_1254 => some (x1_1253, F_1254)) I FU x1_1218 x2_1219 F) := rfl
theorem nf_f_X11_isWay (x1 : Int32) (x2 : Int32) (x3 : Int32) (I : WI) (F : WF) : f_X11_isWay x1 x2 x3 I F = (Option.bind (f_X11_fars x1 x3 I F) fun c_1259 =>
  ixG x2 8 (
  if (nI 99) ≤ (c_1259 11 x2.toNatClampNeg) then (some ((nI 0), c_1259))
  else (some ((nI 1), c_1259)))) := rfl
theorem nf_L_X11_bottles_4 (k : Int32 → WF → Option (Int32 × WF))  (I : WI) (n : Nat) (x1 : Int32) (x2 : Int32) (F : WF) : L_X11_bottles_4 k I (n + 1) x1 x2 F = (if (F 2 1) ≤ x2 then (k x1 F)
  else (ixG ((nI 4) + x2) 70 (
  ixG ((nI 13) + x2) 70 (
  Option.bind (f_X11_allBridges I F) fun c_1258 =>
  Option.bind (f_X11_isWay (F 2 ((nI 4) + x2).toNatClampNeg) (F 2 ((nI 13) + x2).toNatClampNeg) (c_1258 &&& ((nI 1 <<< (x2 &&& nI 31)) ^^^ (-1 : Int32))) I F) fun c_1260 =>
  bnd (fun (s_1262 : Int32) => bnd (x1 ||| s_1262) fun x1_1263 =>
  bnd (x2 + (nI 1)) fun x2_1264 =>
  L_X11_bottles_4 k I n x1_1263 x2_1264 c_1260.2) fun j56_1261 =>
  if c_1260.1 = (nI 0) then (j56_1261 (nI 1 <<< (x2 &&& nI 31)))
  else (j56_1261 (nI 0)))))) := rfl
theorem nf_f_X11_bottles (I : WI) (F : WF) : f_X11_bottles I F = (bnd (nI 0) fun x1_1256 =>
  bnd (nI 0) fun x2_1257 =>
  L_X11_bottles_4 (fun x1_1265 F_1266 => some (x1_1265, F_1266)) I FU x1_1256 x2_1257 F) := rfl
theorem nf_L_X11_keeperAt_4 (k : Int32 → Option (Int32)) (x1 : Int32) (I : WI) (F : WF) (n : Nat) (x2 : Int32) (x3 : Int32) : L_X11_keeperAt_4 k x1 I F (n + 1) x2 x3 = (if (F 2 2) ≤ x3 then (k x2)
  else (ixG ((nI 24) + x3) 134 (
  bnd (fun (s_1273 : Int32) => bnd s_1273 fun x2_1274 =>
  bnd (x3 + (nI 1)) fun x3_1275 =>
  L_X11_keeperAt_4 k x1 I F n x2_1274 x3_1275) fun j32_1272 =>
  if (F 3 ((nI 24) + x3).toNatClampNeg) = x1 then (j32_1272 x3)
  else (j32_1272 x2)))) := rfl
theorem nf_f_X11_keeperAt (x1 : Int32) (I : WI) (F : WF) : f_X11_keeperAt x1 I F = (bnd (-1 : Int32) fun x2_1270 =>
  bnd (nI 0) fun x3_1271 =>
  L_X11_keeperAt_4 (fun x2_1276 => some x2_1276) x1 I F FU x2_1270 x3_1271) := rfl
theorem nf_L_X11_manned_4 (k : Int32 → Option (Int32))  (I : WI) (F : WF) (n : Nat) (x1 : Int32) (x2 : Int32) : L_X11_manned_4 k I F (n + 1) x1 x2 = (if (F 2 1) ≤ x2 then (k x1)
  else (Option.bind (f_X11_keeperAt x2 I F) fun c_1277 =>
  bnd (fun (s_1279 : Int32) => bnd (x1 + s_1279) fun x1_1280 =>
  bnd (x2 + (nI 1)) fun x2_1281 =>
  L_X11_manned_4 k I F n x1_1280 x2_1281) fun j29_1278 =>
  if c_1277 = (-1 : Int32) then (j29_1278 (nI 0))
  else (j29_1278 (nI 1)))) := rfl
theorem nf_f_X11_manned (I : WI) (F : WF) : f_X11_manned I F = (bnd (nI 0) fun x1_1268 =>
  bnd (nI 0) fun x2_1269 =>
  L_X11_manned_4 (fun x1_1282 => some x1_1282) I F FU x1_1268 x2_1269) := rfl
theorem nf_f_X11_told (x1 : Int32) (I : WI) (F : WF) : f_X11_told x1 I F = (bnd (upd I 0 (nI 0)) fun I_1199 =>
  Option.bind (f_X11_in x1 (nI 0) (nI 14)) fun c_1200 =>
  if c_1200 = (nI 0) then (some ((-1000000002 : Int32), I_1199, F))
  else (if (nI 7) ≤ x1 then (if (nI 11) ≤ x1 then (if x1 = (nI 11) then (some ((F 3 52), I_1199, F))
  else (if x1 = (nI 12) then (some ((I_1199 7), I_1199, F))
  else (if x1 = (nI 13) then (some ((I_1199 8), I_1199, F))
  else (some ((I_1199 6), I_1199, F)))))
  else (if x1 = (nI 7) then (Option.bind (f_X11_bottles I_1199 F) fun c_1267 =>
  some (c_1267.1, I_1199, c_1267.2))
  else (if x1 = (nI 8) then (Option.bind (f_X11_farthest I_1199 F) fun c_1255 =>
  some (c_1255.1, I_1199, c_1255.2))
  else (if x1 = (nI 9) then (Option.bind (f_X11_trusted I_1199 F) fun c_1217 =>
  some (c_1217, I_1199, F))
  else (Option.bind (f_X11_driest I_1199 F) fun c_1209 =>
  some (c_1209, I_1199, F))))))
  else (if (nI 4) ≤ x1 then (if x1 = (nI 4) then (some ((I_1199 1), I_1199, F))
  else (if x1 = (nI 5) then (some ((F 3 51), I_1199, F))
  else (Option.bind (f_X11_manned I_1199 F) fun c_1283 =>
  some (c_1283, I_1199, F))))
  else (ixG x1 70 (
  some ((F 2 x1.toNatClampNeg), I_1199, F)))))) := rfl
theorem nf_f_X11_isBridge (x1 : Int32) (I : WI) (F : WF) : f_X11_isBridge x1 I F = (Option.bind (f_X11_in x1 (nI 0) ((F 2 1) - (nI 1))) fun c_1285 =>
  bzG c_1285 (some c_1285)) := rfl
theorem nf_f_X11_timeBy (x1 : Int32) (x2 : Int32) (I : WI) (F : WF) : f_X11_timeBy x1 x2 I F = (ixG ((nI 40) + x1) 70 (
  bnd (F 2 ((nI 40) + x1).toNatClampNeg) fun x3_1291 =>
  bnd (fun (s_1293 : Int32) => bnd s_1293 fun x4_1294 =>
  ixG ((nI 42) + x1) 134 (
  some ((F 3 ((nI 42) + x1).toNatClampNeg) + x4_1294))) fun j50_1292 =>
  if x3_1291 = (nI 1) then (j50_1292 (((F 3 51) - (F 3 51) / (nI 2) * (nI 2)) * (nI 2)))
  else (if x3_1291 = (nI 2) then (j50_1292 x2)
  else (if x3_1291 = (nI 3) then (j50_1292 (x2 / (nI 3)))
  else (j50_1292 (nI 0)))))) := rfl
theorem nf_f_X11_timeOf (x1 : Int32) (I : WI) (F : WF) : f_X11_timeOf x1 I F = (ixG ((nI 33) + x1) 134 (
  Option.bind (f_X11_timeBy x1 (F 3 ((nI 33) + x1).toNatClampNeg) I F) fun c_1295 =>
  some c_1295)) := rfl
theorem nf_f_X11_bridge (x1 : Int32) (x2 : Int32) (I : WI) (F : WF) : f_X11_bridge x1 x2 I F = (bnd (upd I 0 (nI 0)) fun I_1284 =>
  Option.bind (f_X11_isBridge x1 I_1284 F) fun c_1287 =>
  if c_1287 = (nI 0) then (some ((-1000000001 : Int32), I_1284))
  else (Option.bind (f_X11_in x2 (nI 0) (nI 5)) fun c_1288 =>
  if c_1288 = (nI 0) then (some ((-1000000002 : Int32), I_1284))
  else (if (nI 4) ≤ x2 then (Option.bind (f_X11_keeperAt x1 I_1284 F) fun c_1289 =>
  bnd c_1289 fun x3_1290 =>
  if x2 = (nI 4) then (some (x3_1290, I_1284))
  else (if x3_1290 = (-1 : Int32) then (some (x3_1290, I_1284))
  else (Option.bind (f_X11_timeOf x3_1290 I_1284 F) fun c_1296 =>
  some (c_1296, I_1284))))
  else (ixG (((nI 4) + ((nI 9) * x2)) + x1) 70 (
  some ((F 2 (((nI 4) + ((nI 9) * x2)) + x1).toNatClampNeg), I_1284)))))) := rfl
theorem nf_f_X11_isKeeper (x1 : Int32) (I : WI) (F : WF) : f_X11_isKeeper x1 I F = (Option.bind (f_X11_in x1 (nI 0) ((F 2 2) - (nI 1))) fun c_1298 =>
  bzG c_1298 (some c_1298)) := rfl
theorem nf_f_X11_keeper (x1 : Int32) (x2 : Int32) (I : WI) (F : WF) : f_X11_keeper x1 x2 I F = (bnd (upd I 0 (nI 0)) fun I_1297 =>
  Option.bind (f_X11_isKeeper x1 I_1297 F) fun c_1300 =>
  if c_1300 = (nI 0) then (some ((-1000000001 : Int32), I_1297))
  else (Option.bind (f_X11_in x2 (nI 0) (nI 4)) fun c_1301 =>
  if c_1301 = (nI 0) then (some ((-1000000002 : Int32), I_1297))
  else (if (nI 2) ≤ x2 then (if x2 = (nI 2) then (ixG ((nI 24) + x1) 134 (
  some ((F 3 ((nI 24) + x1).toNatClampNeg), I_1297)))
  else (if x2 = (nI 3) then (ixG ((nI 33) + x1) 134 (
  some ((F 3 ((nI 33) + x1).toNatClampNeg), I_1297)))
  else (Option.bind (f_X11_timeOf x1 I_1297 F) fun c_1302 =>
  some (c_1302, I_1297))))
  else (if x2 = (nI 0) then (ixG ((nI 40) + x1) 70 (
  some ((F 2 ((nI 40) + x1).toNatClampNeg), I_1297)))
  else (ixG ((nI 42) + x1) 134 (
  some ((F 3 ((nI 42) + x1).toNatClampNeg), I_1297))))))) := rfl
theorem nf_f_X11_isJumper (x1 : Int32) (I : WI) (F : WF) : f_X11_isJumper x1 I F = (Option.bind (f_X11_in x1 (nI 0) ((F 2 3) - (nI 1))) fun c_1304 =>
  bzG c_1304 (some c_1304)) := rfl
theorem nf_f_X11_flightOf (x1 : Int32) (x2 : Int32) (I : WI) (F : WF) : f_X11_flightOf x1 x2 I F = (ixG ((nI 58) + x1) 70 (
  bnd (F 2 ((nI 58) + x1).toNatClampNeg) fun x3_1313 =>
  ixG ((nI 22) + x2) 70 (
  bnd (F 2 ((nI 22) + x2).toNatClampNeg) fun x4_1314 =>
  ixG ((nI 6) + x1) 134 (
  bnd (F 3 ((nI 6) + x1).toNatClampNeg) fun x5_1315 =>
  bnd (fun (s_1317 : Int32) => bnd s_1317 fun x6_1318 =>
  if (nI 0) ≤ x6_1318 then (some x6_1318)
  else (some (nI 0))) fun j83_1316 =>
  if x3_1313 = (nI 0) then (j83_1316 x4_1314)
  else (if x3_1313 = (nI 1) then (j83_1316 (x4_1314 - x5_1315))
  else (if x3_1313 = (nI 2) then (j83_1316 ((x4_1314 - (x5_1315 / (nI 2))) - ((F 3 51) - (F 3 51) / (nI 2) * (nI 2))))
  else (j83_1316 (x4_1314 / (nI 2))))))))) := rfl
theorem nf_f_X11_comes (x1 : Int32) (x2 : Int32) (I : WI) (F : WF) : f_X11_comes x1 x2 I F = (Option.bind (f_X11_keeperAt x2 I F) fun c_1310 =>
  bnd c_1310 fun x3_1311 =>
  if x3_1311 = (-1 : Int32) then (some (nI 0))
  else (Option.bind (f_X11_timeOf x3_1311 I F) fun c_1312 =>
  Option.bind (f_X11_flightOf x1 x2 I F) fun c_1319 =>
  if c_1319 < c_1312 then (some (nI 0))
  else (some (nI 1)))) := rfl
theorem nf_L_X11_daresOf_4 (k : Int32 → Option (Int32)) (x1 : Int32) (I : WI) (F : WF) (n : Nat) (x2 : Int32) (x3 : Int32) : L_X11_daresOf_4 k x1 I F (n + 1) x2 x3 = (if (F 2 1) ≤ x3 then (k x2)
  else (Option.bind (f_X11_comes x1 x3 I F) fun c_1320 =>
  bnd (fun (s_1322 : Int32) => bnd (x2 ||| s_1322) fun x2_1323 =>
  bnd (x3 + (nI 1)) fun x3_1324 =>
  L_X11_daresOf_4 k x1 I F n x2_1323 x3_1324) fun j31_1321 =>
  if c_1320 = (nI 0) then (j31_1321 (nI 0))
  else (j31_1321 (nI 1 <<< (x3 &&& nI 31))))) := rfl
theorem nf_f_X11_daresOf (x1 : Int32) (I : WI) (F : WF) : f_X11_daresOf x1 I F = (bnd (nI 0) fun x2_1308 =>
  bnd (nI 0) fun x3_1309 =>
  L_X11_daresOf_4 (fun x2_1325 => some x2_1325) x1 I F FU x2_1308 x3_1309) := rfl
theorem nf_f_X11_jumper (x1 : Int32) (x2 : Int32) (I : WI) (F : WF) : f_X11_jumper x1 x2 I F = (bnd (upd I 0 (nI 0)) fun I_1303 =>
  Option.bind (f_X11_isJumper x1 I_1303 F) fun c_1306 =>
  if c_1306 = (nI 0) then (some ((-1000000001 : Int32), I_1303))
  else (Option.bind (f_X11_in x2 (nI 0) (nI 5)) fun c_1307 =>
  if c_1307 = (nI 0) then (some ((-1000000002 : Int32), I_1303))
  else (if x2 = (nI 0) then (ixG ((nI 58) + x1) 70 (
  some ((F 2 ((nI 58) + x1).toNatClampNeg), I_1303)))
  else (if x2 = (nI 5) then (Option.bind (f_X11_daresOf x1 I_1303 F) fun c_1326 =>
  some (c_1326, I_1303))
  else (ixG (((nI 0) + ((nI 6) * (x2 - (nI 1)))) + x1) 134 (
  some ((F 3 (((nI 0) + ((nI 6) * (x2 - (nI 1)))) + x1).toNatClampNeg), I_1303))))))) := rfl
theorem nf_f_X11_flight (x1 : Int32) (x2 : Int32) (I : WI) (F : WF) : f_X11_flight x1 x2 I F = (bnd (upd I 0 (nI 0)) fun I_1327 =>
  Option.bind (f_X11_isJumper x1 I_1327 F) fun c_1328 =>
  if c_1328 = (nI 0) then (some ((-1000000001 : Int32), I_1327))
  else (Option.bind (f_X11_isBridge x2 I_1327 F) fun c_1329 =>
  if c_1329 = (nI 0) then (some ((-1000000001 : Int32), I_1327))
  else (Option.bind (f_X11_flightOf x1 x2 I_1327 F) fun c_1330 =>
  some (c_1330, I_1327)))) := rfl
theorem nf_f_X11_roll (x1 : Int32) (x2 : Int32) (I : WI) (F : WF) : f_X11_roll x1 x2 I F = (bnd (upd I 0 (nI 0)) fun I_1331 =>
  Option.bind (f_X11_in x2 (nI 0) (nI 3)) fun c_1332 =>
  if c_1332 = (nI 0) then (some ((-1000000002 : Int32), I_1331))
  else (Option.bind (f_X11_in x1 (nI 0) ((F 3 52) - (nI 1))) fun c_1333 =>
  if c_1333 = (nI 0) then (some ((-1 : Int32), I_1331))
  else (ixG (((nI 53) + ((nI 4) * x1)) + x2) 134 (
  some ((F 3 (((nI 53) + ((nI 4) * x1)) + x2).toNatClampNeg), I_1331))))) := rfl
theorem nf_f_X11_beyond (x1 : Int32) (x2 : Int32) (I : WI) (F : WF) : f_X11_beyond x1 x2 I F = (ixG ((nI 4) + x1) 70 (
  if (F 2 ((nI 4) + x1).toNatClampNeg) = x2 then (ixG ((nI 13) + x1) 70 (
  some (F 2 ((nI 13) + x1).toNatClampNeg)))
  else (ixG ((nI 13) + x1) 70 (
  if (F 2 ((nI 13) + x1).toNatClampNeg) = x2 then (ixG ((nI 4) + x1) 70 (
  some (F 2 ((nI 4) + x1).toNatClampNeg)))
  else (some (-1 : Int32)))))) := rfl
theorem nf_L_X11_notes_48 (k : WF → Option (WI × WF))  (I : WI) (n : Nat) (x1 : Int32) (F : WF) : L_X11_notes_48 k I (n + 1) x1 F = (if (nI 134) ≤ x1 then (k F)
  else (ixG x1 134 (
  ixG (((nI 134) * (I 6)) + x1) 2144 (bnd (uF F 6 (upd (F 6) (((nI 134) * (I 6)) + x1).toNatClampNeg (F 3 x1.toNatClampNeg))) fun F_1342 =>
  bnd (x1 + (nI 1)) fun x1_1343 =>
  L_X11_notes_48 k I n x1_1343 F_1342)))) := rfl
theorem nf_L_X11_notes_11 (k : WF → Option (WI × WF))  (I : WI) (n : Nat) (x1 : Int32) (F : WF) : L_X11_notes_11 k I (n + 1) x1 F = (if (nI 2010) ≤ x1 then (k F)
  else (ixG (x1 + (nI 134)) 2144 (
  ixG x1 2144 (bnd (uF F 6 (upd (F 6) x1.toNatClampNeg (F 6 (x1 + (nI 134)).toNatClampNeg))) fun F_1347 =>
  bnd (x1 + (nI 1)) fun x1_1348 =>
  L_X11_notes_11 k I n x1_1348 F_1347)))) := rfl
theorem nf_f_X11_notes (I : WI) (F : WF) : f_X11_notes I F = (bnd (fun (I_1339 : WI) (F_1340 : WF) => bnd (nI 0) fun x1_1341 =>
  L_X11_notes_48 (fun F_1344 => bnd (upd I_1339 6 ((I_1339 6) + (nI 1))) fun I_1345 =>
  some (I_1345, F_1344)) I_1339 FU x1_1341 F_1340) fun j46_1338 =>
  if (I 6) = (nI 16) then (bnd (nI 0) fun x1_1346 =>
  L_X11_notes_11 (fun F_1349 => bnd (upd I 6 (nI 15)) fun I_1350 =>
  j46_1338 I_1350 F_1349) I FU x1_1346 F)
  else (j46_1338 I F)) := rfl
theorem nf_f_X11_counts (x1 : Int32) (I : WI) (F : WF) : f_X11_counts x1 I F = (ixG x1 134 (
  ixG x1 134 (
  bnd (fun (s_1381 : Int32) => ixG x1 134 (bnd (uF F 3 (upd (F 3) x1.toNatClampNeg ((F 3 x1.toNatClampNeg) + s_1381))) fun F_1382 =>
  some F_1382)) fun j23_1380 =>
  if (nI 999999) ≤ (F 3 x1.toNatClampNeg) then (j23_1380 (nI 0))
  else (j23_1380 (nI 1))))) := rfl
theorem nf_L_X11_leaps_31 (k : WF → Option (Int32 × WF)) (x1 : Int32) (x2 : Int32) (x4 : Int32) (x5 : Int32) (I : WI) (n : Nat) (x6 : Int32) (F : WF) : L_X11_leaps_31 k x1 x2 x4 x5 I (n + 1) x6 F = (if x6 ≤ (nI 3) then (k F)
  else (ixG (((nI 53) + x6) - (nI 4)) 134 (
  ixG ((nI 53) + x6) 134 (bnd (uF F 3 (upd (F 3) ((nI 53) + x6).toNatClampNeg (F 3 (((nI 53) + x6) - (nI 4)).toNatClampNeg))) fun F_1358 =>
  bnd (x6 + (-1 : Int32)) fun x6_1359 =>
  L_X11_leaps_31 k x1 x2 x4 x5 I n x6_1359 F_1358)))) := rfl
theorem nf_f_X11_leaps (x1 : Int32) (x2 : Int32) (x3 : Int32) (I : WI) (F : WF) : f_X11_leaps x1 x2 x3 I F = (bnd (fun (s_1353 : Int32) => bnd s_1353 fun x4_1354 =>
  Option.bind (f_X11_keeperAt x2 I F) fun c_1355 =>
  bnd c_1355 fun x5_1356 =>
  bnd (nI 79) fun x6_1357 =>
  L_X11_leaps_31 (fun F_1360 => bnd (uF F_1360 3 (upd (F_1360 3) 53 (F_1360 3 51))) fun F_1361 =>
  bnd (uF F_1361 3 (upd (F_1361 3) 54 x1)) fun F_1362 =>
  bnd (uF F_1362 3 (upd (F_1362 3) 55 x2)) fun F_1363 =>
  bnd (fun (s_1365 : Int32) => bnd (uF F_1363 3 (upd (F_1363 3) 56 s_1365)) fun F_1366 =>
  bnd (fun (s_1368 : Int32) => bnd (uF F_1366 3 (upd (F_1366 3) 52 ((F_1366 3 52) + s_1368))) fun F_1369 =>
  bnd (fun (F_1371 : WF) => bnd (fun (F_1373 : WF) => if x4_1354 = (nI 0) then (some ((nI 0), F_1373))
  else (some ((nI 1), F_1373))) fun j291_1372 =>
  if x5_1356 = (-1 : Int32) then (j291_1372 F_1371)
  else (ixG ((nI 33) + x5_1356) 134 (
  ixG ((nI 33) + x5_1356) 134 (
  bnd (fun (s_1375 : Int32) => ixG ((nI 33) + x5_1356) 134 (bnd (uF F_1371 3 (upd (F_1371 3) ((nI 33) + x5_1356).toNatClampNeg ((F_1371 3 ((nI 33) + x5_1356).toNatClampNeg) + s_1375))) fun F_1376 =>
  j291_1372 F_1376)) fun j289_1374 =>
  if (nI 99) ≤ (F_1371 3 ((nI 33) + x5_1356).toNatClampNeg) then (j289_1374 (nI 0))
  else (j289_1374 (nI 1)))))) fun j252_1370 =>
  if x4_1354 = (nI 0) then (ixG ((nI 6) + x1) 134 (
  bnd (fun (s_1378 : Int32) => ixG ((nI 6) + x1) 134 (bnd (uF F_1369 3 (upd (F_1369 3) ((nI 6) + x1).toNatClampNeg s_1378)) fun F_1379 =>
  Option.bind (f_X11_counts ((nI 18) + x1) I F_1379) fun c_1383 =>
  j252_1370 c_1383)) fun j243_1377 =>
  if (F_1369 3 ((nI 6) + x1).toNatClampNeg) ≤ (nI 28) then (ixG ((nI 6) + x1) 134 (
  j243_1377 ((F_1369 3 ((nI 6) + x1).toNatClampNeg) + (nI 2))))
  else (j243_1377 (nI 30))))
  else (ixG ((nI 0) + x1) 134 (
  Option.bind (f_X11_beyond x2 (F_1369 3 ((nI 0) + x1).toNatClampNeg) I F_1369) fun c_1384 =>
  ixG ((nI 0) + x1) 134 (bnd (uF F_1369 3 (upd (F_1369 3) ((nI 0) + x1).toNatClampNeg c_1384)) fun F_1385 =>
  ixG ((nI 6) + x1) 134 (
  ixG ((nI 6) + x1) 134 (
  bnd (fun (s_1387 : Int32) => ixG ((nI 6) + x1) 134 (bnd (uF F_1385 3 (upd (F_1385 3) ((nI 6) + x1).toNatClampNeg ((F_1385 3 ((nI 6) + x1).toNatClampNeg) - s_1387))) fun F_1388 =>
  Option.bind (f_X11_counts ((nI 12) + x1) I F_1388) fun c_1389 =>
  j252_1370 c_1389)) fun j192_1386 =>
  if (F_1385 3 ((nI 6) + x1).toNatClampNeg) ≤ (nI 0) then (j192_1386 (nI 0))
  else (j192_1386 (nI 1)))))))) fun j137_1367 =>
  if (nI 20) ≤ (F_1366 3 52) then (j137_1367 (nI 0))
  else (j137_1367 (nI 1))) fun j111_1364 =>
  if x4_1354 = (nI 0) then (j111_1364 (nI 0))
  else (j111_1364 (nI 1))) x1 x2 x4_1354 x5_1356 I FU x6_1357 F) fun j18_1352 =>
  bnd (fun (_u : Unit) => j18_1352 (nI 0)) fun j17_1390 =>
  if x3 = (nI 0) then (Option.bind (f_X11_comes x1 x2 I F) fun c_1391 =>
  if c_1391 = (nI 0) then (j17_1390 ())
  else (j18_1352 (nI 1)))
  else (j17_1390 ())) := rfl
theorem nf_f_X11_leap (x1 : Int32) (x2 : Int32) (I : WI) (F : WF) : f_X11_leap x1 x2 I F = (bnd (upd I 0 (nI 0)) fun I_1334 =>
  Option.bind (f_X11_isJumper x1 I_1334 F) fun c_1335 =>
  if c_1335 = (nI 0) then (some ((-1000000001 : Int32), I_1334, F))
  else (Option.bind (f_X11_isBridge x2 I_1334 F) fun c_1336 =>
  if c_1336 = (nI 0) then (some ((-1000000001 : Int32), I_1334, F))
  else (ixG ((nI 0) + x1) 134 (
  Option.bind (f_X11_beyond x2 (F 3 ((nI 0) + x1).toNatClampNeg) I_1334 F) fun c_1337 =>
  if c_1337 = (-1 : Int32) then (some ((-1000000003 : Int32), I_1334, F))
  else (Option.bind (f_X11_notes I_1334 F) fun c_1351 =>
  Option.bind (f_X11_leaps x1 x2 (nI 0) c_1351.1 c_1351.2) fun c_1392 =>
  some (c_1392.1, c_1351.1, c_1392.2)))))) := rfl
theorem nf_f_X11_post (x1 : Int32) (x2 : Int32) (I : WI) (F : WF) : f_X11_post x1 x2 I F = (bnd (upd I 0 (nI 0)) fun I_1393 =>
  Option.bind (f_X11_isKeeper x1 I_1393 F) fun c_1394 =>
  if c_1394 = (nI 0) then (some ((-1000000001 : Int32), I_1393, F))
  else (Option.bind (f_X11_isBridge x2 I_1393 F) fun c_1395 =>
  if c_1395 = (nI 0) then (some ((-1000000001 : Int32), I_1393, F))
  else (Option.bind (f_X11_keeperAt x2 I_1393 F) fun c_1396 =>
  if c_1396 = (-1 : Int32) then (Option.bind (f_X11_notes I_1393 F) fun c_1397 =>
  ixG ((nI 24) + x1) 134 (
  bnd (c_1397.2 3 ((nI 24) + x1).toNatClampNeg) fun x3_1398 =>
  ixG ((nI 24) + x1) 134 (bnd (uF c_1397.2 3 (upd (c_1397.2 3) ((nI 24) + x1).toNatClampNeg x2)) fun F_1399 =>
  some (x3_1398, c_1397.1, F_1399))))
  else (some ((-1000000003 : Int32), I_1393, F))))) := rfl
theorem nf_f_X11_rest (x1 : Int32) (I : WI) (F : WF) : f_X11_rest x1 I F = (bnd (upd I 0 (nI 0)) fun I_1400 =>
  Option.bind (f_X11_isKeeper x1 I_1400 F) fun c_1401 =>
  if c_1401 = (nI 0) then (some ((-1000000001 : Int32), I_1400, F))
  else (ixG ((nI 24) + x1) 134 (
  bnd (F 3 ((nI 24) + x1).toNatClampNeg) fun x2_1402 =>
  if x2_1402 = (-1 : Int32) then (some ((-1000000003 : Int32), I_1400, F))
  else (Option.bind (f_X11_notes I_1400 F) fun c_1403 =>
  ixG ((nI 24) + x1) 134 (bnd (uF c_1403.2 3 (upd (c_1403.2 3) ((nI 24) + x1).toNatClampNeg (-1 : Int32))) fun F_1404 =>
  some (x2_1402, c_1403.1, F_1404)))))) := rfl
theorem nf_f_X11_train (x1 : Int32) (I : WI) (F : WF) : f_X11_train x1 I F = (bnd (upd I 0 (nI 0)) fun I_1405 =>
  Option.bind (f_X11_isKeeper x1 I_1405 F) fun c_1406 =>
  if c_1406 = (nI 0) then (some ((-1000000001 : Int32), I_1405, F))
  else (ixG ((nI 42) + x1) 134 (
  if (F 3 ((nI 42) + x1).toNatClampNeg) = (nI 1) then (some ((-1000000003 : Int32), I_1405, F))
  else (Option.bind (f_X11_notes I_1405 F) fun c_1407 =>
  ixG ((nI 42) + x1) 134 (
  ixG ((nI 42) + x1) 134 (bnd (uF c_1407.2 3 (upd (c_1407.2 3) ((nI 42) + x1).toNatClampNeg ((c_1407.2 3 ((nI 42) + x1).toNatClampNeg) - (nI 1)))) fun F_1408 =>
  ixG ((nI 42) + x1) 134 (
  some ((F_1408 3 ((nI 42) + x1).toNatClampNeg), c_1407.1, F_1408)))))))) := rfl
theorem nf_f_X11_talk (x1 : Int32) (x2 : Int32) (I : WI) (F : WF) : f_X11_talk x1 x2 I F = (bnd (upd I 0 (nI 0)) fun I_1409 =>
  Option.bind (f_X11_isJumper x1 I_1409 F) fun c_1410 =>
  if c_1410 = (nI 0) then (some ((-1000000001 : Int32), I_1409, F))
  else (Option.bind (f_X11_in x2 (nI 0) (nI 30)) fun c_1411 =>
  if c_1411 = (nI 0) then (some ((-1000000002 : Int32), I_1409, F))
  else (Option.bind (f_X11_notes I_1409 F) fun c_1412 =>
  ixG ((nI 6) + x1) 134 (
  bnd (c_1412.2 3 ((nI 6) + x1).toNatClampNeg) fun x3_1413 =>
  ixG ((nI 6) + x1) 134 (bnd (uF c_1412.2 3 (upd (c_1412.2 3) ((nI 6) + x1).toNatClampNeg x2)) fun F_1414 =>
  some (x3_1413, c_1412.1, F_1414)))))) := rfl
theorem nf_f_X11_mayGo (x1 : Int32) (I : WI) (F : WF) : f_X11_mayGo x1 I F = (Option.bind (f_X11_in x1 (nI 1) (nI 60)) fun c_1416 =>
  if c_1416 = (nI 0) then (some (-1000000002 : Int32))
  else (if (F 2 0) = (nI 0) then (some (-1000000003 : Int32))
  else (if (F 3 51) ≤ (nI 9000) then (some (nI 0))
  else (some (-1000000004 : Int32))))) := rfl
theorem nf_L_X11_oneHour_2 (k : WF → Option (WF))  (I : WI) (n : Nat) (x1 : Int32) (F : WF) : L_X11_oneHour_2 k I (n + 1) x1 F = (if (F 2 2) ≤ x1 then (k F)
  else (ixG ((nI 33) + x1) 134 (
  ixG ((nI 24) + x1) 134 (
  bnd (fun (s_1423 : Int32) => bnd ((F 3 ((nI 33) + x1).toNatClampNeg) - s_1423) fun x2_1424 =>
  bnd (fun (s_1426 : Int32) => ixG ((nI 33) + x1) 134 (bnd (uF F 3 (upd (F 3) ((nI 33) + x1).toNatClampNeg s_1426)) fun F_1427 =>
  bnd (x1 + (nI 1)) fun x1_1428 =>
  L_X11_oneHour_2 k I n x1_1428 F_1427)) fun j58_1425 =>
  if (nI 0) ≤ x2_1424 then (j58_1425 x2_1424)
  else (j58_1425 (nI 0))) fun j39_1422 =>
  if (F 3 ((nI 24) + x1).toNatClampNeg) = (-1 : Int32) then (j39_1422 (nI 3))
  else (j39_1422 (nI 1)))))) := rfl
theorem nf_L_X11_oneHour_67 (k : WF → Option (WF))  (I : WI) (n : Nat) (x1 : Int32) (F : WF) : L_X11_oneHour_67 k I (n + 1) x1 F = (if (F 2 3) ≤ x1 then (k F)
  else (ixG ((nI 6) + x1) 134 (
  ixG ((nI 6) + x1) 134 (
  ixG ((nI 6) + x1) 134 (bnd (uF F 3 (upd (F 3) ((nI 6) + x1).toNatClampNeg ((F 3 ((nI 6) + x1).toNatClampNeg) - ((F 3 ((nI 6) + x1).toNatClampNeg) - (F 3 ((nI 6) + x1).toNatClampNeg) / (nI 2) * (nI 2))))) fun F_1431 =>
  bnd (x1 + (nI 1)) fun x1_1432 =>
  L_X11_oneHour_67 k I n x1_1432 F_1431))))) := rfl
theorem nf_f_X11_oneHour (I : WI) (F : WF) : f_X11_oneHour I F = (bnd (nI 0) fun x1_1421 =>
  L_X11_oneHour_2 (fun F_1429 => bnd (nI 0) fun x1_1430 =>
  L_X11_oneHour_67 (fun F_1433 => bnd (uF F_1433 3 (upd (F_1433 3) 51 ((F_1433 3 51) + (nI 1)))) fun F_1434 =>
  some F_1434) I FU x1_1430 F_1429) I FU x1_1421 F) := rfl
theorem nf_L_X11_hour_23 (k : WF → Option (Int32 × WI × WF)) (x1 : Int32) (I : WI) (n : Nat) (x3 : Int32) (F : WF) : L_X11_hour_23 k x1 I (n + 1) x3 F = (if x1 ≤ x3 then (k F)
  else (Option.bind (f_X11_oneHour I F) fun c_1435 =>
  bnd (x3 + (nI 1)) fun x3_1436 =>
  L_X11_hour_23 k x1 I n x3_1436 c_1435)) := rfl
theorem nf_f_X11_hour (x1 : Int32) (I : WI) (F : WF) : f_X11_hour x1 I F = (bnd (upd I 0 (nI 0)) fun I_1415 =>
  Option.bind (f_X11_mayGo x1 I_1415 F) fun c_1417 =>
  bnd c_1417 fun x2_1418 =>
  if x2_1418 = (nI 0) then (Option.bind (f_X11_notes I_1415 F) fun c_1419 =>
  bnd (nI 0) fun x3_1420 =>
  L_X11_hour_23 (fun F_1437 => some ((F_1437 3 51), c_1419.1, F_1437)) x1 c_1419.1 FU x3_1420 c_1419.2)
  else (some (x2_1418, I_1415, F))) := rfl
theorem nf_f_X11_draw (x1 : Int32) (I : WI) (F : WF) : f_X11_draw x1 I F = (bnd ((F 3 133).toInt64) fun x2_1447 =>
  bnd (((x2_1447 * (1103515245 : Int64)) + (12345 : Int64)) - ((x2_1447 * (1103515245 : Int64)) + (12345 : Int64)) / (2147483648 : Int64) * (2147483648 : Int64)) fun x2_1448 =>
  bnd (uF F 3 (upd (F 3) 133 x2_1448.toInt32)) fun F_1449 =>
  nzI x1 (
  some ((((F_1449 3 133) / (nI 65536)) - ((F_1449 3 133) / (nI 65536)) / x1 * x1), F_1449))) := rfl
theorem nf_L_X11_drift_23 (k : WF → Option (Int32 × WI × WF)) (x1 : Int32) (I : WI) (n : Nat) (x3 : Int32) (F : WF) : L_X11_drift_23 k x1 I (n + 1) x3 F = (if x1 ≤ x3 then (k F)
  else (bnd (fun (F_1444 : WF) => Option.bind (f_X11_oneHour I F_1444) fun c_1445 =>
  bnd (x3 + (nI 1)) fun x3_1446 =>
  L_X11_drift_23 k x1 I n x3_1446 c_1445) fun j126_1443 =>
  if (F 2 3) ≤ (nI 0) then (j126_1443 F)
  else (if (F 2 1) ≤ (nI 0) then (j126_1443 F)
  else (Option.bind (f_X11_draw (F 2 3) I F) fun c_1451 =>
  bnd c_1451.1 fun x4_1452 =>
  Option.bind (f_X11_draw (c_1451.2 2 1) I c_1451.2) fun c_1453 =>
  bnd c_1453.1 fun x5_1454 =>
  Option.bind (f_X11_draw (nI 100) I c_1453.2) fun c_1455 =>
  bnd c_1455.1 fun x6_1456 =>
  ixG ((nI 0) + x4_1452) 134 (
  Option.bind (f_X11_beyond x5_1454 (c_1455.2 3 ((nI 0) + x4_1452).toNatClampNeg) I c_1455.2) fun c_1457 =>
  if c_1457 = (-1 : Int32) then (j126_1443 c_1455.2)
  else (ixG ((nI 31) + x5_1454) 70 (
  bnd (fun (s_1459 : Int32) => Option.bind (f_X11_leaps x4_1452 x5_1454 s_1459 I c_1455.2) fun c_1460 =>
  j126_1443 c_1460.2) fun j122_1458 =>
  if (c_1455.2 2 ((nI 31) + x5_1454).toNatClampNeg) ≤ x6_1456 then (j122_1458 (nI 0))
  else (j122_1458 (nI 1))))))))) := rfl
theorem nf_f_X11_drift (x1 : Int32) (I : WI) (F : WF) : f_X11_drift x1 I F = (bnd (upd I 0 (nI 0)) fun I_1438 =>
  Option.bind (f_X11_mayGo x1 I_1438 F) fun c_1439 =>
  bnd c_1439 fun x2_1440 =>
  if x2_1440 = (nI 0) then (Option.bind (f_X11_notes I_1438 F) fun c_1441 =>
  bnd (nI 0) fun x3_1442 =>
  L_X11_drift_23 (fun F_1461 => some ((F_1461 3 51), c_1441.1, F_1461)) x1 c_1441.1 FU x3_1442 c_1441.2)
  else (some (x2_1440, I_1438, F))) := rfl
theorem nf_L_X11_undo_27 (k : WF → Option (Int32 × WI × WF))  (I : WI) (n : Nat) (x1 : Int32) (F : WF) : L_X11_undo_27 k I (n + 1) x1 F = (if (nI 133) ≤ x1 then (k F)
  else (ixG (((nI 134) * (I 6)) + x1) 2144 (
  ixG x1 134 (bnd (uF F 3 (upd (F 3) x1.toNatClampNeg (F 6 (((nI 134) * (I 6)) + x1).toNatClampNeg))) fun F_1465 =>
  bnd (x1 + (nI 1)) fun x1_1466 =>
  L_X11_undo_27 k I n x1_1466 F_1465)))) := rfl
theorem nf_f_X11_undo (I : WI) (F : WF) : f_X11_undo I F = (bnd (upd I 0 (nI 0)) fun I_1462 =>
  if (I_1462 6) = (nI 0) then (some ((-1000000003 : Int32), I_1462, F))
  else (bnd (upd I_1462 6 ((I_1462 6) - (nI 1))) fun I_1463 =>
  bnd (nI 0) fun x1_1464 =>
  L_X11_undo_27 (fun F_1467 => some ((I_1463 6), I_1463, F_1467)) I_1463 FU x1_1464 F)) := rfl
theorem nf_f_X11_isPlace (x1 : Int32) (I : WI) (F : WF) : f_X11_isPlace x1 I F = (Option.bind (f_X11_in x1 (nI 0) ((F 2 0) - (nI 1))) fun c_1470 =>
  bzG c_1470 (some c_1470)) := rfl
theorem nf_L_X11_way_93 (k : Option (Int32 × WI × WF)) (x1 : Int32) (x4 : Int32) (x5 : Int32) (I : WI) (F : WF) (n : Nat) (x6 : Int32) : L_X11_way_93 k x1 x4 x5 I F (n + 1) x6 = (if (F 2 1) ≤ x6 then (k)
  else (ixG ((nI 0) + x1) 134 (
  Option.bind (f_X11_beyond x6 (F 3 ((nI 0) + x1).toNatClampNeg) I F) fun c_1480 =>
  bnd c_1480 fun x7_1481 =>
  Option.bind (f_X11_has x4 x6) fun c_1482 =>
  bnd (fun (_u : Unit) => bnd (x6 + (nI 1)) fun x6_1484 =>
  L_X11_way_93 k x1 x4 x5 I F n x6_1484) fun j153_1483 =>
  if c_1482 = (nI 0) then (j153_1483 ())
  else (if x7_1481 = (-1 : Int32) then (j153_1483 ())
  else (ixG x7_1481 8 (
  if (F 11 x7_1481.toNatClampNeg) = (x5 - (nI 1)) then (some (x6, I, F))
  else (j153_1483 ()))))))) := rfl
theorem nf_f_X11_way (x1 : Int32) (x2 : Int32) (x3 : Int32) (I : WI) (F : WF) : f_X11_way x1 x2 x3 I F = (bnd (upd I 0 (nI 0)) fun I_1468 =>
  Option.bind (f_X11_isJumper x1 I_1468 F) fun c_1469 =>
  if c_1469 = (nI 0) then (some ((-1000000001 : Int32), I_1468, F))
  else (Option.bind (f_X11_isPlace x2 I_1468 F) fun c_1472 =>
  if c_1472 = (nI 0) then (some ((-1000000001 : Int32), I_1468, F))
  else (Option.bind (f_X11_in x3 (nI 0) (nI 1)) fun c_1473 =>
  if c_1473 = (nI 0) then (some ((-1000000002 : Int32), I_1468, F))
  else (Option.bind (f_X11_daresOf x1 I_1468 F) fun c_1474 =>
  bnd c_1474 fun x4_1475 =>
  Option.bind (f_X11_fars x2 x4_1475 I_1468 F) fun c_1476 =>
  ixG ((nI 0) + x1) 134 (
  ixG (c_1476 3 ((nI 0) + x1).toNatClampNeg) 8 (
  bnd (c_1476 11 (c_1476 3 ((nI 0) + x1).toNatClampNeg).toNatClampNeg) fun x5_1477 =>
  bnd (fun (_u : Unit) => if x5_1477 = (nI 99) then (some ((-1 : Int32), I_1468, c_1476))
  else (some (x5_1477, I_1468, c_1476))) fun j76_1478 =>
  if x5_1477 = (nI 99) then (j76_1478 ())
  else (if x3 = (nI 0) then (j76_1478 ())
  else (bnd (nI 0) fun x6_1479 =>
  L_X11_way_93 (some ((-1 : Int32), I_1468, c_1476)) x1 x4_1475 x5_1477 I_1468 c_1476 FU x6_1479)))))))) := rfl
theorem nf_L_X11_safest_116 (k : Int32 → Int32 → WF → Option (Int32 × WI × WF)) (x2 : Int32) (x3 : Int32) (x4 : Int32) (I : WI) (n : Nat) (x5 : Int32) (x6 : Int32) (x7 : Int32) (x8 : Int32) (F : WF) : L_X11_safest_116 k x2 x3 x4 I (n + 1) x5 x6 x7 x8 F = (if x8 < (nI 0) then (k x5 x6 F)
  else (ixG x8 9 (
  bnd (F 14 x8.toNatClampNeg) fun x9_1498 =>
  bnd (fun (x5_1500 : Int32) (x6_1501 : Int32) (x7_1502 : Int32) (x8_1503 : Int32) (F_1504 : WF) => L_X11_safest_116 k x2 x3 x4 I n x5_1500 x6_1501 x7_1502 x8_1503 F_1504) fun j331_1499 =>
  bnd (fun (_u : Unit) => ixG x8 9 (
  bnd (x7 &&& ((nI 1 <<< ((F 13 x8.toNatClampNeg) &&& nI 31)) ^^^ (-1 : Int32))) fun x7_1506 =>
  bnd (x8 + (-1 : Int32)) fun x8_1507 =>
  j331_1499 x5 x6 x7_1506 x8_1507 F)) fun j152_1505 =>
  if x9_1498 = (F 2 1) then (j152_1505 ())
  else (ixG x8 9 (
  if (F 13 x8.toNatClampNeg) = x2 then (j152_1505 ())
  else (ixG x8 9 (
  ixG x8 9 (bnd (uF F 14 (upd (F 14) x8.toNatClampNeg ((F 14 x8.toNatClampNeg) + (nI 1)))) fun F_1508 =>
  ixG x8 9 (
  Option.bind (f_X11_beyond x9_1498 (F_1508 13 x8.toNatClampNeg) I F_1508) fun c_1509 =>
  bnd c_1509 fun x10_1510 =>
  Option.bind (f_X11_has x4 x9_1498) fun c_1511 =>
  if c_1511 = (nI 0) then (j331_1499 x5 x6 x7 x8 F_1508)
  else (if x10_1510 = (-1 : Int32) then (j331_1499 x5 x6 x7 x8 F_1508)
  else (Option.bind (f_X11_has x7 x10_1510) fun c_1512 =>
  if c_1512 = (nI 0) then (ixG x8 9 (
  ixG ((nI 31) + x9_1498) 70 (
  bnd ((((F_1508 15 x8.toNatClampNeg).toInt64) * (((nI 100) - (F_1508 2 ((nI 31) + x9_1498).toNatClampNeg)).toInt64)) / (100 : Int64)) fun x11_1513 =>
  bnd (x8 + (nI 1)) fun x8_1514 =>
  ixG x8_1514 9 (bnd (uF F_1508 13 (upd (F_1508 13) x8_1514.toNatClampNeg x10_1510)) fun F_1515 =>
  ixG x8_1514 9 (bnd (uF F_1515 14 (upd (F_1515 14) x8_1514.toNatClampNeg (nI 0))) fun F_1516 =>
  ixG x8_1514 9 (bnd (uF F_1516 15 (upd (F_1516 15) x8_1514.toNatClampNeg x11_1513.toInt32)) fun F_1517 =>
  bnd (x7 ||| (nI 1 <<< (x10_1510 &&& nI 31))) fun x7_1518 =>
  if x10_1510 = x2 then (ixG x8_1514 9 (
  if (F_1517 15 x8_1514.toNatClampNeg) ≤ x5 then (j331_1499 x5 x6 x7_1518 x8_1514 F_1517)
  else (ixG x8_1514 9 (
  bnd (F_1517 15 x8_1514.toNatClampNeg) fun x5_1519 =>
  bnd ((F_1517 14 0) - (nI 1)) fun x6_1520 =>
  j331_1499 x5_1519 x6_1520 x7_1518 x8_1514 F_1517))))
  else (j331_1499 x5 x6 x7_1518 x8_1514 F_1517)))))))
  else (j331_1499 x5 x6 x7 x8 F_1508)))))))))))) := rfl
theorem nf_f_X11_safest (x1 : Int32) (x2 : Int32) (x3 : Int32) (I : WI) (F : WF) : f_X11_safest x1 x2 x3 I F = (bnd (upd I 0 (nI 0)) fun I_1485 =>
  Option.bind (f_X11_isJumper x1 I_1485 F) fun c_1486 =>
  if c_1486 = (nI 0) then (some ((-1000000001 : Int32), I_1485, F))
  else (Option.bind (f_X11_isPlace x2 I_1485 F) fun c_1487 =>
  if c_1487 = (nI 0) then (some ((-1000000001 : Int32), I_1485, F))
  else (Option.bind (f_X11_in x3 (nI 0) (nI 1)) fun c_1488 =>
  if c_1488 = (nI 0) then (some ((-1000000002 : Int32), I_1485, F))
  else (ixG ((nI 0) + x1) 134 (
  if (F 3 ((nI 0) + x1).toNatClampNeg) = x2 then (if x3 = (nI 0) then (some ((nI 1000000000), I_1485, F))
  else (some ((-1 : Int32), I_1485, F)))
  else (Option.bind (f_X11_daresOf x1 I_1485 F) fun c_1489 =>
  bnd c_1489 fun x4_1490 =>
  bnd (-1 : Int32) fun x5_1491 =>
  bnd (-1 : Int32) fun x6_1492 =>
  ixG ((nI 0) + x1) 134 (
  bnd (nI 1 <<< ((F 3 ((nI 0) + x1).toNatClampNeg) &&& nI 31)) fun x7_1493 =>
  bnd (nI 0) fun x8_1494 =>
  ixG ((nI 0) + x1) 134 (
  bnd (uF F 13 (upd (F 13) 0 (F 3 ((nI 0) + x1).toNatClampNeg))) fun F_1495 =>
  bnd (uF F_1495 14 (upd (F_1495 14) 0 (nI 0))) fun F_1496 =>
  bnd (uF F_1496 15 (upd (F_1496 15) 0 (nI 1000000000))) fun F_1497 =>
  L_X11_safest_116 (fun x5_1521 x6_1522 F_1523 => if x3 = (nI 0) then (some (x5_1521, I_1485, F_1523))
  else (some (x6_1522, I_1485, F_1523))) x2 x3 x4_1490 I_1485 FU x5_1491 x6_1492 x7_1493 x8_1494 F_1497)))))))) := rfl
theorem nf_f_X11_canKeep (x1 : Int32) (x2 : Int32) (x3 : Int32) (I : WI) (F : WF) : f_X11_canKeep x1 x2 x3 I F = (Option.bind (f_X11_timeOf x3 I F) fun c_1538 =>
  Option.bind (f_X11_flightOf x1 x2 I F) fun c_1539 =>
  if c_1539 < c_1538 then (some (nI 0))
  else (some (nI 1))) := rfl
theorem nf_L_X11_givesPosts_63 (k : Int32 → Option (WF)) (x1 : Int32) (x2 : Int32) (x3 : Int32) (x4 : Int32) (I : WI) (F : WF) (n : Nat) (x5 : Int32) (x6 : Int32) : L_X11_givesPosts_63 k x1 x2 x3 x4 I F (n + 1) x5 x6 = (if (F 2 2) ≤ x6 then (k x5)
  else (if (F 2 1) ≤ x3 then (k x5)
  else (Option.bind (f_X11_has x4 x6) fun c_1534 =>
  bnd (fun (x5_1536 : Int32) => bnd (x6 + (nI 1)) fun x6_1537 =>
  L_X11_givesPosts_63 k x1 x2 x3 x4 I F n x5_1536 x6_1537) fun j145_1535 =>
  if c_1534 = (nI 0) then (Option.bind (f_X11_canKeep x1 x3 x6 I F) fun c_1540 =>
  if c_1540 = (nI 0) then (j145_1535 x5)
  else (ixG (((nI 512) * (x3 + (nI 1))) + (x4 ||| (nI 1 <<< (x6 &&& nI 31)))) 5120 (
  bnd ((nI 1) + (F 12 (((nI 512) * (x3 + (nI 1))) + (x4 ||| (nI 1 <<< (x6 &&& nI 31)))).toNatClampNeg)) fun x7_1541 =>
  bnd (fun (s_1543 : Int32) => bnd s_1543 fun x5_1544 =>
  j145_1535 x5_1544) fun j143_1542 =>
  if x7_1541 ≤ x5 then (j143_1542 x5)
  else (j143_1542 x7_1541))))
  else (j145_1535 x5)))) := rfl
theorem nf_L_X11_givesPosts_23 (k : WF → Option (WF)) (x1 : Int32) (x2 : Int32) (x3 : Int32) (I : WI) (n : Nat) (x4 : Int32) (F : WF) : L_X11_givesPosts_23 k x1 x2 x3 I (n + 1) x4 F = (if x2 ≤ x4 then (k F)
  else (bnd (fun (s_1531 : Int32) => bnd s_1531 fun x5_1532 =>
  bnd (nI 0) fun x6_1533 =>
  L_X11_givesPosts_63 (fun x5_1545 => ixG (((nI 512) * x3) + x4) 5120 (bnd (uF F 12 (upd (F 12) (((nI 512) * x3) + x4).toNatClampNeg x5_1545)) fun F_1546 =>
  bnd (x4 + (nI 1)) fun x4_1547 =>
  L_X11_givesPosts_23 k x1 x2 x3 I n x4_1547 F_1546)) x1 x2 x3 x4 I F FU x5_1532 x6_1533) fun j58_1530 =>
  if x3 = (F 2 1) then (j58_1530 (nI 0))
  else (ixG (((nI 512) * (x3 + (nI 1))) + x4) 5120 (
  j58_1530 (F 12 (((nI 512) * (x3 + (nI 1))) + x4).toNatClampNeg))))) := rfl
theorem nf_L_X11_givesPosts_16 (k : WF → Option (WF)) (x1 : Int32) (x2 : Int32) (I : WI) (n : Nat) (x3 : Int32) (F : WF) : L_X11_givesPosts_16 k x1 x2 I (n + 1) x3 F = (if x3 < (nI 0) then (k F)
  else (bnd (nI 0) fun x4_1529 =>
  L_X11_givesPosts_23 (fun F_1548 => bnd (x3 + (-1 : Int32)) fun x3_1549 =>
  L_X11_givesPosts_16 k x1 x2 I n x3_1549 F_1548) x1 x2 x3 I FU x4_1529 F)) := rfl
theorem nf_f_X11_givesPosts (x1 : Int32) (I : WI) (F : WF) : f_X11_givesPosts x1 I F = (bnd (nI 1 <<< ((F 2 2) &&& nI 31)) fun x2_1527 =>
  bnd (F 2 1) fun x3_1528 =>
  L_X11_givesPosts_16 (fun F_1550 => some F_1550) x1 x2_1527 I FU x3_1528 F) := rfl
theorem nf_L_X11_posts_73 (k : Int32 → Option (Int32 × WI × WF)) (x1 : Int32) (x2 : Int32) (x3 : Int32) (x5 : Int32) (I : WI) (F : WF) (n : Nat) (x4 : Int32) (x6 : Int32) : L_X11_posts_73 k x1 x2 x3 x5 I F (n + 1) x4 x6 = (if x6 < (nI 0) then (k x4)
  else (Option.bind (f_X11_has x3 x6) fun c_1557 =>
  bnd (fun (s_1559 : Int32) => bnd s_1559 fun x7_1560 =>
  bnd (fun (s_1562 : Int32) => bnd s_1562 fun x4_1563 =>
  bnd (x6 + (-1 : Int32)) fun x6_1564 =>
  L_X11_posts_73 k x1 x2 x3 x5 I F n x4_1563 x6_1564) fun j156_1561 =>
  bnd (fun (_u : Unit) => j156_1561 x4) fun j154_1565 =>
  if x7_1560 = (nI 0) then (j154_1565 ())
  else (ixG (((nI 512) * (x5 + (nI 1))) + (x3 ||| (nI 1 <<< (x6 &&& nI 31)))) 5120 (
  ixG (((nI 512) * x5) + x3) 5120 (
  if ((nI 1) + (F 12 (((nI 512) * (x5 + (nI 1))) + (x3 ||| (nI 1 <<< (x6 &&& nI 31)))).toNatClampNeg)) = (F 12 (((nI 512) * x5) + x3).toNatClampNeg) then (j156_1561 x6)
  else (j154_1565 ()))))) fun j104_1558 =>
  bnd (fun (_u : Unit) => j104_1558 (nI 0)) fun j103_1566 =>
  if c_1557 = (nI 0) then (Option.bind (f_X11_canKeep x1 x5 x6 I F) fun c_1567 =>
  if c_1567 = (nI 0) then (j103_1566 ())
  else (j104_1558 (nI 1)))
  else (j103_1566 ()))) := rfl
theorem nf_L_X11_posts_54 (k : Int32 → Option (Int32 × WI × WF)) (x1 : Int32) (x2 : Int32) (I : WI) (F : WF) (n : Nat) (x3 : Int32) (x4 : Int32) (x5 : Int32) : L_X11_posts_54 k x1 x2 I F (n + 1) x3 x4 x5 = (if x2 < x5 then (k x4)
  else (bnd (-1 : Int32) fun x4_1555 =>
  bnd ((F 2 2) - (nI 1)) fun x6_1556 =>
  L_X11_posts_73 (fun x4_1568 => bnd (fun (s_1570 : Int32) => bnd (x3 ||| s_1570) fun x3_1571 =>
  bnd (x5 + (nI 1)) fun x5_1572 =>
  L_X11_posts_54 k x1 x2 I F n x3_1571 x4_1568 x5_1572) fun j179_1569 =>
  if x4_1568 = (-1 : Int32) then (j179_1569 (nI 0))
  else (j179_1569 (nI 1 <<< (x4_1568 &&& nI 31)))) x1 x2 x3 x5 I F FU x4_1555 x6_1556)) := rfl
theorem nf_f_X11_posts (x1 : Int32) (x2 : Int32) (I : WI) (F : WF) : f_X11_posts x1 x2 I F = (bnd (upd I 0 (nI 0)) fun I_1524 =>
  Option.bind (f_X11_isJumper x1 I_1524 F) fun c_1525 =>
  if c_1525 = (nI 0) then (some ((-1000000001 : Int32), I_1524, F))
  else (bnd (fun (_u : Unit) => Option.bind (f_X11_givesPosts x1 I_1524 F) fun c_1551 =>
  if x2 = (-1 : Int32) then (some ((c_1551 12 0), I_1524, c_1551))
  else (bnd (nI 0) fun x3_1552 =>
  bnd (-1 : Int32) fun x4_1553 =>
  bnd (nI 0) fun x5_1554 =>
  L_X11_posts_54 (fun x4_1573 => some (x4_1573, I_1524, c_1551)) x1 x2 I_1524 c_1551 FU x3_1552 x4_1553 x5_1554)) fun j29_1526 =>
  if x2 = (-1 : Int32) then (j29_1526 ())
  else (Option.bind (f_X11_isBridge x2 I_1524 F) fun c_1574 =>
  if c_1574 = (nI 0) then (some ((-1000000001 : Int32), I_1524, F))
  else (j29_1526 ())))) := rfl
theorem nf_L_X11_tires_41 (k : Option (Int32 × WI)) (x1 : Int32) (x2 : Int32) (x3 : Int32) (I : WI) (F : WF) (n : Nat) (x4 : Int32) : L_X11_tires_41 k x1 x2 x3 I F (n + 1) x4 = (ixG ((nI 33) + x3) 134 (
  if (nI 99) < ((F 3 ((nI 33) + x3).toNatClampNeg) + x4) then (k)
  else (ixG ((nI 33) + x3) 134 (
  Option.bind (f_X11_timeBy x3 ((F 3 ((nI 33) + x3).toNatClampNeg) + x4) I F) fun c_1581 =>
  Option.bind (f_X11_flightOf x1 x2 I F) fun c_1582 =>
  if c_1581 ≤ c_1582 then (bnd (x4 + (nI 1)) fun x4_1583 =>
  L_X11_tires_41 k x1 x2 x3 I F n x4_1583)
  else (some (x4, I)))))) := rfl
theorem nf_f_X11_tires (x1 : Int32) (x2 : Int32) (I : WI) (F : WF) : f_X11_tires x1 x2 I F = (bnd (upd I 0 (nI 0)) fun I_1575 =>
  Option.bind (f_X11_isJumper x1 I_1575 F) fun c_1576 =>
  if c_1576 = (nI 0) then (some ((-1000000001 : Int32), I_1575))
  else (Option.bind (f_X11_isBridge x2 I_1575 F) fun c_1577 =>
  if c_1577 = (nI 0) then (some ((-1000000001 : Int32), I_1575))
  else (Option.bind (f_X11_keeperAt x2 I_1575 F) fun c_1578 =>
  bnd c_1578 fun x3_1579 =>
  if x3_1579 = (-1 : Int32) then (some ((-1000000003 : Int32), I_1575))
  else (bnd (nI 0) fun x4_1580 =>
  L_X11_tires_41 (some ((-1 : Int32), I_1575)) x1 x2 x3_1579 I_1575 F FU x4_1580)))) := rfl
theorem nf_L_X11_ones_4 (k : Int32 → Option (Int32)) (x0 : Int32) (n : Nat) (x1 : Int32) (x2 : Int32) : L_X11_ones_4 k x0 (n + 1) x1 x2 = (if (nI 9) ≤ x2 then (k x1)
  else (bnd (x1 + ((x0 >>> (x2 &&& nI 31)) &&& (nI 1))) fun x1_1593 =>
  bnd (x2 + (nI 1)) fun x2_1594 =>
  L_X11_ones_4 k x0 n x1_1593 x2_1594)) := rfl
theorem nf_f_X11_ones (x0 : Int32) : f_X11_ones x0 = (bnd (nI 0) fun x1_1591 =>
  bnd (nI 0) fun x2_1592 =>
  L_X11_ones_4 (fun x1_1595 => some x1_1595) x0 FU x1_1591 x2_1592) := rfl
theorem nf_L_X11_parted_40 (k : Int32 → WF → Option (Int32 × WI × WF)) (x1 : Int32) (x2 : Int32) (I : WI) (n : Nat) (x3 : Int32) (x4 : Int32) (F : WF) : L_X11_parted_40 k x1 x2 I (n + 1) x3 x4 F = (if x4 < (nI 0) then (k x3 F)
  else (Option.bind (f_X11_ones x4) fun c_1596 =>
  Option.bind (f_X11_ones x3) fun c_1597 =>
  bnd (fun (s_1599 : Int32) (F_1600 : WF) => bnd s_1599 fun x3_1601 =>
  bnd (x4 + (-1 : Int32)) fun x4_1602 =>
  L_X11_parted_40 k x1 x2 I n x3_1601 x4_1602 F_1600) fun j81_1598 =>
  bnd (fun (F_1604 : WF) => j81_1598 x3 F_1604) fun j80_1603 =>
  if c_1597 < c_1596 then (j80_1603 F)
  else (Option.bind (f_X11_allBridges I F) fun c_1605 =>
  Option.bind (f_X11_isWay x1 x2 (c_1605 &&& (x4 ^^^ (-1 : Int32))) I F) fun c_1606 =>
  if c_1606.1 = (nI 0) then (j81_1598 x4 c_1606.2)
  else (j80_1603 c_1606.2)))) := rfl
theorem nf_f_X11_parted (x1 : Int32) (x2 : Int32) (I : WI) (F : WF) : f_X11_parted x1 x2 I F = (bnd (upd I 0 (nI 0)) fun I_1584 =>
  Option.bind (f_X11_isPlace x1 I_1584 F) fun c_1585 =>
  if c_1585 = (nI 0) then (some ((-1000000001 : Int32), I_1584, F))
  else (Option.bind (f_X11_isPlace x2 I_1584 F) fun c_1586 =>
  if c_1586 = (nI 0) then (some ((-1000000001 : Int32), I_1584, F))
  else (if x1 = x2 then (some ((-1000000001 : Int32), I_1584, F))
  else (Option.bind (f_X11_allBridges I_1584 F) fun c_1587 =>
  bnd c_1587 fun x3_1588 =>
  Option.bind (f_X11_allBridges I_1584 F) fun c_1589 =>
  bnd c_1589 fun x4_1590 =>
  L_X11_parted_40 (fun x3_1607 F_1608 => some (x3_1607, I_1584, F_1608)) x1 x2 I_1584 FU x3_1588 x4_1590 F)))) := rfl
theorem nf_L_X11_chanceOf_7 (k : Int64 → Option (Int64)) (x0 : Int32) (x1 : Int32) (n : Nat) (x2 : Int64) (x4 : Int32) : L_X11_chanceOf_7 k x0 x1 (n + 1) x2 x4 = (if x0 ≤ x4 then (k x2)
  else (bnd ((x2 * x1.toInt64) / (100 : Int64)) fun x2_1616 =>
  bnd (x4 + (nI 1)) fun x4_1617 =>
  L_X11_chanceOf_7 k x0 x1 n x2_1616 x4_1617)) := rfl
theorem nf_f_X11_chanceOf (x0 : Int32) (x1 : Int32) : f_X11_chanceOf x0 x1 = (bnd (1000000000 : Int64) fun x2_1614 =>
  bnd (nI 0) fun x4_1615 =>
  L_X11_chanceOf_7 (fun x2_1618 => some x2_1618) x0 x1 FU x2_1614 x4_1615) := rfl
theorem nf_L_X11_pays_33 (k : Int32 → Option (Int32 × WI)) (x1 : Int32) (x2 : Int32) (I : WI) (F : WF) (n : Nat) (x3 : Int32) (x4 : Int32) : L_X11_pays_33 k x1 x2 I F (n + 1) x3 x4 = (if (nI 30) < x4 then (k x3)
  else (Option.bind (f_X11_chanceOf x4 x2) fun c_1619 =>
  Option.bind (f_X11_chanceOf x3 x2) fun c_1620 =>
  bnd (fun (s_1622 : Int32) => bnd s_1622 fun x3_1623 =>
  bnd (x4 + (nI 1)) fun x4_1624 =>
  L_X11_pays_33 k x1 x2 I F n x3_1623 x4_1624) fun j74_1621 =>
  if (lg_cmp ((x4.toInt64 * x1.toInt64) * c_1619) ((x3.toInt64 * x1.toInt64) * c_1620)) ≤ (nI 0) then (j74_1621 x3)
  else (j74_1621 x4))) := rfl
theorem nf_f_X11_pays (x1 : Int32) (x2 : Int32) (I : WI) (F : WF) : f_X11_pays x1 x2 I F = (bnd (upd I 0 (nI 0)) fun I_1609 =>
  Option.bind (f_X11_in x1 (nI 1) (nI 99)) fun c_1610 =>
  if c_1610 = (nI 0) then (some ((-1000000002 : Int32), I_1609))
  else (Option.bind (f_X11_in x2 (nI 0) (nI 100)) fun c_1611 =>
  if c_1611 = (nI 0) then (some ((-1000000002 : Int32), I_1609))
  else (bnd (nI 0) fun x3_1612 =>
  bnd (nI 1) fun x4_1613 =>
  L_X11_pays_33 (fun x3_1625 => some (x3_1625, I_1609)) x1 x2 I_1609 F FU x3_1612 x4_1613))) := rfl
theorem nf_f_X11_exact (x1 : Int32) (x2 : Int32) (I : WI) (F : WF) : f_X11_exact x1 x2 I F = (bnd (upd I 0 (nI 0)) fun I_1626 =>
  Option.bind (f_X11_in x1 (nI 0) (nI 60)) fun c_1627 =>
  if c_1627 = (nI 0) then (some ((-1000000002 : Int32), I_1626))
  else (Option.bind (f_X11_in x2 (nI 0) (nI 100)) fun c_1628 =>
  if c_1628 = (nI 0) then (some ((-1000000002 : Int32), I_1626))
  else (Option.bind (f_X11_chanceOf x1 x2) fun c_1629 =>
  some (c_1629.toInt32, I_1626)))) := rfl
theorem nf_f_X11_see (x1 : Int32) (x2 : Int32) (I : WI) (F : WF) : f_X11_see x1 x2 I F = (bnd (upd I 0 (nI 0)) fun I_1630 =>
  Option.bind (f_X11_in x1 (nI 0) (nI 40)) fun c_1631 =>
  if c_1631 = (nI 0) then (some ((-1000000002 : Int32), I_1630, F))
  else (if (I_1630 7) = (nI 6) then (some ((-1000000004 : Int32), I_1630, F))
  else (ixG (I_1630 7) 6 (bnd (uF F 7 (upd (F 7) (I_1630 7).toNatClampNeg x1)) fun F_1632 =>
  ixG (I_1630 7) 6 (bnd (uF F_1632 8 (upd (F_1632 8) (I_1630 7).toNatClampNeg (vp_nar .boolean x2))) fun F_1633 =>
  bnd (upd I_1630 7 ((I_1630 7) + (nI 1))) fun I_1634 =>
  some ((I_1634 7), I_1634, F_1633)))))) := rfl
theorem nf_L_X11_isAsSeen_4 (k : Int32 → Option (Int32)) (x1 : Int32) (I : WI) (F : WF) (n : Nat) (x2 : Int32) (x3 : Int32) : L_X11_isAsSeen_4 k x1 I F (n + 1) x2 x3 = (if (I 7) ≤ x3 then (k x2)
  else (bnd (fun (s_1644 : Int32) => bnd s_1644 fun x2_1645 =>
  bnd (x3 + (nI 1)) fun x3_1646 =>
  L_X11_isAsSeen_4 k x1 I F n x2_1645 x3_1646) fun j45_1643 =>
  bnd (fun (_u : Unit) => j45_1643 (nI 0)) fun j44_1647 =>
  if x2 = (nI 0) then (j44_1647 ())
  else (ixG x3 6 (
  bnd (fun (s_1649 : Int32) => ixG x3 6 (
  if s_1649 = (F 8 x3.toNatClampNeg) then (j45_1643 (nI 1))
  else (j44_1647 ()))) fun j31_1648 =>
  if (F 7 x3.toNatClampNeg) < x1 then (j31_1648 (nI 0))
  else (j31_1648 (nI 1)))))) := rfl
theorem nf_f_X11_isAsSeen (x1 : Int32) (I : WI) (F : WF) : f_X11_isAsSeen x1 I F = (bnd (nI 1) fun x2_1641 =>
  bnd (nI 0) fun x3_1642 =>
  L_X11_isAsSeen_4 (fun x2_1650 => bzG x2_1650 (some x2_1650)) x1 I F FU x2_1641 x3_1642) := rfl
theorem nf_L_X11_quick_27 (k : Int32 → Int32 → Int32 → Option (Int32 × WI)) (x1 : Int32) (I : WI) (F : WF) (n : Nat) (x2 : Int32) (x3 : Int32) (x4 : Int32) (x5 : Int32) : L_X11_quick_27 k x1 I F (n + 1) x2 x3 x4 x5 = (if (nI 40) < x5 then (k x2 x3 x4)
  else (Option.bind (f_X11_isAsSeen x5 I F) fun c_1652 =>
  bnd (fun (x2_1654 : Int32) (x3_1655 : Int32) (x4_1656 : Int32) => bnd (x5 + (nI 1)) fun x5_1657 =>
  L_X11_quick_27 k x1 I F n x2_1654 x3_1655 x4_1656 x5_1657) fun j61_1653 =>
  if c_1652 = (nI 0) then (j61_1653 x2 x3 x4)
  else (bnd (fun (s_1659 : Int32) => bnd s_1659 fun x3_1660 =>
  bnd x5 fun x4_1661 =>
  bnd (x2 + (nI 1)) fun x2_1662 =>
  j61_1653 x2_1662 x3_1660 x4_1661) fun j53_1658 =>
  if x2 = (nI 0) then (j53_1658 x5)
  else (j53_1658 x3)))) := rfl
theorem nf_f_X11_quick (x1 : Int32) (I : WI) (F : WF) : f_X11_quick x1 I F = (bnd (upd I 0 (nI 0)) fun I_1635 =>
  Option.bind (f_X11_in x1 (nI 0) (nI 2)) fun c_1636 =>
  if c_1636 = (nI 0) then (some ((-1000000002 : Int32), I_1635))
  else (bnd (nI 0) fun x2_1637 =>
  bnd (-1 : Int32) fun x3_1638 =>
  bnd (-1 : Int32) fun x4_1639 =>
  bnd (nI 1) fun x5_1640 =>
  L_X11_quick_27 (fun x2_1663 x3_1664 x4_1665 => if x1 = (nI 0) then (some (x2_1663, I_1635))
  else (if x1 = (nI 1) then (some (x3_1664, I_1635))
  else (some (x4_1665, I_1635)))) x1 I_1635 F FU x2_1637 x3_1638 x4_1639 x5_1640)) := rfl
theorem nf_L_X11_watch_9 (k : Int32 → Option (Int32 × WI))  (I : WI) (F : WF) (n : Nat) (x1 : Int32) (x2 : Int32) : L_X11_watch_9 k I F (n + 1) x1 x2 = (if (nI 40) < x2 then (k x1)
  else (Option.bind (f_X11_isAsSeen x2 I F) fun c_1669 =>
  bnd (fun (s_1671 : Int32) => bnd (x1 + s_1671) fun x1_1672 =>
  bnd (x2 + (nI 1)) fun x2_1673 =>
  L_X11_watch_9 k I F n x1_1672 x2_1673) fun j29_1670 =>
  if c_1669 = (nI 0) then (j29_1670 (nI 0))
  else (j29_1670 (nI 1)))) := rfl
theorem nf_L_X11_watch_57 (k : Int32 → Option (Int32 × WI)) (x1 : Int32) (x2 : Int32) (x3 : Int32) (x4 : Int32) (I : WI) (F : WF) (n : Nat) (x5 : Int32) (x6 : Int32) : L_X11_watch_57 k x1 x2 x3 x4 I F (n + 1) x5 x6 = (if x4 < x6 then (k x5)
  else (Option.bind (f_X11_isAsSeen x6 I F) fun c_1680 =>
  bnd (fun (s_1682 : Int32) => bnd (x5 + s_1682) fun x5_1683 =>
  bnd (x6 + (nI 1)) fun x6_1684 =>
  L_X11_watch_57 k x1 x2 x3 x4 I F n x5_1683 x6_1684) fun j80_1681 =>
  if c_1680 = (nI 0) then (j80_1681 (nI 0))
  else (j80_1681 (nI 1)))) := rfl
theorem nf_L_X11_watch_44 (k : Int32 → Option (Int32 × WI)) (x1 : Int32) (I : WI) (F : WF) (n : Nat) (x2 : Int32) (x3 : Int32) (x4 : Int32) : L_X11_watch_44 k x1 I F (n + 1) x2 x3 x4 = (if (nI 40) < x4 then (k x2)
  else (bnd (nI 0) fun x5_1678 =>
  bnd (nI 1) fun x6_1679 =>
  L_X11_watch_57 (fun x5_1685 => bnd (fun (s_1687 : Int32) => bnd s_1687 fun x6_1688 =>
  bnd (fun (s_1690 : Int32) => bnd s_1690 fun x2_1691 =>
  bnd (fun (s_1693 : Int32) => bnd s_1693 fun x3_1694 =>
  bnd (x4 + (nI 1)) fun x4_1695 =>
  L_X11_watch_44 k x1 I F n x2_1691 x3_1694 x4_1695) fun j134_1692 =>
  if x3 ≤ x6_1688 then (j134_1692 x3)
  else (j134_1692 x6_1688)) fun j121_1689 =>
  if x3 ≤ x6_1688 then (j121_1689 x2)
  else (j121_1689 x4)) fun j107_1686 =>
  if x5_1685 ≤ (x1 - x5_1685) then (j107_1686 (x1 - x5_1685))
  else (j107_1686 x5_1685)) x1 x2 x3 x4 I F FU x5_1678 x6_1679)) := rfl
theorem nf_f_X11_watch (I : WI) (F : WF) : f_X11_watch I F = (bnd (upd I 0 (nI 0)) fun I_1666 =>
  bnd (nI 0) fun x1_1667 =>
  bnd (nI 1) fun x2_1668 =>
  L_X11_watch_9 (fun x1_1674 => bnd (-1 : Int32) fun x2_1675 =>
  bnd x1_1674 fun x3_1676 =>
  bnd (nI 0) fun x4_1677 =>
  L_X11_watch_44 (fun x2_1696 => some (x2_1696, I_1666)) x1_1674 I_1666 F FU x2_1675 x3_1676 x4_1677) I_1666 F FU x1_1667 x2_1668) := rfl
theorem nf_f_X11_write (x1 : Int32) (x2 : Int32) (I : WI) (F : WF) : f_X11_write x1 x2 I F = (bnd (upd I 0 (nI 0)) fun I_1697 =>
  Option.bind (f_X11_isJumper x1 I_1697 F) fun c_1698 =>
  if c_1698 = (nI 0) then (some ((-1000000001 : Int32), I_1697, F))
  else (Option.bind (f_X11_isPlace x2 I_1697 F) fun c_1699 =>
  if c_1699 = (nI 0) then (some ((-1000000001 : Int32), I_1697, F))
  else (if (I_1697 8) = (nI 15) then (some ((-1000000004 : Int32), I_1697, F))
  else (ixG (I_1697 8) 15 (bnd (uF F 9 (upd (F 9) (I_1697 8).toNatClampNeg x1)) fun F_1700 =>
  ixG (I_1697 8) 15 (bnd (uF F_1700 10 (upd (F_1700 10) (I_1697 8).toNatClampNeg x2)) fun F_1701 =>
  bnd (upd I_1697 8 ((I_1697 8) + (nI 1))) fun I_1702 =>
  some ((I_1702 8), I_1702, F_1701))))))) := rfl
theorem nf_f_X11_tear (I : WI) (F : WF) : f_X11_tear I F = (bnd (upd I 0 (nI 0)) fun I_1703 =>
  bnd ((I_1703 7) + (I_1703 8)) fun x1_1704 =>
  bnd (upd I_1703 7 (nI 0)) fun I_1705 =>
  bnd (upd I_1705 8 (nI 0)) fun I_1706 =>
  some (x1_1704, I_1706)) := rfl
theorem nf_L_X11_judge_7 (k : Option (Int32 × WI))  (I : WI) (F : WF) (n : Nat) (x1 : Int32) : L_X11_judge_7 k I F (n + 1) x1 = (if (I 8) ≤ x1 then (k)
  else (ixG x1 15 (
  ixG ((nI 0) + (F 9 x1.toNatClampNeg)) 134 (
  ixG x1 15 (
  if (F 3 ((nI 0) + (F 9 x1.toNatClampNeg)).toNatClampNeg) = (F 10 x1.toNatClampNeg) then (bnd (x1 + (nI 1)) fun x1_1709 =>
  L_X11_judge_7 k I F n x1_1709)
  else (some (x1, I))))))) := rfl
theorem nf_f_X11_judge (I : WI) (F : WF) : f_X11_judge I F = (bnd (upd I 0 (nI 0)) fun I_1707 =>
  bnd (nI 0) fun x1_1708 =>
  L_X11_judge_7 (some ((-1 : Int32), I_1707)) I_1707 F FU x1_1708) := rfl
theorem nf_f_X11_seed (x1 : Int32) (I : WI) (F : WF) : f_X11_seed x1 I F = (bnd (upd I 0 (nI 0)) fun I_1710 =>
  if (nI 0) ≤ x1 then (bnd (F 3 133) fun x2_1711 =>
  bnd (uF F 3 (upd (F 3) 133 x1)) fun F_1712 =>
  some (x2_1711, I_1710, F_1712))
  else (some ((-1000000002 : Int32), I_1710, F))) := rfl
theorem nf_L_X11_keep_19 (k : WF → Option (Int32 × WI × WF)) (x1 : Int32) (I : WI) (n : Nat) (x2 : Int32) (F : WF) : L_X11_keep_19 k x1 I (n + 1) x2 F = (if (nI 134) ≤ x2 then (k F)
  else (ixG x2 134 (
  ixG (((nI 134) * x1) + x2) 268 (bnd (uF F 4 (upd (F 4) (((nI 134) * x1) + x2).toNatClampNeg (F 3 x2.toNatClampNeg))) fun F_1716 =>
  bnd (x2 + (nI 1)) fun x2_1717 =>
  L_X11_keep_19 k x1 I n x2_1717 F_1716)))) := rfl
theorem nf_f_X11_keep (x1 : Int32) (I : WI) (F : WF) : f_X11_keep x1 I F = (bnd (upd I 0 (nI 0)) fun I_1713 =>
  Option.bind (f_X11_in x1 (nI 0) (nI 1)) fun c_1714 =>
  if c_1714 = (nI 0) then (some ((-1000000001 : Int32), I_1713, F))
  else (bnd (nI 0) fun x2_1715 =>
  L_X11_keep_19 (fun F_1718 => ixG x1 2 (bnd (uF F_1718 5 (upd (F_1718 5) x1.toNatClampNeg (vp_nar .boolean (nI 1)))) fun F_1719 =>
  bnd (upd I_1713 6 (nI 0)) fun I_1720 =>
  some ((nI 1), I_1720, F_1719))) x1 I_1713 FU x2_1715 F)) := rfl
theorem nf_L_X11_goBack_31 (k : WF → Option (Int32 × WI × WF)) (x1 : Int32) (I : WI) (n : Nat) (x2 : Int32) (F : WF) : L_X11_goBack_31 k x1 I (n + 1) x2 F = (if (nI 134) ≤ x2 then (k F)
  else (ixG (((nI 134) * x1) + x2) 268 (
  ixG x2 134 (bnd (uF F 3 (upd (F 3) x2.toNatClampNeg (F 4 (((nI 134) * x1) + x2).toNatClampNeg))) fun F_1724 =>
  bnd (x2 + (nI 1)) fun x2_1725 =>
  L_X11_goBack_31 k x1 I n x2_1725 F_1724)))) := rfl
theorem nf_f_X11_goBack (x1 : Int32) (I : WI) (F : WF) : f_X11_goBack x1 I F = (bnd (upd I 0 (nI 0)) fun I_1721 =>
  Option.bind (f_X11_in x1 (nI 0) (nI 1)) fun c_1722 =>
  if c_1722 = (nI 0) then (some ((-1000000001 : Int32), I_1721, F))
  else (ixG x1 2 (
  if (F 5 x1.toNatClampNeg) = (nI 0) then (some ((-1000000003 : Int32), I_1721, F))
  else (bnd (nI 0) fun x2_1723 =>
  L_X11_goBack_31 (fun F_1726 => bnd (upd I_1721 6 (nI 0)) fun I_1727 =>
  some ((nI 1), I_1727, F_1726)) x1 I_1721 FU x2_1723 F)))) := rfl
