noncomputable section
def f_X6_copyFrom_125_22 (I : WI) (F : WF) : Option (WI × WF) :=
  bnd (upd I 20 (I 0)) fun I_424 =>
  bnd (upd I_424 21 (I_424 1)) fun I_425 =>
  bnd (uF F 80 (va_cpy (F 0) (F 80) 0 0 9)) fun F_426 =>
  bnd (uF F_426 81 (va_cpy (F_426 1) (F_426 81) 0 0 9)) fun F_427 =>
  bnd (uF F_427 82 (va_cpy (F_427 2) (F_427 82) 0 0 9)) fun F_428 =>
  bnd (uF F_428 83 (va_cpy (F_428 3) (F_428 83) 0 0 6)) fun F_429 =>
  bnd (uF F_429 84 (va_cpy (F_429 4) (F_429 84) 0 0 6)) fun F_430 =>
  bnd (uF F_430 85 (va_cpy (F_430 5) (F_430 85) 0 0 6)) fun F_431 =>
  bnd (uF F_431 86 (va_cpy (F_431 6) (F_431 86) 0 0 6)) fun F_432 =>
  bnd (uF F_432 87 (va_cpy (F_432 7) (F_432 87) 0 0 20)) fun F_433 =>
  some (I_425, F_433)
set_option maxRecDepth 100000 in
set_option maxHeartbeats 4000000 in
theorem c_X6_copyFrom_125_22 {I : WI} {F : WF} {J : WI} {K : WF} {a : WI × WF} (h : f_X6_copyFrom_125_22  I F = some a) : CT md_X6_copyFrom yX6_copyFrom (rmD 1) [.ref 125, .ref 22] (mkW I F J K) none (mkW a.1 a.2 J K) := CT_of pn_X6 ⟨rfl, rfl⟩ (Nat.le_of_ble_eq_true rfl) (fun X => by
  show GG X md_X6_copyFrom (rmD 1) _ 0 0 0 [(0, .ref 125), (1, .ref 22)] [] (mkW I F J K)
  unfold f_X6_copyFrom_125_22 at h
  refine G_aload_n (pc2 := 1) 0 rfl dX6_copyFrom_0 rfl rfl ?_
  refine G_aload_n (pc2 := 2) 1 rfl dX6_copyFrom_1 rfl rfl ?_
  refine T_22_0 (pc2 := 5) kw_207 dX6_copyFrom_2 rfl ?_
  refine P_125_0 (pc2 := 8) h kw_207 dX6_copyFrom_5 rfl (fun I_424 h => ?_)
  refine G_aload_n (pc2 := 9) 0 rfl dX6_copyFrom_8 rfl rfl ?_
  refine G_aload_n (pc2 := 10) 1 rfl dX6_copyFrom_9 rfl rfl ?_
  refine T_22_1 (pc2 := 13) kw_210 dX6_copyFrom_10 rfl ?_
  refine P_125_1 (pc2 := 16) h kw_210 dX6_copyFrom_13 rfl (fun I_425 h => ?_)
  refine G_aload_n (pc2 := 17) 1 rfl dX6_copyFrom_16 rfl rfl ?_
  refine T_22_2 (pc2 := 20) kw_212 dX6_copyFrom_17 rfl ?_
  refine G_iconst (pc2 := 21) dX6_copyFrom_20 ic_0 rfl ?_
  refine G_aload_n (pc2 := 22) 0 rfl dX6_copyFrom_21 rfl rfl ?_
  refine T_125_2 (pc2 := 25) kw_212 dX6_copyFrom_22 rfl ?_
  refine G_iconst (pc2 := 26) dX6_copyFrom_25 ic_0 rfl ?_
  refine G_bipush (pc2 := 28) dX6_copyFrom_26 ib_9 rfl ?_
  refine YC (pc2 := 31) (fa_23 _ _ _ _) (fa_126 _ _ _ _) h kw_680 (by decide) cl_9 ⟨by decide, by decide⟩ (Nat.le_of_ble_eq_true rfl) dX6_copyFrom_28 rfl (fun F_426 h => ?_)
  refine G_aload_n (pc2 := 32) 1 rfl dX6_copyFrom_31 rfl rfl ?_
  refine T_22_3 (pc2 := 35) kw_215 dX6_copyFrom_32 rfl ?_
  refine G_iconst (pc2 := 36) dX6_copyFrom_35 ic_0 rfl ?_
  refine G_aload_n (pc2 := 37) 0 rfl dX6_copyFrom_36 rfl rfl ?_
  refine T_125_3 (pc2 := 40) kw_215 dX6_copyFrom_37 rfl ?_
  refine G_iconst (pc2 := 41) dX6_copyFrom_40 ic_0 rfl ?_
  refine G_bipush (pc2 := 43) dX6_copyFrom_41 ib_9 rfl ?_
  refine YC (pc2 := 46) (fa_24 _ _ _ _) (fa_127 _ _ _ _) h kw_680 (by decide) cl_9 ⟨by decide, by decide⟩ (Nat.le_of_ble_eq_true rfl) dX6_copyFrom_43 rfl (fun F_427 h => ?_)
  refine G_aload_n (pc2 := 47) 1 rfl dX6_copyFrom_46 rfl rfl ?_
  refine T_22_4 (pc2 := 50) kw_218 dX6_copyFrom_47 rfl ?_
  refine G_iconst (pc2 := 51) dX6_copyFrom_50 ic_0 rfl ?_
  refine G_aload_n (pc2 := 52) 0 rfl dX6_copyFrom_51 rfl rfl ?_
  refine T_125_4 (pc2 := 55) kw_218 dX6_copyFrom_52 rfl ?_
  refine G_iconst (pc2 := 56) dX6_copyFrom_55 ic_0 rfl ?_
  refine G_bipush (pc2 := 58) dX6_copyFrom_56 ib_9 rfl ?_
  refine YC (pc2 := 61) (fa_25 _ _ _ _) (fa_128 _ _ _ _) h kw_680 (by decide) cl_9 ⟨by decide, by decide⟩ (Nat.le_of_ble_eq_true rfl) dX6_copyFrom_58 rfl (fun F_428 h => ?_)
  refine G_aload_n (pc2 := 62) 1 rfl dX6_copyFrom_61 rfl rfl ?_
  refine T_22_5 (pc2 := 65) kw_221 dX6_copyFrom_62 rfl ?_
  refine G_iconst (pc2 := 66) dX6_copyFrom_65 ic_0 rfl ?_
  refine G_aload_n (pc2 := 67) 0 rfl dX6_copyFrom_66 rfl rfl ?_
  refine T_125_5 (pc2 := 70) kw_221 dX6_copyFrom_67 rfl ?_
  refine G_iconst (pc2 := 71) dX6_copyFrom_70 ic_0 rfl ?_
  refine G_bipush (pc2 := 73) dX6_copyFrom_71 ib_6 rfl ?_
  refine YC (pc2 := 76) (fa_26 _ _ _ _) (fa_129 _ _ _ _) h kw_680 (by decide) cl_6 ⟨by decide, by decide⟩ (Nat.le_of_ble_eq_true rfl) dX6_copyFrom_73 rfl (fun F_429 h => ?_)
  refine G_aload_n (pc2 := 77) 1 rfl dX6_copyFrom_76 rfl rfl ?_
  refine T_22_6 (pc2 := 80) kw_225 dX6_copyFrom_77 rfl ?_
  refine G_iconst (pc2 := 81) dX6_copyFrom_80 ic_0 rfl ?_
  refine G_aload_n (pc2 := 82) 0 rfl dX6_copyFrom_81 rfl rfl ?_
  refine T_125_6 (pc2 := 85) kw_225 dX6_copyFrom_82 rfl ?_
  refine G_iconst (pc2 := 86) dX6_copyFrom_85 ic_0 rfl ?_
  refine G_bipush (pc2 := 88) dX6_copyFrom_86 ib_6 rfl ?_
  refine YC (pc2 := 91) (fa_27 _ _ _ _) (fa_130 _ _ _ _) h kw_680 (by decide) cl_6 ⟨by decide, by decide⟩ (Nat.le_of_ble_eq_true rfl) dX6_copyFrom_88 rfl (fun F_430 h => ?_)
  refine G_aload_n (pc2 := 92) 1 rfl dX6_copyFrom_91 rfl rfl ?_
  refine T_22_7 (pc2 := 95) kw_228 dX6_copyFrom_92 rfl ?_
  refine G_iconst (pc2 := 96) dX6_copyFrom_95 ic_0 rfl ?_
  refine G_aload_n (pc2 := 97) 0 rfl dX6_copyFrom_96 rfl rfl ?_
  refine T_125_7 (pc2 := 100) kw_228 dX6_copyFrom_97 rfl ?_
  refine G_iconst (pc2 := 101) dX6_copyFrom_100 ic_0 rfl ?_
  refine G_bipush (pc2 := 103) dX6_copyFrom_101 ib_6 rfl ?_
  refine YC (pc2 := 106) (fa_28 _ _ _ _) (fa_131 _ _ _ _) h kw_680 (by decide) cl_6 ⟨by decide, by decide⟩ (Nat.le_of_ble_eq_true rfl) dX6_copyFrom_103 rfl (fun F_431 h => ?_)
  refine G_aload_n (pc2 := 107) 1 rfl dX6_copyFrom_106 rfl rfl ?_
  refine T_22_8 (pc2 := 110) kw_231 dX6_copyFrom_107 rfl ?_
  refine G_iconst (pc2 := 111) dX6_copyFrom_110 ic_0 rfl ?_
  refine G_aload_n (pc2 := 112) 0 rfl dX6_copyFrom_111 rfl rfl ?_
  refine T_125_8 (pc2 := 115) kw_231 dX6_copyFrom_112 rfl ?_
  refine G_iconst (pc2 := 116) dX6_copyFrom_115 ic_0 rfl ?_
  refine G_bipush (pc2 := 118) dX6_copyFrom_116 ib_6 rfl ?_
  refine YC (pc2 := 121) (fa_29 _ _ _ _) (fa_132 _ _ _ _) h kw_680 (by decide) cl_6 ⟨by decide, by decide⟩ (Nat.le_of_ble_eq_true rfl) dX6_copyFrom_118 rfl (fun F_432 h => ?_)
  refine G_aload_n (pc2 := 122) 1 rfl dX6_copyFrom_121 rfl rfl ?_
  refine T_22_9 (pc2 := 125) kw_234 dX6_copyFrom_122 rfl ?_
  refine G_iconst (pc2 := 126) dX6_copyFrom_125 ic_0 rfl ?_
  refine G_aload_n (pc2 := 127) 0 rfl dX6_copyFrom_126 rfl rfl ?_
  refine T_125_9 (pc2 := 130) kw_234 dX6_copyFrom_127 rfl ?_
  refine G_iconst (pc2 := 131) dX6_copyFrom_130 ic_0 rfl ?_
  refine G_bipush (pc2 := 133) dX6_copyFrom_131 ib_20 rfl ?_
  refine YC (pc2 := 136) (fa_30 _ _ _ _) (fa_133 _ _ _ _) h kw_680 (by decide) cl_20 ⟨by decide, by decide⟩ (Nat.le_of_ble_eq_true rfl) dX6_copyFrom_133 rfl (fun F_433 h => ?_)
  have ha := Option.some.inj h
  subst ha
  exact G_vret rfl dX6_copyFrom_136)
def f_X6_copyFrom_134_22 (I : WI) (F : WF) : Option (WI × WF) :=
  bnd (upd I 22 (I 0)) fun I_438 =>
  bnd (upd I_438 23 (I_438 1)) fun I_439 =>
  bnd (uF F 88 (va_cpy (F 0) (F 88) 0 0 9)) fun F_440 =>
  bnd (uF F_440 89 (va_cpy (F_440 1) (F_440 89) 0 0 9)) fun F_441 =>
  bnd (uF F_441 90 (va_cpy (F_441 2) (F_441 90) 0 0 9)) fun F_442 =>
  bnd (uF F_442 91 (va_cpy (F_442 3) (F_442 91) 0 0 6)) fun F_443 =>
  bnd (uF F_443 92 (va_cpy (F_443 4) (F_443 92) 0 0 6)) fun F_444 =>
  bnd (uF F_444 93 (va_cpy (F_444 5) (F_444 93) 0 0 6)) fun F_445 =>
  bnd (uF F_445 94 (va_cpy (F_445 6) (F_445 94) 0 0 6)) fun F_446 =>
  bnd (uF F_446 95 (va_cpy (F_446 7) (F_446 95) 0 0 20)) fun F_447 =>
  some (I_439, F_447)
set_option maxRecDepth 100000 in
set_option maxHeartbeats 4000000 in
theorem c_X6_copyFrom_134_22 {I : WI} {F : WF} {J : WI} {K : WF} {a : WI × WF} (h : f_X6_copyFrom_134_22  I F = some a) : CT md_X6_copyFrom yX6_copyFrom (rmD 1) [.ref 134, .ref 22] (mkW I F J K) none (mkW a.1 a.2 J K) := CT_of pn_X6 ⟨rfl, rfl⟩ (Nat.le_of_ble_eq_true rfl) (fun X => by
  show GG X md_X6_copyFrom (rmD 1) _ 0 0 0 [(0, .ref 134), (1, .ref 22)] [] (mkW I F J K)
  unfold f_X6_copyFrom_134_22 at h
  refine G_aload_n (pc2 := 1) 0 rfl dX6_copyFrom_0 rfl rfl ?_
  refine G_aload_n (pc2 := 2) 1 rfl dX6_copyFrom_1 rfl rfl ?_
  refine T_22_0 (pc2 := 5) kw_207 dX6_copyFrom_2 rfl ?_
  refine P_134_0 (pc2 := 8) h kw_207 dX6_copyFrom_5 rfl (fun I_438 h => ?_)
  refine G_aload_n (pc2 := 9) 0 rfl dX6_copyFrom_8 rfl rfl ?_
  refine G_aload_n (pc2 := 10) 1 rfl dX6_copyFrom_9 rfl rfl ?_
  refine T_22_1 (pc2 := 13) kw_210 dX6_copyFrom_10 rfl ?_
  refine P_134_1 (pc2 := 16) h kw_210 dX6_copyFrom_13 rfl (fun I_439 h => ?_)
  refine G_aload_n (pc2 := 17) 1 rfl dX6_copyFrom_16 rfl rfl ?_
  refine T_22_2 (pc2 := 20) kw_212 dX6_copyFrom_17 rfl ?_
  refine G_iconst (pc2 := 21) dX6_copyFrom_20 ic_0 rfl ?_
  refine G_aload_n (pc2 := 22) 0 rfl dX6_copyFrom_21 rfl rfl ?_
  refine T_134_2 (pc2 := 25) kw_212 dX6_copyFrom_22 rfl ?_
  refine G_iconst (pc2 := 26) dX6_copyFrom_25 ic_0 rfl ?_
  refine G_bipush (pc2 := 28) dX6_copyFrom_26 ib_9 rfl ?_
  refine YC (pc2 := 31) (fa_23 _ _ _ _) (fa_135 _ _ _ _) h kw_680 (by decide) cl_9 ⟨by decide, by decide⟩ (Nat.le_of_ble_eq_true rfl) dX6_copyFrom_28 rfl (fun F_440 h => ?_)
  refine G_aload_n (pc2 := 32) 1 rfl dX6_copyFrom_31 rfl rfl ?_
  refine T_22_3 (pc2 := 35) kw_215 dX6_copyFrom_32 rfl ?_
  refine G_iconst (pc2 := 36) dX6_copyFrom_35 ic_0 rfl ?_
  refine G_aload_n (pc2 := 37) 0 rfl dX6_copyFrom_36 rfl rfl ?_
  refine T_134_3 (pc2 := 40) kw_215 dX6_copyFrom_37 rfl ?_
  refine G_iconst (pc2 := 41) dX6_copyFrom_40 ic_0 rfl ?_
  refine G_bipush (pc2 := 43) dX6_copyFrom_41 ib_9 rfl ?_
  refine YC (pc2 := 46) (fa_24 _ _ _ _) (fa_136 _ _ _ _) h kw_680 (by decide) cl_9 ⟨by decide, by decide⟩ (Nat.le_of_ble_eq_true rfl) dX6_copyFrom_43 rfl (fun F_441 h => ?_)
  refine G_aload_n (pc2 := 47) 1 rfl dX6_copyFrom_46 rfl rfl ?_
  refine T_22_4 (pc2 := 50) kw_218 dX6_copyFrom_47 rfl ?_
  refine G_iconst (pc2 := 51) dX6_copyFrom_50 ic_0 rfl ?_
  refine G_aload_n (pc2 := 52) 0 rfl dX6_copyFrom_51 rfl rfl ?_
  refine T_134_4 (pc2 := 55) kw_218 dX6_copyFrom_52 rfl ?_
  refine G_iconst (pc2 := 56) dX6_copyFrom_55 ic_0 rfl ?_
  refine G_bipush (pc2 := 58) dX6_copyFrom_56 ib_9 rfl ?_
  refine YC (pc2 := 61) (fa_25 _ _ _ _) (fa_137 _ _ _ _) h kw_680 (by decide) cl_9 ⟨by decide, by decide⟩ (Nat.le_of_ble_eq_true rfl) dX6_copyFrom_58 rfl (fun F_442 h => ?_)
  refine G_aload_n (pc2 := 62) 1 rfl dX6_copyFrom_61 rfl rfl ?_
  refine T_22_5 (pc2 := 65) kw_221 dX6_copyFrom_62 rfl ?_
  refine G_iconst (pc2 := 66) dX6_copyFrom_65 ic_0 rfl ?_
  refine G_aload_n (pc2 := 67) 0 rfl dX6_copyFrom_66 rfl rfl ?_
  refine T_134_5 (pc2 := 70) kw_221 dX6_copyFrom_67 rfl ?_
  refine G_iconst (pc2 := 71) dX6_copyFrom_70 ic_0 rfl ?_
  refine G_bipush (pc2 := 73) dX6_copyFrom_71 ib_6 rfl ?_
  refine YC (pc2 := 76) (fa_26 _ _ _ _) (fa_138 _ _ _ _) h kw_680 (by decide) cl_6 ⟨by decide, by decide⟩ (Nat.le_of_ble_eq_true rfl) dX6_copyFrom_73 rfl (fun F_443 h => ?_)
  refine G_aload_n (pc2 := 77) 1 rfl dX6_copyFrom_76 rfl rfl ?_
  refine T_22_6 (pc2 := 80) kw_225 dX6_copyFrom_77 rfl ?_
  refine G_iconst (pc2 := 81) dX6_copyFrom_80 ic_0 rfl ?_
  refine G_aload_n (pc2 := 82) 0 rfl dX6_copyFrom_81 rfl rfl ?_
  refine T_134_6 (pc2 := 85) kw_225 dX6_copyFrom_82 rfl ?_
  refine G_iconst (pc2 := 86) dX6_copyFrom_85 ic_0 rfl ?_
  refine G_bipush (pc2 := 88) dX6_copyFrom_86 ib_6 rfl ?_
  refine YC (pc2 := 91) (fa_27 _ _ _ _) (fa_139 _ _ _ _) h kw_680 (by decide) cl_6 ⟨by decide, by decide⟩ (Nat.le_of_ble_eq_true rfl) dX6_copyFrom_88 rfl (fun F_444 h => ?_)
  refine G_aload_n (pc2 := 92) 1 rfl dX6_copyFrom_91 rfl rfl ?_
  refine T_22_7 (pc2 := 95) kw_228 dX6_copyFrom_92 rfl ?_
  refine G_iconst (pc2 := 96) dX6_copyFrom_95 ic_0 rfl ?_
  refine G_aload_n (pc2 := 97) 0 rfl dX6_copyFrom_96 rfl rfl ?_
  refine T_134_7 (pc2 := 100) kw_228 dX6_copyFrom_97 rfl ?_
  refine G_iconst (pc2 := 101) dX6_copyFrom_100 ic_0 rfl ?_
  refine G_bipush (pc2 := 103) dX6_copyFrom_101 ib_6 rfl ?_
  refine YC (pc2 := 106) (fa_28 _ _ _ _) (fa_140 _ _ _ _) h kw_680 (by decide) cl_6 ⟨by decide, by decide⟩ (Nat.le_of_ble_eq_true rfl) dX6_copyFrom_103 rfl (fun F_445 h => ?_)
  refine G_aload_n (pc2 := 107) 1 rfl dX6_copyFrom_106 rfl rfl ?_
  refine T_22_8 (pc2 := 110) kw_231 dX6_copyFrom_107 rfl ?_
  refine G_iconst (pc2 := 111) dX6_copyFrom_110 ic_0 rfl ?_
  refine G_aload_n (pc2 := 112) 0 rfl dX6_copyFrom_111 rfl rfl ?_
  refine T_134_8 (pc2 := 115) kw_231 dX6_copyFrom_112 rfl ?_
  refine G_iconst (pc2 := 116) dX6_copyFrom_115 ic_0 rfl ?_
  refine G_bipush (pc2 := 118) dX6_copyFrom_116 ib_6 rfl ?_
  refine YC (pc2 := 121) (fa_29 _ _ _ _) (fa_141 _ _ _ _) h kw_680 (by decide) cl_6 ⟨by decide, by decide⟩ (Nat.le_of_ble_eq_true rfl) dX6_copyFrom_118 rfl (fun F_446 h => ?_)
  refine G_aload_n (pc2 := 122) 1 rfl dX6_copyFrom_121 rfl rfl ?_
  refine T_22_9 (pc2 := 125) kw_234 dX6_copyFrom_122 rfl ?_
  refine G_iconst (pc2 := 126) dX6_copyFrom_125 ic_0 rfl ?_
  refine G_aload_n (pc2 := 127) 0 rfl dX6_copyFrom_126 rfl rfl ?_
  refine T_134_9 (pc2 := 130) kw_234 dX6_copyFrom_127 rfl ?_
  refine G_iconst (pc2 := 131) dX6_copyFrom_130 ic_0 rfl ?_
  refine G_bipush (pc2 := 133) dX6_copyFrom_131 ib_20 rfl ?_
  refine YC (pc2 := 136) (fa_30 _ _ _ _) (fa_142 _ _ _ _) h kw_680 (by decide) cl_20 ⟨by decide, by decide⟩ (Nat.le_of_ble_eq_true rfl) dX6_copyFrom_133 rfl (fun F_447 h => ?_)
  have ha := Option.some.inj h
  subst ha
  exact G_vret rfl dX6_copyFrom_136)
def f_X6_copyFrom_143_22 (I : WI) (F : WF) : Option (WI × WF) :=
  bnd (upd I 24 (I 0)) fun I_452 =>
  bnd (upd I_452 25 (I_452 1)) fun I_453 =>
  bnd (uF F 96 (va_cpy (F 0) (F 96) 0 0 9)) fun F_454 =>
  bnd (uF F_454 97 (va_cpy (F_454 1) (F_454 97) 0 0 9)) fun F_455 =>
  bnd (uF F_455 98 (va_cpy (F_455 2) (F_455 98) 0 0 9)) fun F_456 =>
  bnd (uF F_456 99 (va_cpy (F_456 3) (F_456 99) 0 0 6)) fun F_457 =>
  bnd (uF F_457 100 (va_cpy (F_457 4) (F_457 100) 0 0 6)) fun F_458 =>
  bnd (uF F_458 101 (va_cpy (F_458 5) (F_458 101) 0 0 6)) fun F_459 =>
  bnd (uF F_459 102 (va_cpy (F_459 6) (F_459 102) 0 0 6)) fun F_460 =>
  bnd (uF F_460 103 (va_cpy (F_460 7) (F_460 103) 0 0 20)) fun F_461 =>
  some (I_453, F_461)
set_option maxRecDepth 100000 in
set_option maxHeartbeats 4000000 in
theorem c_X6_copyFrom_143_22 {I : WI} {F : WF} {J : WI} {K : WF} {a : WI × WF} (h : f_X6_copyFrom_143_22  I F = some a) : CT md_X6_copyFrom yX6_copyFrom (rmD 1) [.ref 143, .ref 22] (mkW I F J K) none (mkW a.1 a.2 J K) := CT_of pn_X6 ⟨rfl, rfl⟩ (Nat.le_of_ble_eq_true rfl) (fun X => by
  show GG X md_X6_copyFrom (rmD 1) _ 0 0 0 [(0, .ref 143), (1, .ref 22)] [] (mkW I F J K)
  unfold f_X6_copyFrom_143_22 at h
  refine G_aload_n (pc2 := 1) 0 rfl dX6_copyFrom_0 rfl rfl ?_
  refine G_aload_n (pc2 := 2) 1 rfl dX6_copyFrom_1 rfl rfl ?_
  refine T_22_0 (pc2 := 5) kw_207 dX6_copyFrom_2 rfl ?_
  refine P_143_0 (pc2 := 8) h kw_207 dX6_copyFrom_5 rfl (fun I_452 h => ?_)
  refine G_aload_n (pc2 := 9) 0 rfl dX6_copyFrom_8 rfl rfl ?_
  refine G_aload_n (pc2 := 10) 1 rfl dX6_copyFrom_9 rfl rfl ?_
  refine T_22_1 (pc2 := 13) kw_210 dX6_copyFrom_10 rfl ?_
  refine P_143_1 (pc2 := 16) h kw_210 dX6_copyFrom_13 rfl (fun I_453 h => ?_)
  refine G_aload_n (pc2 := 17) 1 rfl dX6_copyFrom_16 rfl rfl ?_
  refine T_22_2 (pc2 := 20) kw_212 dX6_copyFrom_17 rfl ?_
  refine G_iconst (pc2 := 21) dX6_copyFrom_20 ic_0 rfl ?_
  refine G_aload_n (pc2 := 22) 0 rfl dX6_copyFrom_21 rfl rfl ?_
  refine T_143_2 (pc2 := 25) kw_212 dX6_copyFrom_22 rfl ?_
  refine G_iconst (pc2 := 26) dX6_copyFrom_25 ic_0 rfl ?_
  refine G_bipush (pc2 := 28) dX6_copyFrom_26 ib_9 rfl ?_
  refine YC (pc2 := 31) (fa_23 _ _ _ _) (fa_144 _ _ _ _) h kw_680 (by decide) cl_9 ⟨by decide, by decide⟩ (Nat.le_of_ble_eq_true rfl) dX6_copyFrom_28 rfl (fun F_454 h => ?_)
  refine G_aload_n (pc2 := 32) 1 rfl dX6_copyFrom_31 rfl rfl ?_
  refine T_22_3 (pc2 := 35) kw_215 dX6_copyFrom_32 rfl ?_
  refine G_iconst (pc2 := 36) dX6_copyFrom_35 ic_0 rfl ?_
  refine G_aload_n (pc2 := 37) 0 rfl dX6_copyFrom_36 rfl rfl ?_
  refine T_143_3 (pc2 := 40) kw_215 dX6_copyFrom_37 rfl ?_
  refine G_iconst (pc2 := 41) dX6_copyFrom_40 ic_0 rfl ?_
  refine G_bipush (pc2 := 43) dX6_copyFrom_41 ib_9 rfl ?_
  refine YC (pc2 := 46) (fa_24 _ _ _ _) (fa_145 _ _ _ _) h kw_680 (by decide) cl_9 ⟨by decide, by decide⟩ (Nat.le_of_ble_eq_true rfl) dX6_copyFrom_43 rfl (fun F_455 h => ?_)
  refine G_aload_n (pc2 := 47) 1 rfl dX6_copyFrom_46 rfl rfl ?_
  refine T_22_4 (pc2 := 50) kw_218 dX6_copyFrom_47 rfl ?_
  refine G_iconst (pc2 := 51) dX6_copyFrom_50 ic_0 rfl ?_
  refine G_aload_n (pc2 := 52) 0 rfl dX6_copyFrom_51 rfl rfl ?_
  refine T_143_4 (pc2 := 55) kw_218 dX6_copyFrom_52 rfl ?_
  refine G_iconst (pc2 := 56) dX6_copyFrom_55 ic_0 rfl ?_
  refine G_bipush (pc2 := 58) dX6_copyFrom_56 ib_9 rfl ?_
  refine YC (pc2 := 61) (fa_25 _ _ _ _) (fa_146 _ _ _ _) h kw_680 (by decide) cl_9 ⟨by decide, by decide⟩ (Nat.le_of_ble_eq_true rfl) dX6_copyFrom_58 rfl (fun F_456 h => ?_)
  refine G_aload_n (pc2 := 62) 1 rfl dX6_copyFrom_61 rfl rfl ?_
  refine T_22_5 (pc2 := 65) kw_221 dX6_copyFrom_62 rfl ?_
  refine G_iconst (pc2 := 66) dX6_copyFrom_65 ic_0 rfl ?_
  refine G_aload_n (pc2 := 67) 0 rfl dX6_copyFrom_66 rfl rfl ?_
  refine T_143_5 (pc2 := 70) kw_221 dX6_copyFrom_67 rfl ?_
  refine G_iconst (pc2 := 71) dX6_copyFrom_70 ic_0 rfl ?_
  refine G_bipush (pc2 := 73) dX6_copyFrom_71 ib_6 rfl ?_
  refine YC (pc2 := 76) (fa_26 _ _ _ _) (fa_147 _ _ _ _) h kw_680 (by decide) cl_6 ⟨by decide, by decide⟩ (Nat.le_of_ble_eq_true rfl) dX6_copyFrom_73 rfl (fun F_457 h => ?_)
  refine G_aload_n (pc2 := 77) 1 rfl dX6_copyFrom_76 rfl rfl ?_
  refine T_22_6 (pc2 := 80) kw_225 dX6_copyFrom_77 rfl ?_
  refine G_iconst (pc2 := 81) dX6_copyFrom_80 ic_0 rfl ?_
  refine G_aload_n (pc2 := 82) 0 rfl dX6_copyFrom_81 rfl rfl ?_
  refine T_143_6 (pc2 := 85) kw_225 dX6_copyFrom_82 rfl ?_
  refine G_iconst (pc2 := 86) dX6_copyFrom_85 ic_0 rfl ?_
  refine G_bipush (pc2 := 88) dX6_copyFrom_86 ib_6 rfl ?_
  refine YC (pc2 := 91) (fa_27 _ _ _ _) (fa_148 _ _ _ _) h kw_680 (by decide) cl_6 ⟨by decide, by decide⟩ (Nat.le_of_ble_eq_true rfl) dX6_copyFrom_88 rfl (fun F_458 h => ?_)
  refine G_aload_n (pc2 := 92) 1 rfl dX6_copyFrom_91 rfl rfl ?_
  refine T_22_7 (pc2 := 95) kw_228 dX6_copyFrom_92 rfl ?_
  refine G_iconst (pc2 := 96) dX6_copyFrom_95 ic_0 rfl ?_
  refine G_aload_n (pc2 := 97) 0 rfl dX6_copyFrom_96 rfl rfl ?_
  refine T_143_7 (pc2 := 100) kw_228 dX6_copyFrom_97 rfl ?_
  refine G_iconst (pc2 := 101) dX6_copyFrom_100 ic_0 rfl ?_
  refine G_bipush (pc2 := 103) dX6_copyFrom_101 ib_6 rfl ?_
  refine YC (pc2 := 106) (fa_28 _ _ _ _) (fa_149 _ _ _ _) h kw_680 (by decide) cl_6 ⟨by decide, by decide⟩ (Nat.le_of_ble_eq_true rfl) dX6_copyFrom_103 rfl (fun F_459 h => ?_)
  refine G_aload_n (pc2 := 107) 1 rfl dX6_copyFrom_106 rfl rfl ?_
  refine T_22_8 (pc2 := 110) kw_231 dX6_copyFrom_107 rfl ?_
  refine G_iconst (pc2 := 111) dX6_copyFrom_110 ic_0 rfl ?_
  refine G_aload_n (pc2 := 112) 0 rfl dX6_copyFrom_111 rfl rfl ?_
  refine T_143_8 (pc2 := 115) kw_231 dX6_copyFrom_112 rfl ?_
  refine G_iconst (pc2 := 116) dX6_copyFrom_115 ic_0 rfl ?_
  refine G_bipush (pc2 := 118) dX6_copyFrom_116 ib_6 rfl ?_
  refine YC (pc2 := 121) (fa_29 _ _ _ _) (fa_150 _ _ _ _) h kw_680 (by decide) cl_6 ⟨by decide, by decide⟩ (Nat.le_of_ble_eq_true rfl) dX6_copyFrom_118 rfl (fun F_460 h => ?_)
  refine G_aload_n (pc2 := 122) 1 rfl dX6_copyFrom_121 rfl rfl ?_
  refine T_22_9 (pc2 := 125) kw_234 dX6_copyFrom_122 rfl ?_
  refine G_iconst (pc2 := 126) dX6_copyFrom_125 ic_0 rfl ?_
  refine G_aload_n (pc2 := 127) 0 rfl dX6_copyFrom_126 rfl rfl ?_
  refine T_143_9 (pc2 := 130) kw_234 dX6_copyFrom_127 rfl ?_
  refine G_iconst (pc2 := 131) dX6_copyFrom_130 ic_0 rfl ?_
  refine G_bipush (pc2 := 133) dX6_copyFrom_131 ib_20 rfl ?_
  refine YC (pc2 := 136) (fa_30 _ _ _ _) (fa_151 _ _ _ _) h kw_680 (by decide) cl_20 ⟨by decide, by decide⟩ (Nat.le_of_ble_eq_true rfl) dX6_copyFrom_133 rfl (fun F_461 h => ?_)
  have ha := Option.some.inj h
  subst ha
  exact G_vret rfl dX6_copyFrom_136)
def f_X6_copyFrom_152_22 (I : WI) (F : WF) : Option (WI × WF) :=
  bnd (upd I 26 (I 0)) fun I_466 =>
  bnd (upd I_466 27 (I_466 1)) fun I_467 =>
  bnd (uF F 104 (va_cpy (F 0) (F 104) 0 0 9)) fun F_468 =>
  bnd (uF F_468 105 (va_cpy (F_468 1) (F_468 105) 0 0 9)) fun F_469 =>
  bnd (uF F_469 106 (va_cpy (F_469 2) (F_469 106) 0 0 9)) fun F_470 =>
  bnd (uF F_470 107 (va_cpy (F_470 3) (F_470 107) 0 0 6)) fun F_471 =>
  bnd (uF F_471 108 (va_cpy (F_471 4) (F_471 108) 0 0 6)) fun F_472 =>
  bnd (uF F_472 109 (va_cpy (F_472 5) (F_472 109) 0 0 6)) fun F_473 =>
  bnd (uF F_473 110 (va_cpy (F_473 6) (F_473 110) 0 0 6)) fun F_474 =>
  bnd (uF F_474 111 (va_cpy (F_474 7) (F_474 111) 0 0 20)) fun F_475 =>
  some (I_467, F_475)
set_option maxRecDepth 100000 in
set_option maxHeartbeats 4000000 in
theorem c_X6_copyFrom_152_22 {I : WI} {F : WF} {J : WI} {K : WF} {a : WI × WF} (h : f_X6_copyFrom_152_22  I F = some a) : CT md_X6_copyFrom yX6_copyFrom (rmD 1) [.ref 152, .ref 22] (mkW I F J K) none (mkW a.1 a.2 J K) := CT_of pn_X6 ⟨rfl, rfl⟩ (Nat.le_of_ble_eq_true rfl) (fun X => by
  show GG X md_X6_copyFrom (rmD 1) _ 0 0 0 [(0, .ref 152), (1, .ref 22)] [] (mkW I F J K)
  unfold f_X6_copyFrom_152_22 at h
  refine G_aload_n (pc2 := 1) 0 rfl dX6_copyFrom_0 rfl rfl ?_
  refine G_aload_n (pc2 := 2) 1 rfl dX6_copyFrom_1 rfl rfl ?_
  refine T_22_0 (pc2 := 5) kw_207 dX6_copyFrom_2 rfl ?_
  refine P_152_0 (pc2 := 8) h kw_207 dX6_copyFrom_5 rfl (fun I_466 h => ?_)
  refine G_aload_n (pc2 := 9) 0 rfl dX6_copyFrom_8 rfl rfl ?_
  refine G_aload_n (pc2 := 10) 1 rfl dX6_copyFrom_9 rfl rfl ?_
  refine T_22_1 (pc2 := 13) kw_210 dX6_copyFrom_10 rfl ?_
  refine P_152_1 (pc2 := 16) h kw_210 dX6_copyFrom_13 rfl (fun I_467 h => ?_)
  refine G_aload_n (pc2 := 17) 1 rfl dX6_copyFrom_16 rfl rfl ?_
  refine T_22_2 (pc2 := 20) kw_212 dX6_copyFrom_17 rfl ?_
  refine G_iconst (pc2 := 21) dX6_copyFrom_20 ic_0 rfl ?_
  refine G_aload_n (pc2 := 22) 0 rfl dX6_copyFrom_21 rfl rfl ?_
  refine T_152_2 (pc2 := 25) kw_212 dX6_copyFrom_22 rfl ?_
  refine G_iconst (pc2 := 26) dX6_copyFrom_25 ic_0 rfl ?_
  refine G_bipush (pc2 := 28) dX6_copyFrom_26 ib_9 rfl ?_
  refine YC (pc2 := 31) (fa_23 _ _ _ _) (fa_153 _ _ _ _) h kw_680 (by decide) cl_9 ⟨by decide, by decide⟩ (Nat.le_of_ble_eq_true rfl) dX6_copyFrom_28 rfl (fun F_468 h => ?_)
  refine G_aload_n (pc2 := 32) 1 rfl dX6_copyFrom_31 rfl rfl ?_
  refine T_22_3 (pc2 := 35) kw_215 dX6_copyFrom_32 rfl ?_
  refine G_iconst (pc2 := 36) dX6_copyFrom_35 ic_0 rfl ?_
  refine G_aload_n (pc2 := 37) 0 rfl dX6_copyFrom_36 rfl rfl ?_
  refine T_152_3 (pc2 := 40) kw_215 dX6_copyFrom_37 rfl ?_
  refine G_iconst (pc2 := 41) dX6_copyFrom_40 ic_0 rfl ?_
  refine G_bipush (pc2 := 43) dX6_copyFrom_41 ib_9 rfl ?_
  refine YC (pc2 := 46) (fa_24 _ _ _ _) (fa_154 _ _ _ _) h kw_680 (by decide) cl_9 ⟨by decide, by decide⟩ (Nat.le_of_ble_eq_true rfl) dX6_copyFrom_43 rfl (fun F_469 h => ?_)
  refine G_aload_n (pc2 := 47) 1 rfl dX6_copyFrom_46 rfl rfl ?_
  refine T_22_4 (pc2 := 50) kw_218 dX6_copyFrom_47 rfl ?_
  refine G_iconst (pc2 := 51) dX6_copyFrom_50 ic_0 rfl ?_
  refine G_aload_n (pc2 := 52) 0 rfl dX6_copyFrom_51 rfl rfl ?_
  refine T_152_4 (pc2 := 55) kw_218 dX6_copyFrom_52 rfl ?_
  refine G_iconst (pc2 := 56) dX6_copyFrom_55 ic_0 rfl ?_
  refine G_bipush (pc2 := 58) dX6_copyFrom_56 ib_9 rfl ?_
  refine YC (pc2 := 61) (fa_25 _ _ _ _) (fa_155 _ _ _ _) h kw_680 (by decide) cl_9 ⟨by decide, by decide⟩ (Nat.le_of_ble_eq_true rfl) dX6_copyFrom_58 rfl (fun F_470 h => ?_)
  refine G_aload_n (pc2 := 62) 1 rfl dX6_copyFrom_61 rfl rfl ?_
  refine T_22_5 (pc2 := 65) kw_221 dX6_copyFrom_62 rfl ?_
  refine G_iconst (pc2 := 66) dX6_copyFrom_65 ic_0 rfl ?_
  refine G_aload_n (pc2 := 67) 0 rfl dX6_copyFrom_66 rfl rfl ?_
  refine T_152_5 (pc2 := 70) kw_221 dX6_copyFrom_67 rfl ?_
  refine G_iconst (pc2 := 71) dX6_copyFrom_70 ic_0 rfl ?_
  refine G_bipush (pc2 := 73) dX6_copyFrom_71 ib_6 rfl ?_
  refine YC (pc2 := 76) (fa_26 _ _ _ _) (fa_156 _ _ _ _) h kw_680 (by decide) cl_6 ⟨by decide, by decide⟩ (Nat.le_of_ble_eq_true rfl) dX6_copyFrom_73 rfl (fun F_471 h => ?_)
  refine G_aload_n (pc2 := 77) 1 rfl dX6_copyFrom_76 rfl rfl ?_
  refine T_22_6 (pc2 := 80) kw_225 dX6_copyFrom_77 rfl ?_
  refine G_iconst (pc2 := 81) dX6_copyFrom_80 ic_0 rfl ?_
  refine G_aload_n (pc2 := 82) 0 rfl dX6_copyFrom_81 rfl rfl ?_
  refine T_152_6 (pc2 := 85) kw_225 dX6_copyFrom_82 rfl ?_
  refine G_iconst (pc2 := 86) dX6_copyFrom_85 ic_0 rfl ?_
  refine G_bipush (pc2 := 88) dX6_copyFrom_86 ib_6 rfl ?_
  refine YC (pc2 := 91) (fa_27 _ _ _ _) (fa_157 _ _ _ _) h kw_680 (by decide) cl_6 ⟨by decide, by decide⟩ (Nat.le_of_ble_eq_true rfl) dX6_copyFrom_88 rfl (fun F_472 h => ?_)
  refine G_aload_n (pc2 := 92) 1 rfl dX6_copyFrom_91 rfl rfl ?_
  refine T_22_7 (pc2 := 95) kw_228 dX6_copyFrom_92 rfl ?_
  refine G_iconst (pc2 := 96) dX6_copyFrom_95 ic_0 rfl ?_
  refine G_aload_n (pc2 := 97) 0 rfl dX6_copyFrom_96 rfl rfl ?_
  refine T_152_7 (pc2 := 100) kw_228 dX6_copyFrom_97 rfl ?_
  refine G_iconst (pc2 := 101) dX6_copyFrom_100 ic_0 rfl ?_
  refine G_bipush (pc2 := 103) dX6_copyFrom_101 ib_6 rfl ?_
  refine YC (pc2 := 106) (fa_28 _ _ _ _) (fa_158 _ _ _ _) h kw_680 (by decide) cl_6 ⟨by decide, by decide⟩ (Nat.le_of_ble_eq_true rfl) dX6_copyFrom_103 rfl (fun F_473 h => ?_)
  refine G_aload_n (pc2 := 107) 1 rfl dX6_copyFrom_106 rfl rfl ?_
  refine T_22_8 (pc2 := 110) kw_231 dX6_copyFrom_107 rfl ?_
  refine G_iconst (pc2 := 111) dX6_copyFrom_110 ic_0 rfl ?_
  refine G_aload_n (pc2 := 112) 0 rfl dX6_copyFrom_111 rfl rfl ?_
  refine T_152_8 (pc2 := 115) kw_231 dX6_copyFrom_112 rfl ?_
  refine G_iconst (pc2 := 116) dX6_copyFrom_115 ic_0 rfl ?_
  refine G_bipush (pc2 := 118) dX6_copyFrom_116 ib_6 rfl ?_
  refine YC (pc2 := 121) (fa_29 _ _ _ _) (fa_159 _ _ _ _) h kw_680 (by decide) cl_6 ⟨by decide, by decide⟩ (Nat.le_of_ble_eq_true rfl) dX6_copyFrom_118 rfl (fun F_474 h => ?_)
  refine G_aload_n (pc2 := 122) 1 rfl dX6_copyFrom_121 rfl rfl ?_
  refine T_22_9 (pc2 := 125) kw_234 dX6_copyFrom_122 rfl ?_
  refine G_iconst (pc2 := 126) dX6_copyFrom_125 ic_0 rfl ?_
  refine G_aload_n (pc2 := 127) 0 rfl dX6_copyFrom_126 rfl rfl ?_
  refine T_152_9 (pc2 := 130) kw_234 dX6_copyFrom_127 rfl ?_
  refine G_iconst (pc2 := 131) dX6_copyFrom_130 ic_0 rfl ?_
  refine G_bipush (pc2 := 133) dX6_copyFrom_131 ib_20 rfl ?_
  refine YC (pc2 := 136) (fa_30 _ _ _ _) (fa_160 _ _ _ _) h kw_680 (by decide) cl_20 ⟨by decide, by decide⟩ (Nat.le_of_ble_eq_true rfl) dX6_copyFrom_133 rfl (fun F_475 h => ?_)
  have ha := Option.some.inj h
  subst ha
  exact G_vret rfl dX6_copyFrom_136)
def f_X6_copyFrom_161_22 (I : WI) (F : WF) : Option (WI × WF) :=
  bnd (upd I 28 (I 0)) fun I_480 =>
  bnd (upd I_480 29 (I_480 1)) fun I_481 =>
  bnd (uF F 112 (va_cpy (F 0) (F 112) 0 0 9)) fun F_482 =>
  bnd (uF F_482 113 (va_cpy (F_482 1) (F_482 113) 0 0 9)) fun F_483 =>
  bnd (uF F_483 114 (va_cpy (F_483 2) (F_483 114) 0 0 9)) fun F_484 =>
  bnd (uF F_484 115 (va_cpy (F_484 3) (F_484 115) 0 0 6)) fun F_485 =>
  bnd (uF F_485 116 (va_cpy (F_485 4) (F_485 116) 0 0 6)) fun F_486 =>
  bnd (uF F_486 117 (va_cpy (F_486 5) (F_486 117) 0 0 6)) fun F_487 =>
  bnd (uF F_487 118 (va_cpy (F_487 6) (F_487 118) 0 0 6)) fun F_488 =>
  bnd (uF F_488 119 (va_cpy (F_488 7) (F_488 119) 0 0 20)) fun F_489 =>
  some (I_481, F_489)
set_option maxRecDepth 100000 in
set_option maxHeartbeats 4000000 in
theorem c_X6_copyFrom_161_22 {I : WI} {F : WF} {J : WI} {K : WF} {a : WI × WF} (h : f_X6_copyFrom_161_22  I F = some a) : CT md_X6_copyFrom yX6_copyFrom (rmD 1) [.ref 161, .ref 22] (mkW I F J K) none (mkW a.1 a.2 J K) := CT_of pn_X6 ⟨rfl, rfl⟩ (Nat.le_of_ble_eq_true rfl) (fun X => by
  show GG X md_X6_copyFrom (rmD 1) _ 0 0 0 [(0, .ref 161), (1, .ref 22)] [] (mkW I F J K)
  unfold f_X6_copyFrom_161_22 at h
  refine G_aload_n (pc2 := 1) 0 rfl dX6_copyFrom_0 rfl rfl ?_
  refine G_aload_n (pc2 := 2) 1 rfl dX6_copyFrom_1 rfl rfl ?_
  refine T_22_0 (pc2 := 5) kw_207 dX6_copyFrom_2 rfl ?_
  refine P_161_0 (pc2 := 8) h kw_207 dX6_copyFrom_5 rfl (fun I_480 h => ?_)
  refine G_aload_n (pc2 := 9) 0 rfl dX6_copyFrom_8 rfl rfl ?_
  refine G_aload_n (pc2 := 10) 1 rfl dX6_copyFrom_9 rfl rfl ?_
  refine T_22_1 (pc2 := 13) kw_210 dX6_copyFrom_10 rfl ?_
  refine P_161_1 (pc2 := 16) h kw_210 dX6_copyFrom_13 rfl (fun I_481 h => ?_)
  refine G_aload_n (pc2 := 17) 1 rfl dX6_copyFrom_16 rfl rfl ?_
  refine T_22_2 (pc2 := 20) kw_212 dX6_copyFrom_17 rfl ?_
  refine G_iconst (pc2 := 21) dX6_copyFrom_20 ic_0 rfl ?_
  refine G_aload_n (pc2 := 22) 0 rfl dX6_copyFrom_21 rfl rfl ?_
  refine T_161_2 (pc2 := 25) kw_212 dX6_copyFrom_22 rfl ?_
  refine G_iconst (pc2 := 26) dX6_copyFrom_25 ic_0 rfl ?_
  refine G_bipush (pc2 := 28) dX6_copyFrom_26 ib_9 rfl ?_
  refine YC (pc2 := 31) (fa_23 _ _ _ _) (fa_162 _ _ _ _) h kw_680 (by decide) cl_9 ⟨by decide, by decide⟩ (Nat.le_of_ble_eq_true rfl) dX6_copyFrom_28 rfl (fun F_482 h => ?_)
  refine G_aload_n (pc2 := 32) 1 rfl dX6_copyFrom_31 rfl rfl ?_
  refine T_22_3 (pc2 := 35) kw_215 dX6_copyFrom_32 rfl ?_
  refine G_iconst (pc2 := 36) dX6_copyFrom_35 ic_0 rfl ?_
  refine G_aload_n (pc2 := 37) 0 rfl dX6_copyFrom_36 rfl rfl ?_
  refine T_161_3 (pc2 := 40) kw_215 dX6_copyFrom_37 rfl ?_
  refine G_iconst (pc2 := 41) dX6_copyFrom_40 ic_0 rfl ?_
  refine G_bipush (pc2 := 43) dX6_copyFrom_41 ib_9 rfl ?_
  refine YC (pc2 := 46) (fa_24 _ _ _ _) (fa_163 _ _ _ _) h kw_680 (by decide) cl_9 ⟨by decide, by decide⟩ (Nat.le_of_ble_eq_true rfl) dX6_copyFrom_43 rfl (fun F_483 h => ?_)
  refine G_aload_n (pc2 := 47) 1 rfl dX6_copyFrom_46 rfl rfl ?_
  refine T_22_4 (pc2 := 50) kw_218 dX6_copyFrom_47 rfl ?_
  refine G_iconst (pc2 := 51) dX6_copyFrom_50 ic_0 rfl ?_
  refine G_aload_n (pc2 := 52) 0 rfl dX6_copyFrom_51 rfl rfl ?_
  refine T_161_4 (pc2 := 55) kw_218 dX6_copyFrom_52 rfl ?_
  refine G_iconst (pc2 := 56) dX6_copyFrom_55 ic_0 rfl ?_
  refine G_bipush (pc2 := 58) dX6_copyFrom_56 ib_9 rfl ?_
  refine YC (pc2 := 61) (fa_25 _ _ _ _) (fa_164 _ _ _ _) h kw_680 (by decide) cl_9 ⟨by decide, by decide⟩ (Nat.le_of_ble_eq_true rfl) dX6_copyFrom_58 rfl (fun F_484 h => ?_)
  refine G_aload_n (pc2 := 62) 1 rfl dX6_copyFrom_61 rfl rfl ?_
  refine T_22_5 (pc2 := 65) kw_221 dX6_copyFrom_62 rfl ?_
  refine G_iconst (pc2 := 66) dX6_copyFrom_65 ic_0 rfl ?_
  refine G_aload_n (pc2 := 67) 0 rfl dX6_copyFrom_66 rfl rfl ?_
  refine T_161_5 (pc2 := 70) kw_221 dX6_copyFrom_67 rfl ?_
  refine G_iconst (pc2 := 71) dX6_copyFrom_70 ic_0 rfl ?_
  refine G_bipush (pc2 := 73) dX6_copyFrom_71 ib_6 rfl ?_
  refine YC (pc2 := 76) (fa_26 _ _ _ _) (fa_165 _ _ _ _) h kw_680 (by decide) cl_6 ⟨by decide, by decide⟩ (Nat.le_of_ble_eq_true rfl) dX6_copyFrom_73 rfl (fun F_485 h => ?_)
  refine G_aload_n (pc2 := 77) 1 rfl dX6_copyFrom_76 rfl rfl ?_
  refine T_22_6 (pc2 := 80) kw_225 dX6_copyFrom_77 rfl ?_
  refine G_iconst (pc2 := 81) dX6_copyFrom_80 ic_0 rfl ?_
  refine G_aload_n (pc2 := 82) 0 rfl dX6_copyFrom_81 rfl rfl ?_
  refine T_161_6 (pc2 := 85) kw_225 dX6_copyFrom_82 rfl ?_
  refine G_iconst (pc2 := 86) dX6_copyFrom_85 ic_0 rfl ?_
  refine G_bipush (pc2 := 88) dX6_copyFrom_86 ib_6 rfl ?_
  refine YC (pc2 := 91) (fa_27 _ _ _ _) (fa_166 _ _ _ _) h kw_680 (by decide) cl_6 ⟨by decide, by decide⟩ (Nat.le_of_ble_eq_true rfl) dX6_copyFrom_88 rfl (fun F_486 h => ?_)
  refine G_aload_n (pc2 := 92) 1 rfl dX6_copyFrom_91 rfl rfl ?_
  refine T_22_7 (pc2 := 95) kw_228 dX6_copyFrom_92 rfl ?_
  refine G_iconst (pc2 := 96) dX6_copyFrom_95 ic_0 rfl ?_
  refine G_aload_n (pc2 := 97) 0 rfl dX6_copyFrom_96 rfl rfl ?_
  refine T_161_7 (pc2 := 100) kw_228 dX6_copyFrom_97 rfl ?_
  refine G_iconst (pc2 := 101) dX6_copyFrom_100 ic_0 rfl ?_
  refine G_bipush (pc2 := 103) dX6_copyFrom_101 ib_6 rfl ?_
  refine YC (pc2 := 106) (fa_28 _ _ _ _) (fa_167 _ _ _ _) h kw_680 (by decide) cl_6 ⟨by decide, by decide⟩ (Nat.le_of_ble_eq_true rfl) dX6_copyFrom_103 rfl (fun F_487 h => ?_)
  refine G_aload_n (pc2 := 107) 1 rfl dX6_copyFrom_106 rfl rfl ?_
  refine T_22_8 (pc2 := 110) kw_231 dX6_copyFrom_107 rfl ?_
  refine G_iconst (pc2 := 111) dX6_copyFrom_110 ic_0 rfl ?_
  refine G_aload_n (pc2 := 112) 0 rfl dX6_copyFrom_111 rfl rfl ?_
  refine T_161_8 (pc2 := 115) kw_231 dX6_copyFrom_112 rfl ?_
  refine G_iconst (pc2 := 116) dX6_copyFrom_115 ic_0 rfl ?_
  refine G_bipush (pc2 := 118) dX6_copyFrom_116 ib_6 rfl ?_
  refine YC (pc2 := 121) (fa_29 _ _ _ _) (fa_168 _ _ _ _) h kw_680 (by decide) cl_6 ⟨by decide, by decide⟩ (Nat.le_of_ble_eq_true rfl) dX6_copyFrom_118 rfl (fun F_488 h => ?_)
  refine G_aload_n (pc2 := 122) 1 rfl dX6_copyFrom_121 rfl rfl ?_
  refine T_22_9 (pc2 := 125) kw_234 dX6_copyFrom_122 rfl ?_
  refine G_iconst (pc2 := 126) dX6_copyFrom_125 ic_0 rfl ?_
  refine G_aload_n (pc2 := 127) 0 rfl dX6_copyFrom_126 rfl rfl ?_
  refine T_161_9 (pc2 := 130) kw_234 dX6_copyFrom_127 rfl ?_
  refine G_iconst (pc2 := 131) dX6_copyFrom_130 ic_0 rfl ?_
  refine G_bipush (pc2 := 133) dX6_copyFrom_131 ib_20 rfl ?_
  refine YC (pc2 := 136) (fa_30 _ _ _ _) (fa_169 _ _ _ _) h kw_680 (by decide) cl_20 ⟨by decide, by decide⟩ (Nat.le_of_ble_eq_true rfl) dX6_copyFrom_133 rfl (fun F_489 h => ?_)
  have ha := Option.some.inj h
  subst ha
  exact G_vret rfl dX6_copyFrom_136)
def f_X6_copyFrom_170_22 (I : WI) (F : WF) : Option (WI × WF) :=
  bnd (upd I 30 (I 0)) fun I_494 =>
  bnd (upd I_494 31 (I_494 1)) fun I_495 =>
  bnd (uF F 120 (va_cpy (F 0) (F 120) 0 0 9)) fun F_496 =>
  bnd (uF F_496 121 (va_cpy (F_496 1) (F_496 121) 0 0 9)) fun F_497 =>
  bnd (uF F_497 122 (va_cpy (F_497 2) (F_497 122) 0 0 9)) fun F_498 =>
  bnd (uF F_498 123 (va_cpy (F_498 3) (F_498 123) 0 0 6)) fun F_499 =>
  bnd (uF F_499 124 (va_cpy (F_499 4) (F_499 124) 0 0 6)) fun F_500 =>
  bnd (uF F_500 125 (va_cpy (F_500 5) (F_500 125) 0 0 6)) fun F_501 =>
  bnd (uF F_501 126 (va_cpy (F_501 6) (F_501 126) 0 0 6)) fun F_502 =>
  bnd (uF F_502 127 (va_cpy (F_502 7) (F_502 127) 0 0 20)) fun F_503 =>
  some (I_495, F_503)
set_option maxRecDepth 100000 in
set_option maxHeartbeats 4000000 in
theorem c_X6_copyFrom_170_22 {I : WI} {F : WF} {J : WI} {K : WF} {a : WI × WF} (h : f_X6_copyFrom_170_22  I F = some a) : CT md_X6_copyFrom yX6_copyFrom (rmD 1) [.ref 170, .ref 22] (mkW I F J K) none (mkW a.1 a.2 J K) := CT_of pn_X6 ⟨rfl, rfl⟩ (Nat.le_of_ble_eq_true rfl) (fun X => by
  show GG X md_X6_copyFrom (rmD 1) _ 0 0 0 [(0, .ref 170), (1, .ref 22)] [] (mkW I F J K)
  unfold f_X6_copyFrom_170_22 at h
  refine G_aload_n (pc2 := 1) 0 rfl dX6_copyFrom_0 rfl rfl ?_
  refine G_aload_n (pc2 := 2) 1 rfl dX6_copyFrom_1 rfl rfl ?_
  refine T_22_0 (pc2 := 5) kw_207 dX6_copyFrom_2 rfl ?_
  refine P_170_0 (pc2 := 8) h kw_207 dX6_copyFrom_5 rfl (fun I_494 h => ?_)
  refine G_aload_n (pc2 := 9) 0 rfl dX6_copyFrom_8 rfl rfl ?_
  refine G_aload_n (pc2 := 10) 1 rfl dX6_copyFrom_9 rfl rfl ?_
  refine T_22_1 (pc2 := 13) kw_210 dX6_copyFrom_10 rfl ?_
  refine P_170_1 (pc2 := 16) h kw_210 dX6_copyFrom_13 rfl (fun I_495 h => ?_)
  refine G_aload_n (pc2 := 17) 1 rfl dX6_copyFrom_16 rfl rfl ?_
  refine T_22_2 (pc2 := 20) kw_212 dX6_copyFrom_17 rfl ?_
  refine G_iconst (pc2 := 21) dX6_copyFrom_20 ic_0 rfl ?_
  refine G_aload_n (pc2 := 22) 0 rfl dX6_copyFrom_21 rfl rfl ?_
  refine T_170_2 (pc2 := 25) kw_212 dX6_copyFrom_22 rfl ?_
  refine G_iconst (pc2 := 26) dX6_copyFrom_25 ic_0 rfl ?_
  refine G_bipush (pc2 := 28) dX6_copyFrom_26 ib_9 rfl ?_
  refine YC (pc2 := 31) (fa_23 _ _ _ _) (fa_171 _ _ _ _) h kw_680 (by decide) cl_9 ⟨by decide, by decide⟩ (Nat.le_of_ble_eq_true rfl) dX6_copyFrom_28 rfl (fun F_496 h => ?_)
  refine G_aload_n (pc2 := 32) 1 rfl dX6_copyFrom_31 rfl rfl ?_
  refine T_22_3 (pc2 := 35) kw_215 dX6_copyFrom_32 rfl ?_
  refine G_iconst (pc2 := 36) dX6_copyFrom_35 ic_0 rfl ?_
  refine G_aload_n (pc2 := 37) 0 rfl dX6_copyFrom_36 rfl rfl ?_
  refine T_170_3 (pc2 := 40) kw_215 dX6_copyFrom_37 rfl ?_
  refine G_iconst (pc2 := 41) dX6_copyFrom_40 ic_0 rfl ?_
  refine G_bipush (pc2 := 43) dX6_copyFrom_41 ib_9 rfl ?_
  refine YC (pc2 := 46) (fa_24 _ _ _ _) (fa_172 _ _ _ _) h kw_680 (by decide) cl_9 ⟨by decide, by decide⟩ (Nat.le_of_ble_eq_true rfl) dX6_copyFrom_43 rfl (fun F_497 h => ?_)
  refine G_aload_n (pc2 := 47) 1 rfl dX6_copyFrom_46 rfl rfl ?_
  refine T_22_4 (pc2 := 50) kw_218 dX6_copyFrom_47 rfl ?_
  refine G_iconst (pc2 := 51) dX6_copyFrom_50 ic_0 rfl ?_
  refine G_aload_n (pc2 := 52) 0 rfl dX6_copyFrom_51 rfl rfl ?_
  refine T_170_4 (pc2 := 55) kw_218 dX6_copyFrom_52 rfl ?_
  refine G_iconst (pc2 := 56) dX6_copyFrom_55 ic_0 rfl ?_
  refine G_bipush (pc2 := 58) dX6_copyFrom_56 ib_9 rfl ?_
  refine YC (pc2 := 61) (fa_25 _ _ _ _) (fa_173 _ _ _ _) h kw_680 (by decide) cl_9 ⟨by decide, by decide⟩ (Nat.le_of_ble_eq_true rfl) dX6_copyFrom_58 rfl (fun F_498 h => ?_)
  refine G_aload_n (pc2 := 62) 1 rfl dX6_copyFrom_61 rfl rfl ?_
  refine T_22_5 (pc2 := 65) kw_221 dX6_copyFrom_62 rfl ?_
  refine G_iconst (pc2 := 66) dX6_copyFrom_65 ic_0 rfl ?_
  refine G_aload_n (pc2 := 67) 0 rfl dX6_copyFrom_66 rfl rfl ?_
  refine T_170_5 (pc2 := 70) kw_221 dX6_copyFrom_67 rfl ?_
  refine G_iconst (pc2 := 71) dX6_copyFrom_70 ic_0 rfl ?_
  refine G_bipush (pc2 := 73) dX6_copyFrom_71 ib_6 rfl ?_
  refine YC (pc2 := 76) (fa_26 _ _ _ _) (fa_174 _ _ _ _) h kw_680 (by decide) cl_6 ⟨by decide, by decide⟩ (Nat.le_of_ble_eq_true rfl) dX6_copyFrom_73 rfl (fun F_499 h => ?_)
  refine G_aload_n (pc2 := 77) 1 rfl dX6_copyFrom_76 rfl rfl ?_
  refine T_22_6 (pc2 := 80) kw_225 dX6_copyFrom_77 rfl ?_
  refine G_iconst (pc2 := 81) dX6_copyFrom_80 ic_0 rfl ?_
  refine G_aload_n (pc2 := 82) 0 rfl dX6_copyFrom_81 rfl rfl ?_
  refine T_170_6 (pc2 := 85) kw_225 dX6_copyFrom_82 rfl ?_
  refine G_iconst (pc2 := 86) dX6_copyFrom_85 ic_0 rfl ?_
  refine G_bipush (pc2 := 88) dX6_copyFrom_86 ib_6 rfl ?_
  refine YC (pc2 := 91) (fa_27 _ _ _ _) (fa_175 _ _ _ _) h kw_680 (by decide) cl_6 ⟨by decide, by decide⟩ (Nat.le_of_ble_eq_true rfl) dX6_copyFrom_88 rfl (fun F_500 h => ?_)
  refine G_aload_n (pc2 := 92) 1 rfl dX6_copyFrom_91 rfl rfl ?_
  refine T_22_7 (pc2 := 95) kw_228 dX6_copyFrom_92 rfl ?_
  refine G_iconst (pc2 := 96) dX6_copyFrom_95 ic_0 rfl ?_
  refine G_aload_n (pc2 := 97) 0 rfl dX6_copyFrom_96 rfl rfl ?_
  refine T_170_7 (pc2 := 100) kw_228 dX6_copyFrom_97 rfl ?_
  refine G_iconst (pc2 := 101) dX6_copyFrom_100 ic_0 rfl ?_
  refine G_bipush (pc2 := 103) dX6_copyFrom_101 ib_6 rfl ?_
  refine YC (pc2 := 106) (fa_28 _ _ _ _) (fa_176 _ _ _ _) h kw_680 (by decide) cl_6 ⟨by decide, by decide⟩ (Nat.le_of_ble_eq_true rfl) dX6_copyFrom_103 rfl (fun F_501 h => ?_)
  refine G_aload_n (pc2 := 107) 1 rfl dX6_copyFrom_106 rfl rfl ?_
  refine T_22_8 (pc2 := 110) kw_231 dX6_copyFrom_107 rfl ?_
  refine G_iconst (pc2 := 111) dX6_copyFrom_110 ic_0 rfl ?_
  refine G_aload_n (pc2 := 112) 0 rfl dX6_copyFrom_111 rfl rfl ?_
  refine T_170_8 (pc2 := 115) kw_231 dX6_copyFrom_112 rfl ?_
  refine G_iconst (pc2 := 116) dX6_copyFrom_115 ic_0 rfl ?_
  refine G_bipush (pc2 := 118) dX6_copyFrom_116 ib_6 rfl ?_
  refine YC (pc2 := 121) (fa_29 _ _ _ _) (fa_177 _ _ _ _) h kw_680 (by decide) cl_6 ⟨by decide, by decide⟩ (Nat.le_of_ble_eq_true rfl) dX6_copyFrom_118 rfl (fun F_502 h => ?_)
  refine G_aload_n (pc2 := 122) 1 rfl dX6_copyFrom_121 rfl rfl ?_
  refine T_22_9 (pc2 := 125) kw_234 dX6_copyFrom_122 rfl ?_
  refine G_iconst (pc2 := 126) dX6_copyFrom_125 ic_0 rfl ?_
  refine G_aload_n (pc2 := 127) 0 rfl dX6_copyFrom_126 rfl rfl ?_
  refine T_170_9 (pc2 := 130) kw_234 dX6_copyFrom_127 rfl ?_
  refine G_iconst (pc2 := 131) dX6_copyFrom_130 ic_0 rfl ?_
  refine G_bipush (pc2 := 133) dX6_copyFrom_131 ib_20 rfl ?_
  refine YC (pc2 := 136) (fa_30 _ _ _ _) (fa_178 _ _ _ _) h kw_680 (by decide) cl_20 ⟨by decide, by decide⟩ (Nat.le_of_ble_eq_true rfl) dX6_copyFrom_133 rfl (fun F_503 h => ?_)
  have ha := Option.some.inj h
  subst ha
  exact G_vret rfl dX6_copyFrom_136)
def f_X6_copyFrom_179_22 (I : WI) (F : WF) : Option (WI × WF) :=
  bnd (upd I 32 (I 0)) fun I_508 =>
  bnd (upd I_508 33 (I_508 1)) fun I_509 =>
  bnd (uF F 128 (va_cpy (F 0) (F 128) 0 0 9)) fun F_510 =>
  bnd (uF F_510 129 (va_cpy (F_510 1) (F_510 129) 0 0 9)) fun F_511 =>
  bnd (uF F_511 130 (va_cpy (F_511 2) (F_511 130) 0 0 9)) fun F_512 =>
  bnd (uF F_512 131 (va_cpy (F_512 3) (F_512 131) 0 0 6)) fun F_513 =>
  bnd (uF F_513 132 (va_cpy (F_513 4) (F_513 132) 0 0 6)) fun F_514 =>
  bnd (uF F_514 133 (va_cpy (F_514 5) (F_514 133) 0 0 6)) fun F_515 =>
  bnd (uF F_515 134 (va_cpy (F_515 6) (F_515 134) 0 0 6)) fun F_516 =>
  bnd (uF F_516 135 (va_cpy (F_516 7) (F_516 135) 0 0 20)) fun F_517 =>
  some (I_509, F_517)
set_option maxRecDepth 100000 in
set_option maxHeartbeats 4000000 in
theorem c_X6_copyFrom_179_22 {I : WI} {F : WF} {J : WI} {K : WF} {a : WI × WF} (h : f_X6_copyFrom_179_22  I F = some a) : CT md_X6_copyFrom yX6_copyFrom (rmD 1) [.ref 179, .ref 22] (mkW I F J K) none (mkW a.1 a.2 J K) := CT_of pn_X6 ⟨rfl, rfl⟩ (Nat.le_of_ble_eq_true rfl) (fun X => by
  show GG X md_X6_copyFrom (rmD 1) _ 0 0 0 [(0, .ref 179), (1, .ref 22)] [] (mkW I F J K)
  unfold f_X6_copyFrom_179_22 at h
  refine G_aload_n (pc2 := 1) 0 rfl dX6_copyFrom_0 rfl rfl ?_
  refine G_aload_n (pc2 := 2) 1 rfl dX6_copyFrom_1 rfl rfl ?_
  refine T_22_0 (pc2 := 5) kw_207 dX6_copyFrom_2 rfl ?_
  refine P_179_0 (pc2 := 8) h kw_207 dX6_copyFrom_5 rfl (fun I_508 h => ?_)
  refine G_aload_n (pc2 := 9) 0 rfl dX6_copyFrom_8 rfl rfl ?_
  refine G_aload_n (pc2 := 10) 1 rfl dX6_copyFrom_9 rfl rfl ?_
  refine T_22_1 (pc2 := 13) kw_210 dX6_copyFrom_10 rfl ?_
  refine P_179_1 (pc2 := 16) h kw_210 dX6_copyFrom_13 rfl (fun I_509 h => ?_)
  refine G_aload_n (pc2 := 17) 1 rfl dX6_copyFrom_16 rfl rfl ?_
  refine T_22_2 (pc2 := 20) kw_212 dX6_copyFrom_17 rfl ?_
  refine G_iconst (pc2 := 21) dX6_copyFrom_20 ic_0 rfl ?_
  refine G_aload_n (pc2 := 22) 0 rfl dX6_copyFrom_21 rfl rfl ?_
  refine T_179_2 (pc2 := 25) kw_212 dX6_copyFrom_22 rfl ?_
  refine G_iconst (pc2 := 26) dX6_copyFrom_25 ic_0 rfl ?_
  refine G_bipush (pc2 := 28) dX6_copyFrom_26 ib_9 rfl ?_
  refine YC (pc2 := 31) (fa_23 _ _ _ _) (fa_180 _ _ _ _) h kw_680 (by decide) cl_9 ⟨by decide, by decide⟩ (Nat.le_of_ble_eq_true rfl) dX6_copyFrom_28 rfl (fun F_510 h => ?_)
  refine G_aload_n (pc2 := 32) 1 rfl dX6_copyFrom_31 rfl rfl ?_
  refine T_22_3 (pc2 := 35) kw_215 dX6_copyFrom_32 rfl ?_
  refine G_iconst (pc2 := 36) dX6_copyFrom_35 ic_0 rfl ?_
  refine G_aload_n (pc2 := 37) 0 rfl dX6_copyFrom_36 rfl rfl ?_
  refine T_179_3 (pc2 := 40) kw_215 dX6_copyFrom_37 rfl ?_
  refine G_iconst (pc2 := 41) dX6_copyFrom_40 ic_0 rfl ?_
  refine G_bipush (pc2 := 43) dX6_copyFrom_41 ib_9 rfl ?_
  refine YC (pc2 := 46) (fa_24 _ _ _ _) (fa_181 _ _ _ _) h kw_680 (by decide) cl_9 ⟨by decide, by decide⟩ (Nat.le_of_ble_eq_true rfl) dX6_copyFrom_43 rfl (fun F_511 h => ?_)
  refine G_aload_n (pc2 := 47) 1 rfl dX6_copyFrom_46 rfl rfl ?_
  refine T_22_4 (pc2 := 50) kw_218 dX6_copyFrom_47 rfl ?_
  refine G_iconst (pc2 := 51) dX6_copyFrom_50 ic_0 rfl ?_
  refine G_aload_n (pc2 := 52) 0 rfl dX6_copyFrom_51 rfl rfl ?_
  refine T_179_4 (pc2 := 55) kw_218 dX6_copyFrom_52 rfl ?_
  refine G_iconst (pc2 := 56) dX6_copyFrom_55 ic_0 rfl ?_
  refine G_bipush (pc2 := 58) dX6_copyFrom_56 ib_9 rfl ?_
  refine YC (pc2 := 61) (fa_25 _ _ _ _) (fa_182 _ _ _ _) h kw_680 (by decide) cl_9 ⟨by decide, by decide⟩ (Nat.le_of_ble_eq_true rfl) dX6_copyFrom_58 rfl (fun F_512 h => ?_)
  refine G_aload_n (pc2 := 62) 1 rfl dX6_copyFrom_61 rfl rfl ?_
  refine T_22_5 (pc2 := 65) kw_221 dX6_copyFrom_62 rfl ?_
  refine G_iconst (pc2 := 66) dX6_copyFrom_65 ic_0 rfl ?_
  refine G_aload_n (pc2 := 67) 0 rfl dX6_copyFrom_66 rfl rfl ?_
  refine T_179_5 (pc2 := 70) kw_221 dX6_copyFrom_67 rfl ?_
  refine G_iconst (pc2 := 71) dX6_copyFrom_70 ic_0 rfl ?_
  refine G_bipush (pc2 := 73) dX6_copyFrom_71 ib_6 rfl ?_
  refine YC (pc2 := 76) (fa_26 _ _ _ _) (fa_183 _ _ _ _) h kw_680 (by decide) cl_6 ⟨by decide, by decide⟩ (Nat.le_of_ble_eq_true rfl) dX6_copyFrom_73 rfl (fun F_513 h => ?_)
  refine G_aload_n (pc2 := 77) 1 rfl dX6_copyFrom_76 rfl rfl ?_
  refine T_22_6 (pc2 := 80) kw_225 dX6_copyFrom_77 rfl ?_
  refine G_iconst (pc2 := 81) dX6_copyFrom_80 ic_0 rfl ?_
  refine G_aload_n (pc2 := 82) 0 rfl dX6_copyFrom_81 rfl rfl ?_
  refine T_179_6 (pc2 := 85) kw_225 dX6_copyFrom_82 rfl ?_
  refine G_iconst (pc2 := 86) dX6_copyFrom_85 ic_0 rfl ?_
  refine G_bipush (pc2 := 88) dX6_copyFrom_86 ib_6 rfl ?_
  refine YC (pc2 := 91) (fa_27 _ _ _ _) (fa_184 _ _ _ _) h kw_680 (by decide) cl_6 ⟨by decide, by decide⟩ (Nat.le_of_ble_eq_true rfl) dX6_copyFrom_88 rfl (fun F_514 h => ?_)
  refine G_aload_n (pc2 := 92) 1 rfl dX6_copyFrom_91 rfl rfl ?_
  refine T_22_7 (pc2 := 95) kw_228 dX6_copyFrom_92 rfl ?_
  refine G_iconst (pc2 := 96) dX6_copyFrom_95 ic_0 rfl ?_
  refine G_aload_n (pc2 := 97) 0 rfl dX6_copyFrom_96 rfl rfl ?_
  refine T_179_7 (pc2 := 100) kw_228 dX6_copyFrom_97 rfl ?_
  refine G_iconst (pc2 := 101) dX6_copyFrom_100 ic_0 rfl ?_
  refine G_bipush (pc2 := 103) dX6_copyFrom_101 ib_6 rfl ?_
  refine YC (pc2 := 106) (fa_28 _ _ _ _) (fa_185 _ _ _ _) h kw_680 (by decide) cl_6 ⟨by decide, by decide⟩ (Nat.le_of_ble_eq_true rfl) dX6_copyFrom_103 rfl (fun F_515 h => ?_)
  refine G_aload_n (pc2 := 107) 1 rfl dX6_copyFrom_106 rfl rfl ?_
  refine T_22_8 (pc2 := 110) kw_231 dX6_copyFrom_107 rfl ?_
  refine G_iconst (pc2 := 111) dX6_copyFrom_110 ic_0 rfl ?_
  refine G_aload_n (pc2 := 112) 0 rfl dX6_copyFrom_111 rfl rfl ?_
  refine T_179_8 (pc2 := 115) kw_231 dX6_copyFrom_112 rfl ?_
  refine G_iconst (pc2 := 116) dX6_copyFrom_115 ic_0 rfl ?_
  refine G_bipush (pc2 := 118) dX6_copyFrom_116 ib_6 rfl ?_
  refine YC (pc2 := 121) (fa_29 _ _ _ _) (fa_186 _ _ _ _) h kw_680 (by decide) cl_6 ⟨by decide, by decide⟩ (Nat.le_of_ble_eq_true rfl) dX6_copyFrom_118 rfl (fun F_516 h => ?_)
  refine G_aload_n (pc2 := 122) 1 rfl dX6_copyFrom_121 rfl rfl ?_
  refine T_22_9 (pc2 := 125) kw_234 dX6_copyFrom_122 rfl ?_
  refine G_iconst (pc2 := 126) dX6_copyFrom_125 ic_0 rfl ?_
  refine G_aload_n (pc2 := 127) 0 rfl dX6_copyFrom_126 rfl rfl ?_
  refine T_179_9 (pc2 := 130) kw_234 dX6_copyFrom_127 rfl ?_
  refine G_iconst (pc2 := 131) dX6_copyFrom_130 ic_0 rfl ?_
  refine G_bipush (pc2 := 133) dX6_copyFrom_131 ib_20 rfl ?_
  refine YC (pc2 := 136) (fa_30 _ _ _ _) (fa_187 _ _ _ _) h kw_680 (by decide) cl_20 ⟨by decide, by decide⟩ (Nat.le_of_ble_eq_true rfl) dX6_copyFrom_133 rfl (fun F_517 h => ?_)
  have ha := Option.some.inj h
  subst ha
  exact G_vret rfl dX6_copyFrom_136)
def f_X3_remember_42_22 (I : WI) (F : WF) : Option (WI × WF) :=
  if (I 62) = (0 : Int32) then (Option.bind (f_X6_copyFrom_44_22 I F) fun c_308 =>
  bnd (upd c_308.1 62 (((c_308.1 62) + (1 : Int32)) - ((c_308.1 62) + (1 : Int32)) / (16 : Int32) * (16 : Int32))) fun I_309 =>
  bnd (upd I_309 61 (if (16 : Int32) < ((I_309 61) + (1 : Int32)) then (16 : Int32) else ((I_309 61) + (1 : Int32)))) fun I_310 =>
  some (I_310, c_308.2))
  else if (I 62) = (1 : Int32) then (Option.bind (f_X6_copyFrom_53_22 I F) fun c_322 =>
  bnd (upd c_322.1 62 (((c_322.1 62) + (1 : Int32)) - ((c_322.1 62) + (1 : Int32)) / (16 : Int32) * (16 : Int32))) fun I_323 =>
  bnd (upd I_323 61 (if (16 : Int32) < ((I_323 61) + (1 : Int32)) then (16 : Int32) else ((I_323 61) + (1 : Int32)))) fun I_324 =>
  some (I_324, c_322.2))
  else if (I 62) = (2 : Int32) then (Option.bind (f_X6_copyFrom_62_22 I F) fun c_336 =>
  bnd (upd c_336.1 62 (((c_336.1 62) + (1 : Int32)) - ((c_336.1 62) + (1 : Int32)) / (16 : Int32) * (16 : Int32))) fun I_337 =>
  bnd (upd I_337 61 (if (16 : Int32) < ((I_337 61) + (1 : Int32)) then (16 : Int32) else ((I_337 61) + (1 : Int32)))) fun I_338 =>
  some (I_338, c_336.2))
  else if (I 62) = (3 : Int32) then (Option.bind (f_X6_copyFrom_71_22 I F) fun c_350 =>
  bnd (upd c_350.1 62 (((c_350.1 62) + (1 : Int32)) - ((c_350.1 62) + (1 : Int32)) / (16 : Int32) * (16 : Int32))) fun I_351 =>
  bnd (upd I_351 61 (if (16 : Int32) < ((I_351 61) + (1 : Int32)) then (16 : Int32) else ((I_351 61) + (1 : Int32)))) fun I_352 =>
  some (I_352, c_350.2))
  else if (I 62) = (4 : Int32) then (Option.bind (f_X6_copyFrom_80_22 I F) fun c_364 =>
  bnd (upd c_364.1 62 (((c_364.1 62) + (1 : Int32)) - ((c_364.1 62) + (1 : Int32)) / (16 : Int32) * (16 : Int32))) fun I_365 =>
  bnd (upd I_365 61 (if (16 : Int32) < ((I_365 61) + (1 : Int32)) then (16 : Int32) else ((I_365 61) + (1 : Int32)))) fun I_366 =>
  some (I_366, c_364.2))
  else if (I 62) = (5 : Int32) then (Option.bind (f_X6_copyFrom_89_22 I F) fun c_378 =>
  bnd (upd c_378.1 62 (((c_378.1 62) + (1 : Int32)) - ((c_378.1 62) + (1 : Int32)) / (16 : Int32) * (16 : Int32))) fun I_379 =>
  bnd (upd I_379 61 (if (16 : Int32) < ((I_379 61) + (1 : Int32)) then (16 : Int32) else ((I_379 61) + (1 : Int32)))) fun I_380 =>
  some (I_380, c_378.2))
  else if (I 62) = (6 : Int32) then (Option.bind (f_X6_copyFrom_98_22 I F) fun c_392 =>
  bnd (upd c_392.1 62 (((c_392.1 62) + (1 : Int32)) - ((c_392.1 62) + (1 : Int32)) / (16 : Int32) * (16 : Int32))) fun I_393 =>
  bnd (upd I_393 61 (if (16 : Int32) < ((I_393 61) + (1 : Int32)) then (16 : Int32) else ((I_393 61) + (1 : Int32)))) fun I_394 =>
  some (I_394, c_392.2))
  else if (I 62) = (7 : Int32) then (Option.bind (f_X6_copyFrom_107_22 I F) fun c_406 =>
  bnd (upd c_406.1 62 (((c_406.1 62) + (1 : Int32)) - ((c_406.1 62) + (1 : Int32)) / (16 : Int32) * (16 : Int32))) fun I_407 =>
  bnd (upd I_407 61 (if (16 : Int32) < ((I_407 61) + (1 : Int32)) then (16 : Int32) else ((I_407 61) + (1 : Int32)))) fun I_408 =>
  some (I_408, c_406.2))
  else if (I 62) = (8 : Int32) then (Option.bind (f_X6_copyFrom_116_22 I F) fun c_420 =>
  bnd (upd c_420.1 62 (((c_420.1 62) + (1 : Int32)) - ((c_420.1 62) + (1 : Int32)) / (16 : Int32) * (16 : Int32))) fun I_421 =>
  bnd (upd I_421 61 (if (16 : Int32) < ((I_421 61) + (1 : Int32)) then (16 : Int32) else ((I_421 61) + (1 : Int32)))) fun I_422 =>
  some (I_422, c_420.2))
  else if (I 62) = (9 : Int32) then (Option.bind (f_X6_copyFrom_125_22 I F) fun c_434 =>
  bnd (upd c_434.1 62 (((c_434.1 62) + (1 : Int32)) - ((c_434.1 62) + (1 : Int32)) / (16 : Int32) * (16 : Int32))) fun I_435 =>
  bnd (upd I_435 61 (if (16 : Int32) < ((I_435 61) + (1 : Int32)) then (16 : Int32) else ((I_435 61) + (1 : Int32)))) fun I_436 =>
  some (I_436, c_434.2))
  else if (I 62) = (10 : Int32) then (Option.bind (f_X6_copyFrom_134_22 I F) fun c_448 =>
  bnd (upd c_448.1 62 (((c_448.1 62) + (1 : Int32)) - ((c_448.1 62) + (1 : Int32)) / (16 : Int32) * (16 : Int32))) fun I_449 =>
  bnd (upd I_449 61 (if (16 : Int32) < ((I_449 61) + (1 : Int32)) then (16 : Int32) else ((I_449 61) + (1 : Int32)))) fun I_450 =>
  some (I_450, c_448.2))
  else if (I 62) = (11 : Int32) then (Option.bind (f_X6_copyFrom_143_22 I F) fun c_462 =>
  bnd (upd c_462.1 62 (((c_462.1 62) + (1 : Int32)) - ((c_462.1 62) + (1 : Int32)) / (16 : Int32) * (16 : Int32))) fun I_463 =>
  bnd (upd I_463 61 (if (16 : Int32) < ((I_463 61) + (1 : Int32)) then (16 : Int32) else ((I_463 61) + (1 : Int32)))) fun I_464 =>
  some (I_464, c_462.2))
  else if (I 62) = (12 : Int32) then (Option.bind (f_X6_copyFrom_152_22 I F) fun c_476 =>
  bnd (upd c_476.1 62 (((c_476.1 62) + (1 : Int32)) - ((c_476.1 62) + (1 : Int32)) / (16 : Int32) * (16 : Int32))) fun I_477 =>
  bnd (upd I_477 61 (if (16 : Int32) < ((I_477 61) + (1 : Int32)) then (16 : Int32) else ((I_477 61) + (1 : Int32)))) fun I_478 =>
  some (I_478, c_476.2))
  else if (I 62) = (13 : Int32) then (Option.bind (f_X6_copyFrom_161_22 I F) fun c_490 =>
  bnd (upd c_490.1 62 (((c_490.1 62) + (1 : Int32)) - ((c_490.1 62) + (1 : Int32)) / (16 : Int32) * (16 : Int32))) fun I_491 =>
  bnd (upd I_491 61 (if (16 : Int32) < ((I_491 61) + (1 : Int32)) then (16 : Int32) else ((I_491 61) + (1 : Int32)))) fun I_492 =>
  some (I_492, c_490.2))
  else if (I 62) = (14 : Int32) then (Option.bind (f_X6_copyFrom_170_22 I F) fun c_504 =>
  bnd (upd c_504.1 62 (((c_504.1 62) + (1 : Int32)) - ((c_504.1 62) + (1 : Int32)) / (16 : Int32) * (16 : Int32))) fun I_505 =>
  bnd (upd I_505 61 (if (16 : Int32) < ((I_505 61) + (1 : Int32)) then (16 : Int32) else ((I_505 61) + (1 : Int32)))) fun I_506 =>
  some (I_506, c_504.2))
  else if (I 62) = (15 : Int32) then (Option.bind (f_X6_copyFrom_179_22 I F) fun c_518 =>
  bnd (upd c_518.1 62 (((c_518.1 62) + (1 : Int32)) - ((c_518.1 62) + (1 : Int32)) / (16 : Int32) * (16 : Int32))) fun I_519 =>
  bnd (upd I_519 61 (if (16 : Int32) < ((I_519 61) + (1 : Int32)) then (16 : Int32) else ((I_519 61) + (1 : Int32)))) fun I_520 =>
  some (I_520, c_518.2))
  else none
set_option maxRecDepth 100000 in
set_option maxHeartbeats 4000000 in
theorem c_X3_remember_42_22 {I : WI} {F : WF} {J : WI} {K : WF} {a : WI × WF} (h : f_X3_remember_42_22  I F = some a) : CT md_X3_remember yX3_remember (rmD 2) [.ref 42, .ref 22] (mkW I F J K) none (mkW a.1 a.2 J K) := CT_of pn_X3 ⟨rfl, rfl⟩ (Nat.le_of_ble_eq_true rfl) (fun X => by
  show GG X md_X3_remember (rmD 2) _ 0 0 0 [(0, .ref 42), (1, .ref 22)] [] (mkW I F J K)
  unfold f_X3_remember_42_22 at h
  refine G_aload_n (pc2 := 1) 0 rfl dX3_remember_0 rfl rfl ?_
  refine T_42_1 (pc2 := 4) kw_371 dX3_remember_1 rfl ?_
  refine G_aload_n (pc2 := 5) 0 rfl dX3_remember_4 rfl rfl ?_
  refine T_42_2 (pc2 := 8) kw_372 dX3_remember_5 rfl ?_
  by_cases qx_311 : (I 62) = (0 : Int32)
  · have h := ite_t h qx_311
    refine AA (pc2 := 9) (C := RX6) (fun _ => rfl) (qr_43 _ _ _ _) (0 : Int32) qx_311 rfl rfl dX3_remember_8 rfl ?_
    refine G_aload_n (pc2 := 10) 1 rfl dX3_remember_9 rfl rfl ?_
    obtain ⟨c_308, hc_308, h⟩ := ob_e h
    refine B_callV (pc2 := 13) si_X3_25 (c_X6_copyFrom_44_22 hc_308) (qo_44 _ _ _ _) rfl rfl rfl (st := []) (stq := []) rfl (by decide) (by decide) (Nat.le_of_ble_eq_true rfl) mkW_ll dX3_remember_10 rfl rfl ?_ ⟨rfl, rfl⟩
    refine G_aload_n (pc2 := 14) 0 rfl dX3_remember_13 rfl rfl ?_
    refine G_aload_n (pc2 := 15) 0 rfl dX3_remember_14 rfl rfl ?_
    refine T_42_2 (pc2 := 18) kw_372 dX3_remember_15 rfl ?_
    refine G_iconst (pc2 := 19) dX3_remember_18 ic_1 rfl ?_
    refine G_iadd (pc2 := 20) dX3_remember_19 rfl ?_
    refine G_bipush (pc2 := 22) dX3_remember_20 ib_16 rfl ?_
    refine G_irem (pc2 := 23) dX3_remember_22 (by decide) rfl ?_
    refine P_42_2 (pc2 := 26) h kw_372 dX3_remember_23 rfl (fun I_309 h => ?_)
    refine G_aload_n (pc2 := 27) 0 rfl dX3_remember_26 rfl rfl ?_
    refine G_aload_n (pc2 := 28) 0 rfl dX3_remember_27 rfl rfl ?_
    refine T_42_0 (pc2 := 31) kw_369 dX3_remember_28 rfl ?_
    refine G_iconst (pc2 := 32) dX3_remember_31 ic_1 rfl ?_
    refine G_iadd (pc2 := 33) dX3_remember_32 rfl ?_
    refine G_bipush (pc2 := 35) dX3_remember_33 ib_16 rfl ?_
    refine G_min (pc2 := 38) kw_681 ⟨by decide, by decide, Nat.le_refl _, Nat.le_refl _⟩ (Nat.le_of_ble_eq_true rfl) dX3_remember_35 rfl ?_
    refine P_42_0 (pc2 := 41) h kw_369 dX3_remember_38 rfl (fun I_310 h => ?_)
    have ha := Option.some.inj h
    subst ha
    exact G_vret rfl dX3_remember_41
  have h := ite_f h qx_311
  by_cases qx_325 : (I 62) = (1 : Int32)
  · have h := ite_t h qx_325
    refine AA (pc2 := 9) (C := RX6) (fun _ => rfl) (qr_43 _ _ _ _) (1 : Int32) qx_325 rfl rfl dX3_remember_8 rfl ?_
    refine G_aload_n (pc2 := 10) 1 rfl dX3_remember_9 rfl rfl ?_
    obtain ⟨c_322, hc_322, h⟩ := ob_e h
    refine B_callV (pc2 := 13) si_X3_25 (c_X6_copyFrom_53_22 hc_322) (qo_53 _ _ _ _) rfl rfl rfl (st := []) (stq := []) rfl (by decide) (by decide) (Nat.le_of_ble_eq_true rfl) mkW_ll dX3_remember_10 rfl rfl ?_ ⟨rfl, rfl⟩
    refine G_aload_n (pc2 := 14) 0 rfl dX3_remember_13 rfl rfl ?_
    refine G_aload_n (pc2 := 15) 0 rfl dX3_remember_14 rfl rfl ?_
    refine T_42_2 (pc2 := 18) kw_372 dX3_remember_15 rfl ?_
    refine G_iconst (pc2 := 19) dX3_remember_18 ic_1 rfl ?_
    refine G_iadd (pc2 := 20) dX3_remember_19 rfl ?_
    refine G_bipush (pc2 := 22) dX3_remember_20 ib_16 rfl ?_
    refine G_irem (pc2 := 23) dX3_remember_22 (by decide) rfl ?_
    refine P_42_2 (pc2 := 26) h kw_372 dX3_remember_23 rfl (fun I_323 h => ?_)
    refine G_aload_n (pc2 := 27) 0 rfl dX3_remember_26 rfl rfl ?_
    refine G_aload_n (pc2 := 28) 0 rfl dX3_remember_27 rfl rfl ?_
    refine T_42_0 (pc2 := 31) kw_369 dX3_remember_28 rfl ?_
    refine G_iconst (pc2 := 32) dX3_remember_31 ic_1 rfl ?_
    refine G_iadd (pc2 := 33) dX3_remember_32 rfl ?_
    refine G_bipush (pc2 := 35) dX3_remember_33 ib_16 rfl ?_
    refine G_min (pc2 := 38) kw_681 ⟨by decide, by decide, Nat.le_refl _, Nat.le_refl _⟩ (Nat.le_of_ble_eq_true rfl) dX3_remember_35 rfl ?_
    refine P_42_0 (pc2 := 41) h kw_369 dX3_remember_38 rfl (fun I_324 h => ?_)
    have ha := Option.some.inj h
    subst ha
    exact G_vret rfl dX3_remember_41
  have h := ite_f h qx_325
  by_cases qx_339 : (I 62) = (2 : Int32)
  · have h := ite_t h qx_339
    refine AA (pc2 := 9) (C := RX6) (fun _ => rfl) (qr_43 _ _ _ _) (2 : Int32) qx_339 rfl rfl dX3_remember_8 rfl ?_
    refine G_aload_n (pc2 := 10) 1 rfl dX3_remember_9 rfl rfl ?_
    obtain ⟨c_336, hc_336, h⟩ := ob_e h
    refine B_callV (pc2 := 13) si_X3_25 (c_X6_copyFrom_62_22 hc_336) (qo_62 _ _ _ _) rfl rfl rfl (st := []) (stq := []) rfl (by decide) (by decide) (Nat.le_of_ble_eq_true rfl) mkW_ll dX3_remember_10 rfl rfl ?_ ⟨rfl, rfl⟩
    refine G_aload_n (pc2 := 14) 0 rfl dX3_remember_13 rfl rfl ?_
    refine G_aload_n (pc2 := 15) 0 rfl dX3_remember_14 rfl rfl ?_
    refine T_42_2 (pc2 := 18) kw_372 dX3_remember_15 rfl ?_
    refine G_iconst (pc2 := 19) dX3_remember_18 ic_1 rfl ?_
    refine G_iadd (pc2 := 20) dX3_remember_19 rfl ?_
    refine G_bipush (pc2 := 22) dX3_remember_20 ib_16 rfl ?_
    refine G_irem (pc2 := 23) dX3_remember_22 (by decide) rfl ?_
    refine P_42_2 (pc2 := 26) h kw_372 dX3_remember_23 rfl (fun I_337 h => ?_)
    refine G_aload_n (pc2 := 27) 0 rfl dX3_remember_26 rfl rfl ?_
    refine G_aload_n (pc2 := 28) 0 rfl dX3_remember_27 rfl rfl ?_
    refine T_42_0 (pc2 := 31) kw_369 dX3_remember_28 rfl ?_
    refine G_iconst (pc2 := 32) dX3_remember_31 ic_1 rfl ?_
    refine G_iadd (pc2 := 33) dX3_remember_32 rfl ?_
    refine G_bipush (pc2 := 35) dX3_remember_33 ib_16 rfl ?_
    refine G_min (pc2 := 38) kw_681 ⟨by decide, by decide, Nat.le_refl _, Nat.le_refl _⟩ (Nat.le_of_ble_eq_true rfl) dX3_remember_35 rfl ?_
    refine P_42_0 (pc2 := 41) h kw_369 dX3_remember_38 rfl (fun I_338 h => ?_)
    have ha := Option.some.inj h
    subst ha
    exact G_vret rfl dX3_remember_41
  have h := ite_f h qx_339
  by_cases qx_353 : (I 62) = (3 : Int32)
  · have h := ite_t h qx_353
    refine AA (pc2 := 9) (C := RX6) (fun _ => rfl) (qr_43 _ _ _ _) (3 : Int32) qx_353 rfl rfl dX3_remember_8 rfl ?_
    refine G_aload_n (pc2 := 10) 1 rfl dX3_remember_9 rfl rfl ?_
    obtain ⟨c_350, hc_350, h⟩ := ob_e h
    refine B_callV (pc2 := 13) si_X3_25 (c_X6_copyFrom_71_22 hc_350) (qo_71 _ _ _ _) rfl rfl rfl (st := []) (stq := []) rfl (by decide) (by decide) (Nat.le_of_ble_eq_true rfl) mkW_ll dX3_remember_10 rfl rfl ?_ ⟨rfl, rfl⟩
    refine G_aload_n (pc2 := 14) 0 rfl dX3_remember_13 rfl rfl ?_
    refine G_aload_n (pc2 := 15) 0 rfl dX3_remember_14 rfl rfl ?_
    refine T_42_2 (pc2 := 18) kw_372 dX3_remember_15 rfl ?_
    refine G_iconst (pc2 := 19) dX3_remember_18 ic_1 rfl ?_
    refine G_iadd (pc2 := 20) dX3_remember_19 rfl ?_
    refine G_bipush (pc2 := 22) dX3_remember_20 ib_16 rfl ?_
    refine G_irem (pc2 := 23) dX3_remember_22 (by decide) rfl ?_
    refine P_42_2 (pc2 := 26) h kw_372 dX3_remember_23 rfl (fun I_351 h => ?_)
    refine G_aload_n (pc2 := 27) 0 rfl dX3_remember_26 rfl rfl ?_
    refine G_aload_n (pc2 := 28) 0 rfl dX3_remember_27 rfl rfl ?_
    refine T_42_0 (pc2 := 31) kw_369 dX3_remember_28 rfl ?_
    refine G_iconst (pc2 := 32) dX3_remember_31 ic_1 rfl ?_
    refine G_iadd (pc2 := 33) dX3_remember_32 rfl ?_
    refine G_bipush (pc2 := 35) dX3_remember_33 ib_16 rfl ?_
    refine G_min (pc2 := 38) kw_681 ⟨by decide, by decide, Nat.le_refl _, Nat.le_refl _⟩ (Nat.le_of_ble_eq_true rfl) dX3_remember_35 rfl ?_
    refine P_42_0 (pc2 := 41) h kw_369 dX3_remember_38 rfl (fun I_352 h => ?_)
    have ha := Option.some.inj h
    subst ha
    exact G_vret rfl dX3_remember_41
  have h := ite_f h qx_353
  by_cases qx_367 : (I 62) = (4 : Int32)
  · have h := ite_t h qx_367
    refine AA (pc2 := 9) (C := RX6) (fun _ => rfl) (qr_43 _ _ _ _) (4 : Int32) qx_367 rfl rfl dX3_remember_8 rfl ?_
    refine G_aload_n (pc2 := 10) 1 rfl dX3_remember_9 rfl rfl ?_
    obtain ⟨c_364, hc_364, h⟩ := ob_e h
    refine B_callV (pc2 := 13) si_X3_25 (c_X6_copyFrom_80_22 hc_364) (qo_80 _ _ _ _) rfl rfl rfl (st := []) (stq := []) rfl (by decide) (by decide) (Nat.le_of_ble_eq_true rfl) mkW_ll dX3_remember_10 rfl rfl ?_ ⟨rfl, rfl⟩
    refine G_aload_n (pc2 := 14) 0 rfl dX3_remember_13 rfl rfl ?_
    refine G_aload_n (pc2 := 15) 0 rfl dX3_remember_14 rfl rfl ?_
    refine T_42_2 (pc2 := 18) kw_372 dX3_remember_15 rfl ?_
    refine G_iconst (pc2 := 19) dX3_remember_18 ic_1 rfl ?_
    refine G_iadd (pc2 := 20) dX3_remember_19 rfl ?_
    refine G_bipush (pc2 := 22) dX3_remember_20 ib_16 rfl ?_
    refine G_irem (pc2 := 23) dX3_remember_22 (by decide) rfl ?_
    refine P_42_2 (pc2 := 26) h kw_372 dX3_remember_23 rfl (fun I_365 h => ?_)
    refine G_aload_n (pc2 := 27) 0 rfl dX3_remember_26 rfl rfl ?_
    refine G_aload_n (pc2 := 28) 0 rfl dX3_remember_27 rfl rfl ?_
    refine T_42_0 (pc2 := 31) kw_369 dX3_remember_28 rfl ?_
    refine G_iconst (pc2 := 32) dX3_remember_31 ic_1 rfl ?_
    refine G_iadd (pc2 := 33) dX3_remember_32 rfl ?_
    refine G_bipush (pc2 := 35) dX3_remember_33 ib_16 rfl ?_
    refine G_min (pc2 := 38) kw_681 ⟨by decide, by decide, Nat.le_refl _, Nat.le_refl _⟩ (Nat.le_of_ble_eq_true rfl) dX3_remember_35 rfl ?_
    refine P_42_0 (pc2 := 41) h kw_369 dX3_remember_38 rfl (fun I_366 h => ?_)
    have ha := Option.some.inj h
    subst ha
    exact G_vret rfl dX3_remember_41
  have h := ite_f h qx_367
  by_cases qx_381 : (I 62) = (5 : Int32)
  · have h := ite_t h qx_381
    refine AA (pc2 := 9) (C := RX6) (fun _ => rfl) (qr_43 _ _ _ _) (5 : Int32) qx_381 rfl rfl dX3_remember_8 rfl ?_
    refine G_aload_n (pc2 := 10) 1 rfl dX3_remember_9 rfl rfl ?_
    obtain ⟨c_378, hc_378, h⟩ := ob_e h
    refine B_callV (pc2 := 13) si_X3_25 (c_X6_copyFrom_89_22 hc_378) (qo_89 _ _ _ _) rfl rfl rfl (st := []) (stq := []) rfl (by decide) (by decide) (Nat.le_of_ble_eq_true rfl) mkW_ll dX3_remember_10 rfl rfl ?_ ⟨rfl, rfl⟩
    refine G_aload_n (pc2 := 14) 0 rfl dX3_remember_13 rfl rfl ?_
    refine G_aload_n (pc2 := 15) 0 rfl dX3_remember_14 rfl rfl ?_
    refine T_42_2 (pc2 := 18) kw_372 dX3_remember_15 rfl ?_
    refine G_iconst (pc2 := 19) dX3_remember_18 ic_1 rfl ?_
    refine G_iadd (pc2 := 20) dX3_remember_19 rfl ?_
    refine G_bipush (pc2 := 22) dX3_remember_20 ib_16 rfl ?_
    refine G_irem (pc2 := 23) dX3_remember_22 (by decide) rfl ?_
    refine P_42_2 (pc2 := 26) h kw_372 dX3_remember_23 rfl (fun I_379 h => ?_)
    refine G_aload_n (pc2 := 27) 0 rfl dX3_remember_26 rfl rfl ?_
    refine G_aload_n (pc2 := 28) 0 rfl dX3_remember_27 rfl rfl ?_
    refine T_42_0 (pc2 := 31) kw_369 dX3_remember_28 rfl ?_
    refine G_iconst (pc2 := 32) dX3_remember_31 ic_1 rfl ?_
    refine G_iadd (pc2 := 33) dX3_remember_32 rfl ?_
    refine G_bipush (pc2 := 35) dX3_remember_33 ib_16 rfl ?_
    refine G_min (pc2 := 38) kw_681 ⟨by decide, by decide, Nat.le_refl _, Nat.le_refl _⟩ (Nat.le_of_ble_eq_true rfl) dX3_remember_35 rfl ?_
    refine P_42_0 (pc2 := 41) h kw_369 dX3_remember_38 rfl (fun I_380 h => ?_)
    have ha := Option.some.inj h
    subst ha
    exact G_vret rfl dX3_remember_41
  have h := ite_f h qx_381
  by_cases qx_395 : (I 62) = (6 : Int32)
  · have h := ite_t h qx_395
    refine AA (pc2 := 9) (C := RX6) (fun _ => rfl) (qr_43 _ _ _ _) (6 : Int32) qx_395 rfl rfl dX3_remember_8 rfl ?_
    refine G_aload_n (pc2 := 10) 1 rfl dX3_remember_9 rfl rfl ?_
    obtain ⟨c_392, hc_392, h⟩ := ob_e h
    refine B_callV (pc2 := 13) si_X3_25 (c_X6_copyFrom_98_22 hc_392) (qo_98 _ _ _ _) rfl rfl rfl (st := []) (stq := []) rfl (by decide) (by decide) (Nat.le_of_ble_eq_true rfl) mkW_ll dX3_remember_10 rfl rfl ?_ ⟨rfl, rfl⟩
    refine G_aload_n (pc2 := 14) 0 rfl dX3_remember_13 rfl rfl ?_
    refine G_aload_n (pc2 := 15) 0 rfl dX3_remember_14 rfl rfl ?_
    refine T_42_2 (pc2 := 18) kw_372 dX3_remember_15 rfl ?_
    refine G_iconst (pc2 := 19) dX3_remember_18 ic_1 rfl ?_
    refine G_iadd (pc2 := 20) dX3_remember_19 rfl ?_
    refine G_bipush (pc2 := 22) dX3_remember_20 ib_16 rfl ?_
    refine G_irem (pc2 := 23) dX3_remember_22 (by decide) rfl ?_
    refine P_42_2 (pc2 := 26) h kw_372 dX3_remember_23 rfl (fun I_393 h => ?_)
    refine G_aload_n (pc2 := 27) 0 rfl dX3_remember_26 rfl rfl ?_
    refine G_aload_n (pc2 := 28) 0 rfl dX3_remember_27 rfl rfl ?_
    refine T_42_0 (pc2 := 31) kw_369 dX3_remember_28 rfl ?_
    refine G_iconst (pc2 := 32) dX3_remember_31 ic_1 rfl ?_
    refine G_iadd (pc2 := 33) dX3_remember_32 rfl ?_
    refine G_bipush (pc2 := 35) dX3_remember_33 ib_16 rfl ?_
    refine G_min (pc2 := 38) kw_681 ⟨by decide, by decide, Nat.le_refl _, Nat.le_refl _⟩ (Nat.le_of_ble_eq_true rfl) dX3_remember_35 rfl ?_
    refine P_42_0 (pc2 := 41) h kw_369 dX3_remember_38 rfl (fun I_394 h => ?_)
    have ha := Option.some.inj h
    subst ha
    exact G_vret rfl dX3_remember_41
  have h := ite_f h qx_395
  by_cases qx_409 : (I 62) = (7 : Int32)
  · have h := ite_t h qx_409
    refine AA (pc2 := 9) (C := RX6) (fun _ => rfl) (qr_43 _ _ _ _) (7 : Int32) qx_409 rfl rfl dX3_remember_8 rfl ?_
    refine G_aload_n (pc2 := 10) 1 rfl dX3_remember_9 rfl rfl ?_
    obtain ⟨c_406, hc_406, h⟩ := ob_e h
    refine B_callV (pc2 := 13) si_X3_25 (c_X6_copyFrom_107_22 hc_406) (qo_107 _ _ _ _) rfl rfl rfl (st := []) (stq := []) rfl (by decide) (by decide) (Nat.le_of_ble_eq_true rfl) mkW_ll dX3_remember_10 rfl rfl ?_ ⟨rfl, rfl⟩
    refine G_aload_n (pc2 := 14) 0 rfl dX3_remember_13 rfl rfl ?_
    refine G_aload_n (pc2 := 15) 0 rfl dX3_remember_14 rfl rfl ?_
    refine T_42_2 (pc2 := 18) kw_372 dX3_remember_15 rfl ?_
    refine G_iconst (pc2 := 19) dX3_remember_18 ic_1 rfl ?_
    refine G_iadd (pc2 := 20) dX3_remember_19 rfl ?_
    refine G_bipush (pc2 := 22) dX3_remember_20 ib_16 rfl ?_
    refine G_irem (pc2 := 23) dX3_remember_22 (by decide) rfl ?_
    refine P_42_2 (pc2 := 26) h kw_372 dX3_remember_23 rfl (fun I_407 h => ?_)
    refine G_aload_n (pc2 := 27) 0 rfl dX3_remember_26 rfl rfl ?_
    refine G_aload_n (pc2 := 28) 0 rfl dX3_remember_27 rfl rfl ?_
    refine T_42_0 (pc2 := 31) kw_369 dX3_remember_28 rfl ?_
    refine G_iconst (pc2 := 32) dX3_remember_31 ic_1 rfl ?_
    refine G_iadd (pc2 := 33) dX3_remember_32 rfl ?_
    refine G_bipush (pc2 := 35) dX3_remember_33 ib_16 rfl ?_
    refine G_min (pc2 := 38) kw_681 ⟨by decide, by decide, Nat.le_refl _, Nat.le_refl _⟩ (Nat.le_of_ble_eq_true rfl) dX3_remember_35 rfl ?_
    refine P_42_0 (pc2 := 41) h kw_369 dX3_remember_38 rfl (fun I_408 h => ?_)
    have ha := Option.some.inj h
    subst ha
    exact G_vret rfl dX3_remember_41
  have h := ite_f h qx_409
  by_cases qx_423 : (I 62) = (8 : Int32)
  · have h := ite_t h qx_423
    refine AA (pc2 := 9) (C := RX6) (fun _ => rfl) (qr_43 _ _ _ _) (8 : Int32) qx_423 rfl rfl dX3_remember_8 rfl ?_
    refine G_aload_n (pc2 := 10) 1 rfl dX3_remember_9 rfl rfl ?_
    obtain ⟨c_420, hc_420, h⟩ := ob_e h
    refine B_callV (pc2 := 13) si_X3_25 (c_X6_copyFrom_116_22 hc_420) (qo_116 _ _ _ _) rfl rfl rfl (st := []) (stq := []) rfl (by decide) (by decide) (Nat.le_of_ble_eq_true rfl) mkW_ll dX3_remember_10 rfl rfl ?_ ⟨rfl, rfl⟩
    refine G_aload_n (pc2 := 14) 0 rfl dX3_remember_13 rfl rfl ?_
    refine G_aload_n (pc2 := 15) 0 rfl dX3_remember_14 rfl rfl ?_
    refine T_42_2 (pc2 := 18) kw_372 dX3_remember_15 rfl ?_
    refine G_iconst (pc2 := 19) dX3_remember_18 ic_1 rfl ?_
    refine G_iadd (pc2 := 20) dX3_remember_19 rfl ?_
    refine G_bipush (pc2 := 22) dX3_remember_20 ib_16 rfl ?_
    refine G_irem (pc2 := 23) dX3_remember_22 (by decide) rfl ?_
    refine P_42_2 (pc2 := 26) h kw_372 dX3_remember_23 rfl (fun I_421 h => ?_)
    refine G_aload_n (pc2 := 27) 0 rfl dX3_remember_26 rfl rfl ?_
    refine G_aload_n (pc2 := 28) 0 rfl dX3_remember_27 rfl rfl ?_
    refine T_42_0 (pc2 := 31) kw_369 dX3_remember_28 rfl ?_
    refine G_iconst (pc2 := 32) dX3_remember_31 ic_1 rfl ?_
    refine G_iadd (pc2 := 33) dX3_remember_32 rfl ?_
    refine G_bipush (pc2 := 35) dX3_remember_33 ib_16 rfl ?_
    refine G_min (pc2 := 38) kw_681 ⟨by decide, by decide, Nat.le_refl _, Nat.le_refl _⟩ (Nat.le_of_ble_eq_true rfl) dX3_remember_35 rfl ?_
    refine P_42_0 (pc2 := 41) h kw_369 dX3_remember_38 rfl (fun I_422 h => ?_)
    have ha := Option.some.inj h
    subst ha
    exact G_vret rfl dX3_remember_41
  have h := ite_f h qx_423
  by_cases qx_437 : (I 62) = (9 : Int32)
  · have h := ite_t h qx_437
    refine AA (pc2 := 9) (C := RX6) (fun _ => rfl) (qr_43 _ _ _ _) (9 : Int32) qx_437 rfl rfl dX3_remember_8 rfl ?_
    refine G_aload_n (pc2 := 10) 1 rfl dX3_remember_9 rfl rfl ?_
    obtain ⟨c_434, hc_434, h⟩ := ob_e h
    refine B_callV (pc2 := 13) si_X3_25 (c_X6_copyFrom_125_22 hc_434) (qo_125 _ _ _ _) rfl rfl rfl (st := []) (stq := []) rfl (by decide) (by decide) (Nat.le_of_ble_eq_true rfl) mkW_ll dX3_remember_10 rfl rfl ?_ ⟨rfl, rfl⟩
    refine G_aload_n (pc2 := 14) 0 rfl dX3_remember_13 rfl rfl ?_
    refine G_aload_n (pc2 := 15) 0 rfl dX3_remember_14 rfl rfl ?_
    refine T_42_2 (pc2 := 18) kw_372 dX3_remember_15 rfl ?_
    refine G_iconst (pc2 := 19) dX3_remember_18 ic_1 rfl ?_
    refine G_iadd (pc2 := 20) dX3_remember_19 rfl ?_
    refine G_bipush (pc2 := 22) dX3_remember_20 ib_16 rfl ?_
    refine G_irem (pc2 := 23) dX3_remember_22 (by decide) rfl ?_
    refine P_42_2 (pc2 := 26) h kw_372 dX3_remember_23 rfl (fun I_435 h => ?_)
    refine G_aload_n (pc2 := 27) 0 rfl dX3_remember_26 rfl rfl ?_
    refine G_aload_n (pc2 := 28) 0 rfl dX3_remember_27 rfl rfl ?_
    refine T_42_0 (pc2 := 31) kw_369 dX3_remember_28 rfl ?_
    refine G_iconst (pc2 := 32) dX3_remember_31 ic_1 rfl ?_
    refine G_iadd (pc2 := 33) dX3_remember_32 rfl ?_
    refine G_bipush (pc2 := 35) dX3_remember_33 ib_16 rfl ?_
    refine G_min (pc2 := 38) kw_681 ⟨by decide, by decide, Nat.le_refl _, Nat.le_refl _⟩ (Nat.le_of_ble_eq_true rfl) dX3_remember_35 rfl ?_
    refine P_42_0 (pc2 := 41) h kw_369 dX3_remember_38 rfl (fun I_436 h => ?_)
    have ha := Option.some.inj h
    subst ha
    exact G_vret rfl dX3_remember_41
  have h := ite_f h qx_437
  by_cases qx_451 : (I 62) = (10 : Int32)
  · have h := ite_t h qx_451
    refine AA (pc2 := 9) (C := RX6) (fun _ => rfl) (qr_43 _ _ _ _) (10 : Int32) qx_451 rfl rfl dX3_remember_8 rfl ?_
    refine G_aload_n (pc2 := 10) 1 rfl dX3_remember_9 rfl rfl ?_
    obtain ⟨c_448, hc_448, h⟩ := ob_e h
    refine B_callV (pc2 := 13) si_X3_25 (c_X6_copyFrom_134_22 hc_448) (qo_134 _ _ _ _) rfl rfl rfl (st := []) (stq := []) rfl (by decide) (by decide) (Nat.le_of_ble_eq_true rfl) mkW_ll dX3_remember_10 rfl rfl ?_ ⟨rfl, rfl⟩
    refine G_aload_n (pc2 := 14) 0 rfl dX3_remember_13 rfl rfl ?_
    refine G_aload_n (pc2 := 15) 0 rfl dX3_remember_14 rfl rfl ?_
    refine T_42_2 (pc2 := 18) kw_372 dX3_remember_15 rfl ?_
    refine G_iconst (pc2 := 19) dX3_remember_18 ic_1 rfl ?_
    refine G_iadd (pc2 := 20) dX3_remember_19 rfl ?_
    refine G_bipush (pc2 := 22) dX3_remember_20 ib_16 rfl ?_
    refine G_irem (pc2 := 23) dX3_remember_22 (by decide) rfl ?_
    refine P_42_2 (pc2 := 26) h kw_372 dX3_remember_23 rfl (fun I_449 h => ?_)
    refine G_aload_n (pc2 := 27) 0 rfl dX3_remember_26 rfl rfl ?_
    refine G_aload_n (pc2 := 28) 0 rfl dX3_remember_27 rfl rfl ?_
    refine T_42_0 (pc2 := 31) kw_369 dX3_remember_28 rfl ?_
    refine G_iconst (pc2 := 32) dX3_remember_31 ic_1 rfl ?_
    refine G_iadd (pc2 := 33) dX3_remember_32 rfl ?_
    refine G_bipush (pc2 := 35) dX3_remember_33 ib_16 rfl ?_
    refine G_min (pc2 := 38) kw_681 ⟨by decide, by decide, Nat.le_refl _, Nat.le_refl _⟩ (Nat.le_of_ble_eq_true rfl) dX3_remember_35 rfl ?_
    refine P_42_0 (pc2 := 41) h kw_369 dX3_remember_38 rfl (fun I_450 h => ?_)
    have ha := Option.some.inj h
    subst ha
    exact G_vret rfl dX3_remember_41
  have h := ite_f h qx_451
  by_cases qx_465 : (I 62) = (11 : Int32)
  · have h := ite_t h qx_465
    refine AA (pc2 := 9) (C := RX6) (fun _ => rfl) (qr_43 _ _ _ _) (11 : Int32) qx_465 rfl rfl dX3_remember_8 rfl ?_
    refine G_aload_n (pc2 := 10) 1 rfl dX3_remember_9 rfl rfl ?_
    obtain ⟨c_462, hc_462, h⟩ := ob_e h
    refine B_callV (pc2 := 13) si_X3_25 (c_X6_copyFrom_143_22 hc_462) (qo_143 _ _ _ _) rfl rfl rfl (st := []) (stq := []) rfl (by decide) (by decide) (Nat.le_of_ble_eq_true rfl) mkW_ll dX3_remember_10 rfl rfl ?_ ⟨rfl, rfl⟩
    refine G_aload_n (pc2 := 14) 0 rfl dX3_remember_13 rfl rfl ?_
    refine G_aload_n (pc2 := 15) 0 rfl dX3_remember_14 rfl rfl ?_
    refine T_42_2 (pc2 := 18) kw_372 dX3_remember_15 rfl ?_
    refine G_iconst (pc2 := 19) dX3_remember_18 ic_1 rfl ?_
    refine G_iadd (pc2 := 20) dX3_remember_19 rfl ?_
    refine G_bipush (pc2 := 22) dX3_remember_20 ib_16 rfl ?_
    refine G_irem (pc2 := 23) dX3_remember_22 (by decide) rfl ?_
    refine P_42_2 (pc2 := 26) h kw_372 dX3_remember_23 rfl (fun I_463 h => ?_)
    refine G_aload_n (pc2 := 27) 0 rfl dX3_remember_26 rfl rfl ?_
    refine G_aload_n (pc2 := 28) 0 rfl dX3_remember_27 rfl rfl ?_
    refine T_42_0 (pc2 := 31) kw_369 dX3_remember_28 rfl ?_
    refine G_iconst (pc2 := 32) dX3_remember_31 ic_1 rfl ?_
    refine G_iadd (pc2 := 33) dX3_remember_32 rfl ?_
    refine G_bipush (pc2 := 35) dX3_remember_33 ib_16 rfl ?_
    refine G_min (pc2 := 38) kw_681 ⟨by decide, by decide, Nat.le_refl _, Nat.le_refl _⟩ (Nat.le_of_ble_eq_true rfl) dX3_remember_35 rfl ?_
    refine P_42_0 (pc2 := 41) h kw_369 dX3_remember_38 rfl (fun I_464 h => ?_)
    have ha := Option.some.inj h
    subst ha
    exact G_vret rfl dX3_remember_41
  have h := ite_f h qx_465
  by_cases qx_479 : (I 62) = (12 : Int32)
  · have h := ite_t h qx_479
    refine AA (pc2 := 9) (C := RX6) (fun _ => rfl) (qr_43 _ _ _ _) (12 : Int32) qx_479 rfl rfl dX3_remember_8 rfl ?_
    refine G_aload_n (pc2 := 10) 1 rfl dX3_remember_9 rfl rfl ?_
    obtain ⟨c_476, hc_476, h⟩ := ob_e h
    refine B_callV (pc2 := 13) si_X3_25 (c_X6_copyFrom_152_22 hc_476) (qo_152 _ _ _ _) rfl rfl rfl (st := []) (stq := []) rfl (by decide) (by decide) (Nat.le_of_ble_eq_true rfl) mkW_ll dX3_remember_10 rfl rfl ?_ ⟨rfl, rfl⟩
    refine G_aload_n (pc2 := 14) 0 rfl dX3_remember_13 rfl rfl ?_
    refine G_aload_n (pc2 := 15) 0 rfl dX3_remember_14 rfl rfl ?_
    refine T_42_2 (pc2 := 18) kw_372 dX3_remember_15 rfl ?_
    refine G_iconst (pc2 := 19) dX3_remember_18 ic_1 rfl ?_
    refine G_iadd (pc2 := 20) dX3_remember_19 rfl ?_
    refine G_bipush (pc2 := 22) dX3_remember_20 ib_16 rfl ?_
    refine G_irem (pc2 := 23) dX3_remember_22 (by decide) rfl ?_
    refine P_42_2 (pc2 := 26) h kw_372 dX3_remember_23 rfl (fun I_477 h => ?_)
    refine G_aload_n (pc2 := 27) 0 rfl dX3_remember_26 rfl rfl ?_
    refine G_aload_n (pc2 := 28) 0 rfl dX3_remember_27 rfl rfl ?_
    refine T_42_0 (pc2 := 31) kw_369 dX3_remember_28 rfl ?_
    refine G_iconst (pc2 := 32) dX3_remember_31 ic_1 rfl ?_
    refine G_iadd (pc2 := 33) dX3_remember_32 rfl ?_
    refine G_bipush (pc2 := 35) dX3_remember_33 ib_16 rfl ?_
    refine G_min (pc2 := 38) kw_681 ⟨by decide, by decide, Nat.le_refl _, Nat.le_refl _⟩ (Nat.le_of_ble_eq_true rfl) dX3_remember_35 rfl ?_
    refine P_42_0 (pc2 := 41) h kw_369 dX3_remember_38 rfl (fun I_478 h => ?_)
    have ha := Option.some.inj h
    subst ha
    exact G_vret rfl dX3_remember_41
  have h := ite_f h qx_479
  by_cases qx_493 : (I 62) = (13 : Int32)
  · have h := ite_t h qx_493
    refine AA (pc2 := 9) (C := RX6) (fun _ => rfl) (qr_43 _ _ _ _) (13 : Int32) qx_493 rfl rfl dX3_remember_8 rfl ?_
    refine G_aload_n (pc2 := 10) 1 rfl dX3_remember_9 rfl rfl ?_
    obtain ⟨c_490, hc_490, h⟩ := ob_e h
    refine B_callV (pc2 := 13) si_X3_25 (c_X6_copyFrom_161_22 hc_490) (qo_161 _ _ _ _) rfl rfl rfl (st := []) (stq := []) rfl (by decide) (by decide) (Nat.le_of_ble_eq_true rfl) mkW_ll dX3_remember_10 rfl rfl ?_ ⟨rfl, rfl⟩
    refine G_aload_n (pc2 := 14) 0 rfl dX3_remember_13 rfl rfl ?_
    refine G_aload_n (pc2 := 15) 0 rfl dX3_remember_14 rfl rfl ?_
    refine T_42_2 (pc2 := 18) kw_372 dX3_remember_15 rfl ?_
    refine G_iconst (pc2 := 19) dX3_remember_18 ic_1 rfl ?_
    refine G_iadd (pc2 := 20) dX3_remember_19 rfl ?_
    refine G_bipush (pc2 := 22) dX3_remember_20 ib_16 rfl ?_
    refine G_irem (pc2 := 23) dX3_remember_22 (by decide) rfl ?_
    refine P_42_2 (pc2 := 26) h kw_372 dX3_remember_23 rfl (fun I_491 h => ?_)
    refine G_aload_n (pc2 := 27) 0 rfl dX3_remember_26 rfl rfl ?_
    refine G_aload_n (pc2 := 28) 0 rfl dX3_remember_27 rfl rfl ?_
    refine T_42_0 (pc2 := 31) kw_369 dX3_remember_28 rfl ?_
    refine G_iconst (pc2 := 32) dX3_remember_31 ic_1 rfl ?_
    refine G_iadd (pc2 := 33) dX3_remember_32 rfl ?_
    refine G_bipush (pc2 := 35) dX3_remember_33 ib_16 rfl ?_
    refine G_min (pc2 := 38) kw_681 ⟨by decide, by decide, Nat.le_refl _, Nat.le_refl _⟩ (Nat.le_of_ble_eq_true rfl) dX3_remember_35 rfl ?_
    refine P_42_0 (pc2 := 41) h kw_369 dX3_remember_38 rfl (fun I_492 h => ?_)
    have ha := Option.some.inj h
    subst ha
    exact G_vret rfl dX3_remember_41
  have h := ite_f h qx_493
  by_cases qx_507 : (I 62) = (14 : Int32)
  · have h := ite_t h qx_507
    refine AA (pc2 := 9) (C := RX6) (fun _ => rfl) (qr_43 _ _ _ _) (14 : Int32) qx_507 rfl rfl dX3_remember_8 rfl ?_
    refine G_aload_n (pc2 := 10) 1 rfl dX3_remember_9 rfl rfl ?_
    obtain ⟨c_504, hc_504, h⟩ := ob_e h
    refine B_callV (pc2 := 13) si_X3_25 (c_X6_copyFrom_170_22 hc_504) (qo_170 _ _ _ _) rfl rfl rfl (st := []) (stq := []) rfl (by decide) (by decide) (Nat.le_of_ble_eq_true rfl) mkW_ll dX3_remember_10 rfl rfl ?_ ⟨rfl, rfl⟩
    refine G_aload_n (pc2 := 14) 0 rfl dX3_remember_13 rfl rfl ?_
    refine G_aload_n (pc2 := 15) 0 rfl dX3_remember_14 rfl rfl ?_
    refine T_42_2 (pc2 := 18) kw_372 dX3_remember_15 rfl ?_
    refine G_iconst (pc2 := 19) dX3_remember_18 ic_1 rfl ?_
    refine G_iadd (pc2 := 20) dX3_remember_19 rfl ?_
    refine G_bipush (pc2 := 22) dX3_remember_20 ib_16 rfl ?_
    refine G_irem (pc2 := 23) dX3_remember_22 (by decide) rfl ?_
    refine P_42_2 (pc2 := 26) h kw_372 dX3_remember_23 rfl (fun I_505 h => ?_)
    refine G_aload_n (pc2 := 27) 0 rfl dX3_remember_26 rfl rfl ?_
    refine G_aload_n (pc2 := 28) 0 rfl dX3_remember_27 rfl rfl ?_
    refine T_42_0 (pc2 := 31) kw_369 dX3_remember_28 rfl ?_
    refine G_iconst (pc2 := 32) dX3_remember_31 ic_1 rfl ?_
    refine G_iadd (pc2 := 33) dX3_remember_32 rfl ?_
    refine G_bipush (pc2 := 35) dX3_remember_33 ib_16 rfl ?_
    refine G_min (pc2 := 38) kw_681 ⟨by decide, by decide, Nat.le_refl _, Nat.le_refl _⟩ (Nat.le_of_ble_eq_true rfl) dX3_remember_35 rfl ?_
    refine P_42_0 (pc2 := 41) h kw_369 dX3_remember_38 rfl (fun I_506 h => ?_)
    have ha := Option.some.inj h
    subst ha
    exact G_vret rfl dX3_remember_41
  have h := ite_f h qx_507
  by_cases qx_521 : (I 62) = (15 : Int32)
  · have h := ite_t h qx_521
    refine AA (pc2 := 9) (C := RX6) (fun _ => rfl) (qr_43 _ _ _ _) (15 : Int32) qx_521 rfl rfl dX3_remember_8 rfl ?_
    refine G_aload_n (pc2 := 10) 1 rfl dX3_remember_9 rfl rfl ?_
    obtain ⟨c_518, hc_518, h⟩ := ob_e h
    refine B_callV (pc2 := 13) si_X3_25 (c_X6_copyFrom_179_22 hc_518) (qo_179 _ _ _ _) rfl rfl rfl (st := []) (stq := []) rfl (by decide) (by decide) (Nat.le_of_ble_eq_true rfl) mkW_ll dX3_remember_10 rfl rfl ?_ ⟨rfl, rfl⟩
    refine G_aload_n (pc2 := 14) 0 rfl dX3_remember_13 rfl rfl ?_
    refine G_aload_n (pc2 := 15) 0 rfl dX3_remember_14 rfl rfl ?_
    refine T_42_2 (pc2 := 18) kw_372 dX3_remember_15 rfl ?_
    refine G_iconst (pc2 := 19) dX3_remember_18 ic_1 rfl ?_
    refine G_iadd (pc2 := 20) dX3_remember_19 rfl ?_
    refine G_bipush (pc2 := 22) dX3_remember_20 ib_16 rfl ?_
    refine G_irem (pc2 := 23) dX3_remember_22 (by decide) rfl ?_
    refine P_42_2 (pc2 := 26) h kw_372 dX3_remember_23 rfl (fun I_519 h => ?_)
    refine G_aload_n (pc2 := 27) 0 rfl dX3_remember_26 rfl rfl ?_
    refine G_aload_n (pc2 := 28) 0 rfl dX3_remember_27 rfl rfl ?_
    refine T_42_0 (pc2 := 31) kw_369 dX3_remember_28 rfl ?_
    refine G_iconst (pc2 := 32) dX3_remember_31 ic_1 rfl ?_
    refine G_iadd (pc2 := 33) dX3_remember_32 rfl ?_
    refine G_bipush (pc2 := 35) dX3_remember_33 ib_16 rfl ?_
    refine G_min (pc2 := 38) kw_681 ⟨by decide, by decide, Nat.le_refl _, Nat.le_refl _⟩ (Nat.le_of_ble_eq_true rfl) dX3_remember_35 rfl ?_
    refine P_42_0 (pc2 := 41) h kw_369 dX3_remember_38 rfl (fun I_520 h => ?_)
    have ha := Option.some.inj h
    subst ha
    exact G_vret rfl dX3_remember_41
  have h := ite_f h qx_521
  cases h)
def L_X6_enter_22_4 (k : WF → Option (WI × WF)) (x1 : Int32) (x2 : Int32) (x3 : Int32) (I : WI) : Nat → Int32 → WF → Option (WI × WF)
  | 0, _, _ => none
  | n + 1, x4, F =>
  if x4 ≤ 0 then (k F)
  else (ixG (x4 - (1 : Int32)) 20 (
  ixG x4 20 (bnd (uF F 7 (upd (F 7) x4.toNatClampNeg (F 7 (x4 - (1 : Int32)).toNatClampNeg))) fun F_533 =>
  bnd (x4 + (-1 : Int32)) fun x4_534 =>
  L_X6_enter_22_4 k x1 x2 x3 I n x4_534 F_533)))
def f_X6_enter_22 (x1 : Int32) (x2 : Int32) (x3 : Int32) (I : WI) (F : WF) : Option (WI × WF) :=
  bnd (19 : Int32) fun x4_532 =>
  L_X6_enter_22_4 (fun F_535 => bnd (fun (s_537 : Int32) => bnd (uF F_535 7 (upd (F_535 7) 0 (((((I 0) <<< ((8 : Int32) &&& 31)) ||| (x1 <<< ((5 : Int32) &&& 31))) ||| (x2 <<< ((1 : Int32) &&& 31))) ||| s_537))) fun F_538 =>
  bnd (upd I 1 (if (20 : Int32) < ((I 1) + (1 : Int32)) then (20 : Int32) else ((I 1) + (1 : Int32)))) fun I_539 =>
  some (I_539, F_538)) fun j60_536 =>
  if x3 = 0 then (j60_536 (0 : Int32))
  else (j60_536 (1 : Int32))) x1 x2 x3 I FU x4_532 F
set_option maxRecDepth 100000 in
set_option maxHeartbeats 4000000 in
theorem g_L_X6_enter_22_4 {X : XT} {x1 : Int32} {x2 : Int32} {x3 : Int32} {I : WI} {J : WI} {K : WF} {a : WI × WF} {k : WF → Option (WI × WF)} (hk : ∀ (F' : WF), (k F' = some a → GG X md_X6_enter (rmD 1) (gv_Z X (rmD 1).cells (rmD 1).slots none (mkW a.1 a.2 J K)) 0 0 31 [(0, .ref 22), (1, .int x1), (2, .int x2), (3, .int x3)] [] (mkW I F' J K))) : ∀ (n : Nat) (x4 : Int32) (F : WF), L_X6_enter_22_4 k x1 x2 x3 I n x4 F = some a → GG X md_X6_enter (rmD 1) (gv_Z X (rmD 1).cells (rmD 1).slots none (mkW a.1 a.2 J K)) 0 0 4 [(0, .ref 22), (1, .int x1), (2, .int x2), (3, .int x3), (4, .int x4)] [] (mkW I F J K) := by
  intro n
  induction n with
  | zero =>
    intro x4 F h
    rw [L_X6_enter_22_4] at h
    cases h
  | succ n ih =>
    intro x4 F h
    rw [L_X6_enter_22_4] at h
    refine G_iload (pc2 := 6) 4 rfl dX6_enter_4 rfl ?_
    refine B_if_le (tgt := 31) (pc2 := 9) h dX6_enter_6 (by decide) rfl (fun _ h => ?_) (fun _ h => ?_)
    · refine G_sub (ls' := [(0, .ref 22), (1, .int x1), (2, .int x2), (3, .int x3)]) [0, 1, 2, 3] rfl ?_
      exact hk F h
    · refine G_aload_n (pc2 := 10) 0 rfl dX6_enter_9 rfl rfl ?_
      refine T_22_9 (pc2 := 13) kw_234 dX6_enter_10 rfl ?_
      refine G_iload (pc2 := 15) 4 rfl dX6_enter_13 rfl ?_
      refine G_aload_n (pc2 := 16) 0 rfl dX6_enter_15 rfl rfl ?_
      refine T_22_9 (pc2 := 19) kw_234 dX6_enter_16 rfl ?_
      refine G_iload (pc2 := 21) 4 rfl dX6_enter_19 rfl ?_
      refine G_iconst (pc2 := 22) dX6_enter_21 ic_1 rfl ?_
      refine G_isub (pc2 := 23) dX6_enter_22 rfl ?_
      refine AC (pc2 := 24) (fa_30 _ _ _ _) h dX6_enter_23 rfl (fun h => ?_)
      refine SC (pc2 := 25) (fa_30 _ _ _ _) h dX6_enter_24 rfl (fun F_533 h => ?_)
      refine B_iinc (pc2 := 28) 4 (fun x4_534 => [(4, .int x4_534), (0, .ref 22), (1, .int x1), (2, .int x2), (3, .int x3)]) h rfl dX6_enter_25 ic_m1 (by decide) (fun _ => rfl) rfl (fun x4_534 h => ?_)
      refine G_goto (tgt := 4) dX6_enter_28 (by decide) ?_
      refine G_sub (ls' := [(0, .ref 22), (1, .int x1), (2, .int x2), (3, .int x3), (4, .int x4_534)]) [1, 2, 3, 4, 0] rfl ?_
      exact ih x4_534 F_533 h
set_option maxRecDepth 100000 in
set_option maxHeartbeats 4000000 in
theorem c_X6_enter_22 {x1 : Int32} {x2 : Int32} {x3 : Int32} {I : WI} {F : WF} {J : WI} {K : WF} {a : WI × WF} (h : f_X6_enter_22 x1 x2 x3 I F = some a) : CT md_X6_enter yX6_enter (rmD 1) [.ref 22, .int x1, .int x2, .int x3] (mkW I F J K) none (mkW a.1 a.2 J K) := CT_of pn_X6 ⟨rfl, rfl⟩ (Nat.le_of_ble_eq_true rfl) (fun X => by
  show GG X md_X6_enter (rmD 1) _ 0 0 0 [(0, .ref 22), (1, .int x1), (2, .int x2), (3, .int x3)] [] (mkW I F J K)
  unfold f_X6_enter_22 at h
  refine G_bipush (pc2 := 2) dX6_enter_0 ib_19 rfl ?_
  refine B_istore (pc2 := 4) (fun x4_532 => [(4, .int x4_532), (0, .ref 22), (1, .int x1), (2, .int x2), (3, .int x3)]) h dX6_enter_2 (by decide) (fun _ => rfl) rfl (fun x4_532 h => ?_)
  refine G_sub (ls' := [(0, .ref 22), (1, .int x1), (2, .int x2), (3, .int x3), (4, .int x4_532)]) [1, 2, 3, 4, 0] rfl ?_
  refine g_L_X6_enter_22_4 (fun F_535 h => ?_) FU x4_532 F h
  refine G_aload_n (pc2 := 32) 0 rfl dX6_enter_31 rfl rfl ?_
  refine T_22_9 (pc2 := 35) kw_234 dX6_enter_32 rfl ?_
  refine G_iconst (pc2 := 36) dX6_enter_35 ic_0 rfl ?_
  refine G_aload_n (pc2 := 37) 0 rfl dX6_enter_36 rfl rfl ?_
  refine T_22_0 (pc2 := 40) kw_207 dX6_enter_37 rfl ?_
  refine G_bipush (pc2 := 42) dX6_enter_40 ib_8 rfl ?_
  refine G_ishl (pc2 := 43) dX6_enter_42 rfl ?_
  refine G_iload_n (pc2 := 44) 1 rfl dX6_enter_43 rfl rfl ?_
  refine G_iconst (pc2 := 45) dX6_enter_44 ic_5 rfl ?_
  refine G_ishl (pc2 := 46) dX6_enter_45 rfl ?_
  refine G_ior (pc2 := 47) dX6_enter_46 rfl ?_
  refine G_iload_n (pc2 := 48) 2 rfl dX6_enter_47 rfl rfl ?_
  refine G_iconst (pc2 := 49) dX6_enter_48 ic_1 rfl ?_
  refine G_ishl (pc2 := 50) dX6_enter_49 rfl ?_
  refine G_ior (pc2 := 51) dX6_enter_50 rfl ?_
  refine G_iload_n (pc2 := 52) 3 rfl dX6_enter_51 rfl rfl ?_
  refine jn_e (Gj := True) (fun (j : Int32 → Option (WI × WF)) => ∀ (s_537 : Int32), j s_537 = some a → GG X md_X6_enter (rmD 1) (gv_Z X (rmD 1).cells (rmD 1).slots none (mkW a.1 a.2 J K)) 0 0 60 [(0, .ref 22)] [.int s_537, .int ((((I 0) <<< ((8 : Int32) &&& 31)) ||| (x1 <<< ((5 : Int32) &&& 31))) ||| (x2 <<< ((1 : Int32) &&& 31))), .int (0 : Int32), .ref 30] (mkW I F_535 J K)) h (fun s_537 h => ?_) (fun j60_536 hj60_536 h => ?_)
  · refine G_ior (pc2 := 61) dX6_enter_60 rfl ?_
    refine SCc (pc2 := 62) (fa_30 _ _ _ _) h cl_0 rfl dX6_enter_61 rfl (fun F_538 h => ?_)
    refine G_aload_n (pc2 := 63) 0 rfl dX6_enter_62 rfl rfl ?_
    refine G_aload_n (pc2 := 64) 0 rfl dX6_enter_63 rfl rfl ?_
    refine T_22_1 (pc2 := 67) kw_210 dX6_enter_64 rfl ?_
    refine G_iconst (pc2 := 68) dX6_enter_67 ic_1 rfl ?_
    refine G_iadd (pc2 := 69) dX6_enter_68 rfl ?_
    refine G_bipush (pc2 := 71) dX6_enter_69 ib_20 rfl ?_
    refine G_min (pc2 := 74) kw_695 ⟨by decide, by decide, Nat.le_refl _, Nat.le_refl _⟩ (Nat.le_of_ble_eq_true rfl) dX6_enter_71 rfl ?_
    refine P_22_1 (pc2 := 77) h kw_210 dX6_enter_74 rfl (fun I_539 h => ?_)
    have ha := Option.some.inj h
    subst ha
    exact G_vret rfl dX6_enter_77
  refine B_if_eq (tgt := 59) (pc2 := 55) h dX6_enter_52 (by decide) rfl (fun _ h => ?_) (fun _ h => ?_)
  · refine G_iconst (pc2 := 60) dX6_enter_59 ic_0 rfl ?_
    refine G_sub (ls' := [(0, .ref 22)]) [0] rfl ?_
    exact hj60_536 (0 : Int32) h
  · refine G_iconst (pc2 := 56) dX6_enter_55 ic_1 rfl ?_
    refine G_goto (tgt := 60) dX6_enter_56 (by decide) ?_
    refine G_sub (ls' := [(0, .ref 22)]) [0] rfl ?_
    exact hj60_536 (1 : Int32) h)
def f_X7_beyond_13 (x1 : Int32) (x2 : Int32) (I : WI) (F : WF) : Option (Int32) :=
  ixG x1 9 (
  if (F 161 x1.toNatClampNeg) = x2 then (ixG x1 9 (
  some (F 162 x1.toNatClampNeg)))
  else (ixG x1 9 (
  some (F 161 x1.toNatClampNeg))))
set_option maxRecDepth 100000 in
set_option maxHeartbeats 4000000 in
theorem c_X7_beyond_13 {x1 : Int32} {x2 : Int32} {I : WI} {F : WF} {J : WI} {K : WF} {a : Int32} (h : f_X7_beyond_13 x1 x2 I F = some a) : CT md_X7_beyond yX7_beyond (rmD 1) [.ref 13, .int x1, .int x2] (mkW I F J K) (some (.int a)) (mkW I F J K) := CT_of pn_X7 ⟨rfl, rfl⟩ (Nat.le_of_ble_eq_true rfl) (fun X => by
  show GG X md_X7_beyond (rmD 1) _ 0 0 0 [(0, .ref 13), (1, .int x1), (2, .int x2)] [] (mkW I F J K)
  unfold f_X7_beyond_13 at h
  refine G_aload_n (pc2 := 1) 0 rfl dX7_beyond_0 rfl rfl ?_
  refine T_13_4 (pc2 := 4) kw_118 dX7_beyond_1 rfl ?_
  refine G_iload_n (pc2 := 5) 1 rfl dX7_beyond_4 rfl rfl ?_
  refine AC (pc2 := 6) (fa_14 _ _ _ _) h dX7_beyond_5 rfl (fun h => ?_)
  refine G_iload_n (pc2 := 7) 2 rfl dX7_beyond_6 rfl rfl ?_
  refine B_icmp_ne (tgt := 19) (pc2 := 10) h dX7_beyond_7 (by decide) rfl (fun _ h => ?_) (fun _ h => ?_)
  · refine G_aload_n (pc2 := 20) 0 rfl dX7_beyond_19 rfl rfl ?_
    refine T_13_4 (pc2 := 23) kw_118 dX7_beyond_20 rfl ?_
    refine G_iload_n (pc2 := 24) 1 rfl dX7_beyond_23 rfl rfl ?_
    refine AC (pc2 := 25) (fa_14 _ _ _ _) h dX7_beyond_24 rfl (fun h => ?_)
    have ha := Option.some.inj h
    subst ha
    exact G_iret rfl dX7_beyond_25
  · refine G_aload_n (pc2 := 11) 0 rfl dX7_beyond_10 rfl rfl ?_
    refine T_13_5 (pc2 := 14) kw_121 dX7_beyond_11 rfl ?_
    refine G_iload_n (pc2 := 15) 1 rfl dX7_beyond_14 rfl rfl ?_
    refine AC (pc2 := 16) (fa_15 _ _ _ _) h dX7_beyond_15 rfl (fun h => ?_)
    refine G_goto (tgt := 25) dX7_beyond_16 (by decide) ?_
    have ha := Option.some.inj h
    subst ha
    exact G_iret rfl dX7_beyond_25)
def f_X1_jump_12 (x1 : Int32) (x2 : Int32) (x3 : Int32) (I : WI) (F : WF) : Option (Int32 × WI × WF) :=
  bnd (fun (s_524 : Int32) => bnd s_524 fun x4_525 =>
  bnd (fun (F_527 : WF) => Option.bind (f_X1_keeperAt_12 x2 I F_527) fun c_528 =>
  bnd c_528 fun x5_529 =>
  bnd (fun (F_531 : WF) => Option.bind (f_X6_enter_22 x1 x2 x4_525 I F_531) fun c_540 =>
  bzG x4_525 (some (x4_525, c_540.1, c_540.2))) fun j193_530 =>
  if x5_529 = (-1 : Int32) then (j193_530 F_527)
  else (ixG x5_529 9 (
  ixG x5_529 9 (bnd (uF F_527 2 (upd (F_527 2) x5_529.toNatClampNeg (if ((F_527 2 x5_529.toNatClampNeg) + (1 : Int32)) < (99 : Int32) then ((F_527 2 x5_529.toNatClampNeg) + (1 : Int32)) else (99 : Int32)))) fun F_542 =>
  j193_530 F_542)))) fun j153_526 =>
  if x4_525 = 0 then (ixG x1 6 (
  ixG x1 6 (bnd (uF F 4 (upd (F 4) x1.toNatClampNeg (if ((F 4 x1.toNatClampNeg) + (2 : Int32)) < (30 : Int32) then ((F 4 x1.toNatClampNeg) + (2 : Int32)) else (30 : Int32)))) fun F_543 =>
  ixG x1 6 (
  ixG x1 6 (bnd (uF F_543 6 (upd (F_543 6) x1.toNatClampNeg (if ((F_543 6 x1.toNatClampNeg) + (1 : Int32)) < (999999 : Int32) then ((F_543 6 x1.toNatClampNeg) + (1 : Int32)) else (999999 : Int32)))) fun F_544 =>
  j153_526 F_544)))))
  else (ixG x1 6 (
  Option.bind (f_X7_beyond_13 x2 (F 3 x1.toNatClampNeg) I F) fun c_545 =>
  ixG x1 6 (bnd (uF F 3 (upd (F 3) x1.toNatClampNeg c_545)) fun F_546 =>
  ixG x1 6 (
  ixG x1 6 (bnd (uF F_546 4 (upd (F_546 4) x1.toNatClampNeg (if (0 : Int32) < ((F_546 4 x1.toNatClampNeg) - (1 : Int32)) then ((F_546 4 x1.toNatClampNeg) - (1 : Int32)) else (0 : Int32)))) fun F_547 =>
  ixG x1 6 (
  ixG x1 6 (bnd (uF F_547 5 (upd (F_547 5) x1.toNatClampNeg (if ((F_547 5 x1.toNatClampNeg) + (1 : Int32)) < (999999 : Int32) then ((F_547 5 x1.toNatClampNeg) + (1 : Int32)) else (999999 : Int32)))) fun F_548 =>
  j153_526 F_548)))))))) fun j18_523 =>
  bnd (fun (_u : Unit) => j18_523 (0 : Int32)) fun j17_549 =>
  if x3 = 0 then (Option.bind (f_X1_comesOver_12 x1 x2 I F) fun c_550 =>
  if c_550 = 0 then (j17_549 ())
  else (j18_523 (1 : Int32)))
  else (j17_549 ())
set_option maxRecDepth 100000 in
set_option maxHeartbeats 4000000 in
theorem c_X1_jump_12 {x1 : Int32} {x2 : Int32} {x3 : Int32} {I : WI} {F : WF} {J : WI} {K : WF} {a : Int32 × WI × WF} (h : f_X1_jump_12 x1 x2 x3 I F = some a) : CT md_X1_jump yX1_jump (rmD 4) [.ref 12, .int x1, .int x2, .int x3] (mkW I F J K) (some (.int a.1)) (mkW a.2.1 a.2.2 J K) := CT_of pn_X1 ⟨rfl, rfl⟩ (Nat.le_of_ble_eq_true rfl) (fun X => by
  show GG X md_X1_jump (rmD 4) _ 0 0 0 [(0, .ref 12), (1, .int x1), (2, .int x2), (3, .int x3)] [] (mkW I F J K)
  unfold f_X1_jump_12 at h
  refine G_iload_n (pc2 := 1) 3 rfl dX1_jump_0 rfl rfl ?_
  refine jn_e (Gj := True) (fun (j : Int32 → Option (Int32 × WI × WF)) => ∀ (s_524 : Int32), j s_524 = some a → GG X md_X1_jump (rmD 4) (gv_Z X (rmD 4).cells (rmD 4).slots (some (.int a.1)) (mkW a.2.1 a.2.2 J K)) 0 0 18 [(0, .ref 12), (1, .int x1), (2, .int x2)] [.int s_524] (mkW I F J K)) h (fun s_524 h => ?_) (fun j18_523 hj18_523 h => ?_)
  · refine B_istore (pc2 := 20) (fun x4_525 => [(4, .int x4_525), (0, .ref 12), (1, .int x1), (2, .int x2)]) h dX1_jump_18 (by decide) (fun _ => rfl) rfl (fun x4_525 h => ?_)
    refine G_iload (pc2 := 22) 0 rfl dX1_jump_20 rfl ?_
    refine jn_e (Gj := True) (fun (j : WF → Option (Int32 × WI × WF)) => ∀ (F_527 : WF), j F_527 = some a → GG X md_X1_jump (rmD 4) (gv_Z X (rmD 4).cells (rmD 4).slots (some (.int a.1)) (mkW a.2.1 a.2.2 J K)) 0 0 153 [(0, .ref 12), (1, .int x1), (2, .int x2), (4, .int x4_525)] [] (mkW I F_527 J K)) h (fun F_527 h => ?_) (fun j153_526 hj153_526 h => ?_)
    · refine G_aload_n (pc2 := 154) 0 rfl dX1_jump_153 rfl rfl ?_
      refine G_iload_n (pc2 := 155) 2 rfl dX1_jump_154 rfl rfl ?_
      obtain ⟨c_528, hc_528, h⟩ := ob_e h
      refine B_callV (pc2 := 158) si_X1_63 (c_X1_keeperAt_12 hc_528) (qo_12 _ _ _ _) rfl rfl rfl (st := []) (stq := [.int c_528]) rfl (by decide) (by decide) (Nat.le_of_ble_eq_true rfl) mkW_ll dX1_jump_155 rfl rfl ?_ ⟨rfl, rfl⟩
      refine B_istore (pc2 := 160) (fun x5_529 => [(5, .int x5_529), (0, .ref 12), (1, .int x1), (2, .int x2), (4, .int x4_525)]) h dX1_jump_158 (by decide) (fun _ => rfl) rfl (fun x5_529 h => ?_)
      refine G_iload (pc2 := 162) 0 rfl dX1_jump_160 rfl ?_
      refine G_iconst (pc2 := 163) dX1_jump_162 ic_m1 rfl ?_
      refine jn_e (Gj := True) (fun (j : WF → Option (Int32 × WI × WF)) => ∀ (F_531 : WF), j F_531 = some a → GG X md_X1_jump (rmD 4) (gv_Z X (rmD 4).cells (rmD 4).slots (some (.int a.1)) (mkW a.2.1 a.2.2 J K)) 0 0 193 [(0, .ref 12), (1, .int x1), (2, .int x2), (4, .int x4_525)] [] (mkW I F_531 J K)) h (fun F_531 h => ?_) (fun j193_530 hj193_530 h => ?_)
      · refine G_aload_n (pc2 := 194) 0 rfl dX1_jump_193 rfl rfl ?_
        refine T_12_1 (pc2 := 197) kw_259 dX1_jump_194 rfl ?_
        refine G_iload_n (pc2 := 198) 1 rfl dX1_jump_197 rfl rfl ?_
        refine G_iload_n (pc2 := 199) 2 rfl dX1_jump_198 rfl rfl ?_
        refine G_iload (pc2 := 201) 3 rfl dX1_jump_199 rfl ?_
        obtain ⟨c_540, hc_540, h⟩ := ob_e h
        refine B_callV (pc2 := 204) si_X1_99 (c_X6_enter_22 hc_540) (qo_22 _ _ _ _) rfl rfl rfl (st := []) (stq := []) rfl (by decide) (by decide) (Nat.le_of_ble_eq_true rfl) mkW_ll dX1_jump_201 rfl rfl ?_ ⟨rfl, rfl⟩
        refine G_iload (pc2 := 206) 3 rfl dX1_jump_204 rfl ?_
        obtain ⟨qb_541, h⟩ := bzG_e h
        have ha := Option.some.inj h
        subst ha
        exact G_zret rfl qb_541 dX1_jump_206
      refine B_icmp_eq (tgt := 193) (pc2 := 166) h dX1_jump_163 (by decide) rfl (fun _ h => ?_) (fun _ h => ?_)
      · refine G_sub (ls' := [(0, .ref 12), (1, .int x1), (2, .int x2), (4, .int x4_525)]) [1, 2, 3, 4] rfl ?_
        exact hj193_530 F_527 h
      · refine G_aload_n (pc2 := 167) 1 rfl dX1_jump_166 rfl rfl ?_
        refine T_12_1 (pc2 := 170) kw_259 dX1_jump_167 rfl ?_
        refine T_22_4 (pc2 := 173) kw_219 dX1_jump_170 rfl ?_
        refine G_iload (pc2 := 175) 0 rfl dX1_jump_173 rfl ?_
        refine G_bipush (pc2 := 177) dX1_jump_175 ib_99 rfl ?_
        refine G_aload_n (pc2 := 178) 1 rfl dX1_jump_177 rfl rfl ?_
        refine T_12_1 (pc2 := 181) kw_259 dX1_jump_178 rfl ?_
        refine T_22_4 (pc2 := 184) kw_219 dX1_jump_181 rfl ?_
        refine G_iload (pc2 := 186) 0 rfl dX1_jump_184 rfl ?_
        refine AC (pc2 := 187) (fa_25 _ _ _ _) h dX1_jump_186 rfl (fun h => ?_)
        refine G_iconst (pc2 := 188) dX1_jump_187 ic_1 rfl ?_
        refine G_iadd (pc2 := 189) dX1_jump_188 rfl ?_
        refine G_min (pc2 := 192) kw_690 ⟨by decide, by decide, Nat.le_refl _, Nat.le_refl _⟩ (Nat.le_of_ble_eq_true rfl) dX1_jump_189 rfl ?_
        refine SC (pc2 := 193) (fa_25 _ _ _ _) h dX1_jump_192 rfl (fun F_542 h => ?_)
        refine G_sub (ls' := [(0, .ref 12), (1, .int x1), (2, .int x2), (4, .int x4_525)]) [1, 2, 3, 4] rfl ?_
        exact hj193_530 F_542 h
    refine B_if_eq (tgt := 103) (pc2 := 25) h dX1_jump_22 (by decide) rfl (fun _ h => ?_) (fun _ h => ?_)
    · refine G_aload_n (pc2 := 104) 1 rfl dX1_jump_103 rfl rfl ?_
      refine T_12_1 (pc2 := 107) kw_259 dX1_jump_104 rfl ?_
      refine T_22_6 (pc2 := 110) kw_226 dX1_jump_107 rfl ?_
      refine G_iload_n (pc2 := 111) 2 rfl dX1_jump_110 rfl rfl ?_
      refine G_bipush (pc2 := 113) dX1_jump_111 ib_30 rfl ?_
      refine G_aload_n (pc2 := 114) 1 rfl dX1_jump_113 rfl rfl ?_
      refine T_12_1 (pc2 := 117) kw_259 dX1_jump_114 rfl ?_
      refine T_22_6 (pc2 := 120) kw_226 dX1_jump_117 rfl ?_
      refine G_iload_n (pc2 := 121) 2 rfl dX1_jump_120 rfl rfl ?_
      refine AC (pc2 := 122) (fa_27 _ _ _ _) h dX1_jump_121 rfl (fun h => ?_)
      refine G_iconst (pc2 := 123) dX1_jump_122 ic_2 rfl ?_
      refine G_iadd (pc2 := 124) dX1_jump_123 rfl ?_
      refine G_min (pc2 := 127) kw_690 ⟨by decide, by decide, Nat.le_refl _, Nat.le_refl _⟩ (Nat.le_of_ble_eq_true rfl) dX1_jump_124 rfl ?_
      refine SC (pc2 := 128) (fa_27 _ _ _ _) h dX1_jump_127 rfl (fun F_543 h => ?_)
      refine G_aload_n (pc2 := 129) 1 rfl dX1_jump_128 rfl rfl ?_
      refine T_12_1 (pc2 := 132) kw_259 dX1_jump_129 rfl ?_
      refine T_22_8 (pc2 := 135) kw_233 dX1_jump_132 rfl ?_
      refine G_iload_n (pc2 := 136) 2 rfl dX1_jump_135 rfl rfl ?_
      refine G_ldc (pc2 := 138) kw_689 dX1_jump_136 rfl ?_
      refine G_aload_n (pc2 := 139) 1 rfl dX1_jump_138 rfl rfl ?_
      refine T_12_1 (pc2 := 142) kw_259 dX1_jump_139 rfl ?_
      refine T_22_8 (pc2 := 145) kw_233 dX1_jump_142 rfl ?_
      refine G_iload_n (pc2 := 146) 2 rfl dX1_jump_145 rfl rfl ?_
      refine AC (pc2 := 147) (fa_29 _ _ _ _) h dX1_jump_146 rfl (fun h => ?_)
      refine G_iconst (pc2 := 148) dX1_jump_147 ic_1 rfl ?_
      refine G_iadd (pc2 := 149) dX1_jump_148 rfl ?_
      refine G_min (pc2 := 152) kw_690 ⟨by decide, by decide, Nat.le_refl _, Nat.le_refl _⟩ (Nat.le_of_ble_eq_true rfl) dX1_jump_149 rfl ?_
      refine SC (pc2 := 153) (fa_29 _ _ _ _) h dX1_jump_152 rfl (fun F_544 h => ?_)
      refine G_sub (ls' := [(0, .ref 12), (1, .int x1), (2, .int x2), (4, .int x4_525)]) [1, 2, 3, 0] rfl ?_
      exact hj153_526 F_544 h
    · refine G_aload_n (pc2 := 26) 1 rfl dX1_jump_25 rfl rfl ?_
      refine T_12_1 (pc2 := 29) kw_259 dX1_jump_26 rfl ?_
      refine T_22_5 (pc2 := 32) kw_224 dX1_jump_29 rfl ?_
      refine G_iload_n (pc2 := 33) 2 rfl dX1_jump_32 rfl rfl ?_
      refine G_aload_n (pc2 := 34) 1 rfl dX1_jump_33 rfl rfl ?_
      refine T_12_0 (pc2 := 37) kw_256 dX1_jump_34 rfl ?_
      refine G_iload_n (pc2 := 38) 3 rfl dX1_jump_37 rfl rfl ?_
      refine G_aload_n (pc2 := 39) 1 rfl dX1_jump_38 rfl rfl ?_
      refine T_12_1 (pc2 := 42) kw_259 dX1_jump_39 rfl ?_
      refine T_22_5 (pc2 := 45) kw_224 dX1_jump_42 rfl ?_
      refine G_iload_n (pc2 := 46) 2 rfl dX1_jump_45 rfl rfl ?_
      refine AC (pc2 := 47) (fa_26 _ _ _ _) h dX1_jump_46 rfl (fun h => ?_)
      obtain ⟨c_545, hc_545, h⟩ := ob_e h
      refine B_callV (pc2 := 50) si_X1_92 (c_X7_beyond_13 hc_545) (qo_13 _ _ _ _) rfl rfl rfl (st := [.int x1, .ref 26]) (stq := [.int c_545, .int x1, .ref 26]) rfl (by decide) (by decide) (Nat.le_of_ble_eq_true rfl) mkW_ll dX1_jump_47 rfl rfl ?_ ⟨rfl, rfl⟩
      refine SC (pc2 := 51) (fa_26 _ _ _ _) h dX1_jump_50 rfl (fun F_546 h => ?_)
      refine G_aload_n (pc2 := 52) 1 rfl dX1_jump_51 rfl rfl ?_
      refine T_12_1 (pc2 := 55) kw_259 dX1_jump_52 rfl ?_
      refine T_22_6 (pc2 := 58) kw_226 dX1_jump_55 rfl ?_
      refine G_iload_n (pc2 := 59) 2 rfl dX1_jump_58 rfl rfl ?_
      refine G_iconst (pc2 := 60) dX1_jump_59 ic_0 rfl ?_
      refine G_aload_n (pc2 := 61) 1 rfl dX1_jump_60 rfl rfl ?_
      refine T_12_1 (pc2 := 64) kw_259 dX1_jump_61 rfl ?_
      refine T_22_6 (pc2 := 67) kw_226 dX1_jump_64 rfl ?_
      refine G_iload_n (pc2 := 68) 2 rfl dX1_jump_67 rfl rfl ?_
      refine AC (pc2 := 69) (fa_27 _ _ _ _) h dX1_jump_68 rfl (fun h => ?_)
      refine G_iconst (pc2 := 70) dX1_jump_69 ic_1 rfl ?_
      refine G_isub (pc2 := 71) dX1_jump_70 rfl ?_
      refine G_max (pc2 := 74) kw_652 ⟨by decide, by decide, Nat.le_refl _, Nat.le_refl _⟩ (Nat.le_of_ble_eq_true rfl) dX1_jump_71 rfl ?_
      refine SC (pc2 := 75) (fa_27 _ _ _ _) h dX1_jump_74 rfl (fun F_547 h => ?_)
      refine G_aload_n (pc2 := 76) 1 rfl dX1_jump_75 rfl rfl ?_
      refine T_12_1 (pc2 := 79) kw_259 dX1_jump_76 rfl ?_
      refine T_22_7 (pc2 := 82) kw_230 dX1_jump_79 rfl ?_
      refine G_iload_n (pc2 := 83) 2 rfl dX1_jump_82 rfl rfl ?_
      refine G_ldc (pc2 := 85) kw_689 dX1_jump_83 rfl ?_
      refine G_aload_n (pc2 := 86) 1 rfl dX1_jump_85 rfl rfl ?_
      refine T_12_1 (pc2 := 89) kw_259 dX1_jump_86 rfl ?_
      refine T_22_7 (pc2 := 92) kw_230 dX1_jump_89 rfl ?_
      refine G_iload_n (pc2 := 93) 2 rfl dX1_jump_92 rfl rfl ?_
      refine AC (pc2 := 94) (fa_28 _ _ _ _) h dX1_jump_93 rfl (fun h => ?_)
      refine G_iconst (pc2 := 95) dX1_jump_94 ic_1 rfl ?_
      refine G_iadd (pc2 := 96) dX1_jump_95 rfl ?_
      refine G_min (pc2 := 99) kw_690 ⟨by decide, by decide, Nat.le_refl _, Nat.le_refl _⟩ (Nat.le_of_ble_eq_true rfl) dX1_jump_96 rfl ?_
      refine SC (pc2 := 100) (fa_28 _ _ _ _) h dX1_jump_99 rfl (fun F_548 h => ?_)
      refine G_goto (tgt := 153) dX1_jump_100 (by decide) ?_
      refine G_sub (ls' := [(0, .ref 12), (1, .int x1), (2, .int x2), (4, .int x4_525)]) [1, 2, 3, 0] rfl ?_
      exact hj153_526 F_548 h
  refine jn_e (Gj := True) (fun (j : Unit → Option (Int32 × WI × WF)) => ∀ (_u : Unit), j _u = some a → GG X md_X1_jump (rmD 4) (gv_Z X (rmD 4).cells (rmD 4).slots (some (.int a.1)) (mkW a.2.1 a.2.2 J K)) 0 0 17 [(0, .ref 12), (1, .int x1), (2, .int x2)] [] (mkW I F J K)) h (fun _u h => ?_) (fun j17_549 hj17_549 h => ?_)
  · refine G_iconst (pc2 := 18) dX1_jump_17 ic_0 rfl ?_
    exact hj18_523 (0 : Int32) h
  refine B_if_ne (tgt := 17) (pc2 := 4) h dX1_jump_1 (by decide) rfl (fun _ h => ?_) (fun _ h => ?_)
  · refine G_sub (ls' := [(0, .ref 12), (1, .int x1), (2, .int x2)]) [0, 1, 2] rfl ?_
    exact hj17_549 () h
  · refine G_aload_n (pc2 := 5) 0 rfl dX1_jump_4 rfl rfl ?_
    refine G_iload_n (pc2 := 6) 1 rfl dX1_jump_5 rfl rfl ?_
    refine G_iload_n (pc2 := 7) 2 rfl dX1_jump_6 rfl rfl ?_
    obtain ⟨c_550, hc_550, h⟩ := ob_e h
    refine B_callV (pc2 := 10) si_X1_76 (c_X1_comesOver_12 hc_550) (qo_12 _ _ _ _) rfl rfl rfl (st := []) (stq := [.int c_550]) rfl (by decide) (by decide) (Nat.le_of_ble_eq_true rfl) mkW_ll dX1_jump_7 rfl rfl ?_ ⟨rfl, rfl⟩
    refine B_if_eq (tgt := 17) (pc2 := 13) h dX1_jump_10 (by decide) rfl (fun _ h => ?_) (fun _ h => ?_)
    · refine G_sub (ls' := [(0, .ref 12), (1, .int x1), (2, .int x2)]) [0, 1, 2] rfl ?_
      exact hj17_549 () h
    · refine G_iconst (pc2 := 14) dX1_jump_13 ic_1 rfl ?_
      refine G_goto (tgt := 18) dX1_jump_14 (by decide) ?_
      refine G_sub (ls' := [(0, .ref 12), (1, .int x1), (2, .int x2)]) [0, 1, 2] rfl ?_
      exact hj18_523 (1 : Int32) h)
def f_X10_leap (x1 : Int32) (x2 : Int32) (I : WI) (F : WF) : Option (Int32 × WI × WF) :=
  Option.bind (f_X7_hasJumper_13 x1 I F) fun c_295 =>
  if c_295 = 0 then (some ((-1000000001 : Int32), I, F))
  else (Option.bind (f_X7_hasBridge_13 x2 I F) fun c_296 =>
  if c_296 = 0 then (some ((-1000000001 : Int32), I, F))
  else (ixG x1 6 (
  Option.bind (f_X7_touches_13 x2 (F 3 x1.toNatClampNeg) I F) fun c_297 =>
  if c_297 = 0 then (some ((-1000000003 : Int32), I, F))
  else (Option.bind (f_X3_remember_42_22 I F) fun c_522 =>
  Option.bind (f_X1_jump_12 x1 x2 (0 : Int32) c_522.1 c_522.2) fun c_551 =>
  if c_551.1 = 0 then (some ((0 : Int32), c_551.2.1, c_551.2.2))
  else (some ((1 : Int32), c_551.2.1, c_551.2.2))))))
set_option maxRecDepth 100000 in
set_option maxHeartbeats 4000000 in
theorem c_X10_leap {x1 : Int32} {x2 : Int32} {I : WI} {F : WF} {J : WI} {K : WF} {a : Int32 × WI × WF} (h : f_X10_leap x1 x2 I F = some a) : CT md_X10_leap yX10_leap (rmD 5) [.ref 0, .int x1, .int x2] (mkW I F J K) (some (.int a.1)) (mkW a.2.1 a.2.2 J K) := CT_of pn_X10 ⟨rfl, rfl⟩ (Nat.le_of_ble_eq_true rfl) (fun X => by
  show GG X md_X10_leap (rmD 5) _ 0 0 0 [(0, .ref 0), (1, .int x1), (2, .int x2)] [] (mkW I F J K)
  unfold f_X10_leap at h
  refine G_aload_n (pc2 := 1) 0 rfl dX10_leap_0 rfl rfl ?_
  refine T_0_2 (pc2 := 4) kw_402 dX10_leap_1 rfl ?_
  refine G_iload_n (pc2 := 5) 1 rfl dX10_leap_4 rfl rfl ?_
  obtain ⟨c_295, hc_295, h⟩ := ob_e h
  refine B_callV (pc2 := 8) si_X10_203 (c_X7_hasJumper_13 hc_295) (qo_13 _ _ _ _) rfl rfl rfl (st := []) (stq := [.int c_295]) rfl (by decide) (by decide) (Nat.le_of_ble_eq_true rfl) mkW_ll dX10_leap_5 rfl rfl ?_ ⟨rfl, rfl⟩
  refine B_if_eq (tgt := 22) (pc2 := 11) h dX10_leap_8 (by decide) rfl (fun _ h => ?_) (fun _ h => ?_)
  · refine G_ldc (pc2 := 24) kw_605 dX10_leap_22 rfl ?_
    have ha := Option.some.inj h
    subst ha
    exact G_iret rfl dX10_leap_24
  · refine G_aload_n (pc2 := 12) 0 rfl dX10_leap_11 rfl rfl ?_
    refine T_0_2 (pc2 := 15) kw_402 dX10_leap_12 rfl ?_
    refine G_iload_n (pc2 := 16) 2 rfl dX10_leap_15 rfl rfl ?_
    obtain ⟨c_296, hc_296, h⟩ := ob_e h
    refine B_callV (pc2 := 19) si_X10_160 (c_X7_hasBridge_13 hc_296) (qo_13 _ _ _ _) rfl rfl rfl (st := []) (stq := [.int c_296]) rfl (by decide) (by decide) (Nat.le_of_ble_eq_true rfl) mkW_ll dX10_leap_16 rfl rfl ?_ ⟨rfl, rfl⟩
    refine B_if_ne (tgt := 25) (pc2 := 22) h dX10_leap_19 (by decide) rfl (fun _ h => ?_) (fun _ h => ?_)
    · refine G_aload_n (pc2 := 26) 0 rfl dX10_leap_25 rfl rfl ?_
      refine T_0_2 (pc2 := 29) kw_402 dX10_leap_26 rfl ?_
      refine G_iload_n (pc2 := 30) 2 rfl dX10_leap_29 rfl rfl ?_
      refine G_aload_n (pc2 := 31) 0 rfl dX10_leap_30 rfl rfl ?_
      refine T_0_3 (pc2 := 34) kw_403 dX10_leap_31 rfl ?_
      refine T_22_5 (pc2 := 37) kw_223 dX10_leap_34 rfl ?_
      refine G_iload_n (pc2 := 38) 1 rfl dX10_leap_37 rfl rfl ?_
      refine AC (pc2 := 39) (fa_26 _ _ _ _) h dX10_leap_38 rfl (fun h => ?_)
      obtain ⟨c_297, hc_297, h⟩ := ob_e h
      refine B_callV (pc2 := 42) si_X10_231 (c_X7_touches_13 hc_297) (qo_13 _ _ _ _) rfl rfl rfl (st := []) (stq := [.int c_297]) rfl (by decide) (by decide) (Nat.le_of_ble_eq_true rfl) mkW_ll dX10_leap_39 rfl rfl ?_ ⟨rfl, rfl⟩
      refine B_if_ne (tgt := 48) (pc2 := 45) h dX10_leap_42 (by decide) rfl (fun _ h => ?_) (fun _ h => ?_)
      · refine G_aload_n (pc2 := 49) 0 rfl dX10_leap_48 rfl rfl ?_
        refine T_0_8 (pc2 := 52) kw_408 dX10_leap_49 rfl ?_
        refine G_aload_n (pc2 := 53) 0 rfl dX10_leap_52 rfl rfl ?_
        refine T_0_3 (pc2 := 56) kw_403 dX10_leap_53 rfl ?_
        obtain ⟨c_522, hc_522, h⟩ := ob_e h
        refine B_callV (pc2 := 59) si_X10_236 (c_X3_remember_42_22 hc_522) (qo_42 _ _ _ _) rfl rfl rfl (st := []) (stq := []) rfl (by decide) (by decide) (Nat.le_of_ble_eq_true rfl) mkW_ll dX10_leap_56 rfl rfl ?_ ⟨rfl, rfl⟩
        refine G_aload_n (pc2 := 60) 0 rfl dX10_leap_59 rfl rfl ?_
        refine T_0_1 (pc2 := 63) kw_401 dX10_leap_60 rfl ?_
        refine G_iload_n (pc2 := 64) 1 rfl dX10_leap_63 rfl rfl ?_
        refine G_iload_n (pc2 := 65) 2 rfl dX10_leap_64 rfl rfl ?_
        refine G_iconst (pc2 := 66) dX10_leap_65 ic_0 rfl ?_
        obtain ⟨c_551, hc_551, h⟩ := ob_e h
        refine B_callV (pc2 := 69) si_X10_240 (c_X1_jump_12 hc_551) (qo_12 _ _ _ _) rfl rfl rfl (st := []) (stq := [.int c_551.1]) rfl (by decide) (by decide) (Nat.le_of_ble_eq_true rfl) mkW_ll dX10_leap_66 rfl rfl ?_ ⟨rfl, rfl⟩
        refine B_if_eq (tgt := 76) (pc2 := 72) h dX10_leap_69 (by decide) rfl (fun _ h => ?_) (fun _ h => ?_)
        · refine G_iconst (pc2 := 77) dX10_leap_76 ic_0 rfl ?_
          have ha := Option.some.inj h
          subst ha
          exact G_iret rfl dX10_leap_77
        · refine G_iconst (pc2 := 73) dX10_leap_72 ic_1 rfl ?_
          refine G_goto (tgt := 77) dX10_leap_73 (by decide) ?_
          have ha := Option.some.inj h
          subst ha
          exact G_iret rfl dX10_leap_77
      · refine G_ldc (pc2 := 47) kw_671 dX10_leap_45 rfl ?_
        have ha := Option.some.inj h
        subst ha
        exact G_iret rfl dX10_leap_47
    · refine G_ldc (pc2 := 24) kw_605 dX10_leap_22 rfl ?_
      have ha := Option.some.inj h
      subst ha
      exact G_iret rfl dX10_leap_24)
def f_X10_post (x1 : Int32) (x2 : Int32) (I : WI) (F : WF) : Option (Int32 × WI × WF) :=
  Option.bind (f_X7_hasKeeper_13 x1 I F) fun c_552 =>
  if c_552 = 0 then (some ((-1000000001 : Int32), I, F))
  else (Option.bind (f_X7_hasBridge_13 x2 I F) fun c_553 =>
  if c_553 = 0 then (some ((-1000000001 : Int32), I, F))
  else (Option.bind (f_X1_keeperAt_12 x2 I F) fun c_554 =>
  if c_554 = (-1 : Int32) then (Option.bind (f_X3_remember_42_22 I F) fun c_555 =>
  ixG x1 9 (
  bnd (c_555.2 1 x1.toNatClampNeg) fun x3_556 =>
  ixG x1 9 (bnd (uF c_555.2 1 (upd (c_555.2 1) x1.toNatClampNeg x2)) fun F_557 =>
  some (x3_556, c_555.1, F_557))))
  else (some ((-1000000003 : Int32), I, F))))
set_option maxRecDepth 100000 in
set_option maxHeartbeats 4000000 in
theorem c_X10_post {x1 : Int32} {x2 : Int32} {I : WI} {F : WF} {J : WI} {K : WF} {a : Int32 × WI × WF} (h : f_X10_post x1 x2 I F = some a) : CT md_X10_post yX10_post (rmD 3) [.ref 0, .int x1, .int x2] (mkW I F J K) (some (.int a.1)) (mkW a.2.1 a.2.2 J K) := CT_of pn_X10 ⟨rfl, rfl⟩ (Nat.le_of_ble_eq_true rfl) (fun X => by
  show GG X md_X10_post (rmD 3) _ 0 0 0 [(0, .ref 0), (1, .int x1), (2, .int x2)] [] (mkW I F J K)
  unfold f_X10_post at h
  refine G_aload_n (pc2 := 1) 0 rfl dX10_post_0 rfl rfl ?_
  refine T_0_2 (pc2 := 4) kw_402 dX10_post_1 rfl ?_
  refine G_iload_n (pc2 := 5) 1 rfl dX10_post_4 rfl rfl ?_
  obtain ⟨c_552, hc_552, h⟩ := ob_e h
  refine B_callV (pc2 := 8) si_X10_185 (c_X7_hasKeeper_13 hc_552) (qo_13 _ _ _ _) rfl rfl rfl (st := []) (stq := [.int c_552]) rfl (by decide) (by decide) (Nat.le_of_ble_eq_true rfl) mkW_ll dX10_post_5 rfl rfl ?_ ⟨rfl, rfl⟩
  refine B_if_eq (tgt := 22) (pc2 := 11) h dX10_post_8 (by decide) rfl (fun _ h => ?_) (fun _ h => ?_)
  · refine G_ldc (pc2 := 24) kw_605 dX10_post_22 rfl ?_
    have ha := Option.some.inj h
    subst ha
    exact G_iret rfl dX10_post_24
  · refine G_aload_n (pc2 := 12) 0 rfl dX10_post_11 rfl rfl ?_
    refine T_0_2 (pc2 := 15) kw_402 dX10_post_12 rfl ?_
    refine G_iload_n (pc2 := 16) 2 rfl dX10_post_15 rfl rfl ?_
    obtain ⟨c_553, hc_553, h⟩ := ob_e h
    refine B_callV (pc2 := 19) si_X10_160 (c_X7_hasBridge_13 hc_553) (qo_13 _ _ _ _) rfl rfl rfl (st := []) (stq := [.int c_553]) rfl (by decide) (by decide) (Nat.le_of_ble_eq_true rfl) mkW_ll dX10_post_16 rfl rfl ?_ ⟨rfl, rfl⟩
    refine B_if_ne (tgt := 25) (pc2 := 22) h dX10_post_19 (by decide) rfl (fun _ h => ?_) (fun _ h => ?_)
    · refine G_aload_n (pc2 := 26) 0 rfl dX10_post_25 rfl rfl ?_
      refine T_0_1 (pc2 := 29) kw_401 dX10_post_26 rfl ?_
      refine G_iload_n (pc2 := 30) 2 rfl dX10_post_29 rfl rfl ?_
      obtain ⟨c_554, hc_554, h⟩ := ob_e h
      refine B_callV (pc2 := 33) si_X10_178 (c_X1_keeperAt_12 hc_554) (qo_12 _ _ _ _) rfl rfl rfl (st := []) (stq := [.int c_554]) rfl (by decide) (by decide) (Nat.le_of_ble_eq_true rfl) mkW_ll dX10_post_30 rfl rfl ?_ ⟨rfl, rfl⟩
      refine G_iconst (pc2 := 34) dX10_post_33 ic_m1 rfl ?_
      refine B_icmp_eq (tgt := 40) (pc2 := 37) h dX10_post_34 (by decide) rfl (fun _ h => ?_) (fun _ h => ?_)
      · refine G_aload_n (pc2 := 41) 0 rfl dX10_post_40 rfl rfl ?_
        refine T_0_8 (pc2 := 44) kw_408 dX10_post_41 rfl ?_
        refine G_aload_n (pc2 := 45) 0 rfl dX10_post_44 rfl rfl ?_
        refine T_0_3 (pc2 := 48) kw_403 dX10_post_45 rfl ?_
        obtain ⟨c_555, hc_555, h⟩ := ob_e h
        refine B_callV (pc2 := 51) si_X10_236 (c_X3_remember_42_22 hc_555) (qo_42 _ _ _ _) rfl rfl rfl (st := []) (stq := []) rfl (by decide) (by decide) (Nat.le_of_ble_eq_true rfl) mkW_ll dX10_post_48 rfl rfl ?_ ⟨rfl, rfl⟩
        refine G_aload_n (pc2 := 52) 0 rfl dX10_post_51 rfl rfl ?_
        refine T_0_3 (pc2 := 55) kw_403 dX10_post_52 rfl ?_
        refine T_22_3 (pc2 := 58) kw_217 dX10_post_55 rfl ?_
        refine G_iload_n (pc2 := 59) 1 rfl dX10_post_58 rfl rfl ?_
        refine AC (pc2 := 60) (fa_24 _ _ _ _) h dX10_post_59 rfl (fun h => ?_)
        refine B_istore_n (pc2 := 61) (fun x3_556 => [(3, .int x3_556), (0, .ref 0), (1, .int x1), (2, .int x2)]) h dX10_post_60 rfl (by decide) (fun _ => rfl) rfl (fun x3_556 h => ?_)
        refine G_aload_n (pc2 := 62) 1 rfl dX10_post_61 rfl rfl ?_
        refine T_0_3 (pc2 := 65) kw_403 dX10_post_62 rfl ?_
        refine T_22_3 (pc2 := 68) kw_217 dX10_post_65 rfl ?_
        refine G_iload_n (pc2 := 69) 2 rfl dX10_post_68 rfl rfl ?_
        refine G_iload_n (pc2 := 70) 3 rfl dX10_post_69 rfl rfl ?_
        refine SC (pc2 := 71) (fa_24 _ _ _ _) h dX10_post_70 rfl (fun F_557 h => ?_)
        refine G_iload_n (pc2 := 72) 0 rfl dX10_post_71 rfl rfl ?_
        have ha := Option.some.inj h
        subst ha
        exact G_iret rfl dX10_post_72
      · refine G_ldc (pc2 := 39) kw_671 dX10_post_37 rfl ?_
        have ha := Option.some.inj h
        subst ha
        exact G_iret rfl dX10_post_39
    · refine G_ldc (pc2 := 24) kw_605 dX10_post_22 rfl ?_
      have ha := Option.some.inj h
      subst ha
      exact G_iret rfl dX10_post_24)
def f_X10_rest (x1 : Int32) (I : WI) (F : WF) : Option (Int32 × WI × WF) :=
  Option.bind (f_X7_hasKeeper_13 x1 I F) fun c_558 =>
  if c_558 = 0 then (some ((-1000000001 : Int32), I, F))
  else (ixG x1 9 (
  bnd (F 1 x1.toNatClampNeg) fun x2_559 =>
  if x2_559 = (-1 : Int32) then (some ((-1000000003 : Int32), I, F))
  else (Option.bind (f_X3_remember_42_22 I F) fun c_560 =>
  ixG x1 9 (bnd (uF c_560.2 1 (upd (c_560.2 1) x1.toNatClampNeg (-1 : Int32))) fun F_561 =>
  some (x2_559, c_560.1, F_561)))))
set_option maxRecDepth 100000 in
set_option maxHeartbeats 4000000 in
theorem c_X10_rest {x1 : Int32} {I : WI} {F : WF} {J : WI} {K : WF} {a : Int32 × WI × WF} (h : f_X10_rest x1 I F = some a) : CT md_X10_rest yX10_rest (rmD 3) [.ref 0, .int x1] (mkW I F J K) (some (.int a.1)) (mkW a.2.1 a.2.2 J K) := CT_of pn_X10 ⟨rfl, rfl⟩ (Nat.le_of_ble_eq_true rfl) (fun X => by
  show GG X md_X10_rest (rmD 3) _ 0 0 0 [(0, .ref 0), (1, .int x1)] [] (mkW I F J K)
  unfold f_X10_rest at h
  refine G_aload_n (pc2 := 1) 0 rfl dX10_rest_0 rfl rfl ?_
  refine T_0_2 (pc2 := 4) kw_402 dX10_rest_1 rfl ?_
  refine G_iload_n (pc2 := 5) 1 rfl dX10_rest_4 rfl rfl ?_
  obtain ⟨c_558, hc_558, h⟩ := ob_e h
  refine B_callV (pc2 := 8) si_X10_185 (c_X7_hasKeeper_13 hc_558) (qo_13 _ _ _ _) rfl rfl rfl (st := []) (stq := [.int c_558]) rfl (by decide) (by decide) (Nat.le_of_ble_eq_true rfl) mkW_ll dX10_rest_5 rfl rfl ?_ ⟨rfl, rfl⟩
  refine B_if_ne (tgt := 14) (pc2 := 11) h dX10_rest_8 (by decide) rfl (fun _ h => ?_) (fun _ h => ?_)
  · refine G_aload_n (pc2 := 15) 0 rfl dX10_rest_14 rfl rfl ?_
    refine T_0_3 (pc2 := 18) kw_403 dX10_rest_15 rfl ?_
    refine T_22_3 (pc2 := 21) kw_217 dX10_rest_18 rfl ?_
    refine G_iload_n (pc2 := 22) 1 rfl dX10_rest_21 rfl rfl ?_
    refine AC (pc2 := 23) (fa_24 _ _ _ _) h dX10_rest_22 rfl (fun h => ?_)
    refine B_istore_n (pc2 := 24) (fun x2_559 => [(2, .int x2_559), (0, .ref 0), (1, .int x1)]) h dX10_rest_23 rfl (by decide) (fun _ => rfl) rfl (fun x2_559 h => ?_)
    refine G_iload_n (pc2 := 25) 0 rfl dX10_rest_24 rfl rfl ?_
    refine G_iconst (pc2 := 26) dX10_rest_25 ic_m1 rfl ?_
    refine B_icmp_ne (tgt := 32) (pc2 := 29) h dX10_rest_26 (by decide) rfl (fun _ h => ?_) (fun _ h => ?_)
    · refine G_aload_n (pc2 := 33) 1 rfl dX10_rest_32 rfl rfl ?_
      refine T_0_8 (pc2 := 36) kw_408 dX10_rest_33 rfl ?_
      refine G_aload_n (pc2 := 37) 1 rfl dX10_rest_36 rfl rfl ?_
      refine T_0_3 (pc2 := 40) kw_403 dX10_rest_37 rfl ?_
      obtain ⟨c_560, hc_560, h⟩ := ob_e h
      refine B_callV (pc2 := 43) si_X10_236 (c_X3_remember_42_22 hc_560) (qo_42 _ _ _ _) rfl rfl rfl (st := []) (stq := []) rfl (by decide) (by decide) (Nat.le_of_ble_eq_true rfl) mkW_ll dX10_rest_40 rfl rfl ?_ ⟨rfl, rfl⟩
      refine G_aload_n (pc2 := 44) 1 rfl dX10_rest_43 rfl rfl ?_
      refine T_0_3 (pc2 := 47) kw_403 dX10_rest_44 rfl ?_
      refine T_22_3 (pc2 := 50) kw_217 dX10_rest_47 rfl ?_
      refine G_iload_n (pc2 := 51) 2 rfl dX10_rest_50 rfl rfl ?_
      refine G_iconst (pc2 := 52) dX10_rest_51 ic_m1 rfl ?_
      refine SC (pc2 := 53) (fa_24 _ _ _ _) h dX10_rest_52 rfl (fun F_561 h => ?_)
      refine G_iload_n (pc2 := 54) 0 rfl dX10_rest_53 rfl rfl ?_
      have ha := Option.some.inj h
      subst ha
      exact G_iret rfl dX10_rest_54
    · refine G_ldc (pc2 := 31) kw_671 dX10_rest_29 rfl ?_
      have ha := Option.some.inj h
      subst ha
      exact G_iret rfl dX10_rest_31
  · refine G_ldc (pc2 := 13) kw_605 dX10_rest_11 rfl ?_
    have ha := Option.some.inj h
    subst ha
    exact G_iret rfl dX10_rest_13)
def f_X10_train (x1 : Int32) (I : WI) (F : WF) : Option (Int32 × WI × WF) :=
  Option.bind (f_X7_hasKeeper_13 x1 I F) fun c_562 =>
  if c_562 = 0 then (some ((-1000000001 : Int32), I, F))
  else (ixG x1 9 (
  if (1 : Int32) < (F 0 x1.toNatClampNeg) then (Option.bind (f_X3_remember_42_22 I F) fun c_563 =>
  ixG x1 9 (
  ixG x1 9 (bnd (uF c_563.2 0 (upd (c_563.2 0) x1.toNatClampNeg ((c_563.2 0 x1.toNatClampNeg) - (1 : Int32)))) fun F_564 =>
  ixG x1 9 (
  some ((F_564 0 x1.toNatClampNeg), c_563.1, F_564)))))
  else (some ((-1000000003 : Int32), I, F))))
set_option maxRecDepth 100000 in
set_option maxHeartbeats 4000000 in
theorem c_X10_train {x1 : Int32} {I : WI} {F : WF} {J : WI} {K : WF} {a : Int32 × WI × WF} (h : f_X10_train x1 I F = some a) : CT md_X10_train yX10_train (rmD 3) [.ref 0, .int x1] (mkW I F J K) (some (.int a.1)) (mkW a.2.1 a.2.2 J K) := CT_of pn_X10 ⟨rfl, rfl⟩ (Nat.le_of_ble_eq_true rfl) (fun X => by
  show GG X md_X10_train (rmD 3) _ 0 0 0 [(0, .ref 0), (1, .int x1)] [] (mkW I F J K)
  unfold f_X10_train at h
  refine G_aload_n (pc2 := 1) 0 rfl dX10_train_0 rfl rfl ?_
  refine T_0_2 (pc2 := 4) kw_402 dX10_train_1 rfl ?_
  refine G_iload_n (pc2 := 5) 1 rfl dX10_train_4 rfl rfl ?_
  obtain ⟨c_562, hc_562, h⟩ := ob_e h
  refine B_callV (pc2 := 8) si_X10_185 (c_X7_hasKeeper_13 hc_562) (qo_13 _ _ _ _) rfl rfl rfl (st := []) (stq := [.int c_562]) rfl (by decide) (by decide) (Nat.le_of_ble_eq_true rfl) mkW_ll dX10_train_5 rfl rfl ?_ ⟨rfl, rfl⟩
  refine B_if_ne (tgt := 14) (pc2 := 11) h dX10_train_8 (by decide) rfl (fun _ h => ?_) (fun _ h => ?_)
  · refine G_aload_n (pc2 := 15) 0 rfl dX10_train_14 rfl rfl ?_
    refine T_0_3 (pc2 := 18) kw_403 dX10_train_15 rfl ?_
    refine T_22_2 (pc2 := 21) kw_214 dX10_train_18 rfl ?_
    refine G_iload_n (pc2 := 22) 1 rfl dX10_train_21 rfl rfl ?_
    refine AC (pc2 := 23) (fa_23 _ _ _ _) h dX10_train_22 rfl (fun h => ?_)
    refine G_iconst (pc2 := 24) dX10_train_23 ic_1 rfl ?_
    refine B_icmp_gt (tgt := 30) (pc2 := 27) h dX10_train_24 (by decide) rfl (fun _ h => ?_) (fun _ h => ?_)
    · refine G_aload_n (pc2 := 31) 0 rfl dX10_train_30 rfl rfl ?_
      refine T_0_8 (pc2 := 34) kw_408 dX10_train_31 rfl ?_
      refine G_aload_n (pc2 := 35) 0 rfl dX10_train_34 rfl rfl ?_
      refine T_0_3 (pc2 := 38) kw_403 dX10_train_35 rfl ?_
      obtain ⟨c_563, hc_563, h⟩ := ob_e h
      refine B_callV (pc2 := 41) si_X10_236 (c_X3_remember_42_22 hc_563) (qo_42 _ _ _ _) rfl rfl rfl (st := []) (stq := []) rfl (by decide) (by decide) (Nat.le_of_ble_eq_true rfl) mkW_ll dX10_train_38 rfl rfl ?_ ⟨rfl, rfl⟩
      refine G_aload_n (pc2 := 42) 0 rfl dX10_train_41 rfl rfl ?_
      refine T_0_3 (pc2 := 45) kw_403 dX10_train_42 rfl ?_
      refine T_22_2 (pc2 := 48) kw_214 dX10_train_45 rfl ?_
      refine G_iload_n (pc2 := 49) 1 rfl dX10_train_48 rfl rfl ?_
      refine G_dup2 (pc2 := 50) rfl rfl dX10_train_49 rfl ?_
      refine AC (pc2 := 51) (fa_23 _ _ _ _) h dX10_train_50 rfl (fun h => ?_)
      refine G_iconst (pc2 := 52) dX10_train_51 ic_1 rfl ?_
      refine G_isub (pc2 := 53) dX10_train_52 rfl ?_
      refine SC (pc2 := 54) (fa_23 _ _ _ _) h dX10_train_53 rfl (fun F_564 h => ?_)
      refine G_aload_n (pc2 := 55) 0 rfl dX10_train_54 rfl rfl ?_
      refine T_0_3 (pc2 := 58) kw_403 dX10_train_55 rfl ?_
      refine T_22_2 (pc2 := 61) kw_214 dX10_train_58 rfl ?_
      refine G_iload_n (pc2 := 62) 1 rfl dX10_train_61 rfl rfl ?_
      refine AC (pc2 := 63) (fa_23 _ _ _ _) h dX10_train_62 rfl (fun h => ?_)
      have ha := Option.some.inj h
      subst ha
      exact G_iret rfl dX10_train_63
    · refine G_ldc (pc2 := 29) kw_671 dX10_train_27 rfl ?_
      have ha := Option.some.inj h
      subst ha
      exact G_iret rfl dX10_train_29
  · refine G_ldc (pc2 := 13) kw_605 dX10_train_11 rfl ?_
    have ha := Option.some.inj h
    subst ha
    exact G_iret rfl dX10_train_13)
def f_X10_talk (x1 : Int32) (x2 : Int32) (I : WI) (F : WF) : Option (Int32 × WI × WF) :=
  Option.bind (f_X7_hasJumper_13 x1 I F) fun c_565 =>
  if c_565 = 0 then (some ((-1000000001 : Int32), I, F))
  else (if x2 < 0 then (some ((-1000000002 : Int32), I, F))
  else (if x2 ≤ (30 : Int32) then (Option.bind (f_X3_remember_42_22 I F) fun c_566 =>
  ixG x1 6 (
  bnd (c_566.2 4 x1.toNatClampNeg) fun x3_567 =>
  ixG x1 6 (bnd (uF c_566.2 4 (upd (c_566.2 4) x1.toNatClampNeg x2)) fun F_568 =>
  some (x3_567, c_566.1, F_568))))
  else (some ((-1000000002 : Int32), I, F))))
set_option maxRecDepth 100000 in
set_option maxHeartbeats 4000000 in
theorem c_X10_talk {x1 : Int32} {x2 : Int32} {I : WI} {F : WF} {J : WI} {K : WF} {a : Int32 × WI × WF} (h : f_X10_talk x1 x2 I F = some a) : CT md_X10_talk yX10_talk (rmD 3) [.ref 0, .int x1, .int x2] (mkW I F J K) (some (.int a.1)) (mkW a.2.1 a.2.2 J K) := CT_of pn_X10 ⟨rfl, rfl⟩ (Nat.le_of_ble_eq_true rfl) (fun X => by
  show GG X md_X10_talk (rmD 3) _ 0 0 0 [(0, .ref 0), (1, .int x1), (2, .int x2)] [] (mkW I F J K)
  unfold f_X10_talk at h
  refine G_aload_n (pc2 := 1) 0 rfl dX10_talk_0 rfl rfl ?_
  refine T_0_2 (pc2 := 4) kw_402 dX10_talk_1 rfl ?_
  refine G_iload_n (pc2 := 5) 1 rfl dX10_talk_4 rfl rfl ?_
  obtain ⟨c_565, hc_565, h⟩ := ob_e h
  refine B_callV (pc2 := 8) si_X10_203 (c_X7_hasJumper_13 hc_565) (qo_13 _ _ _ _) rfl rfl rfl (st := []) (stq := [.int c_565]) rfl (by decide) (by decide) (Nat.le_of_ble_eq_true rfl) mkW_ll dX10_talk_5 rfl rfl ?_ ⟨rfl, rfl⟩
  refine B_if_ne (tgt := 14) (pc2 := 11) h dX10_talk_8 (by decide) rfl (fun _ h => ?_) (fun _ h => ?_)
  · refine G_iload_n (pc2 := 15) 2 rfl dX10_talk_14 rfl rfl ?_
    refine B_if_lt (tgt := 24) (pc2 := 18) h dX10_talk_15 (by decide) rfl (fun _ h => ?_) (fun _ h => ?_)
    · refine G_ldc (pc2 := 26) kw_435 dX10_talk_24 rfl ?_
      have ha := Option.some.inj h
      subst ha
      exact G_iret rfl dX10_talk_26
    · refine G_iload_n (pc2 := 19) 2 rfl dX10_talk_18 rfl rfl ?_
      refine G_bipush (pc2 := 21) dX10_talk_19 ib_30 rfl ?_
      refine B_icmp_le (tgt := 27) (pc2 := 24) h dX10_talk_21 (by decide) rfl (fun _ h => ?_) (fun _ h => ?_)
      · refine G_aload_n (pc2 := 28) 0 rfl dX10_talk_27 rfl rfl ?_
        refine T_0_8 (pc2 := 31) kw_408 dX10_talk_28 rfl ?_
        refine G_aload_n (pc2 := 32) 0 rfl dX10_talk_31 rfl rfl ?_
        refine T_0_3 (pc2 := 35) kw_403 dX10_talk_32 rfl ?_
        obtain ⟨c_566, hc_566, h⟩ := ob_e h
        refine B_callV (pc2 := 38) si_X10_236 (c_X3_remember_42_22 hc_566) (qo_42 _ _ _ _) rfl rfl rfl (st := []) (stq := []) rfl (by decide) (by decide) (Nat.le_of_ble_eq_true rfl) mkW_ll dX10_talk_35 rfl rfl ?_ ⟨rfl, rfl⟩
        refine G_aload_n (pc2 := 39) 0 rfl dX10_talk_38 rfl rfl ?_
        refine T_0_3 (pc2 := 42) kw_403 dX10_talk_39 rfl ?_
        refine T_22_6 (pc2 := 45) kw_227 dX10_talk_42 rfl ?_
        refine G_iload_n (pc2 := 46) 1 rfl dX10_talk_45 rfl rfl ?_
        refine AC (pc2 := 47) (fa_27 _ _ _ _) h dX10_talk_46 rfl (fun h => ?_)
        refine B_istore_n (pc2 := 48) (fun x3_567 => [(3, .int x3_567), (0, .ref 0), (1, .int x1), (2, .int x2)]) h dX10_talk_47 rfl (by decide) (fun _ => rfl) rfl (fun x3_567 h => ?_)
        refine G_aload_n (pc2 := 49) 1 rfl dX10_talk_48 rfl rfl ?_
        refine T_0_3 (pc2 := 52) kw_403 dX10_talk_49 rfl ?_
        refine T_22_6 (pc2 := 55) kw_227 dX10_talk_52 rfl ?_
        refine G_iload_n (pc2 := 56) 2 rfl dX10_talk_55 rfl rfl ?_
        refine G_iload_n (pc2 := 57) 3 rfl dX10_talk_56 rfl rfl ?_
        refine SC (pc2 := 58) (fa_27 _ _ _ _) h dX10_talk_57 rfl (fun F_568 h => ?_)
        refine G_iload_n (pc2 := 59) 0 rfl dX10_talk_58 rfl rfl ?_
        have ha := Option.some.inj h
        subst ha
        exact G_iret rfl dX10_talk_59
      · refine G_ldc (pc2 := 26) kw_435 dX10_talk_24 rfl ?_
        have ha := Option.some.inj h
        subst ha
        exact G_iret rfl dX10_talk_26
  · refine G_ldc (pc2 := 13) kw_605 dX10_talk_11 rfl ?_
    have ha := Option.some.inj h
    subst ha
    exact G_iret rfl dX10_talk_13)
def L_X1_oneHour_12_2 (k : WF → Option (WI × WF))  (I : WI) : Nat → Int32 → WF → Option (WI × WF)
  | 0, _, _ => none
  | n + 1, x1, F =>
  if (I 50) ≤ x1 then (k F)
  else (ixG x1 9 (
  bnd (fun (s_576 : Int32) => bnd s_576 fun x2_577 =>
  ixG x1 9 (
  ixG x1 9 (bnd (uF F 2 (upd (F 2) x1.toNatClampNeg (if (0 : Int32) < ((F 2 x1.toNatClampNeg) - x2_577) then ((F 2 x1.toNatClampNeg) - x2_577) else (0 : Int32)))) fun F_578 =>
  bnd (x1 + (1 : Int32)) fun x1_579 =>
  L_X1_oneHour_12_2 k I n x1_579 F_578))) fun j31_575 =>
  if (F 1 x1.toNatClampNeg) = (-1 : Int32) then (j31_575 (3 : Int32))
  else (j31_575 (1 : Int32))))
def L_X1_oneHour_12_64 (k : WF → Option (WI × WF))  (I : WI) : Nat → Int32 → WF → Option (WI × WF)
  | 0, _, _ => none
  | n + 1, x1, F =>
  if (I 51) ≤ x1 then (k F)
  else (ixG x1 6 (
  bnd (fun (F_583 : WF) => bnd (x1 + (1 : Int32)) fun x1_584 =>
  L_X1_oneHour_12_64 k I n x1_584 F_583) fun j103_582 =>
  if ((F 4 x1.toNatClampNeg) - (F 4 x1.toNatClampNeg) / (2 : Int32) * (2 : Int32)) = (1 : Int32) then (ixG x1 6 (
  ixG x1 6 (bnd (uF F 4 (upd (F 4) x1.toNatClampNeg ((F 4 x1.toNatClampNeg) - (1 : Int32)))) fun F_585 =>
  j103_582 F_585)))
  else (j103_582 F)))
def f_X1_oneHour_12 (I : WI) (F : WF) : Option (WI × WF) :=
  bnd (0 : Int32) fun x1_574 =>
  L_X1_oneHour_12_2 (fun F_580 => bnd (0 : Int32) fun x1_581 =>
  L_X1_oneHour_12_64 (fun F_586 => bnd (upd I 0 ((I 0) + (1 : Int32))) fun I_587 =>
  some (I_587, F_586)) I FU x1_581 F_580) I FU x1_574 F
set_option maxRecDepth 100000 in
set_option maxHeartbeats 4000000 in
theorem g_L_X1_oneHour_12_2 {X : XT} {I : WI} {J : WI} {K : WF} {a : WI × WF} {k : WF → Option (WI × WF)} (hk : ∀ (F' : WF), (k F' = some a → GG X md_X1_oneHour (rmD 1) (gv_Z X (rmD 1).cells (rmD 1).slots none (mkW a.1 a.2 J K)) 0 0 62 [(0, .ref 12)] [] (mkW I F' J K))) : ∀ (n : Nat) (x1 : Int32) (F : WF), L_X1_oneHour_12_2 k I n x1 F = some a → GG X md_X1_oneHour (rmD 1) (gv_Z X (rmD 1).cells (rmD 1).slots none (mkW a.1 a.2 J K)) 0 0 2 [(0, .ref 12), (1, .int x1)] [] (mkW I F J K) := by
  intro n
  induction n with
  | zero =>
    intro x1 F h
    rw [L_X1_oneHour_12_2] at h
    cases h
  | succ n ih =>
    intro x1 F h
    rw [L_X1_oneHour_12_2] at h
    refine G_iload_n (pc2 := 3) 1 rfl dX1_oneHour_2 rfl rfl ?_
    refine G_aload_n (pc2 := 4) 0 rfl dX1_oneHour_3 rfl rfl ?_
    refine T_12_0 (pc2 := 7) kw_256 dX1_oneHour_4 rfl ?_
    refine T_13_2 (pc2 := 10) kw_110 dX1_oneHour_7 rfl ?_
    refine B_icmp_ge (tgt := 62) (pc2 := 13) h dX1_oneHour_10 (by decide) rfl (fun _ h => ?_) (fun _ h => ?_)
    · refine G_sub (ls' := [(0, .ref 12)]) [0] rfl ?_
      exact hk F h
    · refine G_aload_n (pc2 := 14) 0 rfl dX1_oneHour_13 rfl rfl ?_
      refine T_12_1 (pc2 := 17) kw_259 dX1_oneHour_14 rfl ?_
      refine T_22_3 (pc2 := 20) kw_216 dX1_oneHour_17 rfl ?_
      refine G_iload_n (pc2 := 21) 1 rfl dX1_oneHour_20 rfl rfl ?_
      refine AC (pc2 := 22) (fa_24 _ _ _ _) h dX1_oneHour_21 rfl (fun h => ?_)
      refine G_iconst (pc2 := 23) dX1_oneHour_22 ic_m1 rfl ?_
      refine jn_e (Gj := True) (fun (j : Int32 → Option (WI × WF)) => ∀ (s_576 : Int32), j s_576 = some a → GG X md_X1_oneHour (rmD 1) (gv_Z X (rmD 1).cells (rmD 1).slots none (mkW a.1 a.2 J K)) 0 0 31 [(0, .ref 12), (1, .int x1)] [.int s_576] (mkW I F J K)) h (fun s_576 h => ?_) (fun j31_575 hj31_575 h => ?_)
      · refine B_istore_n (pc2 := 32) (fun x2_577 => [(2, .int x2_577), (0, .ref 12), (1, .int x1)]) h dX1_oneHour_31 rfl (by decide) (fun _ => rfl) rfl (fun x2_577 h => ?_)
        refine G_aload_n (pc2 := 33) 1 rfl dX1_oneHour_32 rfl rfl ?_
        refine T_12_1 (pc2 := 36) kw_259 dX1_oneHour_33 rfl ?_
        refine T_22_4 (pc2 := 39) kw_219 dX1_oneHour_36 rfl ?_
        refine G_iload_n (pc2 := 40) 2 rfl dX1_oneHour_39 rfl rfl ?_
        refine G_iconst (pc2 := 41) dX1_oneHour_40 ic_0 rfl ?_
        refine G_aload_n (pc2 := 42) 1 rfl dX1_oneHour_41 rfl rfl ?_
        refine T_12_1 (pc2 := 45) kw_259 dX1_oneHour_42 rfl ?_
        refine T_22_4 (pc2 := 48) kw_219 dX1_oneHour_45 rfl ?_
        refine G_iload_n (pc2 := 49) 2 rfl dX1_oneHour_48 rfl rfl ?_
        refine AC (pc2 := 50) (fa_25 _ _ _ _) h dX1_oneHour_49 rfl (fun h => ?_)
        refine G_iload_n (pc2 := 51) 0 rfl dX1_oneHour_50 rfl rfl ?_
        refine G_isub (pc2 := 52) dX1_oneHour_51 rfl ?_
        refine G_max (pc2 := 55) kw_652 ⟨by decide, by decide, Nat.le_refl _, Nat.le_refl _⟩ (Nat.le_of_ble_eq_true rfl) dX1_oneHour_52 rfl ?_
        refine SC (pc2 := 56) (fa_25 _ _ _ _) h dX1_oneHour_55 rfl (fun F_578 h => ?_)
        refine B_iinc (pc2 := 59) 2 (fun x1_579 => [(1, .int x1_579), (2, .int x2_577), (0, .ref 12)]) h rfl dX1_oneHour_56 ic_1 (by decide) (fun _ => rfl) rfl (fun x1_579 h => ?_)
        refine G_goto (tgt := 2) dX1_oneHour_59 (by decide) ?_
        refine G_sub (ls' := [(0, .ref 12), (1, .int x1_579)]) [2, 0] rfl ?_
        exact ih x1_579 F_578 h
      refine B_icmp_ne (tgt := 30) (pc2 := 26) h dX1_oneHour_23 (by decide) rfl (fun _ h => ?_) (fun _ h => ?_)
      · refine G_iconst (pc2 := 31) dX1_oneHour_30 ic_1 rfl ?_
        exact hj31_575 (1 : Int32) h
      · refine G_iconst (pc2 := 27) dX1_oneHour_26 ic_3 rfl ?_
        refine G_goto (tgt := 31) dX1_oneHour_27 (by decide) ?_
        exact hj31_575 (3 : Int32) h
set_option maxRecDepth 100000 in
set_option maxHeartbeats 4000000 in
theorem g_L_X1_oneHour_12_64 {X : XT} {I : WI} {J : WI} {K : WF} {a : WI × WF} {k : WF → Option (WI × WF)} (hk : ∀ (F' : WF), (k F' = some a → GG X md_X1_oneHour (rmD 1) (gv_Z X (rmD 1).cells (rmD 1).slots none (mkW a.1 a.2 J K)) 0 0 109 [(0, .ref 12)] [] (mkW I F' J K))) : ∀ (n : Nat) (x1 : Int32) (F : WF), L_X1_oneHour_12_64 k I n x1 F = some a → GG X md_X1_oneHour (rmD 1) (gv_Z X (rmD 1).cells (rmD 1).slots none (mkW a.1 a.2 J K)) 0 0 64 [(0, .ref 12), (1, .int x1)] [] (mkW I F J K) := by
  intro n
  induction n with
  | zero =>
    intro x1 F h
    rw [L_X1_oneHour_12_64] at h
    cases h
  | succ n ih =>
    intro x1 F h
    rw [L_X1_oneHour_12_64] at h
    refine G_iload_n (pc2 := 65) 1 rfl dX1_oneHour_64 rfl rfl ?_
    refine G_aload_n (pc2 := 66) 0 rfl dX1_oneHour_65 rfl rfl ?_
    refine T_12_0 (pc2 := 69) kw_256 dX1_oneHour_66 rfl ?_
    refine T_13_3 (pc2 := 72) kw_117 dX1_oneHour_69 rfl ?_
    refine B_icmp_ge (tgt := 109) (pc2 := 75) h dX1_oneHour_72 (by decide) rfl (fun _ h => ?_) (fun _ h => ?_)
    · refine G_sub (ls' := [(0, .ref 12)]) [0] rfl ?_
      exact hk F h
    · refine G_aload_n (pc2 := 76) 0 rfl dX1_oneHour_75 rfl rfl ?_
      refine T_12_1 (pc2 := 79) kw_259 dX1_oneHour_76 rfl ?_
      refine T_22_6 (pc2 := 82) kw_226 dX1_oneHour_79 rfl ?_
      refine G_iload_n (pc2 := 83) 1 rfl dX1_oneHour_82 rfl rfl ?_
      refine AC (pc2 := 84) (fa_27 _ _ _ _) h dX1_oneHour_83 rfl (fun h => ?_)
      refine G_iconst (pc2 := 85) dX1_oneHour_84 ic_2 rfl ?_
      refine G_irem (pc2 := 86) dX1_oneHour_85 (by decide) rfl ?_
      refine G_iconst (pc2 := 87) dX1_oneHour_86 ic_1 rfl ?_
      refine jn_e (Gj := True) (fun (j : WF → Option (WI × WF)) => ∀ (F_583 : WF), j F_583 = some a → GG X md_X1_oneHour (rmD 1) (gv_Z X (rmD 1).cells (rmD 1).slots none (mkW a.1 a.2 J K)) 0 0 103 [(0, .ref 12), (1, .int x1)] [] (mkW I F_583 J K)) h (fun F_583 h => ?_) (fun j103_582 hj103_582 h => ?_)
      · refine B_iinc (pc2 := 106) 1 (fun x1_584 => [(1, .int x1_584), (0, .ref 12)]) h rfl dX1_oneHour_103 ic_1 (by decide) (fun _ => rfl) rfl (fun x1_584 h => ?_)
        refine G_goto (tgt := 64) dX1_oneHour_106 (by decide) ?_
        refine G_sub (ls' := [(0, .ref 12), (1, .int x1_584)]) [1, 0] rfl ?_
        exact ih x1_584 F_583 h
      refine B_icmp_ne (tgt := 103) (pc2 := 90) h dX1_oneHour_87 (by decide) rfl (fun _ h => ?_) (fun _ h => ?_)
      · exact hj103_582 F h
      · refine G_aload_n (pc2 := 91) 0 rfl dX1_oneHour_90 rfl rfl ?_
        refine T_12_1 (pc2 := 94) kw_259 dX1_oneHour_91 rfl ?_
        refine T_22_6 (pc2 := 97) kw_226 dX1_oneHour_94 rfl ?_
        refine G_iload_n (pc2 := 98) 1 rfl dX1_oneHour_97 rfl rfl ?_
        refine G_dup2 (pc2 := 99) rfl rfl dX1_oneHour_98 rfl ?_
        refine AC (pc2 := 100) (fa_27 _ _ _ _) h dX1_oneHour_99 rfl (fun h => ?_)
        refine G_iconst (pc2 := 101) dX1_oneHour_100 ic_1 rfl ?_
        refine G_isub (pc2 := 102) dX1_oneHour_101 rfl ?_
        refine SC (pc2 := 103) (fa_27 _ _ _ _) h dX1_oneHour_102 rfl (fun F_585 h => ?_)
        exact hj103_582 F_585 h
set_option maxRecDepth 100000 in
set_option maxHeartbeats 4000000 in
theorem c_X1_oneHour_12 {I : WI} {F : WF} {J : WI} {K : WF} {a : WI × WF} (h : f_X1_oneHour_12  I F = some a) : CT md_X1_oneHour yX1_oneHour (rmD 1) [.ref 12] (mkW I F J K) none (mkW a.1 a.2 J K) := CT_of pn_X1 ⟨rfl, rfl⟩ (Nat.le_of_ble_eq_true rfl) (fun X => by
  show GG X md_X1_oneHour (rmD 1) _ 0 0 0 [(0, .ref 12)] [] (mkW I F J K)
  unfold f_X1_oneHour_12 at h
  refine G_iconst (pc2 := 1) dX1_oneHour_0 ic_0 rfl ?_
  refine B_istore_n (pc2 := 2) (fun x1_574 => [(1, .int x1_574), (0, .ref 12)]) h dX1_oneHour_1 rfl (by decide) (fun _ => rfl) rfl (fun x1_574 h => ?_)
  refine G_sub (ls' := [(0, .ref 12), (1, .int x1_574)]) [1, 0] rfl ?_
  refine g_L_X1_oneHour_12_2 (fun F_580 h => ?_) FU x1_574 F h
  refine G_iconst (pc2 := 63) dX1_oneHour_62 ic_0 rfl ?_
  refine B_istore_n (pc2 := 64) (fun x1_581 => [(1, .int x1_581), (0, .ref 12)]) h dX1_oneHour_63 rfl (by decide) (fun _ => rfl) rfl (fun x1_581 h => ?_)
  refine G_sub (ls' := [(0, .ref 12), (1, .int x1_581)]) [1, 0] rfl ?_
  refine g_L_X1_oneHour_12_64 (fun F_586 h => ?_) FU x1_581 F_580 h
  refine G_aload_n (pc2 := 110) 0 rfl dX1_oneHour_109 rfl rfl ?_
  refine T_12_1 (pc2 := 113) kw_259 dX1_oneHour_110 rfl ?_
  refine G_dup (pc2 := 114) rfl dX1_oneHour_113 rfl ?_
  refine T_22_0 (pc2 := 117) kw_208 dX1_oneHour_114 rfl ?_
  refine G_iconst (pc2 := 118) dX1_oneHour_117 ic_1 rfl ?_
  refine G_iadd (pc2 := 119) dX1_oneHour_118 rfl ?_
  refine P_22_0 (pc2 := 122) h kw_208 dX1_oneHour_119 rfl (fun I_587 h => ?_)
  have ha := Option.some.inj h
  subst ha
  exact G_vret rfl dX1_oneHour_122)
def f_X1_draw_12 (x1 : Int32) (I : WI) (F : WF) : Option (Int32 × WI) :=
  bnd (upd I 47 ((((((I 47).toInt64) * (1103515245 : Int64)) + (12345 : Int64)) &&& (2147483647 : Int64)).toInt32)) fun I_590 =>
  if x1 ≤ 0 then (some ((0 : Int32), I_590))
  else (nzI x1 (
  some ((((I_590 47) / (65536 : Int32)) - ((I_590 47) / (65536 : Int32)) / x1 * x1), I_590)))
set_option maxRecDepth 100000 in
set_option maxHeartbeats 4000000 in
theorem c_X1_draw_12 {x1 : Int32} {I : WI} {F : WF} {J : WI} {K : WF} {a : Int32 × WI} (h : f_X1_draw_12 x1 I F = some a) : CT md_X1_draw yX1_draw (rmD 1) [.ref 12, .int x1] (mkW I F J K) (some (.int a.1)) (mkW a.2 F J K) := CT_of pn_X1 ⟨rfl, rfl⟩ (Nat.le_of_ble_eq_true rfl) (fun X => by
  show GG X md_X1_draw (rmD 1) _ 0 0 0 [(0, .ref 12), (1, .int x1)] [] (mkW I F J K)
  unfold f_X1_draw_12 at h
  refine G_aload_n (pc2 := 1) 0 rfl dX1_draw_0 rfl rfl ?_
  refine G_aload_n (pc2 := 2) 0 rfl dX1_draw_1 rfl rfl ?_
  refine T_12_2 (pc2 := 5) kw_261 dX1_draw_2 rfl ?_
  refine G_i2l (pc2 := 6) dX1_draw_5 rfl ?_
  refine G_ldc2 (pc2 := 9) kw_728 dX1_draw_6 rfl ?_
  refine G_lmul (pc2 := 10) dX1_draw_9 rfl ?_
  refine G_ldc2 (pc2 := 13) kw_729 dX1_draw_10 rfl ?_
  refine G_ladd (pc2 := 14) dX1_draw_13 rfl ?_
  refine G_ldc2 (pc2 := 17) kw_730 dX1_draw_14 rfl ?_
  refine G_land (pc2 := 18) dX1_draw_17 rfl ?_
  refine G_l2i (pc2 := 19) dX1_draw_18 rfl ?_
  refine P_12_2 (pc2 := 22) h kw_261 dX1_draw_19 rfl (fun I_590 h => ?_)
  refine G_iload_n (pc2 := 23) 1 rfl dX1_draw_22 rfl rfl ?_
  refine B_if_le (tgt := 38) (pc2 := 26) h dX1_draw_23 (by decide) rfl (fun _ h => ?_) (fun _ h => ?_)
  · refine G_iconst (pc2 := 39) dX1_draw_38 ic_0 rfl ?_
    have ha := Option.some.inj h
    subst ha
    exact G_iret rfl dX1_draw_39
  · refine G_aload_n (pc2 := 27) 0 rfl dX1_draw_26 rfl rfl ?_
    refine T_12_2 (pc2 := 30) kw_261 dX1_draw_27 rfl ?_
    refine G_ldc (pc2 := 32) kw_731 dX1_draw_30 rfl ?_
    refine G_idiv (pc2 := 33) dX1_draw_32 (by decide) rfl ?_
    refine G_iload_n (pc2 := 34) 1 rfl dX1_draw_33 rfl rfl ?_
    obtain ⟨qz_591, h⟩ := nzI_e h
    refine G_irem (pc2 := 35) dX1_draw_34 qz_591 rfl ?_
    refine G_goto (tgt := 39) dX1_draw_35 (by decide) ?_
    have ha := Option.some.inj h
    subst ha
    exact G_iret rfl dX1_draw_39)
def f_X1_drawnJump_12 (I : WI) (F : WF) : Option (WI × WF) :=
  if (I 51) = 0 then (some (I, F))
  else (if (I 49) = 0 then (some (I, F))
  else (Option.bind (f_X1_draw_12 (I 51) I F) fun c_592 =>
  bnd c_592.1 fun x1_593 =>
  Option.bind (f_X1_draw_12 (c_592.2 49) c_592.2 F) fun c_594 =>
  bnd c_594.1 fun x2_595 =>
  Option.bind (f_X1_draw_12 (100 : Int32) c_594.2 F) fun c_596 =>
  bnd c_596.1 fun x3_597 =>
  ixG x1_593 6 (
  Option.bind (f_X7_touches_13 x2_595 (F 3 x1_593.toNatClampNeg) c_596.2 F) fun c_598 =>
  if c_598 = 0 then (some (c_596.2, F))
  else (ixG x2_595 9 (
  bnd (fun (s_600 : Int32) => Option.bind (f_X1_jump_12 x1_593 x2_595 s_600 c_596.2 F) fun c_601 =>
  some (c_601.2.1, c_601.2.2)) fun j93_599 =>
  if (F 164 x2_595.toNatClampNeg) ≤ x3_597 then (j93_599 (0 : Int32))
  else (j93_599 (1 : Int32)))))))
set_option maxRecDepth 100000 in
set_option maxHeartbeats 4000000 in
theorem c_X1_drawnJump_12 {I : WI} {F : WF} {J : WI} {K : WF} {a : WI × WF} (h : f_X1_drawnJump_12  I F = some a) : CT md_X1_drawnJump yX1_drawnJump (rmD 5) [.ref 12] (mkW I F J K) none (mkW a.1 a.2 J K) := CT_of pn_X1 ⟨rfl, rfl⟩ (Nat.le_of_ble_eq_true rfl) (fun X => by
  show GG X md_X1_drawnJump (rmD 5) _ 0 0 0 [(0, .ref 12)] [] (mkW I F J K)
  unfold f_X1_drawnJump_12 at h
  refine G_aload_n (pc2 := 1) 0 rfl dX1_drawnJump_0 rfl rfl ?_
  refine T_12_0 (pc2 := 4) kw_256 dX1_drawnJump_1 rfl ?_
  refine T_13_3 (pc2 := 7) kw_117 dX1_drawnJump_4 rfl ?_
  refine B_if_eq (tgt := 20) (pc2 := 10) h dX1_drawnJump_7 (by decide) rfl (fun _ h => ?_) (fun _ h => ?_)
  · have ha := Option.some.inj h
    subst ha
    exact G_vret rfl dX1_drawnJump_20
  · refine G_aload_n (pc2 := 11) 0 rfl dX1_drawnJump_10 rfl rfl ?_
    refine T_12_0 (pc2 := 14) kw_256 dX1_drawnJump_11 rfl ?_
    refine T_13_1 (pc2 := 17) kw_106 dX1_drawnJump_14 rfl ?_
    refine B_if_ne (tgt := 21) (pc2 := 20) h dX1_drawnJump_17 (by decide) rfl (fun _ h => ?_) (fun _ h => ?_)
    · refine G_aload_n (pc2 := 22) 0 rfl dX1_drawnJump_21 rfl rfl ?_
      refine G_aload_n (pc2 := 23) 0 rfl dX1_drawnJump_22 rfl rfl ?_
      refine T_12_0 (pc2 := 26) kw_256 dX1_drawnJump_23 rfl ?_
      refine T_13_3 (pc2 := 29) kw_117 dX1_drawnJump_26 rfl ?_
      obtain ⟨c_592, hc_592, h⟩ := ob_e h
      refine B_callV (pc2 := 32) si_X1_103 (c_X1_draw_12 hc_592) (qo_12 _ _ _ _) rfl rfl rfl (st := []) (stq := [.int c_592.1]) rfl (by decide) (by decide) (Nat.le_of_ble_eq_true rfl) mkW_ll dX1_drawnJump_29 rfl rfl ?_ ⟨rfl, rfl⟩
      refine B_istore_n (pc2 := 33) (fun x1_593 => [(1, .int x1_593), (0, .ref 12)]) h dX1_drawnJump_32 rfl (by decide) (fun _ => rfl) rfl (fun x1_593 h => ?_)
      refine G_aload_n (pc2 := 34) 1 rfl dX1_drawnJump_33 rfl rfl ?_
      refine G_aload_n (pc2 := 35) 1 rfl dX1_drawnJump_34 rfl rfl ?_
      refine T_12_0 (pc2 := 38) kw_256 dX1_drawnJump_35 rfl ?_
      refine T_13_1 (pc2 := 41) kw_106 dX1_drawnJump_38 rfl ?_
      obtain ⟨c_594, hc_594, h⟩ := ob_e h
      refine B_callV (pc2 := 44) si_X1_103 (c_X1_draw_12 hc_594) (qo_12 _ _ _ _) rfl rfl rfl (st := []) (stq := [.int c_594.1]) rfl (by decide) (by decide) (Nat.le_of_ble_eq_true rfl) mkW_ll dX1_drawnJump_41 rfl rfl ?_ ⟨rfl, rfl⟩
      refine B_istore_n (pc2 := 45) (fun x2_595 => [(2, .int x2_595), (1, .int x1_593), (0, .ref 12)]) h dX1_drawnJump_44 rfl (by decide) (fun _ => rfl) rfl (fun x2_595 h => ?_)
      refine G_aload_n (pc2 := 46) 2 rfl dX1_drawnJump_45 rfl rfl ?_
      refine G_bipush (pc2 := 48) dX1_drawnJump_46 ib_100 rfl ?_
      obtain ⟨c_596, hc_596, h⟩ := ob_e h
      refine B_callV (pc2 := 51) si_X1_103 (c_X1_draw_12 hc_596) (qo_12 _ _ _ _) rfl rfl rfl (st := []) (stq := [.int c_596.1]) rfl (by decide) (by decide) (Nat.le_of_ble_eq_true rfl) mkW_ll dX1_drawnJump_48 rfl rfl ?_ ⟨rfl, rfl⟩
      refine B_istore_n (pc2 := 52) (fun x3_597 => [(3, .int x3_597), (2, .int x2_595), (1, .int x1_593), (0, .ref 12)]) h dX1_drawnJump_51 rfl (by decide) (fun _ => rfl) rfl (fun x3_597 h => ?_)
      refine G_aload_n (pc2 := 53) 3 rfl dX1_drawnJump_52 rfl rfl ?_
      refine T_12_0 (pc2 := 56) kw_256 dX1_drawnJump_53 rfl ?_
      refine G_iload_n (pc2 := 57) 1 rfl dX1_drawnJump_56 rfl rfl ?_
      refine G_aload_n (pc2 := 58) 3 rfl dX1_drawnJump_57 rfl rfl ?_
      refine T_12_1 (pc2 := 61) kw_259 dX1_drawnJump_58 rfl ?_
      refine T_22_5 (pc2 := 64) kw_224 dX1_drawnJump_61 rfl ?_
      refine G_iload_n (pc2 := 65) 2 rfl dX1_drawnJump_64 rfl rfl ?_
      refine AC (pc2 := 66) (fa_26 _ _ _ _) h dX1_drawnJump_65 rfl (fun h => ?_)
      obtain ⟨c_598, hc_598, h⟩ := ob_e h
      refine B_callV (pc2 := 69) si_X1_106 (c_X7_touches_13 hc_598) (qo_13 _ _ _ _) rfl rfl rfl (st := []) (stq := [.int c_598]) rfl (by decide) (by decide) (Nat.le_of_ble_eq_true rfl) mkW_ll dX1_drawnJump_66 rfl rfl ?_ ⟨rfl, rfl⟩
      refine B_if_eq (tgt := 97) (pc2 := 72) h dX1_drawnJump_69 (by decide) rfl (fun _ h => ?_) (fun _ h => ?_)
      · have ha := Option.some.inj h
        subst ha
        exact G_vret rfl dX1_drawnJump_97
      · refine G_aload_n (pc2 := 73) 3 rfl dX1_drawnJump_72 rfl rfl ?_
        refine G_iload_n (pc2 := 74) 2 rfl dX1_drawnJump_73 rfl rfl ?_
        refine G_iload_n (pc2 := 75) 1 rfl dX1_drawnJump_74 rfl rfl ?_
        refine G_iload_n (pc2 := 76) 0 rfl dX1_drawnJump_75 rfl rfl ?_
        refine G_aload_n (pc2 := 77) 3 rfl dX1_drawnJump_76 rfl rfl ?_
        refine T_12_0 (pc2 := 80) kw_256 dX1_drawnJump_77 rfl ?_
        refine T_13_7 (pc2 := 83) kw_130 dX1_drawnJump_80 rfl ?_
        refine G_iload_n (pc2 := 84) 1 rfl dX1_drawnJump_83 rfl rfl ?_
        refine AC (pc2 := 85) (fa_17 _ _ _ _) h dX1_drawnJump_84 rfl (fun h => ?_)
        refine jn_e (Gj := True) (fun (j : Int32 → Option (WI × WF)) => ∀ (s_600 : Int32), j s_600 = some a → GG X md_X1_drawnJump (rmD 5) (gv_Z X (rmD 5).cells (rmD 5).slots none (mkW a.1 a.2 J K)) 0 0 93 [] [.int s_600, .int x2_595, .int x1_593, .ref 12] (mkW c_596.2 F J K)) h (fun s_600 h => ?_) (fun j93_599 hj93_599 h => ?_)
        · obtain ⟨c_601, hc_601, h⟩ := ob_e h
          refine B_callV (pc2 := 96) si_X1_112 (c_X1_jump_12 hc_601) (qo_12 _ _ _ _) rfl rfl rfl (st := []) (stq := [.int c_601.1]) rfl (by decide) (by decide) (Nat.le_of_ble_eq_true rfl) mkW_ll dX1_drawnJump_93 rfl rfl ?_ ⟨rfl, rfl⟩
          refine G_pop (pc2 := 97) rfl dX1_drawnJump_96 rfl ?_
          have ha := Option.some.inj h
          subst ha
          exact G_vret rfl dX1_drawnJump_97
        refine B_icmp_ge (tgt := 92) (pc2 := 88) h dX1_drawnJump_85 (by decide) rfl (fun _ h => ?_) (fun _ h => ?_)
        · refine G_iconst (pc2 := 93) dX1_drawnJump_92 ic_0 rfl ?_
          refine G_sub (ls' := []) [] rfl ?_
          exact hj93_599 (0 : Int32) h
        · refine G_iconst (pc2 := 89) dX1_drawnJump_88 ic_1 rfl ?_
          refine G_goto (tgt := 93) dX1_drawnJump_89 (by decide) ?_
          refine G_sub (ls' := []) [] rfl ?_
          exact hj93_599 (1 : Int32) h
    · have ha := Option.some.inj h
      subst ha
      exact G_vret rfl dX1_drawnJump_20)
end
