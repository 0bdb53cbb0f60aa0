noncomputable section
def f_X6_copyFrom_190_22 (I : WI) (F : WF) : Option (WI × WF) :=
  bnd (upd I 34 (I 0)) fun I_998 =>
  bnd (upd I_998 35 (I_998 1)) fun I_999 =>
  bnd (uF F 136 (va_cpy (F 0) (F 136) 0 0 9)) fun F_1000 =>
  bnd (uF F_1000 137 (va_cpy (F_1000 1) (F_1000 137) 0 0 9)) fun F_1001 =>
  bnd (uF F_1001 138 (va_cpy (F_1001 2) (F_1001 138) 0 0 9)) fun F_1002 =>
  bnd (uF F_1002 139 (va_cpy (F_1002 3) (F_1002 139) 0 0 6)) fun F_1003 =>
  bnd (uF F_1003 140 (va_cpy (F_1003 4) (F_1003 140) 0 0 6)) fun F_1004 =>
  bnd (uF F_1004 141 (va_cpy (F_1004 5) (F_1004 141) 0 0 6)) fun F_1005 =>
  bnd (uF F_1005 142 (va_cpy (F_1005 6) (F_1005 142) 0 0 6)) fun F_1006 =>
  bnd (uF F_1006 143 (va_cpy (F_1006 7) (F_1006 143) 0 0 20)) fun F_1007 =>
  some (I_999, F_1007)
set_option maxRecDepth 100000 in
set_option maxHeartbeats 4000000 in
theorem c_X6_copyFrom_190_22 {I : WI} {F : WF} {J : WI} {K : WF} {a : WI × WF} (h : f_X6_copyFrom_190_22  I F = some a) : CT md_X6_copyFrom yX6_copyFrom (rmD 1) [.ref 190, .ref 22] (mkW I F J K) none (mkW a.1 a.2 J K) := CT_of pn_X6 ⟨rfl, rfl⟩ (Nat.le_of_ble_eq_true rfl) (fun X => by
  show GG X md_X6_copyFrom (rmD 1) _ 0 0 0 [(0, .ref 190), (1, .ref 22)] [] (mkW I F J K)
  unfold f_X6_copyFrom_190_22 at h
  refine G_aload_n (pc2 := 1) 0 rfl dX6_copyFrom_0 rfl rfl ?_
  refine G_aload_n (pc2 := 2) 1 rfl dX6_copyFrom_1 rfl rfl ?_
  refine T_22_0 (pc2 := 5) kw_207 dX6_copyFrom_2 rfl ?_
  refine P_190_0 (pc2 := 8) h kw_207 dX6_copyFrom_5 rfl (fun I_998 h => ?_)
  refine G_aload_n (pc2 := 9) 0 rfl dX6_copyFrom_8 rfl rfl ?_
  refine G_aload_n (pc2 := 10) 1 rfl dX6_copyFrom_9 rfl rfl ?_
  refine T_22_1 (pc2 := 13) kw_210 dX6_copyFrom_10 rfl ?_
  refine P_190_1 (pc2 := 16) h kw_210 dX6_copyFrom_13 rfl (fun I_999 h => ?_)
  refine G_aload_n (pc2 := 17) 1 rfl dX6_copyFrom_16 rfl rfl ?_
  refine T_22_2 (pc2 := 20) kw_212 dX6_copyFrom_17 rfl ?_
  refine G_iconst (pc2 := 21) dX6_copyFrom_20 ic_0 rfl ?_
  refine G_aload_n (pc2 := 22) 0 rfl dX6_copyFrom_21 rfl rfl ?_
  refine T_190_2 (pc2 := 25) kw_212 dX6_copyFrom_22 rfl ?_
  refine G_iconst (pc2 := 26) dX6_copyFrom_25 ic_0 rfl ?_
  refine G_bipush (pc2 := 28) dX6_copyFrom_26 ib_9 rfl ?_
  refine YC (pc2 := 31) (fa_23 _ _ _ _) (fa_191 _ _ _ _) h kw_680 (by decide) cl_9 ⟨by decide, by decide⟩ (Nat.le_of_ble_eq_true rfl) dX6_copyFrom_28 rfl (fun F_1000 h => ?_)
  refine G_aload_n (pc2 := 32) 1 rfl dX6_copyFrom_31 rfl rfl ?_
  refine T_22_3 (pc2 := 35) kw_215 dX6_copyFrom_32 rfl ?_
  refine G_iconst (pc2 := 36) dX6_copyFrom_35 ic_0 rfl ?_
  refine G_aload_n (pc2 := 37) 0 rfl dX6_copyFrom_36 rfl rfl ?_
  refine T_190_3 (pc2 := 40) kw_215 dX6_copyFrom_37 rfl ?_
  refine G_iconst (pc2 := 41) dX6_copyFrom_40 ic_0 rfl ?_
  refine G_bipush (pc2 := 43) dX6_copyFrom_41 ib_9 rfl ?_
  refine YC (pc2 := 46) (fa_24 _ _ _ _) (fa_192 _ _ _ _) h kw_680 (by decide) cl_9 ⟨by decide, by decide⟩ (Nat.le_of_ble_eq_true rfl) dX6_copyFrom_43 rfl (fun F_1001 h => ?_)
  refine G_aload_n (pc2 := 47) 1 rfl dX6_copyFrom_46 rfl rfl ?_
  refine T_22_4 (pc2 := 50) kw_218 dX6_copyFrom_47 rfl ?_
  refine G_iconst (pc2 := 51) dX6_copyFrom_50 ic_0 rfl ?_
  refine G_aload_n (pc2 := 52) 0 rfl dX6_copyFrom_51 rfl rfl ?_
  refine T_190_4 (pc2 := 55) kw_218 dX6_copyFrom_52 rfl ?_
  refine G_iconst (pc2 := 56) dX6_copyFrom_55 ic_0 rfl ?_
  refine G_bipush (pc2 := 58) dX6_copyFrom_56 ib_9 rfl ?_
  refine YC (pc2 := 61) (fa_25 _ _ _ _) (fa_193 _ _ _ _) h kw_680 (by decide) cl_9 ⟨by decide, by decide⟩ (Nat.le_of_ble_eq_true rfl) dX6_copyFrom_58 rfl (fun F_1002 h => ?_)
  refine G_aload_n (pc2 := 62) 1 rfl dX6_copyFrom_61 rfl rfl ?_
  refine T_22_5 (pc2 := 65) kw_221 dX6_copyFrom_62 rfl ?_
  refine G_iconst (pc2 := 66) dX6_copyFrom_65 ic_0 rfl ?_
  refine G_aload_n (pc2 := 67) 0 rfl dX6_copyFrom_66 rfl rfl ?_
  refine T_190_5 (pc2 := 70) kw_221 dX6_copyFrom_67 rfl ?_
  refine G_iconst (pc2 := 71) dX6_copyFrom_70 ic_0 rfl ?_
  refine G_bipush (pc2 := 73) dX6_copyFrom_71 ib_6 rfl ?_
  refine YC (pc2 := 76) (fa_26 _ _ _ _) (fa_194 _ _ _ _) h kw_680 (by decide) cl_6 ⟨by decide, by decide⟩ (Nat.le_of_ble_eq_true rfl) dX6_copyFrom_73 rfl (fun F_1003 h => ?_)
  refine G_aload_n (pc2 := 77) 1 rfl dX6_copyFrom_76 rfl rfl ?_
  refine T_22_6 (pc2 := 80) kw_225 dX6_copyFrom_77 rfl ?_
  refine G_iconst (pc2 := 81) dX6_copyFrom_80 ic_0 rfl ?_
  refine G_aload_n (pc2 := 82) 0 rfl dX6_copyFrom_81 rfl rfl ?_
  refine T_190_6 (pc2 := 85) kw_225 dX6_copyFrom_82 rfl ?_
  refine G_iconst (pc2 := 86) dX6_copyFrom_85 ic_0 rfl ?_
  refine G_bipush (pc2 := 88) dX6_copyFrom_86 ib_6 rfl ?_
  refine YC (pc2 := 91) (fa_27 _ _ _ _) (fa_195 _ _ _ _) h kw_680 (by decide) cl_6 ⟨by decide, by decide⟩ (Nat.le_of_ble_eq_true rfl) dX6_copyFrom_88 rfl (fun F_1004 h => ?_)
  refine G_aload_n (pc2 := 92) 1 rfl dX6_copyFrom_91 rfl rfl ?_
  refine T_22_7 (pc2 := 95) kw_228 dX6_copyFrom_92 rfl ?_
  refine G_iconst (pc2 := 96) dX6_copyFrom_95 ic_0 rfl ?_
  refine G_aload_n (pc2 := 97) 0 rfl dX6_copyFrom_96 rfl rfl ?_
  refine T_190_7 (pc2 := 100) kw_228 dX6_copyFrom_97 rfl ?_
  refine G_iconst (pc2 := 101) dX6_copyFrom_100 ic_0 rfl ?_
  refine G_bipush (pc2 := 103) dX6_copyFrom_101 ib_6 rfl ?_
  refine YC (pc2 := 106) (fa_28 _ _ _ _) (fa_196 _ _ _ _) h kw_680 (by decide) cl_6 ⟨by decide, by decide⟩ (Nat.le_of_ble_eq_true rfl) dX6_copyFrom_103 rfl (fun F_1005 h => ?_)
  refine G_aload_n (pc2 := 107) 1 rfl dX6_copyFrom_106 rfl rfl ?_
  refine T_22_8 (pc2 := 110) kw_231 dX6_copyFrom_107 rfl ?_
  refine G_iconst (pc2 := 111) dX6_copyFrom_110 ic_0 rfl ?_
  refine G_aload_n (pc2 := 112) 0 rfl dX6_copyFrom_111 rfl rfl ?_
  refine T_190_8 (pc2 := 115) kw_231 dX6_copyFrom_112 rfl ?_
  refine G_iconst (pc2 := 116) dX6_copyFrom_115 ic_0 rfl ?_
  refine G_bipush (pc2 := 118) dX6_copyFrom_116 ib_6 rfl ?_
  refine YC (pc2 := 121) (fa_29 _ _ _ _) (fa_197 _ _ _ _) h kw_680 (by decide) cl_6 ⟨by decide, by decide⟩ (Nat.le_of_ble_eq_true rfl) dX6_copyFrom_118 rfl (fun F_1006 h => ?_)
  refine G_aload_n (pc2 := 122) 1 rfl dX6_copyFrom_121 rfl rfl ?_
  refine T_22_9 (pc2 := 125) kw_234 dX6_copyFrom_122 rfl ?_
  refine G_iconst (pc2 := 126) dX6_copyFrom_125 ic_0 rfl ?_
  refine G_aload_n (pc2 := 127) 0 rfl dX6_copyFrom_126 rfl rfl ?_
  refine T_190_9 (pc2 := 130) kw_234 dX6_copyFrom_127 rfl ?_
  refine G_iconst (pc2 := 131) dX6_copyFrom_130 ic_0 rfl ?_
  refine G_bipush (pc2 := 133) dX6_copyFrom_131 ib_20 rfl ?_
  refine YC (pc2 := 136) (fa_30 _ _ _ _) (fa_198 _ _ _ _) h kw_680 (by decide) cl_20 ⟨by decide, by decide⟩ (Nat.le_of_ble_eq_true rfl) dX6_copyFrom_133 rfl (fun F_1007 h => ?_)
  have ha := Option.some.inj h
  subst ha
  exact G_vret rfl dX6_copyFrom_136)
def f_X6_copyFrom_200_22 (I : WI) (F : WF) : Option (WI × WF) :=
  bnd (upd I 36 (I 0)) fun I_1013 =>
  bnd (upd I_1013 37 (I_1013 1)) fun I_1014 =>
  bnd (uF F 144 (va_cpy (F 0) (F 144) 0 0 9)) fun F_1015 =>
  bnd (uF F_1015 145 (va_cpy (F_1015 1) (F_1015 145) 0 0 9)) fun F_1016 =>
  bnd (uF F_1016 146 (va_cpy (F_1016 2) (F_1016 146) 0 0 9)) fun F_1017 =>
  bnd (uF F_1017 147 (va_cpy (F_1017 3) (F_1017 147) 0 0 6)) fun F_1018 =>
  bnd (uF F_1018 148 (va_cpy (F_1018 4) (F_1018 148) 0 0 6)) fun F_1019 =>
  bnd (uF F_1019 149 (va_cpy (F_1019 5) (F_1019 149) 0 0 6)) fun F_1020 =>
  bnd (uF F_1020 150 (va_cpy (F_1020 6) (F_1020 150) 0 0 6)) fun F_1021 =>
  bnd (uF F_1021 151 (va_cpy (F_1021 7) (F_1021 151) 0 0 20)) fun F_1022 =>
  some (I_1014, F_1022)
set_option maxRecDepth 100000 in
set_option maxHeartbeats 4000000 in
theorem c_X6_copyFrom_200_22 {I : WI} {F : WF} {J : WI} {K : WF} {a : WI × WF} (h : f_X6_copyFrom_200_22  I F = some a) : CT md_X6_copyFrom yX6_copyFrom (rmD 1) [.ref 200, .ref 22] (mkW I F J K) none (mkW a.1 a.2 J K) := CT_of pn_X6 ⟨rfl, rfl⟩ (Nat.le_of_ble_eq_true rfl) (fun X => by
  show GG X md_X6_copyFrom (rmD 1) _ 0 0 0 [(0, .ref 200), (1, .ref 22)] [] (mkW I F J K)
  unfold f_X6_copyFrom_200_22 at h
  refine G_aload_n (pc2 := 1) 0 rfl dX6_copyFrom_0 rfl rfl ?_
  refine G_aload_n (pc2 := 2) 1 rfl dX6_copyFrom_1 rfl rfl ?_
  refine T_22_0 (pc2 := 5) kw_207 dX6_copyFrom_2 rfl ?_
  refine P_200_0 (pc2 := 8) h kw_207 dX6_copyFrom_5 rfl (fun I_1013 h => ?_)
  refine G_aload_n (pc2 := 9) 0 rfl dX6_copyFrom_8 rfl rfl ?_
  refine G_aload_n (pc2 := 10) 1 rfl dX6_copyFrom_9 rfl rfl ?_
  refine T_22_1 (pc2 := 13) kw_210 dX6_copyFrom_10 rfl ?_
  refine P_200_1 (pc2 := 16) h kw_210 dX6_copyFrom_13 rfl (fun I_1014 h => ?_)
  refine G_aload_n (pc2 := 17) 1 rfl dX6_copyFrom_16 rfl rfl ?_
  refine T_22_2 (pc2 := 20) kw_212 dX6_copyFrom_17 rfl ?_
  refine G_iconst (pc2 := 21) dX6_copyFrom_20 ic_0 rfl ?_
  refine G_aload_n (pc2 := 22) 0 rfl dX6_copyFrom_21 rfl rfl ?_
  refine T_200_2 (pc2 := 25) kw_212 dX6_copyFrom_22 rfl ?_
  refine G_iconst (pc2 := 26) dX6_copyFrom_25 ic_0 rfl ?_
  refine G_bipush (pc2 := 28) dX6_copyFrom_26 ib_9 rfl ?_
  refine YC (pc2 := 31) (fa_23 _ _ _ _) (fa_201 _ _ _ _) h kw_680 (by decide) cl_9 ⟨by decide, by decide⟩ (Nat.le_of_ble_eq_true rfl) dX6_copyFrom_28 rfl (fun F_1015 h => ?_)
  refine G_aload_n (pc2 := 32) 1 rfl dX6_copyFrom_31 rfl rfl ?_
  refine T_22_3 (pc2 := 35) kw_215 dX6_copyFrom_32 rfl ?_
  refine G_iconst (pc2 := 36) dX6_copyFrom_35 ic_0 rfl ?_
  refine G_aload_n (pc2 := 37) 0 rfl dX6_copyFrom_36 rfl rfl ?_
  refine T_200_3 (pc2 := 40) kw_215 dX6_copyFrom_37 rfl ?_
  refine G_iconst (pc2 := 41) dX6_copyFrom_40 ic_0 rfl ?_
  refine G_bipush (pc2 := 43) dX6_copyFrom_41 ib_9 rfl ?_
  refine YC (pc2 := 46) (fa_24 _ _ _ _) (fa_202 _ _ _ _) h kw_680 (by decide) cl_9 ⟨by decide, by decide⟩ (Nat.le_of_ble_eq_true rfl) dX6_copyFrom_43 rfl (fun F_1016 h => ?_)
  refine G_aload_n (pc2 := 47) 1 rfl dX6_copyFrom_46 rfl rfl ?_
  refine T_22_4 (pc2 := 50) kw_218 dX6_copyFrom_47 rfl ?_
  refine G_iconst (pc2 := 51) dX6_copyFrom_50 ic_0 rfl ?_
  refine G_aload_n (pc2 := 52) 0 rfl dX6_copyFrom_51 rfl rfl ?_
  refine T_200_4 (pc2 := 55) kw_218 dX6_copyFrom_52 rfl ?_
  refine G_iconst (pc2 := 56) dX6_copyFrom_55 ic_0 rfl ?_
  refine G_bipush (pc2 := 58) dX6_copyFrom_56 ib_9 rfl ?_
  refine YC (pc2 := 61) (fa_25 _ _ _ _) (fa_203 _ _ _ _) h kw_680 (by decide) cl_9 ⟨by decide, by decide⟩ (Nat.le_of_ble_eq_true rfl) dX6_copyFrom_58 rfl (fun F_1017 h => ?_)
  refine G_aload_n (pc2 := 62) 1 rfl dX6_copyFrom_61 rfl rfl ?_
  refine T_22_5 (pc2 := 65) kw_221 dX6_copyFrom_62 rfl ?_
  refine G_iconst (pc2 := 66) dX6_copyFrom_65 ic_0 rfl ?_
  refine G_aload_n (pc2 := 67) 0 rfl dX6_copyFrom_66 rfl rfl ?_
  refine T_200_5 (pc2 := 70) kw_221 dX6_copyFrom_67 rfl ?_
  refine G_iconst (pc2 := 71) dX6_copyFrom_70 ic_0 rfl ?_
  refine G_bipush (pc2 := 73) dX6_copyFrom_71 ib_6 rfl ?_
  refine YC (pc2 := 76) (fa_26 _ _ _ _) (fa_204 _ _ _ _) h kw_680 (by decide) cl_6 ⟨by decide, by decide⟩ (Nat.le_of_ble_eq_true rfl) dX6_copyFrom_73 rfl (fun F_1018 h => ?_)
  refine G_aload_n (pc2 := 77) 1 rfl dX6_copyFrom_76 rfl rfl ?_
  refine T_22_6 (pc2 := 80) kw_225 dX6_copyFrom_77 rfl ?_
  refine G_iconst (pc2 := 81) dX6_copyFrom_80 ic_0 rfl ?_
  refine G_aload_n (pc2 := 82) 0 rfl dX6_copyFrom_81 rfl rfl ?_
  refine T_200_6 (pc2 := 85) kw_225 dX6_copyFrom_82 rfl ?_
  refine G_iconst (pc2 := 86) dX6_copyFrom_85 ic_0 rfl ?_
  refine G_bipush (pc2 := 88) dX6_copyFrom_86 ib_6 rfl ?_
  refine YC (pc2 := 91) (fa_27 _ _ _ _) (fa_205 _ _ _ _) h kw_680 (by decide) cl_6 ⟨by decide, by decide⟩ (Nat.le_of_ble_eq_true rfl) dX6_copyFrom_88 rfl (fun F_1019 h => ?_)
  refine G_aload_n (pc2 := 92) 1 rfl dX6_copyFrom_91 rfl rfl ?_
  refine T_22_7 (pc2 := 95) kw_228 dX6_copyFrom_92 rfl ?_
  refine G_iconst (pc2 := 96) dX6_copyFrom_95 ic_0 rfl ?_
  refine G_aload_n (pc2 := 97) 0 rfl dX6_copyFrom_96 rfl rfl ?_
  refine T_200_7 (pc2 := 100) kw_228 dX6_copyFrom_97 rfl ?_
  refine G_iconst (pc2 := 101) dX6_copyFrom_100 ic_0 rfl ?_
  refine G_bipush (pc2 := 103) dX6_copyFrom_101 ib_6 rfl ?_
  refine YC (pc2 := 106) (fa_28 _ _ _ _) (fa_206 _ _ _ _) h kw_680 (by decide) cl_6 ⟨by decide, by decide⟩ (Nat.le_of_ble_eq_true rfl) dX6_copyFrom_103 rfl (fun F_1020 h => ?_)
  refine G_aload_n (pc2 := 107) 1 rfl dX6_copyFrom_106 rfl rfl ?_
  refine T_22_8 (pc2 := 110) kw_231 dX6_copyFrom_107 rfl ?_
  refine G_iconst (pc2 := 111) dX6_copyFrom_110 ic_0 rfl ?_
  refine G_aload_n (pc2 := 112) 0 rfl dX6_copyFrom_111 rfl rfl ?_
  refine T_200_8 (pc2 := 115) kw_231 dX6_copyFrom_112 rfl ?_
  refine G_iconst (pc2 := 116) dX6_copyFrom_115 ic_0 rfl ?_
  refine G_bipush (pc2 := 118) dX6_copyFrom_116 ib_6 rfl ?_
  refine YC (pc2 := 121) (fa_29 _ _ _ _) (fa_207 _ _ _ _) h kw_680 (by decide) cl_6 ⟨by decide, by decide⟩ (Nat.le_of_ble_eq_true rfl) dX6_copyFrom_118 rfl (fun F_1021 h => ?_)
  refine G_aload_n (pc2 := 122) 1 rfl dX6_copyFrom_121 rfl rfl ?_
  refine T_22_9 (pc2 := 125) kw_234 dX6_copyFrom_122 rfl ?_
  refine G_iconst (pc2 := 126) dX6_copyFrom_125 ic_0 rfl ?_
  refine G_aload_n (pc2 := 127) 0 rfl dX6_copyFrom_126 rfl rfl ?_
  refine T_200_9 (pc2 := 130) kw_234 dX6_copyFrom_127 rfl ?_
  refine G_iconst (pc2 := 131) dX6_copyFrom_130 ic_0 rfl ?_
  refine G_bipush (pc2 := 133) dX6_copyFrom_131 ib_20 rfl ?_
  refine YC (pc2 := 136) (fa_30 _ _ _ _) (fa_208 _ _ _ _) h kw_680 (by decide) cl_20 ⟨by decide, by decide⟩ (Nat.le_of_ble_eq_true rfl) dX6_copyFrom_133 rfl (fun F_1022 h => ?_)
  have ha := Option.some.inj h
  subst ha
  exact G_vret rfl dX6_copyFrom_136)
def f_X10_keep (x1 : Int32) (I : WI) (F : WF) : Option (Int32 × WI × WF) :=
  if x1 < 0 then (some ((-1000000001 : Int32), I, F))
  else (if x1 < (2 : Int32) then (if x1 = (0 : Int32) then (bnd (upd I 63 (1 : Int32)) fun I_996 =>
  bnd (upd I_996 64 (I_996 47)) fun I_997 =>
  Option.bind (f_X6_copyFrom_190_22 I_997 F) fun c_1008 =>
  Option.bind (f_X3_forget_42 c_1008.1 c_1008.2) fun c_1009 =>
  some ((1 : Int32), c_1009, c_1008.2))
  else if x1 = (1 : Int32) then (bnd (upd I 65 (1 : Int32)) fun I_1011 =>
  bnd (upd I_1011 66 (I_1011 47)) fun I_1012 =>
  Option.bind (f_X6_copyFrom_200_22 I_1012 F) fun c_1023 =>
  Option.bind (f_X3_forget_42 c_1023.1 c_1023.2) fun c_1024 =>
  some ((1 : Int32), c_1024, c_1023.2))
  else none)
  else (some ((-1000000001 : Int32), I, F)))
set_option maxRecDepth 100000 in
set_option maxHeartbeats 4000000 in
theorem c_X10_keep {x1 : Int32} {I : WI} {F : WF} {J : WI} {K : WF} {a : Int32 × WI × WF} (h : f_X10_keep x1 I F = some a) : CT md_X10_keep yX10_keep (rmD 2) [.ref 0, .int x1] (mkW I F J K) (some (.int a.1)) (mkW a.2.1 a.2.2 J K) := CT_of pn_X10 ⟨rfl, rfl⟩ (Nat.le_of_ble_eq_true rfl) (fun X => by
  show GG X md_X10_keep (rmD 2) _ 0 0 0 [(0, .ref 0), (1, .int x1)] [] (mkW I F J K)
  unfold f_X10_keep at h
  refine G_iload_n (pc2 := 1) 1 rfl dX10_keep_0 rfl rfl ?_
  refine B_if_lt (tgt := 9) (pc2 := 4) h dX10_keep_1 (by decide) rfl (fun _ h => ?_) (fun _ h => ?_)
  · refine G_ldc (pc2 := 11) kw_605 dX10_keep_9 rfl ?_
    have ha := Option.some.inj h
    subst ha
    exact G_iret rfl dX10_keep_11
  · refine G_iload_n (pc2 := 5) 1 rfl dX10_keep_4 rfl rfl ?_
    refine G_iconst (pc2 := 6) dX10_keep_5 ic_2 rfl ?_
    refine B_icmp_lt (tgt := 12) (pc2 := 9) h dX10_keep_6 (by decide) rfl (fun _ h => ?_) (fun _ h => ?_)
    · refine G_aload_n (pc2 := 13) 0 rfl dX10_keep_12 rfl rfl ?_
      refine T_0_9 (pc2 := 16) kw_409 dX10_keep_13 rfl ?_
      refine G_iload_n (pc2 := 17) 1 rfl dX10_keep_16 rfl rfl ?_
      by_cases qx_1010 : x1 = (0 : Int32)
      · have h := ite_t h qx_1010
        refine AA (pc2 := 18) (C := RX2) (fun _ => rfl) (qr_188 _ _ _ _) (0 : Int32) qx_1010 rfl rfl dX10_keep_17 rfl ?_
        refine G_astore_n (pc2 := 19) (ls' := [(2, .ref 189), (0, .ref 0), (1, .int x1)]) dX10_keep_18 rfl (by decide) rfl rfl ?_
        refine G_aload_n (pc2 := 20) 0 rfl dX10_keep_19 rfl rfl ?_
        refine G_iconst (pc2 := 21) dX10_keep_20 ic_1 rfl ?_
        refine P_189_0 (pc2 := 24) h ⟨rfl, rfl⟩ kw_389 dX10_keep_21 rfl (fun I_996 h => ?_)
        refine G_aload_n (pc2 := 25) 0 rfl dX10_keep_24 rfl rfl ?_
        refine G_aload_n (pc2 := 26) 1 rfl dX10_keep_25 rfl rfl ?_
        refine T_0_1 (pc2 := 29) kw_401 dX10_keep_26 rfl ?_
        refine T_12_2 (pc2 := 32) kw_262 dX10_keep_29 rfl ?_
        refine P_189_1 (pc2 := 35) h kw_390 dX10_keep_32 rfl (fun I_997 h => ?_)
        refine G_aload_n (pc2 := 36) 0 rfl dX10_keep_35 rfl rfl ?_
        refine T_189_2 (pc2 := 39) kw_392 dX10_keep_36 rfl ?_
        refine G_aload_n (pc2 := 40) 1 rfl dX10_keep_39 rfl rfl ?_
        refine T_0_3 (pc2 := 43) kw_403 dX10_keep_40 rfl ?_
        obtain ⟨c_1008, hc_1008, h⟩ := ob_e h
        refine B_callV (pc2 := 46) si_X10_323 (c_X6_copyFrom_190_22 hc_1008) (qo_190 _ _ _ _) rfl rfl rfl (st := []) (stq := []) rfl (by decide) (by decide) (Nat.le_of_ble_eq_true rfl) mkW_ll dX10_keep_43 rfl rfl ?_ ⟨rfl, rfl⟩
        refine G_aload_n (pc2 := 47) 1 rfl dX10_keep_46 rfl rfl ?_
        refine T_0_8 (pc2 := 50) kw_408 dX10_keep_47 rfl ?_
        obtain ⟨c_1009, hc_1009, h⟩ := ob_e h
        refine B_callV (pc2 := 53) si_X10_114 (c_X3_forget_42 hc_1009) (qo_42 _ _ _ _) rfl rfl rfl (st := []) (stq := []) rfl (by decide) (by decide) (Nat.le_of_ble_eq_true rfl) mkW_ll dX10_keep_50 rfl rfl ?_ ⟨rfl, rfl⟩
        refine G_iconst (pc2 := 54) dX10_keep_53 ic_1 rfl ?_
        have ha := Option.some.inj h
        subst ha
        exact G_iret rfl dX10_keep_54
      have h := ite_f h qx_1010
      by_cases qx_1025 : x1 = (1 : Int32)
      · have h := ite_t h qx_1025
        refine AA (pc2 := 18) (C := RX2) (fun _ => rfl) (qr_188 _ _ _ _) (1 : Int32) qx_1025 rfl rfl dX10_keep_17 rfl ?_
        refine G_astore_n (pc2 := 19) (ls' := [(2, .ref 199), (0, .ref 0), (1, .int x1)]) dX10_keep_18 rfl (by decide) rfl rfl ?_
        refine G_aload_n (pc2 := 20) 0 rfl dX10_keep_19 rfl rfl ?_
        refine G_iconst (pc2 := 21) dX10_keep_20 ic_1 rfl ?_
        refine P_199_0 (pc2 := 24) h ⟨rfl, rfl⟩ kw_389 dX10_keep_21 rfl (fun I_1011 h => ?_)
        refine G_aload_n (pc2 := 25) 0 rfl dX10_keep_24 rfl rfl ?_
        refine G_aload_n (pc2 := 26) 1 rfl dX10_keep_25 rfl rfl ?_
        refine T_0_1 (pc2 := 29) kw_401 dX10_keep_26 rfl ?_
        refine T_12_2 (pc2 := 32) kw_262 dX10_keep_29 rfl ?_
        refine P_199_1 (pc2 := 35) h kw_390 dX10_keep_32 rfl (fun I_1012 h => ?_)
        refine G_aload_n (pc2 := 36) 0 rfl dX10_keep_35 rfl rfl ?_
        refine T_199_2 (pc2 := 39) kw_392 dX10_keep_36 rfl ?_
        refine G_aload_n (pc2 := 40) 1 rfl dX10_keep_39 rfl rfl ?_
        refine T_0_3 (pc2 := 43) kw_403 dX10_keep_40 rfl ?_
        obtain ⟨c_1023, hc_1023, h⟩ := ob_e h
        refine B_callV (pc2 := 46) si_X10_323 (c_X6_copyFrom_200_22 hc_1023) (qo_200 _ _ _ _) rfl rfl rfl (st := []) (stq := []) rfl (by decide) (by decide) (Nat.le_of_ble_eq_true rfl) mkW_ll dX10_keep_43 rfl rfl ?_ ⟨rfl, rfl⟩
        refine G_aload_n (pc2 := 47) 1 rfl dX10_keep_46 rfl rfl ?_
        refine T_0_8 (pc2 := 50) kw_408 dX10_keep_47 rfl ?_
        obtain ⟨c_1024, hc_1024, h⟩ := ob_e h
        refine B_callV (pc2 := 53) si_X10_114 (c_X3_forget_42 hc_1024) (qo_42 _ _ _ _) rfl rfl rfl (st := []) (stq := []) rfl (by decide) (by decide) (Nat.le_of_ble_eq_true rfl) mkW_ll dX10_keep_50 rfl rfl ?_ ⟨rfl, rfl⟩
        refine G_iconst (pc2 := 54) dX10_keep_53 ic_1 rfl ?_
        have ha := Option.some.inj h
        subst ha
        exact G_iret rfl dX10_keep_54
      have h := ite_f h qx_1025
      cases h
    · refine G_ldc (pc2 := 11) kw_605 dX10_keep_9 rfl ?_
      have ha := Option.some.inj h
      subst ha
      exact G_iret rfl dX10_keep_11)
def f_X6_copyFrom_22_190 (I : WI) (F : WF) : Option (WI × WF) :=
  bnd (upd I 0 (I 34)) fun I_1027 =>
  bnd (upd I_1027 1 (I_1027 35)) fun I_1028 =>
  bnd (uF F 0 (va_cpy (F 136) (F 0) 0 0 9)) fun F_1029 =>
  bnd (uF F_1029 1 (va_cpy (F_1029 137) (F_1029 1) 0 0 9)) fun F_1030 =>
  bnd (uF F_1030 2 (va_cpy (F_1030 138) (F_1030 2) 0 0 9)) fun F_1031 =>
  bnd (uF F_1031 3 (va_cpy (F_1031 139) (F_1031 3) 0 0 6)) fun F_1032 =>
  bnd (uF F_1032 4 (va_cpy (F_1032 140) (F_1032 4) 0 0 6)) fun F_1033 =>
  bnd (uF F_1033 5 (va_cpy (F_1033 141) (F_1033 5) 0 0 6)) fun F_1034 =>
  bnd (uF F_1034 6 (va_cpy (F_1034 142) (F_1034 6) 0 0 6)) fun F_1035 =>
  bnd (uF F_1035 7 (va_cpy (F_1035 143) (F_1035 7) 0 0 20)) fun F_1036 =>
  some (I_1028, F_1036)
set_option maxRecDepth 100000 in
set_option maxHeartbeats 4000000 in
theorem c_X6_copyFrom_22_190 {I : WI} {F : WF} {J : WI} {K : WF} {a : WI × WF} (h : f_X6_copyFrom_22_190  I F = some a) : CT md_X6_copyFrom yX6_copyFrom (rmD 1) [.ref 22, .ref 190] (mkW I F J K) none (mkW a.1 a.2 J K) := CT_of pn_X6 ⟨rfl, rfl⟩ (Nat.le_of_ble_eq_true rfl) (fun X => by
  show GG X md_X6_copyFrom (rmD 1) _ 0 0 0 [(0, .ref 22), (1, .ref 190)] [] (mkW I F J K)
  unfold f_X6_copyFrom_22_190 at h
  refine G_aload_n (pc2 := 1) 0 rfl dX6_copyFrom_0 rfl rfl ?_
  refine G_aload_n (pc2 := 2) 1 rfl dX6_copyFrom_1 rfl rfl ?_
  refine T_190_0 (pc2 := 5) kw_207 dX6_copyFrom_2 rfl ?_
  refine P_22_0 (pc2 := 8) h kw_207 dX6_copyFrom_5 rfl (fun I_1027 h => ?_)
  refine G_aload_n (pc2 := 9) 0 rfl dX6_copyFrom_8 rfl rfl ?_
  refine G_aload_n (pc2 := 10) 1 rfl dX6_copyFrom_9 rfl rfl ?_
  refine T_190_1 (pc2 := 13) kw_210 dX6_copyFrom_10 rfl ?_
  refine P_22_1 (pc2 := 16) h kw_210 dX6_copyFrom_13 rfl (fun I_1028 h => ?_)
  refine G_aload_n (pc2 := 17) 1 rfl dX6_copyFrom_16 rfl rfl ?_
  refine T_190_2 (pc2 := 20) kw_212 dX6_copyFrom_17 rfl ?_
  refine G_iconst (pc2 := 21) dX6_copyFrom_20 ic_0 rfl ?_
  refine G_aload_n (pc2 := 22) 0 rfl dX6_copyFrom_21 rfl rfl ?_
  refine T_22_2 (pc2 := 25) kw_212 dX6_copyFrom_22 rfl ?_
  refine G_iconst (pc2 := 26) dX6_copyFrom_25 ic_0 rfl ?_
  refine G_bipush (pc2 := 28) dX6_copyFrom_26 ib_9 rfl ?_
  refine YC (pc2 := 31) (fa_191 _ _ _ _) (fa_23 _ _ _ _) h kw_680 (by decide) cl_9 ⟨by decide, by decide⟩ (Nat.le_of_ble_eq_true rfl) dX6_copyFrom_28 rfl (fun F_1029 h => ?_)
  refine G_aload_n (pc2 := 32) 1 rfl dX6_copyFrom_31 rfl rfl ?_
  refine T_190_3 (pc2 := 35) kw_215 dX6_copyFrom_32 rfl ?_
  refine G_iconst (pc2 := 36) dX6_copyFrom_35 ic_0 rfl ?_
  refine G_aload_n (pc2 := 37) 0 rfl dX6_copyFrom_36 rfl rfl ?_
  refine T_22_3 (pc2 := 40) kw_215 dX6_copyFrom_37 rfl ?_
  refine G_iconst (pc2 := 41) dX6_copyFrom_40 ic_0 rfl ?_
  refine G_bipush (pc2 := 43) dX6_copyFrom_41 ib_9 rfl ?_
  refine YC (pc2 := 46) (fa_192 _ _ _ _) (fa_24 _ _ _ _) h kw_680 (by decide) cl_9 ⟨by decide, by decide⟩ (Nat.le_of_ble_eq_true rfl) dX6_copyFrom_43 rfl (fun F_1030 h => ?_)
  refine G_aload_n (pc2 := 47) 1 rfl dX6_copyFrom_46 rfl rfl ?_
  refine T_190_4 (pc2 := 50) kw_218 dX6_copyFrom_47 rfl ?_
  refine G_iconst (pc2 := 51) dX6_copyFrom_50 ic_0 rfl ?_
  refine G_aload_n (pc2 := 52) 0 rfl dX6_copyFrom_51 rfl rfl ?_
  refine T_22_4 (pc2 := 55) kw_218 dX6_copyFrom_52 rfl ?_
  refine G_iconst (pc2 := 56) dX6_copyFrom_55 ic_0 rfl ?_
  refine G_bipush (pc2 := 58) dX6_copyFrom_56 ib_9 rfl ?_
  refine YC (pc2 := 61) (fa_193 _ _ _ _) (fa_25 _ _ _ _) h kw_680 (by decide) cl_9 ⟨by decide, by decide⟩ (Nat.le_of_ble_eq_true rfl) dX6_copyFrom_58 rfl (fun F_1031 h => ?_)
  refine G_aload_n (pc2 := 62) 1 rfl dX6_copyFrom_61 rfl rfl ?_
  refine T_190_5 (pc2 := 65) kw_221 dX6_copyFrom_62 rfl ?_
  refine G_iconst (pc2 := 66) dX6_copyFrom_65 ic_0 rfl ?_
  refine G_aload_n (pc2 := 67) 0 rfl dX6_copyFrom_66 rfl rfl ?_
  refine T_22_5 (pc2 := 70) kw_221 dX6_copyFrom_67 rfl ?_
  refine G_iconst (pc2 := 71) dX6_copyFrom_70 ic_0 rfl ?_
  refine G_bipush (pc2 := 73) dX6_copyFrom_71 ib_6 rfl ?_
  refine YC (pc2 := 76) (fa_194 _ _ _ _) (fa_26 _ _ _ _) h kw_680 (by decide) cl_6 ⟨by decide, by decide⟩ (Nat.le_of_ble_eq_true rfl) dX6_copyFrom_73 rfl (fun F_1032 h => ?_)
  refine G_aload_n (pc2 := 77) 1 rfl dX6_copyFrom_76 rfl rfl ?_
  refine T_190_6 (pc2 := 80) kw_225 dX6_copyFrom_77 rfl ?_
  refine G_iconst (pc2 := 81) dX6_copyFrom_80 ic_0 rfl ?_
  refine G_aload_n (pc2 := 82) 0 rfl dX6_copyFrom_81 rfl rfl ?_
  refine T_22_6 (pc2 := 85) kw_225 dX6_copyFrom_82 rfl ?_
  refine G_iconst (pc2 := 86) dX6_copyFrom_85 ic_0 rfl ?_
  refine G_bipush (pc2 := 88) dX6_copyFrom_86 ib_6 rfl ?_
  refine YC (pc2 := 91) (fa_195 _ _ _ _) (fa_27 _ _ _ _) h kw_680 (by decide) cl_6 ⟨by decide, by decide⟩ (Nat.le_of_ble_eq_true rfl) dX6_copyFrom_88 rfl (fun F_1033 h => ?_)
  refine G_aload_n (pc2 := 92) 1 rfl dX6_copyFrom_91 rfl rfl ?_
  refine T_190_7 (pc2 := 95) kw_228 dX6_copyFrom_92 rfl ?_
  refine G_iconst (pc2 := 96) dX6_copyFrom_95 ic_0 rfl ?_
  refine G_aload_n (pc2 := 97) 0 rfl dX6_copyFrom_96 rfl rfl ?_
  refine T_22_7 (pc2 := 100) kw_228 dX6_copyFrom_97 rfl ?_
  refine G_iconst (pc2 := 101) dX6_copyFrom_100 ic_0 rfl ?_
  refine G_bipush (pc2 := 103) dX6_copyFrom_101 ib_6 rfl ?_
  refine YC (pc2 := 106) (fa_196 _ _ _ _) (fa_28 _ _ _ _) h kw_680 (by decide) cl_6 ⟨by decide, by decide⟩ (Nat.le_of_ble_eq_true rfl) dX6_copyFrom_103 rfl (fun F_1034 h => ?_)
  refine G_aload_n (pc2 := 107) 1 rfl dX6_copyFrom_106 rfl rfl ?_
  refine T_190_8 (pc2 := 110) kw_231 dX6_copyFrom_107 rfl ?_
  refine G_iconst (pc2 := 111) dX6_copyFrom_110 ic_0 rfl ?_
  refine G_aload_n (pc2 := 112) 0 rfl dX6_copyFrom_111 rfl rfl ?_
  refine T_22_8 (pc2 := 115) kw_231 dX6_copyFrom_112 rfl ?_
  refine G_iconst (pc2 := 116) dX6_copyFrom_115 ic_0 rfl ?_
  refine G_bipush (pc2 := 118) dX6_copyFrom_116 ib_6 rfl ?_
  refine YC (pc2 := 121) (fa_197 _ _ _ _) (fa_29 _ _ _ _) h kw_680 (by decide) cl_6 ⟨by decide, by decide⟩ (Nat.le_of_ble_eq_true rfl) dX6_copyFrom_118 rfl (fun F_1035 h => ?_)
  refine G_aload_n (pc2 := 122) 1 rfl dX6_copyFrom_121 rfl rfl ?_
  refine T_190_9 (pc2 := 125) kw_234 dX6_copyFrom_122 rfl ?_
  refine G_iconst (pc2 := 126) dX6_copyFrom_125 ic_0 rfl ?_
  refine G_aload_n (pc2 := 127) 0 rfl dX6_copyFrom_126 rfl rfl ?_
  refine T_22_9 (pc2 := 130) kw_234 dX6_copyFrom_127 rfl ?_
  refine G_iconst (pc2 := 131) dX6_copyFrom_130 ic_0 rfl ?_
  refine G_bipush (pc2 := 133) dX6_copyFrom_131 ib_20 rfl ?_
  refine YC (pc2 := 136) (fa_198 _ _ _ _) (fa_30 _ _ _ _) h kw_680 (by decide) cl_20 ⟨by decide, by decide⟩ (Nat.le_of_ble_eq_true rfl) dX6_copyFrom_133 rfl (fun F_1036 h => ?_)
  have ha := Option.some.inj h
  subst ha
  exact G_vret rfl dX6_copyFrom_136)
def f_X6_copyFrom_22_200 (I : WI) (F : WF) : Option (WI × WF) :=
  bnd (upd I 0 (I 36)) fun I_1041 =>
  bnd (upd I_1041 1 (I_1041 37)) fun I_1042 =>
  bnd (uF F 0 (va_cpy (F 144) (F 0) 0 0 9)) fun F_1043 =>
  bnd (uF F_1043 1 (va_cpy (F_1043 145) (F_1043 1) 0 0 9)) fun F_1044 =>
  bnd (uF F_1044 2 (va_cpy (F_1044 146) (F_1044 2) 0 0 9)) fun F_1045 =>
  bnd (uF F_1045 3 (va_cpy (F_1045 147) (F_1045 3) 0 0 6)) fun F_1046 =>
  bnd (uF F_1046 4 (va_cpy (F_1046 148) (F_1046 4) 0 0 6)) fun F_1047 =>
  bnd (uF F_1047 5 (va_cpy (F_1047 149) (F_1047 5) 0 0 6)) fun F_1048 =>
  bnd (uF F_1048 6 (va_cpy (F_1048 150) (F_1048 6) 0 0 6)) fun F_1049 =>
  bnd (uF F_1049 7 (va_cpy (F_1049 151) (F_1049 7) 0 0 20)) fun F_1050 =>
  some (I_1042, F_1050)
set_option maxRecDepth 100000 in
set_option maxHeartbeats 4000000 in
theorem c_X6_copyFrom_22_200 {I : WI} {F : WF} {J : WI} {K : WF} {a : WI × WF} (h : f_X6_copyFrom_22_200  I F = some a) : CT md_X6_copyFrom yX6_copyFrom (rmD 1) [.ref 22, .ref 200] (mkW I F J K) none (mkW a.1 a.2 J K) := CT_of pn_X6 ⟨rfl, rfl⟩ (Nat.le_of_ble_eq_true rfl) (fun X => by
  show GG X md_X6_copyFrom (rmD 1) _ 0 0 0 [(0, .ref 22), (1, .ref 200)] [] (mkW I F J K)
  unfold f_X6_copyFrom_22_200 at h
  refine G_aload_n (pc2 := 1) 0 rfl dX6_copyFrom_0 rfl rfl ?_
  refine G_aload_n (pc2 := 2) 1 rfl dX6_copyFrom_1 rfl rfl ?_
  refine T_200_0 (pc2 := 5) kw_207 dX6_copyFrom_2 rfl ?_
  refine P_22_0 (pc2 := 8) h kw_207 dX6_copyFrom_5 rfl (fun I_1041 h => ?_)
  refine G_aload_n (pc2 := 9) 0 rfl dX6_copyFrom_8 rfl rfl ?_
  refine G_aload_n (pc2 := 10) 1 rfl dX6_copyFrom_9 rfl rfl ?_
  refine T_200_1 (pc2 := 13) kw_210 dX6_copyFrom_10 rfl ?_
  refine P_22_1 (pc2 := 16) h kw_210 dX6_copyFrom_13 rfl (fun I_1042 h => ?_)
  refine G_aload_n (pc2 := 17) 1 rfl dX6_copyFrom_16 rfl rfl ?_
  refine T_200_2 (pc2 := 20) kw_212 dX6_copyFrom_17 rfl ?_
  refine G_iconst (pc2 := 21) dX6_copyFrom_20 ic_0 rfl ?_
  refine G_aload_n (pc2 := 22) 0 rfl dX6_copyFrom_21 rfl rfl ?_
  refine T_22_2 (pc2 := 25) kw_212 dX6_copyFrom_22 rfl ?_
  refine G_iconst (pc2 := 26) dX6_copyFrom_25 ic_0 rfl ?_
  refine G_bipush (pc2 := 28) dX6_copyFrom_26 ib_9 rfl ?_
  refine YC (pc2 := 31) (fa_201 _ _ _ _) (fa_23 _ _ _ _) h kw_680 (by decide) cl_9 ⟨by decide, by decide⟩ (Nat.le_of_ble_eq_true rfl) dX6_copyFrom_28 rfl (fun F_1043 h => ?_)
  refine G_aload_n (pc2 := 32) 1 rfl dX6_copyFrom_31 rfl rfl ?_
  refine T_200_3 (pc2 := 35) kw_215 dX6_copyFrom_32 rfl ?_
  refine G_iconst (pc2 := 36) dX6_copyFrom_35 ic_0 rfl ?_
  refine G_aload_n (pc2 := 37) 0 rfl dX6_copyFrom_36 rfl rfl ?_
  refine T_22_3 (pc2 := 40) kw_215 dX6_copyFrom_37 rfl ?_
  refine G_iconst (pc2 := 41) dX6_copyFrom_40 ic_0 rfl ?_
  refine G_bipush (pc2 := 43) dX6_copyFrom_41 ib_9 rfl ?_
  refine YC (pc2 := 46) (fa_202 _ _ _ _) (fa_24 _ _ _ _) h kw_680 (by decide) cl_9 ⟨by decide, by decide⟩ (Nat.le_of_ble_eq_true rfl) dX6_copyFrom_43 rfl (fun F_1044 h => ?_)
  refine G_aload_n (pc2 := 47) 1 rfl dX6_copyFrom_46 rfl rfl ?_
  refine T_200_4 (pc2 := 50) kw_218 dX6_copyFrom_47 rfl ?_
  refine G_iconst (pc2 := 51) dX6_copyFrom_50 ic_0 rfl ?_
  refine G_aload_n (pc2 := 52) 0 rfl dX6_copyFrom_51 rfl rfl ?_
  refine T_22_4 (pc2 := 55) kw_218 dX6_copyFrom_52 rfl ?_
  refine G_iconst (pc2 := 56) dX6_copyFrom_55 ic_0 rfl ?_
  refine G_bipush (pc2 := 58) dX6_copyFrom_56 ib_9 rfl ?_
  refine YC (pc2 := 61) (fa_203 _ _ _ _) (fa_25 _ _ _ _) h kw_680 (by decide) cl_9 ⟨by decide, by decide⟩ (Nat.le_of_ble_eq_true rfl) dX6_copyFrom_58 rfl (fun F_1045 h => ?_)
  refine G_aload_n (pc2 := 62) 1 rfl dX6_copyFrom_61 rfl rfl ?_
  refine T_200_5 (pc2 := 65) kw_221 dX6_copyFrom_62 rfl ?_
  refine G_iconst (pc2 := 66) dX6_copyFrom_65 ic_0 rfl ?_
  refine G_aload_n (pc2 := 67) 0 rfl dX6_copyFrom_66 rfl rfl ?_
  refine T_22_5 (pc2 := 70) kw_221 dX6_copyFrom_67 rfl ?_
  refine G_iconst (pc2 := 71) dX6_copyFrom_70 ic_0 rfl ?_
  refine G_bipush (pc2 := 73) dX6_copyFrom_71 ib_6 rfl ?_
  refine YC (pc2 := 76) (fa_204 _ _ _ _) (fa_26 _ _ _ _) h kw_680 (by decide) cl_6 ⟨by decide, by decide⟩ (Nat.le_of_ble_eq_true rfl) dX6_copyFrom_73 rfl (fun F_1046 h => ?_)
  refine G_aload_n (pc2 := 77) 1 rfl dX6_copyFrom_76 rfl rfl ?_
  refine T_200_6 (pc2 := 80) kw_225 dX6_copyFrom_77 rfl ?_
  refine G_iconst (pc2 := 81) dX6_copyFrom_80 ic_0 rfl ?_
  refine G_aload_n (pc2 := 82) 0 rfl dX6_copyFrom_81 rfl rfl ?_
  refine T_22_6 (pc2 := 85) kw_225 dX6_copyFrom_82 rfl ?_
  refine G_iconst (pc2 := 86) dX6_copyFrom_85 ic_0 rfl ?_
  refine G_bipush (pc2 := 88) dX6_copyFrom_86 ib_6 rfl ?_
  refine YC (pc2 := 91) (fa_205 _ _ _ _) (fa_27 _ _ _ _) h kw_680 (by decide) cl_6 ⟨by decide, by decide⟩ (Nat.le_of_ble_eq_true rfl) dX6_copyFrom_88 rfl (fun F_1047 h => ?_)
  refine G_aload_n (pc2 := 92) 1 rfl dX6_copyFrom_91 rfl rfl ?_
  refine T_200_7 (pc2 := 95) kw_228 dX6_copyFrom_92 rfl ?_
  refine G_iconst (pc2 := 96) dX6_copyFrom_95 ic_0 rfl ?_
  refine G_aload_n (pc2 := 97) 0 rfl dX6_copyFrom_96 rfl rfl ?_
  refine T_22_7 (pc2 := 100) kw_228 dX6_copyFrom_97 rfl ?_
  refine G_iconst (pc2 := 101) dX6_copyFrom_100 ic_0 rfl ?_
  refine G_bipush (pc2 := 103) dX6_copyFrom_101 ib_6 rfl ?_
  refine YC (pc2 := 106) (fa_206 _ _ _ _) (fa_28 _ _ _ _) h kw_680 (by decide) cl_6 ⟨by decide, by decide⟩ (Nat.le_of_ble_eq_true rfl) dX6_copyFrom_103 rfl (fun F_1048 h => ?_)
  refine G_aload_n (pc2 := 107) 1 rfl dX6_copyFrom_106 rfl rfl ?_
  refine T_200_8 (pc2 := 110) kw_231 dX6_copyFrom_107 rfl ?_
  refine G_iconst (pc2 := 111) dX6_copyFrom_110 ic_0 rfl ?_
  refine G_aload_n (pc2 := 112) 0 rfl dX6_copyFrom_111 rfl rfl ?_
  refine T_22_8 (pc2 := 115) kw_231 dX6_copyFrom_112 rfl ?_
  refine G_iconst (pc2 := 116) dX6_copyFrom_115 ic_0 rfl ?_
  refine G_bipush (pc2 := 118) dX6_copyFrom_116 ib_6 rfl ?_
  refine YC (pc2 := 121) (fa_207 _ _ _ _) (fa_29 _ _ _ _) h kw_680 (by decide) cl_6 ⟨by decide, by decide⟩ (Nat.le_of_ble_eq_true rfl) dX6_copyFrom_118 rfl (fun F_1049 h => ?_)
  refine G_aload_n (pc2 := 122) 1 rfl dX6_copyFrom_121 rfl rfl ?_
  refine T_200_9 (pc2 := 125) kw_234 dX6_copyFrom_122 rfl ?_
  refine G_iconst (pc2 := 126) dX6_copyFrom_125 ic_0 rfl ?_
  refine G_aload_n (pc2 := 127) 0 rfl dX6_copyFrom_126 rfl rfl ?_
  refine T_22_9 (pc2 := 130) kw_234 dX6_copyFrom_127 rfl ?_
  refine G_iconst (pc2 := 131) dX6_copyFrom_130 ic_0 rfl ?_
  refine G_bipush (pc2 := 133) dX6_copyFrom_131 ib_20 rfl ?_
  refine YC (pc2 := 136) (fa_208 _ _ _ _) (fa_30 _ _ _ _) h kw_680 (by decide) cl_20 ⟨by decide, by decide⟩ (Nat.le_of_ble_eq_true rfl) dX6_copyFrom_133 rfl (fun F_1050 h => ?_)
  have ha := Option.some.inj h
  subst ha
  exact G_vret rfl dX6_copyFrom_136)
def f_X10_goBack (x1 : Int32) (I : WI) (F : WF) : Option (Int32 × WI × WF) :=
  if x1 < 0 then (some ((-1000000001 : Int32), I, F))
  else (if x1 < (2 : Int32) then (if x1 = (0 : Int32) then (if (I 63) = 0 then (some ((-1000000003 : Int32), I, F))
  else (bnd (upd I 47 (I 64)) fun I_1026 =>
  Option.bind (f_X6_copyFrom_22_190 I_1026 F) fun c_1037 =>
  Option.bind (f_X3_forget_42 c_1037.1 c_1037.2) fun c_1038 =>
  some ((1 : Int32), c_1038, c_1037.2)))
  else if x1 = (1 : Int32) then (if (I 65) = 0 then (some ((-1000000003 : Int32), I, F))
  else (bnd (upd I 47 (I 66)) fun I_1040 =>
  Option.bind (f_X6_copyFrom_22_200 I_1040 F) fun c_1051 =>
  Option.bind (f_X3_forget_42 c_1051.1 c_1051.2) fun c_1052 =>
  some ((1 : Int32), c_1052, c_1051.2)))
  else none)
  else (some ((-1000000001 : Int32), I, F)))
set_option maxRecDepth 100000 in
set_option maxHeartbeats 4000000 in
theorem c_X10_goBack {x1 : Int32} {I : WI} {F : WF} {J : WI} {K : WF} {a : Int32 × WI × WF} (h : f_X10_goBack x1 I F = some a) : CT md_X10_goBack yX10_goBack (rmD 2) [.ref 0, .int x1] (mkW I F J K) (some (.int a.1)) (mkW a.2.1 a.2.2 J K) := CT_of pn_X10 ⟨rfl, rfl⟩ (Nat.le_of_ble_eq_true rfl) (fun X => by
  show GG X md_X10_goBack (rmD 2) _ 0 0 0 [(0, .ref 0), (1, .int x1)] [] (mkW I F J K)
  unfold f_X10_goBack at h
  refine G_iload_n (pc2 := 1) 1 rfl dX10_goBack_0 rfl rfl ?_
  refine B_if_lt (tgt := 9) (pc2 := 4) h dX10_goBack_1 (by decide) rfl (fun _ h => ?_) (fun _ h => ?_)
  · refine G_ldc (pc2 := 11) kw_605 dX10_goBack_9 rfl ?_
    have ha := Option.some.inj h
    subst ha
    exact G_iret rfl dX10_goBack_11
  · refine G_iload_n (pc2 := 5) 1 rfl dX10_goBack_4 rfl rfl ?_
    refine G_iconst (pc2 := 6) dX10_goBack_5 ic_2 rfl ?_
    refine B_icmp_lt (tgt := 12) (pc2 := 9) h dX10_goBack_6 (by decide) rfl (fun _ h => ?_) (fun _ h => ?_)
    · refine G_aload_n (pc2 := 13) 0 rfl dX10_goBack_12 rfl rfl ?_
      refine T_0_9 (pc2 := 16) kw_409 dX10_goBack_13 rfl ?_
      refine G_iload_n (pc2 := 17) 1 rfl dX10_goBack_16 rfl rfl ?_
      by_cases qx_1039 : x1 = (0 : Int32)
      · have h := ite_t h qx_1039
        refine AA (pc2 := 18) (C := RX2) (fun _ => rfl) (qr_188 _ _ _ _) (0 : Int32) qx_1039 rfl rfl dX10_goBack_17 rfl ?_
        refine G_astore_n (pc2 := 19) (ls' := [(2, .ref 189), (0, .ref 0), (1, .int x1)]) dX10_goBack_18 rfl (by decide) rfl rfl ?_
        refine G_aload_n (pc2 := 20) 0 rfl dX10_goBack_19 rfl rfl ?_
        refine T_189_0 (pc2 := 23) kw_389 dX10_goBack_20 rfl ?_
        refine B_if_ne (tgt := 29) (pc2 := 26) h dX10_goBack_23 (by decide) rfl (fun _ h => ?_) (fun _ h => ?_)
        · refine G_aload_n (pc2 := 30) 1 rfl dX10_goBack_29 rfl rfl ?_
          refine T_0_1 (pc2 := 33) kw_401 dX10_goBack_30 rfl ?_
          refine G_aload_n (pc2 := 34) 0 rfl dX10_goBack_33 rfl rfl ?_
          refine T_189_1 (pc2 := 37) kw_390 dX10_goBack_34 rfl ?_
          refine P_12_2 (pc2 := 40) h kw_262 dX10_goBack_37 rfl (fun I_1026 h => ?_)
          refine G_aload_n (pc2 := 41) 1 rfl dX10_goBack_40 rfl rfl ?_
          refine T_0_3 (pc2 := 44) kw_403 dX10_goBack_41 rfl ?_
          refine G_aload_n (pc2 := 45) 0 rfl dX10_goBack_44 rfl rfl ?_
          refine T_189_2 (pc2 := 48) kw_392 dX10_goBack_45 rfl ?_
          obtain ⟨c_1037, hc_1037, h⟩ := ob_e h
          refine B_callV (pc2 := 51) si_X10_323 (c_X6_copyFrom_22_190 hc_1037) (qo_22 _ _ _ _) rfl rfl rfl (st := []) (stq := []) rfl (by decide) (by decide) (Nat.le_of_ble_eq_true rfl) mkW_ll dX10_goBack_48 rfl rfl ?_ ⟨rfl, rfl⟩
          refine G_aload_n (pc2 := 52) 1 rfl dX10_goBack_51 rfl rfl ?_
          refine T_0_8 (pc2 := 55) kw_408 dX10_goBack_52 rfl ?_
          obtain ⟨c_1038, hc_1038, h⟩ := ob_e h
          refine B_callV (pc2 := 58) si_X10_114 (c_X3_forget_42 hc_1038) (qo_42 _ _ _ _) rfl rfl rfl (st := []) (stq := []) rfl (by decide) (by decide) (Nat.le_of_ble_eq_true rfl) mkW_ll dX10_goBack_55 rfl rfl ?_ ⟨rfl, rfl⟩
          refine G_iconst (pc2 := 59) dX10_goBack_58 ic_1 rfl ?_
          have ha := Option.some.inj h
          subst ha
          exact G_iret rfl dX10_goBack_59
        · refine G_ldc (pc2 := 28) kw_671 dX10_goBack_26 rfl ?_
          have ha := Option.some.inj h
          subst ha
          exact G_iret rfl dX10_goBack_28
      have h := ite_f h qx_1039
      by_cases qx_1053 : x1 = (1 : Int32)
      · have h := ite_t h qx_1053
        refine AA (pc2 := 18) (C := RX2) (fun _ => rfl) (qr_188 _ _ _ _) (1 : Int32) qx_1053 rfl rfl dX10_goBack_17 rfl ?_
        refine G_astore_n (pc2 := 19) (ls' := [(2, .ref 199), (0, .ref 0), (1, .int x1)]) dX10_goBack_18 rfl (by decide) rfl rfl ?_
        refine G_aload_n (pc2 := 20) 0 rfl dX10_goBack_19 rfl rfl ?_
        refine T_199_0 (pc2 := 23) kw_389 dX10_goBack_20 rfl ?_
        refine B_if_ne (tgt := 29) (pc2 := 26) h dX10_goBack_23 (by decide) rfl (fun _ h => ?_) (fun _ h => ?_)
        · refine G_aload_n (pc2 := 30) 1 rfl dX10_goBack_29 rfl rfl ?_
          refine T_0_1 (pc2 := 33) kw_401 dX10_goBack_30 rfl ?_
          refine G_aload_n (pc2 := 34) 0 rfl dX10_goBack_33 rfl rfl ?_
          refine T_199_1 (pc2 := 37) kw_390 dX10_goBack_34 rfl ?_
          refine P_12_2 (pc2 := 40) h kw_262 dX10_goBack_37 rfl (fun I_1040 h => ?_)
          refine G_aload_n (pc2 := 41) 1 rfl dX10_goBack_40 rfl rfl ?_
          refine T_0_3 (pc2 := 44) kw_403 dX10_goBack_41 rfl ?_
          refine G_aload_n (pc2 := 45) 0 rfl dX10_goBack_44 rfl rfl ?_
          refine T_199_2 (pc2 := 48) kw_392 dX10_goBack_45 rfl ?_
          obtain ⟨c_1051, hc_1051, h⟩ := ob_e h
          refine B_callV (pc2 := 51) si_X10_323 (c_X6_copyFrom_22_200 hc_1051) (qo_22 _ _ _ _) rfl rfl rfl (st := []) (stq := []) rfl (by decide) (by decide) (Nat.le_of_ble_eq_true rfl) mkW_ll dX10_goBack_48 rfl rfl ?_ ⟨rfl, rfl⟩
          refine G_aload_n (pc2 := 52) 1 rfl dX10_goBack_51 rfl rfl ?_
          refine T_0_8 (pc2 := 55) kw_408 dX10_goBack_52 rfl ?_
          obtain ⟨c_1052, hc_1052, h⟩ := ob_e h
          refine B_callV (pc2 := 58) si_X10_114 (c_X3_forget_42 hc_1052) (qo_42 _ _ _ _) rfl rfl rfl (st := []) (stq := []) rfl (by decide) (by decide) (Nat.le_of_ble_eq_true rfl) mkW_ll dX10_goBack_55 rfl rfl ?_ ⟨rfl, rfl⟩
          refine G_iconst (pc2 := 59) dX10_goBack_58 ic_1 rfl ?_
          have ha := Option.some.inj h
          subst ha
          exact G_iret rfl dX10_goBack_59
        · refine G_ldc (pc2 := 28) kw_671 dX10_goBack_26 rfl ?_
          have ha := Option.some.inj h
          subst ha
          exact G_iret rfl dX10_goBack_28
      have h := ite_f h qx_1053
      cases h
    · refine G_ldc (pc2 := 11) kw_605 dX10_goBack_9 rfl ?_
      have ha := Option.some.inj h
      subst ha
      exact G_iret rfl dX10_goBack_11)
end
