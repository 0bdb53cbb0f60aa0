theorem kw_77 : Cond.instantiable RX10 10 ∈ gv_gw := gv_in 77 (by decide +kernel) (by decide +kernel)
theorem kw_897 : Cond.instantiable RX11 26 ∈ gv_gw := gv_in 897 (by decide +kernel) (by decide +kernel)
theorem kw_80 : Cond.code yX10_init cX10_init 2 none ∈ gv_gw := gv_in 80 (by decide +kernel) (by decide +kernel)
theorem kw_79 : Cond.instanceMethod yX10_init ∈ gv_gw := gv_in 79 (by decide +kernel) (by decide +kernel)
theorem kw_78 : Cond.methodLink RL 9 yX10_init ∈ gv_gw := gv_in 78 (by decide +kernel) (by decide +kernel)
theorem kw_900 : Cond.code yX11_init cX11_init 2 none ∈ gv_gw := gv_in 900 (by decide +kernel) (by decide +kernel)
theorem kw_899 : Cond.instanceMethod yX11_init ∈ gv_gw := gv_in 899 (by decide +kernel) (by decide +kernel)
theorem kw_898 : Cond.methodLink RL 12 yX11_init ∈ gv_gw := gv_in 898 (by decide +kernel) (by decide +kernel)
theorem kw_76 : Cond.classLink RL 7 RX10 ∈ gv_gw := gv_in 76 (by decide +kernel) (by decide +kernel)
theorem kw_896 : Cond.classLink RL 10 RX11 ∈ gv_gw := gv_in 896 (by decide +kernel) (by decide +kernel)
theorem si_L_9 {nm : String} {cc : ByteArray} {nL : Nat} {rt : Option FieldType} : gv_SI (RL, nm, cc, nL, rt) md_X10_init 9 yX10_init 0 := ⟨kw_78, kw_79, kw_61, kw_80, rfl, rfl, ⟨by decide +kernel, by decide +kernel, by decide +kernel⟩⟩
theorem si_L_12 {nm : String} {cc : ByteArray} {nL : Nat} {rt : Option FieldType} : gv_SI (RL, nm, cc, nL, rt) md_X11_init 12 yX11_init 0 := ⟨kw_898, kw_899, kw_72, kw_900, rfl, rfl, ⟨by decide +kernel, by decide +kernel, by decide +kernel⟩⟩
theorem df_X10 : ∀ j, j < 10 → defaultValue (tyX10 j) = vp_V [.null, .null, .null, .null, .null, .null, .null, .null, .null, .null] j := fun j h => by match j, h with | 0, _ => rfl | 1, _ => rfl | 2, _ => rfl | 3, _ => rfl | 4, _ => rfl | 5, _ => rfl | 6, _ => rfl | 7, _ => rfl | 8, _ => rfl | 9, _ => rfl | (j + 10), h => exact absurd h (by omega)
theorem df_X11 : ∀ j, j < 26 → defaultValue (tyX11 j) = vp_V [.int 0, .null, .int 0, .int 0, .int 0, .int 0, .int 0, .null, .null, .null, .null, .null, .null, .int 0, .null, .null, .int 0, .null, .null, .int 0, .null, .null, .int 0, .null, .null, .null] j := fun j h => by match j, h with | 0, _ => rfl | 1, _ => rfl | 2, _ => rfl | 3, _ => rfl | 4, _ => rfl | 5, _ => rfl | 6, _ => rfl | 7, _ => rfl | 8, _ => rfl | 9, _ => rfl | 10, _ => rfl | 11, _ => rfl | 12, _ => rfl | 13, _ => rfl | 14, _ => rfl | 15, _ => rfl | 16, _ => rfl | 17, _ => rfl | 18, _ => rfl | 19, _ => rfl | 20, _ => rfl | 21, _ => rfl | 22, _ => rfl | 23, _ => rfl | 24, _ => rfl | 25, _ => rfl | (j + 26), h => exact absurd h (by omega)
def I0 : WI := fun n => if n = 40 then (-1) else if n = 58 then (1) else if n = 59 then (40) else 0
def J0 : WI := fun n => if n = 5 then (-1) else 0
def F0_ : WF := fun _ _ => 0
def K0 : WF := fun a => if a = 3 then (upd (upd (upd (upd (upd (upd (upd (upd (upd (fun _ => 0) 24 (-1)) 25 (-1)) 26 (-1)) 27 (-1)) 28 (-1)) 29 (-1)) 30 (-1)) 31 (-1)) 32 (-1)) else fun _ => 0
set_option maxRecDepth 1000000 in
set_option maxHeartbeats 4000000 in
theorem start_world : o_X10 0 ++ o_X11 209 = mkW I0 F0_ J0 K0 := rfl
set_option maxRecDepth 100000 in
set_option maxHeartbeats 4000000 in
theorem law_start {Inv : WI → WF → WI → WF → Prop}
 (h_feed : ∀ (I : WI) (F : WF) (J : WI) (K : WF) (x1 : Int32), Inv I F J K → ∃ (a : Int32 × WI × WF) (b : Int32 × WI × WF), f_X10_feed x1 I F = some a ∧ f_X11_feed x1 J K = some b ∧ a.1 = b.1 ∧ Inv a.2.1 a.2.2 b.2.1 b.2.2)
 (h_town : ∀ (I : WI) (F : WF) (J : WI) (K : WF), Inv I F J K → ∃ (a : Int32 × WI × WF) (b : Int32 × WI × WF), f_X10_town  I F = some a ∧ f_X11_town  J K = some b ∧ a.1 = b.1 ∧ Inv a.2.1 a.2.2 b.2.1 b.2.2)
 (h_fault : ∀ (I : WI) (F : WF) (J : WI) (K : WF), Inv I F J K → ∃ (a : Int32) (b : Int32 × WI), f_X10_fault  I F = some a ∧ f_X11_fault  J K = some b ∧ a = b.1 ∧ Inv I F b.2 K)
 (h_told : ∀ (I : WI) (F : WF) (J : WI) (K : WF) (x1 : Int32), Inv I F J K → ∃ (a : Int32 × WF) (b : Int32 × WI × WF), f_X10_told x1 I F = some a ∧ f_X11_told x1 J K = some b ∧ a.1 = b.1 ∧ Inv I a.2 b.2.1 b.2.2)
 (h_bridge : ∀ (I : WI) (F : WF) (J : WI) (K : WF) (x1 : Int32) (x2 : Int32), Inv I F J K → ∃ (a : Int32) (b : Int32 × WI), f_X10_bridge x1 x2 I F = some a ∧ f_X11_bridge x1 x2 J K = some b ∧ a = b.1 ∧ Inv I F b.2 K)
 (h_keeper : ∀ (I : WI) (F : WF) (J : WI) (K : WF) (x1 : Int32) (x2 : Int32), Inv I F J K → ∃ (a : Int32) (b : Int32 × WI), f_X10_keeper x1 x2 I F = some a ∧ f_X11_keeper x1 x2 J K = some b ∧ a = b.1 ∧ Inv I F b.2 K)
 (h_jumper : ∀ (I : WI) (F : WF) (J : WI) (K : WF) (x1 : Int32) (x2 : Int32), Inv I F J K → ∃ (a : Int32) (b : Int32 × WI), f_X10_jumper x1 x2 I F = some a ∧ f_X11_jumper x1 x2 J K = some b ∧ a = b.1 ∧ Inv I F b.2 K)
 (h_flight : ∀ (I : WI) (F : WF) (J : WI) (K : WF) (x1 : Int32) (x2 : Int32), Inv I F J K → ∃ (a : Int32) (b : Int32 × WI), f_X10_flight x1 x2 I F = some a ∧ f_X11_flight x1 x2 J K = some b ∧ a = b.1 ∧ Inv I F b.2 K)
 (h_roll : ∀ (I : WI) (F : WF) (J : WI) (K : WF) (x1 : Int32) (x2 : Int32), Inv I F J K → ∃ (a : Int32) (b : Int32 × WI), f_X10_roll x1 x2 I F = some a ∧ f_X11_roll x1 x2 J K = some b ∧ a = b.1 ∧ Inv I F b.2 K)
 (h_leap : ∀ (I : WI) (F : WF) (J : WI) (K : WF) (x1 : Int32) (x2 : Int32), Inv I F J K → ∃ (a : Int32 × WI × WF) (b : Int32 × WI × WF), f_X10_leap x1 x2 I F = some a ∧ f_X11_leap x1 x2 J K = some b ∧ a.1 = b.1 ∧ Inv a.2.1 a.2.2 b.2.1 b.2.2)
 (h_post : ∀ (I : WI) (F : WF) (J : WI) (K : WF) (x1 : Int32) (x2 : Int32), Inv I F J K → ∃ (a : Int32 × WI × WF) (b : Int32 × WI × WF), f_X10_post x1 x2 I F = some a ∧ f_X11_post x1 x2 J K = some b ∧ a.1 = b.1 ∧ Inv a.2.1 a.2.2 b.2.1 b.2.2)
 (h_rest : ∀ (I : WI) (F : WF) (J : WI) (K : WF) (x1 : Int32), Inv I F J K → ∃ (a : Int32 × WI × WF) (b : Int32 × WI × WF), f_X10_rest x1 I F = some a ∧ f_X11_rest x1 J K = some b ∧ a.1 = b.1 ∧ Inv a.2.1 a.2.2 b.2.1 b.2.2)
 (h_train : ∀ (I : WI) (F : WF) (J : WI) (K : WF) (x1 : Int32), Inv I F J K → ∃ (a : Int32 × WI × WF) (b : Int32 × WI × WF), f_X10_train x1 I F = some a ∧ f_X11_train x1 J K = some b ∧ a.1 = b.1 ∧ Inv a.2.1 a.2.2 b.2.1 b.2.2)
 (h_talk : ∀ (I : WI) (F : WF) (J : WI) (K : WF) (x1 : Int32) (x2 : Int32), Inv I F J K → ∃ (a : Int32 × WI × WF) (b : Int32 × WI × WF), f_X10_talk x1 x2 I F = some a ∧ f_X11_talk x1 x2 J K = some b ∧ a.1 = b.1 ∧ Inv a.2.1 a.2.2 b.2.1 b.2.2)
 (h_hour : ∀ (I : WI) (F : WF) (J : WI) (K : WF) (x1 : Int32), Inv I F J K → ∃ (a : Int32 × WI × WF) (b : Int32 × WI × WF), f_X10_hour x1 I F = some a ∧ f_X11_hour x1 J K = some b ∧ a.1 = b.1 ∧ Inv a.2.1 a.2.2 b.2.1 b.2.2)
 (h_drift : ∀ (I : WI) (F : WF) (J : WI) (K : WF) (x1 : Int32), Inv I F J K → ∃ (a : Int32 × WI × WF) (b : Int32 × WI × WF), f_X10_drift x1 I F = some a ∧ f_X11_drift x1 J K = some b ∧ a.1 = b.1 ∧ Inv a.2.1 a.2.2 b.2.1 b.2.2)
 (h_undo : ∀ (I : WI) (F : WF) (J : WI) (K : WF), Inv I F J K → ∃ (a : Int32 × WI × WF) (b : Int32 × WI × WF), f_X10_undo  I F = some a ∧ f_X11_undo  J K = some b ∧ a.1 = b.1 ∧ Inv a.2.1 a.2.2 b.2.1 b.2.2)
 (h_way : ∀ (I : WI) (F : WF) (J : WI) (K : WF) (x1 : Int32) (x2 : Int32) (x3 : Int32), Inv I F J K → ∃ (a : Int32 × WF) (b : Int32 × WI × WF), f_X10_way x1 x2 x3 I F = some a ∧ f_X11_way x1 x2 x3 J K = some b ∧ a.1 = b.1 ∧ Inv I a.2 b.2.1 b.2.2)
 (h_safest : ∀ (I : WI) (F : WF) (J : WI) (K : WF) (x1 : Int32) (x2 : Int32) (x3 : Int32), Inv I F J K → ∃ (a : Int32 × WI) (b : Int32 × WI × WF), f_X10_safest x1 x2 x3 I F = some a ∧ f_X11_safest x1 x2 x3 J K = some b ∧ a.1 = b.1 ∧ Inv a.2 F b.2.1 b.2.2)
 (h_posts : ∀ (I : WI) (F : WF) (J : WI) (K : WF) (x1 : Int32) (x2 : Int32), Inv I F J K → ∃ (a : Int32 × WI × WF) (b : Int32 × WI × WF), f_X10_posts x1 x2 I F = some a ∧ f_X11_posts x1 x2 J K = some b ∧ a.1 = b.1 ∧ Inv a.2.1 a.2.2 b.2.1 b.2.2)
 (h_tires : ∀ (I : WI) (F : WF) (J : WI) (K : WF) (x1 : Int32) (x2 : Int32), Inv I F J K → ∃ (a : Int32) (b : Int32 × WI), f_X10_tires x1 x2 I F = some a ∧ f_X11_tires x1 x2 J K = some b ∧ a = b.1 ∧ Inv I F b.2 K)
 (h_parted : ∀ (I : WI) (F : WF) (J : WI) (K : WF) (x1 : Int32) (x2 : Int32), Inv I F J K → ∃ (a : Int32 × WF) (b : Int32 × WI × WF), f_X10_parted x1 x2 I F = some a ∧ f_X11_parted x1 x2 J K = some b ∧ a.1 = b.1 ∧ Inv I a.2 b.2.1 b.2.2)
 (h_pays : ∀ (I : WI) (F : WF) (J : WI) (K : WF) (x1 : Int32) (x2 : Int32), Inv I F J K → ∃ (a : Int32) (b : Int32 × WI), f_X10_pays x1 x2 = some a ∧ f_X11_pays x1 x2 J K = some b ∧ a = b.1 ∧ Inv I F b.2 K)
 (h_exact : ∀ (I : WI) (F : WF) (J : WI) (K : WF) (x1 : Int32) (x2 : Int32), Inv I F J K → ∃ (a : Int32) (b : Int32 × WI), f_X10_exact x1 x2 = some a ∧ f_X11_exact x1 x2 J K = some b ∧ a = b.1 ∧ Inv I F b.2 K)
 (h_see : ∀ (I : WI) (F : WF) (J : WI) (K : WF) (x1 : Int32) (x2 : Int32), Inv I F J K → (x2 = 0 ∨ x2 = 1) → ∃ (a : Int32 × WI) (b : Int32 × WI × WF), f_X10_see x1 x2 I F = some a ∧ f_X11_see x1 x2 J K = some b ∧ a.1 = b.1 ∧ Inv a.2 F b.2.1 b.2.2)
 (h_quick : ∀ (I : WI) (F : WF) (J : WI) (K : WF) (x1 : Int32), Inv I F J K → ∃ (a : Int32) (b : Int32 × WI), f_X10_quick x1 I F = some a ∧ f_X11_quick x1 J K = some b ∧ a = b.1 ∧ Inv I F b.2 K)
 (h_watch : ∀ (I : WI) (F : WF) (J : WI) (K : WF), Inv I F J K → ∃ (a : Int32) (b : Int32 × WI), f_X10_watch  I F = some a ∧ f_X11_watch  J K = some b ∧ a = b.1 ∧ Inv I F b.2 K)
 (h_write : ∀ (I : WI) (F : WF) (J : WI) (K : WF) (x1 : Int32) (x2 : Int32), Inv I F J K → ∃ (a : Int32 × WI × WF) (b : Int32 × WI × WF), f_X10_write x1 x2 I F = some a ∧ f_X11_write x1 x2 J K = some b ∧ a.1 = b.1 ∧ Inv a.2.1 a.2.2 b.2.1 b.2.2)
 (h_tear : ∀ (I : WI) (F : WF) (J : WI) (K : WF), Inv I F J K → ∃ (a : Int32 × WI) (b : Int32 × WI), f_X10_tear  I F = some a ∧ f_X11_tear  J K = some b ∧ a.1 = b.1 ∧ Inv a.2 F b.2 K)
 (h_judge : ∀ (I : WI) (F : WF) (J : WI) (K : WF), Inv I F J K → ∃ (a : Int32) (b : Int32 × WI), f_X10_judge  I F = some a ∧ f_X11_judge  J K = some b ∧ a = b.1 ∧ Inv I F b.2 K)
 (h_seed : ∀ (I : WI) (F : WF) (J : WI) (K : WF) (x1 : Int32), Inv I F J K → ∃ (a : Int32 × WI) (b : Int32 × WI × WF), f_X10_seed x1 I F = some a ∧ f_X11_seed x1 J K = some b ∧ a.1 = b.1 ∧ Inv a.2 F b.2.1 b.2.2)
 (h_keep : ∀ (I : WI) (F : WF) (J : WI) (K : WF) (x1 : Int32), Inv I F J K → ∃ (a : Int32 × WI × WF) (b : Int32 × WI × WF), f_X10_keep x1 I F = some a ∧ f_X11_keep x1 J K = some b ∧ a.1 = b.1 ∧ Inv a.2.1 a.2.2 b.2.1 b.2.2)
 (h_goBack : ∀ (I : WI) (F : WF) (J : WI) (K : WF) (x1 : Int32), Inv I F J K → ∃ (a : Int32 × WI × WF) (b : Int32 × WI × WF), f_X10_goBack x1 I F = some a ∧ f_X11_goBack x1 J K = some b ∧ a.1 = b.1 ∧ Inv a.2.1 a.2.2 b.2.1 b.2.2)
 (hI : Inv I0 F0_ J0 K0) {X : XT} {sb L : Nat} {xs : Nat → Int32} (hL : L ≤ 2048) : GL X sb L xs 0 0 0 [(0, .ref sb)] [] [] := by
  refine L_new (pc2 := 3) (ci := 10) gcl10 kw_76 kw_77 kw_61 df_X10 (fun _ => rfl) ⟨by decide, by decide⟩ dL_law_0 rfl ?_
  refine L_dup (pc2 := 4) rfl dL_law_3 rfl ?_
  refine L_callI (pc2 := 7) (i := 0) (w' := o_X10 0) si_L_9 (ct_X10 [] 0 rfl) rfl ⟨⟨by decide, by decide⟩, by decide, by decide⟩ (Nat.le_of_ble_eq_true rfl) rfl dL_law_4 rfl ?_
  refine L_astore_n (pc2 := 8) (ls' := [(1, .ref (X.2.1 + 0)), (0, .ref sb)]) dL_law_7 rfl (by decide) rfl rfl ?_
  refine L_new (pc2 := 11) (ci := 11) gcl11 kw_896 kw_897 kw_72 df_X11 (fun _ => rfl) ⟨by decide, by decide⟩ dL_law_8 rfl ?_
  refine L_dup (pc2 := 12) rfl dL_law_11 rfl ?_
  refine L_callI (pc2 := 15) (i := 209) (w' := o_X10 0 ++ o_X11 209) si_L_12 (ct_X11 (o_X10 0) 209 rfl) rfl ⟨⟨by decide, by decide⟩, by decide, by decide⟩ (Nat.le_of_ble_eq_true rfl) rfl dL_law_12 rfl ?_
  refine L_astore_n (pc2 := 16) (ls' := [(2, .ref (X.2.1 + 209)), (1, .ref (X.2.1 + 0)), (0, .ref sb)]) dL_law_15 rfl (by decide) rfl rfl ?_
  refine L_iconst (pc2 := 17) dL_law_16 ic_0 rfl ?_
  refine L_istore_n (pc2 := 18) (ls' := [(3, .int 0), (2, .ref (X.2.1 + 209)), (1, .ref (X.2.1 + 0)), (0, .ref sb)]) dL_law_17 rfl (by decide) rfl rfl ?_
  refine L_sub (ls' := [(0, .ref sb), (1, .ref (X.2.1 + 0)), (2, .ref (X.2.1 + 209)), (3, .int 0)]) [3, 2, 1, 0] rfl ?_
  rw [start_world]
  exact law_loop h_feed h_town h_fault h_told h_bridge h_keeper h_jumper h_flight h_roll h_leap h_post h_rest h_train h_talk h_hour h_drift h_undo h_way h_safest h_posts h_tires h_parted h_pays h_exact h_see h_quick h_watch h_write h_tear h_judge h_seed h_keep h_goBack hL L 0 0 rfl (by decide) (by omega) I0 F0_ J0 K0 hI
theorem st_nest : gv_nest.map (fun n => Cond.methodLinkNest n.1 n.2.1 n.2.2.1 n.2.2.2) = [86, 92, 195, 200, 203, 326, 345, 368, 383, 388, 777].filterMap (fun i => lw_tbl[i]?) := by decide +kernel
theorem st_over : gv_over.map (fun C => Cond.arrayOver (.object C)) = [367, 381].filterMap (fun i => lw_tbl[i]?) := by decide +kernel
theorem st_mem {α : Type} {f : α → Cond} {l : List α} {ps : List Nat} (h : l.map f = ps.filterMap (fun i => lw_tbl[i]?)) : ∀ a ∈ l, f a ∈ lw_tbl := fun a ha => by
  have h1 : f a ∈ l.map f := List.mem_map.mpr ⟨a, ha, rfl⟩
  rw [h] at h1
  obtain ⟨i, -, hi⟩ := List.mem_filterMap.mp h1
  exact List.mem_of_getElem? hi
theorem st_arr {s : State} {args : Array Value} {ty : FieldType} (h : (Cond.arrayClass ty).before args s = true) : ∃ c : ClassId, ArrOfT s c ty ∧ s.vm.findClass ("[" ++ ty.toString) = some c := by
  obtain ⟨c, k, comp, h1, h2, h3⟩ := Cond.arrayClass_spec h
  exact ⟨c, fun n z => ⟨fun k h => (by cases h), k, h2, comp, h3⟩, h1⟩
theorem st_ov {s : State} {C : String} (h : va_AO C s) : ∃ c : ClassId, ArrOfT s c (.object C) ∧ va_RA s c (.object C) := by
  obtain ⟨comp, c, k, h1, h2, h3, h4, h5⟩ := Cond.arrayOver_spec h
  exact ⟨c, fun n z => ⟨fun k h => (by cases h), k, h3, comp, h4⟩, k, comp, h3, h4, h1, h5⟩
set_option maxRecDepth 100000 in
set_option maxHeartbeats 4000000 in
theorem start_open {Inv : WI → WF → WI → WF → Prop}
 (h_feed : ∀ (I : WI) (F : WF) (J : WI) (K : WF) (x1 : Int32), Inv I F J K → ∃ (a : Int32 × WI × WF) (b : Int32 × WI × WF), f_X10_feed x1 I F = some a ∧ f_X11_feed x1 J K = some b ∧ a.1 = b.1 ∧ Inv a.2.1 a.2.2 b.2.1 b.2.2)
 (h_town : ∀ (I : WI) (F : WF) (J : WI) (K : WF), Inv I F J K → ∃ (a : Int32 × WI × WF) (b : Int32 × WI × WF), f_X10_town  I F = some a ∧ f_X11_town  J K = some b ∧ a.1 = b.1 ∧ Inv a.2.1 a.2.2 b.2.1 b.2.2)
 (h_fault : ∀ (I : WI) (F : WF) (J : WI) (K : WF), Inv I F J K → ∃ (a : Int32) (b : Int32 × WI), f_X10_fault  I F = some a ∧ f_X11_fault  J K = some b ∧ a = b.1 ∧ Inv I F b.2 K)
 (h_told : ∀ (I : WI) (F : WF) (J : WI) (K : WF) (x1 : Int32), Inv I F J K → ∃ (a : Int32 × WF) (b : Int32 × WI × WF), f_X10_told x1 I F = some a ∧ f_X11_told x1 J K = some b ∧ a.1 = b.1 ∧ Inv I a.2 b.2.1 b.2.2)
 (h_bridge : ∀ (I : WI) (F : WF) (J : WI) (K : WF) (x1 : Int32) (x2 : Int32), Inv I F J K → ∃ (a : Int32) (b : Int32 × WI), f_X10_bridge x1 x2 I F = some a ∧ f_X11_bridge x1 x2 J K = some b ∧ a = b.1 ∧ Inv I F b.2 K)
 (h_keeper : ∀ (I : WI) (F : WF) (J : WI) (K : WF) (x1 : Int32) (x2 : Int32), Inv I F J K → ∃ (a : Int32) (b : Int32 × WI), f_X10_keeper x1 x2 I F = some a ∧ f_X11_keeper x1 x2 J K = some b ∧ a = b.1 ∧ Inv I F b.2 K)
 (h_jumper : ∀ (I : WI) (F : WF) (J : WI) (K : WF) (x1 : Int32) (x2 : Int32), Inv I F J K → ∃ (a : Int32) (b : Int32 × WI), f_X10_jumper x1 x2 I F = some a ∧ f_X11_jumper x1 x2 J K = some b ∧ a = b.1 ∧ Inv I F b.2 K)
 (h_flight : ∀ (I : WI) (F : WF) (J : WI) (K : WF) (x1 : Int32) (x2 : Int32), Inv I F J K → ∃ (a : Int32) (b : Int32 × WI), f_X10_flight x1 x2 I F = some a ∧ f_X11_flight x1 x2 J K = some b ∧ a = b.1 ∧ Inv I F b.2 K)
 (h_roll : ∀ (I : WI) (F : WF) (J : WI) (K : WF) (x1 : Int32) (x2 : Int32), Inv I F J K → ∃ (a : Int32) (b : Int32 × WI), f_X10_roll x1 x2 I F = some a ∧ f_X11_roll x1 x2 J K = some b ∧ a = b.1 ∧ Inv I F b.2 K)
 (h_leap : ∀ (I : WI) (F : WF) (J : WI) (K : WF) (x1 : Int32) (x2 : Int32), Inv I F J K → ∃ (a : Int32 × WI × WF) (b : Int32 × WI × WF), f_X10_leap x1 x2 I F = some a ∧ f_X11_leap x1 x2 J K = some b ∧ a.1 = b.1 ∧ Inv a.2.1 a.2.2 b.2.1 b.2.2)
 (h_post : ∀ (I : WI) (F : WF) (J : WI) (K : WF) (x1 : Int32) (x2 : Int32), Inv I F J K → ∃ (a : Int32 × WI × WF) (b : Int32 × WI × WF), f_X10_post x1 x2 I F = some a ∧ f_X11_post x1 x2 J K = some b ∧ a.1 = b.1 ∧ Inv a.2.1 a.2.2 b.2.1 b.2.2)
 (h_rest : ∀ (I : WI) (F : WF) (J : WI) (K : WF) (x1 : Int32), Inv I F J K → ∃ (a : Int32 × WI × WF) (b : Int32 × WI × WF), f_X10_rest x1 I F = some a ∧ f_X11_rest x1 J K = some b ∧ a.1 = b.1 ∧ Inv a.2.1 a.2.2 b.2.1 b.2.2)
 (h_train : ∀ (I : WI) (F : WF) (J : WI) (K : WF) (x1 : Int32), Inv I F J K → ∃ (a : Int32 × WI × WF) (b : Int32 × WI × WF), f_X10_train x1 I F = some a ∧ f_X11_train x1 J K = some b ∧ a.1 = b.1 ∧ Inv a.2.1 a.2.2 b.2.1 b.2.2)
 (h_talk : ∀ (I : WI) (F : WF) (J : WI) (K : WF) (x1 : Int32) (x2 : Int32), Inv I F J K → ∃ (a : Int32 × WI × WF) (b : Int32 × WI × WF), f_X10_talk x1 x2 I F = some a ∧ f_X11_talk x1 x2 J K = some b ∧ a.1 = b.1 ∧ Inv a.2.1 a.2.2 b.2.1 b.2.2)
 (h_hour : ∀ (I : WI) (F : WF) (J : WI) (K : WF) (x1 : Int32), Inv I F J K → ∃ (a : Int32 × WI × WF) (b : Int32 × WI × WF), f_X10_hour x1 I F = some a ∧ f_X11_hour x1 J K = some b ∧ a.1 = b.1 ∧ Inv a.2.1 a.2.2 b.2.1 b.2.2)
 (h_drift : ∀ (I : WI) (F : WF) (J : WI) (K : WF) (x1 : Int32), Inv I F J K → ∃ (a : Int32 × WI × WF) (b : Int32 × WI × WF), f_X10_drift x1 I F = some a ∧ f_X11_drift x1 J K = some b ∧ a.1 = b.1 ∧ Inv a.2.1 a.2.2 b.2.1 b.2.2)
 (h_undo : ∀ (I : WI) (F : WF) (J : WI) (K : WF), Inv I F J K → ∃ (a : Int32 × WI × WF) (b : Int32 × WI × WF), f_X10_undo  I F = some a ∧ f_X11_undo  J K = some b ∧ a.1 = b.1 ∧ Inv a.2.1 a.2.2 b.2.1 b.2.2)
 (h_way : ∀ (I : WI) (F : WF) (J : WI) (K : WF) (x1 : Int32) (x2 : Int32) (x3 : Int32), Inv I F J K → ∃ (a : Int32 × WF) (b : Int32 × WI × WF), f_X10_way x1 x2 x3 I F = some a ∧ f_X11_way x1 x2 x3 J K = some b ∧ a.1 = b.1 ∧ Inv I a.2 b.2.1 b.2.2)
 (h_safest : ∀ (I : WI) (F : WF) (J : WI) (K : WF) (x1 : Int32) (x2 : Int32) (x3 : Int32), Inv I F J K → ∃ (a : Int32 × WI) (b : Int32 × WI × WF), f_X10_safest x1 x2 x3 I F = some a ∧ f_X11_safest x1 x2 x3 J K = some b ∧ a.1 = b.1 ∧ Inv a.2 F b.2.1 b.2.2)
 (h_posts : ∀ (I : WI) (F : WF) (J : WI) (K : WF) (x1 : Int32) (x2 : Int32), Inv I F J K → ∃ (a : Int32 × WI × WF) (b : Int32 × WI × WF), f_X10_posts x1 x2 I F = some a ∧ f_X11_posts x1 x2 J K = some b ∧ a.1 = b.1 ∧ Inv a.2.1 a.2.2 b.2.1 b.2.2)
 (h_tires : ∀ (I : WI) (F : WF) (J : WI) (K : WF) (x1 : Int32) (x2 : Int32), Inv I F J K → ∃ (a : Int32) (b : Int32 × WI), f_X10_tires x1 x2 I F = some a ∧ f_X11_tires x1 x2 J K = some b ∧ a = b.1 ∧ Inv I F b.2 K)
 (h_parted : ∀ (I : WI) (F : WF) (J : WI) (K : WF) (x1 : Int32) (x2 : Int32), Inv I F J K → ∃ (a : Int32 × WF) (b : Int32 × WI × WF), f_X10_parted x1 x2 I F = some a ∧ f_X11_parted x1 x2 J K = some b ∧ a.1 = b.1 ∧ Inv I a.2 b.2.1 b.2.2)
 (h_pays : ∀ (I : WI) (F : WF) (J : WI) (K : WF) (x1 : Int32) (x2 : Int32), Inv I F J K → ∃ (a : Int32) (b : Int32 × WI), f_X10_pays x1 x2 = some a ∧ f_X11_pays x1 x2 J K = some b ∧ a = b.1 ∧ Inv I F b.2 K)
 (h_exact : ∀ (I : WI) (F : WF) (J : WI) (K : WF) (x1 : Int32) (x2 : Int32), Inv I F J K → ∃ (a : Int32) (b : Int32 × WI), f_X10_exact x1 x2 = some a ∧ f_X11_exact x1 x2 J K = some b ∧ a = b.1 ∧ Inv I F b.2 K)
 (h_see : ∀ (I : WI) (F : WF) (J : WI) (K : WF) (x1 : Int32) (x2 : Int32), Inv I F J K → (x2 = 0 ∨ x2 = 1) → ∃ (a : Int32 × WI) (b : Int32 × WI × WF), f_X10_see x1 x2 I F = some a ∧ f_X11_see x1 x2 J K = some b ∧ a.1 = b.1 ∧ Inv a.2 F b.2.1 b.2.2)
 (h_quick : ∀ (I : WI) (F : WF) (J : WI) (K : WF) (x1 : Int32), Inv I F J K → ∃ (a : Int32) (b : Int32 × WI), f_X10_quick x1 I F = some a ∧ f_X11_quick x1 J K = some b ∧ a = b.1 ∧ Inv I F b.2 K)
 (h_watch : ∀ (I : WI) (F : WF) (J : WI) (K : WF), Inv I F J K → ∃ (a : Int32) (b : Int32 × WI), f_X10_watch  I F = some a ∧ f_X11_watch  J K = some b ∧ a = b.1 ∧ Inv I F b.2 K)
 (h_write : ∀ (I : WI) (F : WF) (J : WI) (K : WF) (x1 : Int32) (x2 : Int32), Inv I F J K → ∃ (a : Int32 × WI × WF) (b : Int32 × WI × WF), f_X10_write x1 x2 I F = some a ∧ f_X11_write x1 x2 J K = some b ∧ a.1 = b.1 ∧ Inv a.2.1 a.2.2 b.2.1 b.2.2)
 (h_tear : ∀ (I : WI) (F : WF) (J : WI) (K : WF), Inv I F J K → ∃ (a : Int32 × WI) (b : Int32 × WI), f_X10_tear  I F = some a ∧ f_X11_tear  J K = some b ∧ a.1 = b.1 ∧ Inv a.2 F b.2 K)
 (h_judge : ∀ (I : WI) (F : WF) (J : WI) (K : WF), Inv I F J K → ∃ (a : Int32) (b : Int32 × WI), f_X10_judge  I F = some a ∧ f_X11_judge  J K = some b ∧ a = b.1 ∧ Inv I F b.2 K)
 (h_seed : ∀ (I : WI) (F : WF) (J : WI) (K : WF) (x1 : Int32), Inv I F J K → ∃ (a : Int32 × WI) (b : Int32 × WI × WF), f_X10_seed x1 I F = some a ∧ f_X11_seed x1 J K = some b ∧ a.1 = b.1 ∧ Inv a.2 F b.2.1 b.2.2)
 (h_keep : ∀ (I : WI) (F : WF) (J : WI) (K : WF) (x1 : Int32), Inv I F J K → ∃ (a : Int32 × WI × WF) (b : Int32 × WI × WF), f_X10_keep x1 I F = some a ∧ f_X11_keep x1 J K = some b ∧ a.1 = b.1 ∧ Inv a.2.1 a.2.2 b.2.1 b.2.2)
 (h_goBack : ∀ (I : WI) (F : WF) (J : WI) (K : WF) (x1 : Int32), Inv I F J K → ∃ (a : Int32 × WI × WF) (b : Int32 × WI × WF), f_X10_goBack x1 I F = some a ∧ f_X11_goBack x1 J K = some b ∧ a.1 = b.1 ∧ Inv a.2.1 a.2.2 b.2.1 b.2.2)
 (hI : Inv I0 F0_ J0 K0) {p : Program} {e : Env} {s : State} {m : MethodId} {below : List Frame} {meth : Method} {c : Code} (l : Launch) {b L : Nat} {xs : Nat → Int32} (hL : L ≤ 2048) (C0 : lw_At p s m meth c b L xs) : W p l e room_1 s m #[Value.ref b] below meth c s.heap [] 0 0 (lw_Z below #[Value.ref b] s) (entryFrame m ([Value.ref b] : List Value).toArray 4) := by
  obtain ⟨hx, hb, hr, hml, hown, hts, hX, hbl, hlocks, hgv⟩ := C0
  have hg : ∀ w ∈ gv_gw, w.before #[Value.ref b] s = true := fun w hw => hts w (List.mem_filter.mp hw).1
  obtain ⟨c0, iS0, hKn0⟩ := u_known (C := RX0) (T := TX0) (N := 3) (n := 3) hg gcl0.2.1 (hg _ kw_344)
  obtain ⟨c1, iS1, hKn1⟩ := u_known (C := RX1) (T := TX1) (N := 3) (n := 3) hg gcl1.2.1 (hg _ kw_194)
  obtain ⟨c2, iS2, hKn2⟩ := u_known (C := RX2) (T := TX2) (N := 3) (n := 3) hg gcl2.2.1 (hg _ kw_382)
  obtain ⟨c3, iS3, hKn3⟩ := u_known (C := RX3) (T := TX3) (N := 3) (n := 3) hg gcl3.2.1 (hg _ kw_361)
  obtain ⟨c4, iS4, hKn4⟩ := u_known (C := RX4) (T := TX4) (N := 6) (n := 6) hg gcl4.2.1 (hg _ kw_298)
  obtain ⟨c5, iS5, hKn5⟩ := u_known (C := RX5) (T := TX5) (N := 3) (n := 3) hg gcl5.2.1 (hg _ kw_325)
  obtain ⟨c6, iS6, hKn6⟩ := u_known (C := RX6) (T := TX6) (N := 10) (n := 10) hg gcl6.2.1 (hg _ kw_202)
  obtain ⟨c7, iS7, hKn7⟩ := u_known (C := RX7) (T := TX7) (N := 12) (n := 12) hg gcl7.2.1 (hg _ kw_91)
  obtain ⟨c8, iS8, hKn8⟩ := u_known (C := RX8) (T := TX8) (N := 7) (n := 7) hg gcl8.2.1 (hg _ kw_85)
  obtain ⟨c9, iS9, hKn9⟩ := u_known (C := RX9) (T := TX9) (N := 6) (n := 6) hg gcl9.2.1 (hg _ kw_271)
  obtain ⟨c10, iS10, hKn10⟩ := u_known (C := RX10) (T := TX10) (N := 10) (n := 10) hg gcl10.2.1 (hg _ kw_77)
  obtain ⟨c11, iS11, hKn11⟩ := u_known (C := RX11) (T := TX11) (N := 26) (n := 26) hg gcl11.2.1 (hg _ kw_897)
  obtain ⟨dC, dI, hKc⟩ : ∃ (dC : Nat → ClassId) (dI : Nat → Nat → Nat), ∀ (k : Nat) (q : vw_C), vwCl[k]? = some q → u_Kn s q.1 q.2.1 q.2.2 (dC k) (dI k) := by
    refine ⟨fun k => if k = 0 then c0 else if k = 1 then c1 else if k = 2 then c2 else if k = 3 then c3 else if k = 4 then c4 else if k = 5 then c5 else if k = 6 then c6 else if k = 7 then c7 else if k = 8 then c8 else if k = 9 then c9 else if k = 10 then c10 else c11, fun k => if k = 0 then iS0 else if k = 1 then iS1 else if k = 2 then iS2 else if k = 3 then iS3 else if k = 4 then iS4 else if k = 5 then iS5 else if k = 6 then iS6 else if k = 7 then iS7 else if k = 8 then iS8 else if k = 9 then iS9 else if k = 10 then iS10 else iS11, ?_⟩
    intro k q hq
    match k, hq with
    | 0, hq => cases hq; exact hKn0 
    | 1, hq => cases hq; exact hKn1 
    | 2, hq => cases hq; exact hKn2 
    | 3, hq => cases hq; exact hKn3 
    | 4, hq => cases hq; exact hKn4 
    | 5, hq => cases hq; exact hKn5 
    | 6, hq => cases hq; exact hKn6 
    | 7, hq => cases hq; exact hKn7 
    | 8, hq => cases hq; exact hKn8 
    | 9, hq => cases hq; exact hKn9 
    | 10, hq => cases hq; exact hKn10 
    | 11, hq => cases hq; exact hKn11
    | k + 12, hq => simp [vwCl] at hq
  have hNs : gv_Ns s := ⟨fun n hn => va_Nw.of rfl (hts _ (st_mem st_nest n hn)), fun C hC => va_AO.of (A := #[Value.ref b]) (hts _ (st_mem st_over C hC))⟩
  obtain ⟨a0, ha0, hb0⟩ := st_arr (hg _ kw_166)
  obtain ⟨a1, ha1, hb1⟩ := st_arr (hg _ kw_981)
  obtain ⟨a2, ha2, hb2⟩ := st_ov (hNs.2 RX6 (by decide))
  obtain ⟨a3, ha3, hb3⟩ := st_ov (hNs.2 RX2 (by decide))
  obtain ⟨X, hXe⟩ : ∃ X : XT, X = (l, s.heap.size, dC, dI, fun k => if k = 0 then a0 else if k = 1 then a1 else if k = 2 then a2 else a3) := ⟨_, rfl⟩
  have hX1 : X.1 = l := by rw [hXe]
  have hXb : X.2.1 = s.heap.size := by rw [hXe]
  have hK : va_K (gv_D X) vwCl (gv_Ty X) s := by
    subst hXe
    refine ⟨hKc, fun k q hq => ?_⟩
    match k, hq with
    | 0, hq => cases hq; exact ⟨ha0, hb0⟩
    | 1, hq => cases hq; exact ⟨ha1, hb1⟩
    | 2, hq => cases hq; exact ⟨ha2, hb2⟩
    | 3, hq => cases hq; exact ⟨ha3, hb3⟩
    | k + 4, hq => simp [gv_Ty] at hq
  have hle := lv_entry ([.ref b]) (n := 4) (Nat.le_of_ble_eq_true rfl)
  rw [lg_entry_eq]
  rw [← hX1]
  exact law_start h_feed h_town h_fault h_told h_bridge h_keeper h_jumper h_flight h_roll h_leap h_post h_rest h_train h_talk h_hour h_drift h_undo h_way h_safest h_posts h_tires h_parted h_pays h_exact h_see h_quick h_watch h_write h_tear h_judge h_seed h_keep h_goBack hI hL p e s m below meth c s.heap [] _ ⟨hx, hb, hml, hown, hg, hK, hNs, hlocks, hr, rfl, by omega⟩ hX (by omega) hXb (by simp [hXb]) (fun k q h => by simp [gv_wl] at h) va_S.rf hle
