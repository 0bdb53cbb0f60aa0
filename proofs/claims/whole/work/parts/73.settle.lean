/-! pure layer: a town settles -/
def zr (v : Nat → Int32) (m : Nat) : Nat → Int32 := fun t => if t < m then nI 0 else v t
theorem zr_s (v : Nat → Int32) (m : Nat) : upd (zr v m) m (nI 0) = zr v (m + 1) := by
  funext t
  by_cases e : t = m
  · subst e; rw [upd_same, zr, if_pos (by omega)]
  · rw [upd_ne e, zr, zr]
    by_cases e2 : t < m
    · rw [if_pos e2, if_pos (by omega)]
    · rw [if_neg e2, if_neg (by omega)]
theorem zr_0 (v : Nat → Int32) : zr v 0 = v := by
  funext t; rw [zr, if_neg (by omega)]
theorem zero_l {J : WI} {K : WF} (c : WF → Option (Int32 × WI × WF)) : ∀ m i n, i + m = 70 → m < n → L_X11_town_17 c J n (nI i) (uF K 1 (zr (K 1) i)) = c (uF K 1 (zr (K 1) 70)) := by
  intro m
  induction m with
  | zero =>
    intro i n h1 h2
    obtain ⟨n, rfl⟩ : ∃ z, n = z + 1 := ⟨n - 1, by omega⟩
    rw [nf_L_X11_town_17, if_pos (by rw [leN (by omega) (by omega)]; omega), show i = 70 by omega]
  | succ m ih =>
    intro i n h1 h2
    obtain ⟨n, rfl⟩ : ∃ z, n = z + 1 := ⟨n - 1, by omega⟩
    rw [nf_L_X11_town_17, if_neg (by rw [leN (by omega) (by omega)]; omega)]
    simp (disch := omega) only [ixN, nI_clamp, bnd_eq, uF_same, uF_uF, zr_s, nI_add]
    exact ih (i + 1) n (by omega) (by omega)
theorem zero_a {J : WI} {K : WF} (c : WF → Option (Int32 × WI × WF)) : L_X11_town_17 c J FU (nI 0) K = c (uF K 1 (zr (K 1) 70)) := by
  have := zero_l (J := J) (K := K) c 70 0 FU (by omega) (by rw [FU_big]; omega)
  rw [zr_0, uF_id] at this
  exact this
theorem set2_l {J : WI} {K : WF} (c : WF → Option (WI × WF)) : ∀ m i n, i + m = 70 → m < n → L_X11_settles_2 c J n (nI i) (uF K 2 (va_cpy (K 1) (K 2) 0 0 i)) = c (uF K 2 (va_cpy (K 1) (K 2) 0 0 70)) := by
  intro m
  induction m with
  | zero =>
    intro i n h1 h2
    obtain ⟨n, rfl⟩ : ∃ z, n = z + 1 := ⟨n - 1, by omega⟩
    rw [nf_L_X11_settles_2, if_pos (by rw [leN (by omega) (by omega)]; omega), show i = 70 by omega]
  | succ m ih =>
    intro i n h1 h2
    obtain ⟨n, rfl⟩ : ∃ z, n = z + 1 := ⟨n - 1, by omega⟩
    rw [nf_L_X11_settles_2, if_neg (by rw [leN (by omega) (by omega)]; omega)]
    simp (disch := omega) only [ixN, nI_clamp, bnd_eq, uF_same, uF_uF, uF_ne, nI_add]
    have hh := ih (i + 1) n (by omega) (by omega)
    rw [← cpy_s] at hh
    rw [Nat.zero_add] at hh
    exact hh
theorem set28_l {J : WI} {K : WF} (c : WF → Option (WI × WF)) : ∀ m i n, i + m = 133 → m < n → L_X11_settles_28 c J n (nI i) (uF K 3 (zr (K 3) i)) = c (uF K 3 (zr (K 3) 133)) := by
  intro m
  induction m with
  | zero =>
    intro i n h1 h2
    obtain ⟨n, rfl⟩ : ∃ z, n = z + 1 := ⟨n - 1, by omega⟩
    rw [nf_L_X11_settles_28, if_pos (by rw [leN (by omega) (by omega)]; omega), show i = 133 by omega]
  | succ m ih =>
    intro i n h1 h2
    obtain ⟨n, rfl⟩ : ∃ z, n = z + 1 := ⟨n - 1, by omega⟩
    rw [nf_L_X11_settles_28, if_neg (by rw [leN (by omega) (by omega)]; omega)]
    simp (disch := omega) only [ixN, nI_clamp, bnd_eq, uF_same, uF_uF, zr_s, nI_add]
    exact ih (i + 1) n (by omega) (by omega)
theorem set50_l {J : WI} {K : WF} (c : WF → Option (WI × WF)) : ∀ m i n, i + m = 6 → m < n → L_X11_settles_50 c J n (nI i) (uF K 3 (va_cpy (K 2) (K 3) 64 0 i)) = c (uF K 3 (va_cpy (K 2) (K 3) 64 0 6)) := by
  intro m
  induction m with
  | zero =>
    intro i n h1 h2
    obtain ⟨n, rfl⟩ : ∃ z, n = z + 1 := ⟨n - 1, by omega⟩
    rw [nf_L_X11_settles_50, if_pos (by rw [leN (by omega) (by omega)]; omega), show i = 6 by omega]
  | succ m ih =>
    intro i n h1 h2
    obtain ⟨n, rfl⟩ : ∃ z, n = z + 1 := ⟨n - 1, by omega⟩
    rw [nf_L_X11_settles_50, if_neg (by rw [leN (by omega) (by omega)]; omega)]
    simp (disch := omega) only [ixN, nI_clamp, bnd_eq, uF_same, uF_uF, uF_ne, nI_add]
    have hh := ih (i + 1) n (by omega) (by omega)
    rw [← cpy_s] at hh
    exact hh
def psN (B Kp k : Nat) : Int32 := if k < Kp ∧ k < B then nI k else -1
def st81 (v u : Nat → Int32) (B Kp i : Nat) : Nat → Int32 := fun t => if 42 ≤ t ∧ t < 42 + i then u (49 + (t - 42)) else if 24 ≤ t ∧ t < 24 + i then psN B Kp (t - 24) else v t
theorem st81_s (v u : Nat → Int32) (B Kp : Nat) {i : Nat} (h : i < 9) : upd (upd (st81 v u B Kp i) (42 + i) (u (49 + i))) (24 + i) (psN B Kp i) = st81 v u B Kp (i + 1) := by
  funext t
  by_cases e : t = 24 + i
  · subst e
    rw [upd_same, st81, if_neg (by omega), if_pos (by omega), show 24 + i - 24 = i by omega]
  · rw [upd_ne e]
    by_cases e2 : t = 42 + i
    · subst e2
      rw [upd_same, st81, if_pos (by omega), show 42 + i - 42 = i by omega]
    · rw [upd_ne e2, st81, st81]
      by_cases e3 : 42 ≤ t ∧ t < 42 + i
      · rw [if_pos e3, if_pos (by omega)]
      · rw [if_neg e3, if_neg (show ¬ (42 ≤ t ∧ t < 42 + (i + 1)) by omega)]
        by_cases e4 : 24 ≤ t ∧ t < 24 + i
        · rw [if_pos e4, if_pos (by omega)]
        · rw [if_neg e4, if_neg (by omega)]
theorem set81_l {J : WI} {K : WF} {B Kp : Nat} (hB : K 2 1 = nI B) (hK : K 2 2 = nI Kp) (hB9 : B ≤ 9) (hK9 : Kp ≤ 9) (c : WF → Option (WI × WF)) : ∀ m i n, i + m = 9 → m < n → L_X11_settles_81 c J n (nI i) (uF K 3 (st81 (K 3) (K 2) B Kp i)) = c (uF K 3 (st81 (K 3) (K 2) B Kp 9)) := by
  intro m
  induction m with
  | zero =>
    intro i n h1 h2
    obtain ⟨n, rfl⟩ : ∃ z, n = z + 1 := ⟨n - 1, by omega⟩
    rw [nf_L_X11_settles_81, if_pos (by rw [leN (by omega) (by omega)]; omega), show i = 9 by omega]
  | succ m ih =>
    intro i n h1 h2
    obtain ⟨n, rfl⟩ : ∃ z, n = z + 1 := ⟨n - 1, by omega⟩
    rw [nf_L_X11_settles_81, if_neg (by rw [leN (by omega) (by omega)]; omega)]
    simp (disch := omega) only [ixN, nI_clamp, bnd_eq, uF_same, uF_uF, uF_ne, nI_add, hB, hK]
    have hh := ih (i + 1) n (by omega) (by omega)
    rw [← st81_s _ _ _ _ (by omega)] at hh
    rw [← hh, psN]
    by_cases q1 : i < Kp
    · rw [if_neg (by rw [leN (by omega) (by omega)]; omega)]
      by_cases q2 : i < B
      · rw [if_neg (by rw [leN (by omega) (by omega)]; omega), if_pos ⟨q1, q2⟩]
      · rw [if_pos (by rw [leN (by omega) (by omega)]; omega), if_neg (fun h => q2 h.2)]
    · rw [if_pos (by rw [leN (by omega) (by omega)]; omega), if_neg (fun h => q1 h.1)]
theorem st81_0 (v u : Nat → Int32) (B Kp : Nat) : st81 v u B Kp 0 = v := by
  funext t; rw [st81, if_neg (by omega), if_neg (by omega)]
/-- what settles makes of the model -/
theorem settles_m {J : WI} {K : WF} {B Kp : Nat} (hB : K 1 1 = nI B) (hK : K 1 2 = nI Kp) (hB9 : B ≤ 9) (hK9 : Kp ≤ 9) : ∃ K', f_X11_settles J K = some (upd (upd (upd J 7 (nI 0)) 8 (nI 0)) 6 (nI 0), K') ∧ (∀ a, ¬ a = 2 → ¬ a = 3 → ¬ a = 5 → K' a = K a) ∧ (∀ t, t < 70 → K' 2 t = K 1 t) ∧ K' 5 0 = nI 0 ∧ K' 5 1 = nI 0 ∧ K' 3 133 = K 3 133 ∧ (∀ t, t < 6 → K' 3 t = K 1 (64 + t)) ∧ (∀ t, 6 ≤ t → t < 24 → K' 3 t = nI 0) ∧ (∀ k, k < 9 → K' 3 (24 + k) = psN B Kp k ∧ K' 3 (33 + k) = nI 0 ∧ K' 3 (42 + k) = K 1 (49 + k)) ∧ (∀ t, 51 ≤ t → t < 133 → K' 3 t = nI 0) := by
  have e1 := set2_l (J := J) (K := K) (fun F_1175 => bnd (nI 0) fun x1_1176 => L_X11_settles_28 (fun F_1179 => bnd (nI 0) fun x1_1180 => L_X11_settles_50 (fun F_1183 => bnd (nI 0) fun x1_1184 => L_X11_settles_81 (fun F_1191 => bnd (upd J 7 (nI 0)) fun I_1192 => bnd (upd I_1192 8 (nI 0)) fun I_1193 => bnd (upd I_1193 6 (nI 0)) fun I_1194 => bnd (uF F_1191 5 (upd (F_1191 5) 0 (vp_nar .boolean (nI 0)))) fun F_1195 => bnd (uF F_1195 5 (upd (F_1195 5) 1 (vp_nar .boolean (nI 0)))) fun F_1196 => some (I_1194, F_1196)) J FU x1_1184 F_1183) J FU x1_1180 F_1179) J FU x1_1176 F_1175) 70 0 FU (by omega) (by rw [FU_big]; omega)
  rw [cpy_0, uF_id] at e1
  rw [nf_f_X11_settles, bnd_eq, e1, bnd_eq]
  clear e1
  have k2 : ∀ t, t < 70 → uF K 2 (va_cpy (K 1) (K 2) 0 0 70) 2 t = K 1 t := fun t ht => by rw [uF_same, cpy_in (by omega) (by omega), Nat.zero_add, Nat.sub_zero]
  have ko : ∀ a, ¬ a = 2 → uF K 2 (va_cpy (K 1) (K 2) 0 0 70) a = K a := fun a ha => uF_ne _ _ ha
  generalize uF K 2 (va_cpy (K 1) (K 2) 0 0 70) = K2 at k2 ko ⊢
  have e2 := set28_l (J := J) (K := K2) (fun F_1179 => bnd (nI 0) fun x1_1180 => L_X11_settles_50 (fun F_1183 => bnd (nI 0) fun x1_1184 => L_X11_settles_81 (fun F_1191 => bnd (upd J 7 (nI 0)) fun I_1192 => bnd (upd I_1192 8 (nI 0)) fun I_1193 => bnd (upd I_1193 6 (nI 0)) fun I_1194 => bnd (uF F_1191 5 (upd (F_1191 5) 0 (vp_nar .boolean (nI 0)))) fun F_1195 => bnd (uF F_1195 5 (upd (F_1195 5) 1 (vp_nar .boolean (nI 0)))) fun F_1196 => some (I_1194, F_1196)) J FU x1_1184 F_1183) J FU x1_1180 F_1179) 133 0 FU (by omega) (by rw [FU_big]; omega)
  rw [zr_0, uF_id] at e2
  rw [e2, bnd_eq]
  clear e2
  have e3 := set50_l (J := J) (K := uF K2 3 (zr (K2 3) 133)) (fun F_1183 => bnd (nI 0) fun x1_1184 => L_X11_settles_81 (fun F_1191 => bnd (upd J 7 (nI 0)) fun I_1192 => bnd (upd I_1192 8 (nI 0)) fun I_1193 => bnd (upd I_1193 6 (nI 0)) fun I_1194 => bnd (uF F_1191 5 (upd (F_1191 5) 0 (vp_nar .boolean (nI 0)))) fun F_1195 => bnd (uF F_1195 5 (upd (F_1195 5) 1 (vp_nar .boolean (nI 0)))) fun F_1196 => some (I_1194, F_1196)) J FU x1_1184 F_1183) 6 0 FU (by omega) (by rw [FU_big]; omega)
  rw [cpy_0, uF_id] at e3
  rw [e3, bnd_eq, uF_uF, uF_same, uF_ne _ _ (show 2 ≠ 3 by omega)]
  clear e3
  have e4 := set81_l (J := J) (K := uF K2 3 (va_cpy (K2 2) (zr (K2 3) 133) 64 0 6)) (B := B) (Kp := Kp) (by rw [uF_ne _ _ (by omega), k2 _ (by omega)]; exact hB) (by rw [uF_ne _ _ (by omega), k2 _ (by omega)]; exact hK) hB9 hK9 (fun F_1191 => bnd (upd J 7 (nI 0)) fun I_1192 => bnd (upd I_1192 8 (nI 0)) fun I_1193 => bnd (upd I_1193 6 (nI 0)) fun I_1194 => bnd (uF F_1191 5 (upd (F_1191 5) 0 (vp_nar .boolean (nI 0)))) fun F_1195 => bnd (uF F_1195 5 (upd (F_1195 5) 1 (vp_nar .boolean (nI 0)))) fun F_1196 => some (I_1194, F_1196)) 9 0 FU (by omega) (by rw [FU_big]; omega)
  rw [st81_0, uF_id] at e4
  rw [e4, uF_uF, uF_same, uF_ne _ _ (show 2 ≠ 3 by omega)]
  clear e4
  simp only [bnd_eq]
  refine ⟨_, rfl, fun a h2 h3 h5 => ?_, fun t ht => ?_, ?_, ?_, ?_, fun t ht => ?_, fun t h1 h2 => ?_, fun k hk => ⟨?_, ?_, ?_⟩, fun t h1 h2 => ?_⟩
  · rw [uF_ne _ _ h5, uF_ne _ _ h5, uF_ne _ _ h3]; exact ko a h2
  · rw [uF_ne _ _ (by omega), uF_ne _ _ (by omega), uF_ne _ _ (by omega)]; exact k2 t ht
  · rw [uF_same, upd_ne (by omega), uF_same, upd_same]; rfl
  · rw [uF_same, upd_same]; rfl
  · rw [uF_ne _ _ (by omega), uF_ne _ _ (by omega), uF_same, st81, if_neg (by omega), if_neg (by omega), cpy_out (by omega), zr, if_neg (by omega), ko 3 (by omega)]
  · rw [uF_ne _ _ (by omega), uF_ne _ _ (by omega), uF_same, st81, if_neg (by omega), if_neg (by omega), cpy_in (by omega) (by omega), Nat.sub_zero, k2 _ (by omega)]
  · rw [uF_ne _ _ (by omega), uF_ne _ _ (by omega), uF_same, st81, if_neg (by omega), if_neg (by omega), cpy_out (by omega), zr, if_pos (by omega)]
  · rw [uF_ne _ _ (by omega), uF_ne _ _ (by omega), uF_same, st81, if_neg (by omega), if_pos (by omega), show 24 + k - 24 = k by omega]
  · rw [uF_ne _ _ (by omega), uF_ne _ _ (by omega), uF_same, st81, if_neg (by omega), if_neg (by omega), cpy_out (by omega), zr, if_pos (by omega)]
  · rw [uF_ne _ _ (by omega), uF_ne _ _ (by omega), uF_same, st81, if_pos (by omega), show 42 + k - 42 = k by omega, k2 _ (by omega)]
  · rw [uF_ne _ _ (by omega), uF_ne _ _ (by omega), uF_same, st81, if_neg (by omega), if_neg (by omega), cpy_out (by omega), zr, if_pos (by omega)]
