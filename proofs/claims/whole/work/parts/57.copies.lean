/-! pure layer: rows copied, states copied -/
theorem uF_uF (F : WF) (a : Nat) (f g : Nat → Int32) : uF (uF F a f) a g = uF F a g := by
  funext b
  by_cases h : b = a
  · subst h; rw [uF_same, uF_same]
  · rw [uF_ne _ _ h, uF_ne _ _ h, uF_ne _ _ h]
theorem uF_id (F : WF) (a : Nat) : uF F a (F a) = F := by
  funext b
  by_cases h : b = a
  · subst h; rw [uF_same]
  · rw [uF_ne _ _ h]
theorem cpy_0 (f g : Nat → Int32) (sp dp : Nat) : va_cpy f g sp dp 0 = g := by
  funext k
  rw [va_cpy, if_neg (by omega)]
theorem cpy_s (f g : Nat → Int32) (sp dp n : Nat) : upd (va_cpy f g sp dp n) (dp + n) (f (sp + n)) = va_cpy f g sp dp (n + 1) := by
  funext k
  by_cases h : k = dp + n
  · subst h
    rw [upd_same, va_cpy, if_pos (by omega), show sp + (dp + n - dp) = sp + n by omega]
  · rw [upd_ne h]
    simp only [va_cpy]
    by_cases h2 : dp ≤ k ∧ k < dp + n
    · rw [if_pos h2, if_pos (by omega)]
    · rw [if_neg h2, if_neg (by omega)]
theorem cpy_in {f g : Nat → Int32} {sp dp n k : Nat} (h1 : dp ≤ k) (h2 : k < dp + n) : va_cpy f g sp dp n k = f (sp + (k - dp)) := pk_cpy_in h1 h2
theorem cpy_out {f g : Nat → Int32} {sp dp n k : Nat} (h : k < dp ∨ dp + n ≤ k) : va_cpy f g sp dp n k = g k := pk_cpy_out h
theorem cl_notes_48 {J : WI} {K : WF} {z : Nat} (hz : J 6 = nI z) (hz2 : z ≤ 15) (c : WF → Option (WI × WF)) : ∀ m i n, i + m = 134 → m < n → L_X11_notes_48 c J n (nI i) (uF K 6 (va_cpy (K 3) (K 6) 0 (134 * z) i)) = c (uF K 6 (va_cpy (K 3) (K 6) 0 (134 * z) 134)) := by
  intro m
  induction m with
  | zero =>
    intro i n h1 h2
    obtain ⟨n, rfl⟩ : ∃ q, n = q + 1 := ⟨n - 1, by omega⟩
    rw [nf_L_X11_notes_48, if_pos (by rw [leN (by omega) (by omega)]; omega), show i = 134 by omega]
  | succ m ih =>
    intro i n h1 h2
    obtain ⟨n, rfl⟩ : ∃ q, n = q + 1 := ⟨n - 1, by omega⟩
    rw [nf_L_X11_notes_48, if_neg (by rw [leN (by omega) (by omega)]; omega)]
    simp (disch := omega) only [bnd_eq, hz, nI_add, pk_mul, ixN, nI_clamp, uF_uF, uF_same]
    have hh := ih (i + 1) n (by omega) (by omega)
    rw [← cpy_s] at hh
    rw [Nat.zero_add] at hh
    simp (disch := omega) only [uF_ne]
    exact hh
theorem cl_notes_11 {J : WI} {K : WF} (c : WF → Option (WI × WF)) : ∀ m i n, i + m = 2010 → m < n → L_X11_notes_11 c J n (nI i) (uF K 6 (va_cpy (K 6) (K 6) 134 0 i)) = c (uF K 6 (va_cpy (K 6) (K 6) 134 0 2010)) := by
  intro m
  induction m with
  | zero =>
    intro i n h1 h2
    obtain ⟨n, rfl⟩ : ∃ q, n = q + 1 := ⟨n - 1, by omega⟩
    rw [nf_L_X11_notes_11, if_pos (by rw [leN (by omega) (by omega)]; omega), show i = 2010 by omega]
  | succ m ih =>
    intro i n h1 h2
    obtain ⟨n, rfl⟩ : ∃ q, n = q + 1 := ⟨n - 1, by omega⟩
    rw [nf_L_X11_notes_11, if_neg (by rw [leN (by omega) (by omega)]; omega)]
    simp (disch := omega) only [bnd_eq, nI_add, pk_mul, ixN, nI_clamp, uF_uF, uF_same]
    have hh := ih (i + 1) n (by omega) (by omega)
    rw [← cpy_s] at hh
    rw [cpy_out (k := i + 134) (by omega)]
    rw [Nat.zero_add, Nat.add_comm 134 i] at hh
    exact hh
theorem cl_undo_27 {J : WI} {K : WF} {z : Nat} (hz : J 6 = nI z) (hz2 : z ≤ 15) (c : WF → Option (Int32 × WI × WF)) : ∀ m i n, i + m = 133 → m < n → L_X11_undo_27 c J n (nI i) (uF K 3 (va_cpy (K 6) (K 3) (134 * z) 0 i)) = c (uF K 3 (va_cpy (K 6) (K 3) (134 * z) 0 133)) := by
  intro m
  induction m with
  | zero =>
    intro i n h1 h2
    obtain ⟨n, rfl⟩ : ∃ q, n = q + 1 := ⟨n - 1, by omega⟩
    rw [nf_L_X11_undo_27, if_pos (by rw [leN (by omega) (by omega)]; omega), show i = 133 by omega]
  | succ m ih =>
    intro i n h1 h2
    obtain ⟨n, rfl⟩ : ∃ q, n = q + 1 := ⟨n - 1, by omega⟩
    rw [nf_L_X11_undo_27, if_neg (by rw [leN (by omega) (by omega)]; omega)]
    simp (disch := omega) only [bnd_eq, hz, nI_add, pk_mul, ixN, nI_clamp, uF_uF, uF_same]
    have hh := ih (i + 1) n (by omega) (by omega)
    rw [← cpy_s] at hh
    rw [Nat.zero_add] at hh
    simp (disch := omega) only [uF_ne]
    exact hh
theorem cl_keep_19 {J : WI} {K : WF} {z : Nat} (hz2 : z ≤ 1) (c : WF → Option (Int32 × WI × WF)) : ∀ m i n, i + m = 134 → m < n → L_X11_keep_19 c (nI z) J n (nI i) (uF K 4 (va_cpy (K 3) (K 4) 0 (134 * z) i)) = c (uF K 4 (va_cpy (K 3) (K 4) 0 (134 * z) 134)) := by
  intro m
  induction m with
  | zero =>
    intro i n h1 h2
    obtain ⟨n, rfl⟩ : ∃ q, n = q + 1 := ⟨n - 1, by omega⟩
    rw [nf_L_X11_keep_19, if_pos (by rw [leN (by omega) (by omega)]; omega), show i = 134 by omega]
  | succ m ih =>
    intro i n h1 h2
    obtain ⟨n, rfl⟩ : ∃ q, n = q + 1 := ⟨n - 1, by omega⟩
    rw [nf_L_X11_keep_19, if_neg (by rw [leN (by omega) (by omega)]; omega)]
    simp (disch := omega) only [bnd_eq, nI_add, pk_mul, ixN, nI_clamp, uF_uF, uF_same]
    have hh := ih (i + 1) n (by omega) (by omega)
    rw [← cpy_s] at hh
    rw [Nat.zero_add] at hh
    simp (disch := omega) only [uF_ne]
    exact hh
theorem cl_goBack_31 {J : WI} {K : WF} {z : Nat} (hz2 : z ≤ 1) (c : WF → Option (Int32 × WI × WF)) : ∀ m i n, i + m = 134 → m < n → L_X11_goBack_31 c (nI z) J n (nI i) (uF K 3 (va_cpy (K 4) (K 3) (134 * z) 0 i)) = c (uF K 3 (va_cpy (K 4) (K 3) (134 * z) 0 134)) := by
  intro m
  induction m with
  | zero =>
    intro i n h1 h2
    obtain ⟨n, rfl⟩ : ∃ q, n = q + 1 := ⟨n - 1, by omega⟩
    rw [nf_L_X11_goBack_31, if_pos (by rw [leN (by omega) (by omega)]; omega), show i = 134 by omega]
  | succ m ih =>
    intro i n h1 h2
    obtain ⟨n, rfl⟩ : ∃ q, n = q + 1 := ⟨n - 1, by omega⟩
    rw [nf_L_X11_goBack_31, if_neg (by rw [leN (by omega) (by omega)]; omega)]
    simp (disch := omega) only [bnd_eq, nI_add, pk_mul, ixN, nI_clamp, uF_uF, uF_same]
    have hh := ih (i + 1) n (by omega) (by omega)
    rw [← cpy_s] at hh
    rw [Nat.zero_add] at hh
    simp (disch := omega) only [uF_ne]
    exact hh
def CopyR (d s : Nat) (I : WI) (F : WF) (I' : WI) (F' : WF) : Prop := I' (2 * d) = I (2 * s) ∧ I' (2 * d + 1) = I (2 * s + 1) ∧ (∀ n, ¬ n = 2 * d → ¬ n = 2 * d + 1 → I' n = I n) ∧
  (∀ t, t < 9 → F' (8 * d) t = F (8 * s) t) ∧ (∀ t, t < 9 → F' (8 * d + 1) t = F (8 * s + 1) t) ∧ (∀ t, t < 9 → F' (8 * d + 2) t = F (8 * s + 2) t) ∧ (∀ t, t < 6 → F' (8 * d + 3) t = F (8 * s + 3) t) ∧ (∀ t, t < 6 → F' (8 * d + 4) t = F (8 * s + 4) t) ∧ (∀ t, t < 6 → F' (8 * d + 5) t = F (8 * s + 5) t) ∧ (∀ t, t < 6 → F' (8 * d + 6) t = F (8 * s + 6) t) ∧ (∀ t, t < 20 → F' (8 * d + 7) t = F (8 * s + 7) t) ∧
  ∀ b, b < 8 * d ∨ 8 * d + 8 ≤ b → F' b = F b
theorem SR_co {P B Kp Jm : Nat} (hk : Kp ≤ 9) (hj : Jm ≤ 6) {h h' rs rs' : Int32} {a0 a1 a2 a3 a4 a5 a6 a7 b0 b1 b2 b3 b4 b5 b6 b7 v v' : Nat → Int32} (eh : h' = h) (er : rs' = rs) (e0 : ∀ t, t < 9 → b0 t = a0 t) (e1 : ∀ t, t < 9 → b1 t = a1 t) (e2 : ∀ t, t < 9 → b2 t = a2 t) (e3 : ∀ t, t < 6 → b3 t = a3 t) (e4 : ∀ t, t < 6 → b4 t = a4 t) (e5 : ∀ t, t < 6 → b5 t = a5 t) (e6 : ∀ t, t < 6 → b6 t = a6 t) (e7 : ∀ t, t < 20 → b7 t = a7 t) (ev : ∀ t, t < 133 → v' t = v t) (hs : SR P B Kp Jm h rs a0 a1 a2 a3 a4 a5 a6 a7 v) : SR P B Kp Jm h' rs' b0 b1 b2 b3 b4 b5 b6 b7 v' := by
  subst eh; subst er
  obtain ⟨h1, h2, h3, h4, h5, h6, r, hr, h7, h8⟩ := hs
  refine ⟨h1, ?_, ?_, ?_, ?_, ?_, r, hr, h7, ?_⟩
  · rw [ev _ (by omega)]; exact h2
  · rw [ev _ (by omega)]; exact h3
  · intro k hk2
    rw [ev _ (by omega), ev _ (by omega), ev _ (by omega), e0 k (by omega), e1 k (by omega), e2 k (by omega)]
    exact h4 k hk2
  · intro k q q1 q2
    rw [e1 k (by omega), e1 q (by omega)]
    exact h5 k q q1 q2
  · intro j hj2
    rw [ev _ (by omega), ev _ (by omega), ev _ (by omega), ev _ (by omega), e3 j (by omega), e4 j (by omega), e5 j (by omega), e6 j (by omega)]
    exact h6 j hj2
  · intro i hi
    rw [ev _ (by omega), ev _ (by omega), ev _ (by omega), ev _ (by omega), e7 i (by omega)]
    exact h8 i hi
theorem SRq_copy {P B Kp Jm d s : Nat} (hk : Kp ≤ 9) (hj : Jm ≤ 6) {I I' : WI} {F F' : WF} {v v' : Nat → Int32} (hc : CopyR d s I F I' F') (ev : ∀ t, t < 133 → v' t = v t) (h : SRq P B Kp Jm I F s v) : SRq P B Kp Jm I' F' d v' := by
  obtain ⟨c1, c2, -, c3, c4, c5, c6, c7, c8, c9, c10, -⟩ := hc
  exact SR_co hk hj c1 c2 c3 c4 c5 c6 c7 c8 c9 c10 ev h
theorem cp_44_22 (I : WI) (F : WF) : ∃ I' F', f_X6_copyFrom_44_22 I F = some (I', F') ∧ CopyR 1 0 I F I' F' := ⟨_, _, rfl, rfl, rfl, fun n h1 h2 => (upd_ne h2).trans (upd_ne h1), fun t ht => sb_cpy0 ht, fun t ht => sb_cpy0 ht, fun t ht => sb_cpy0 ht, fun t ht => sb_cpy0 ht, fun t ht => sb_cpy0 ht, fun t ht => sb_cpy0 ht, fun t ht => sb_cpy0 ht, fun t ht => sb_cpy0 ht, fun b hb => ((uF_ne _ _ (by omega)).trans ((uF_ne _ _ (by omega)).trans ((uF_ne _ _ (by omega)).trans ((uF_ne _ _ (by omega)).trans ((uF_ne _ _ (by omega)).trans ((uF_ne _ _ (by omega)).trans ((uF_ne _ _ (by omega)).trans (uF_ne _ _ (by omega)))))))))⟩
theorem cp_22_44 (I : WI) (F : WF) : ∃ I' F', f_X6_copyFrom_22_44 I F = some (I', F') ∧ CopyR 0 1 I F I' F' := ⟨_, _, rfl, rfl, rfl, fun n h1 h2 => (upd_ne h2).trans (upd_ne h1), fun t ht => sb_cpy0 ht, fun t ht => sb_cpy0 ht, fun t ht => sb_cpy0 ht, fun t ht => sb_cpy0 ht, fun t ht => sb_cpy0 ht, fun t ht => sb_cpy0 ht, fun t ht => sb_cpy0 ht, fun t ht => sb_cpy0 ht, fun b hb => ((uF_ne _ _ (by omega)).trans ((uF_ne _ _ (by omega)).trans ((uF_ne _ _ (by omega)).trans ((uF_ne _ _ (by omega)).trans ((uF_ne _ _ (by omega)).trans ((uF_ne _ _ (by omega)).trans ((uF_ne _ _ (by omega)).trans (uF_ne _ _ (by omega)))))))))⟩
theorem cp_53_22 (I : WI) (F : WF) : ∃ I' F', f_X6_copyFrom_53_22 I F = some (I', F') ∧ CopyR 2 0 I F I' F' := ⟨_, _, rfl, rfl, rfl, fun n h1 h2 => (upd_ne h2).trans (upd_ne h1), fun t ht => sb_cpy0 ht, fun t ht => sb_cpy0 ht, fun t ht => sb_cpy0 ht, fun t ht => sb_cpy0 ht, fun t ht => sb_cpy0 ht, fun t ht => sb_cpy0 ht, fun t ht => sb_cpy0 ht, fun t ht => sb_cpy0 ht, fun b hb => ((uF_ne _ _ (by omega)).trans ((uF_ne _ _ (by omega)).trans ((uF_ne _ _ (by omega)).trans ((uF_ne _ _ (by omega)).trans ((uF_ne _ _ (by omega)).trans ((uF_ne _ _ (by omega)).trans ((uF_ne _ _ (by omega)).trans (uF_ne _ _ (by omega)))))))))⟩
theorem cp_22_53 (I : WI) (F : WF) : ∃ I' F', f_X6_copyFrom_22_53 I F = some (I', F') ∧ CopyR 0 2 I F I' F' := ⟨_, _, rfl, rfl, rfl, fun n h1 h2 => (upd_ne h2).trans (upd_ne h1), fun t ht => sb_cpy0 ht, fun t ht => sb_cpy0 ht, fun t ht => sb_cpy0 ht, fun t ht => sb_cpy0 ht, fun t ht => sb_cpy0 ht, fun t ht => sb_cpy0 ht, fun t ht => sb_cpy0 ht, fun t ht => sb_cpy0 ht, fun b hb => ((uF_ne _ _ (by omega)).trans ((uF_ne _ _ (by omega)).trans ((uF_ne _ _ (by omega)).trans ((uF_ne _ _ (by omega)).trans ((uF_ne _ _ (by omega)).trans ((uF_ne _ _ (by omega)).trans ((uF_ne _ _ (by omega)).trans (uF_ne _ _ (by omega)))))))))⟩
theorem cp_62_22 (I : WI) (F : WF) : ∃ I' F', f_X6_copyFrom_62_22 I F = some (I', F') ∧ CopyR 3 0 I F I' F' := ⟨_, _, rfl, rfl, rfl, fun n h1 h2 => (upd_ne h2).trans (upd_ne h1), fun t ht => sb_cpy0 ht, fun t ht => sb_cpy0 ht, fun t ht => sb_cpy0 ht, fun t ht => sb_cpy0 ht, fun t ht => sb_cpy0 ht, fun t ht => sb_cpy0 ht, fun t ht => sb_cpy0 ht, fun t ht => sb_cpy0 ht, fun b hb => ((uF_ne _ _ (by omega)).trans ((uF_ne _ _ (by omega)).trans ((uF_ne _ _ (by omega)).trans ((uF_ne _ _ (by omega)).trans ((uF_ne _ _ (by omega)).trans ((uF_ne _ _ (by omega)).trans ((uF_ne _ _ (by omega)).trans (uF_ne _ _ (by omega)))))))))⟩
theorem cp_22_62 (I : WI) (F : WF) : ∃ I' F', f_X6_copyFrom_22_62 I F = some (I', F') ∧ CopyR 0 3 I F I' F' := ⟨_, _, rfl, rfl, rfl, fun n h1 h2 => (upd_ne h2).trans (upd_ne h1), fun t ht => sb_cpy0 ht, fun t ht => sb_cpy0 ht, fun t ht => sb_cpy0 ht, fun t ht => sb_cpy0 ht, fun t ht => sb_cpy0 ht, fun t ht => sb_cpy0 ht, fun t ht => sb_cpy0 ht, fun t ht => sb_cpy0 ht, fun b hb => ((uF_ne _ _ (by omega)).trans ((uF_ne _ _ (by omega)).trans ((uF_ne _ _ (by omega)).trans ((uF_ne _ _ (by omega)).trans ((uF_ne _ _ (by omega)).trans ((uF_ne _ _ (by omega)).trans ((uF_ne _ _ (by omega)).trans (uF_ne _ _ (by omega)))))))))⟩
theorem cp_71_22 (I : WI) (F : WF) : ∃ I' F', f_X6_copyFrom_71_22 I F = some (I', F') ∧ CopyR 4 0 I F I' F' := ⟨_, _, rfl, rfl, rfl, fun n h1 h2 => (upd_ne h2).trans (upd_ne h1), fun t ht => sb_cpy0 ht, fun t ht => sb_cpy0 ht, fun t ht => sb_cpy0 ht, fun t ht => sb_cpy0 ht, fun t ht => sb_cpy0 ht, fun t ht => sb_cpy0 ht, fun t ht => sb_cpy0 ht, fun t ht => sb_cpy0 ht, fun b hb => ((uF_ne _ _ (by omega)).trans ((uF_ne _ _ (by omega)).trans ((uF_ne _ _ (by omega)).trans ((uF_ne _ _ (by omega)).trans ((uF_ne _ _ (by omega)).trans ((uF_ne _ _ (by omega)).trans ((uF_ne _ _ (by omega)).trans (uF_ne _ _ (by omega)))))))))⟩
theorem cp_22_71 (I : WI) (F : WF) : ∃ I' F', f_X6_copyFrom_22_71 I F = some (I', F') ∧ CopyR 0 4 I F I' F' := ⟨_, _, rfl, rfl, rfl, fun n h1 h2 => (upd_ne h2).trans (upd_ne h1), fun t ht => sb_cpy0 ht, fun t ht => sb_cpy0 ht, fun t ht => sb_cpy0 ht, fun t ht => sb_cpy0 ht, fun t ht => sb_cpy0 ht, fun t ht => sb_cpy0 ht, fun t ht => sb_cpy0 ht, fun t ht => sb_cpy0 ht, fun b hb => ((uF_ne _ _ (by omega)).trans ((uF_ne _ _ (by omega)).trans ((uF_ne _ _ (by omega)).trans ((uF_ne _ _ (by omega)).trans ((uF_ne _ _ (by omega)).trans ((uF_ne _ _ (by omega)).trans ((uF_ne _ _ (by omega)).trans (uF_ne _ _ (by omega)))))))))⟩
theorem cp_80_22 (I : WI) (F : WF) : ∃ I' F', f_X6_copyFrom_80_22 I F = some (I', F') ∧ CopyR 5 0 I F I' F' := ⟨_, _, rfl, rfl, rfl, fun n h1 h2 => (upd_ne h2).trans (upd_ne h1), fun t ht => sb_cpy0 ht, fun t ht => sb_cpy0 ht, fun t ht => sb_cpy0 ht, fun t ht => sb_cpy0 ht, fun t ht => sb_cpy0 ht, fun t ht => sb_cpy0 ht, fun t ht => sb_cpy0 ht, fun t ht => sb_cpy0 ht, fun b hb => ((uF_ne _ _ (by omega)).trans ((uF_ne _ _ (by omega)).trans ((uF_ne _ _ (by omega)).trans ((uF_ne _ _ (by omega)).trans ((uF_ne _ _ (by omega)).trans ((uF_ne _ _ (by omega)).trans ((uF_ne _ _ (by omega)).trans (uF_ne _ _ (by omega)))))))))⟩
theorem cp_22_80 (I : WI) (F : WF) : ∃ I' F', f_X6_copyFrom_22_80 I F = some (I', F') ∧ CopyR 0 5 I F I' F' := ⟨_, _, rfl, rfl, rfl, fun n h1 h2 => (upd_ne h2).trans (upd_ne h1), fun t ht => sb_cpy0 ht, fun t ht => sb_cpy0 ht, fun t ht => sb_cpy0 ht, fun t ht => sb_cpy0 ht, fun t ht => sb_cpy0 ht, fun t ht => sb_cpy0 ht, fun t ht => sb_cpy0 ht, fun t ht => sb_cpy0 ht, fun b hb => ((uF_ne _ _ (by omega)).trans ((uF_ne _ _ (by omega)).trans ((uF_ne _ _ (by omega)).trans ((uF_ne _ _ (by omega)).trans ((uF_ne _ _ (by omega)).trans ((uF_ne _ _ (by omega)).trans ((uF_ne _ _ (by omega)).trans (uF_ne _ _ (by omega)))))))))⟩
theorem cp_89_22 (I : WI) (F : WF) : ∃ I' F', f_X6_copyFrom_89_22 I F = some (I', F') ∧ CopyR 6 0 I F I' F' := ⟨_, _, rfl, rfl, rfl, fun n h1 h2 => (upd_ne h2).trans (upd_ne h1), fun t ht => sb_cpy0 ht, fun t ht => sb_cpy0 ht, fun t ht => sb_cpy0 ht, fun t ht => sb_cpy0 ht, fun t ht => sb_cpy0 ht, fun t ht => sb_cpy0 ht, fun t ht => sb_cpy0 ht, fun t ht => sb_cpy0 ht, fun b hb => ((uF_ne _ _ (by omega)).trans ((uF_ne _ _ (by omega)).trans ((uF_ne _ _ (by omega)).trans ((uF_ne _ _ (by omega)).trans ((uF_ne _ _ (by omega)).trans ((uF_ne _ _ (by omega)).trans ((uF_ne _ _ (by omega)).trans (uF_ne _ _ (by omega)))))))))⟩
theorem cp_22_89 (I : WI) (F : WF) : ∃ I' F', f_X6_copyFrom_22_89 I F = some (I', F') ∧ CopyR 0 6 I F I' F' := ⟨_, _, rfl, rfl, rfl, fun n h1 h2 => (upd_ne h2).trans (upd_ne h1), fun t ht => sb_cpy0 ht, fun t ht => sb_cpy0 ht, fun t ht => sb_cpy0 ht, fun t ht => sb_cpy0 ht, fun t ht => sb_cpy0 ht, fun t ht => sb_cpy0 ht, fun t ht => sb_cpy0 ht, fun t ht => sb_cpy0 ht, fun b hb => ((uF_ne _ _ (by omega)).trans ((uF_ne _ _ (by omega)).trans ((uF_ne _ _ (by omega)).trans ((uF_ne _ _ (by omega)).trans ((uF_ne _ _ (by omega)).trans ((uF_ne _ _ (by omega)).trans ((uF_ne _ _ (by omega)).trans (uF_ne _ _ (by omega)))))))))⟩
theorem cp_98_22 (I : WI) (F : WF) : ∃ I' F', f_X6_copyFrom_98_22 I F = some (I', F') ∧ CopyR 7 0 I F I' F' := ⟨_, _, rfl, rfl, rfl, fun n h1 h2 => (upd_ne h2).trans (upd_ne h1), fun t ht => sb_cpy0 ht, fun t ht => sb_cpy0 ht, fun t ht => sb_cpy0 ht, fun t ht => sb_cpy0 ht, fun t ht => sb_cpy0 ht, fun t ht => sb_cpy0 ht, fun t ht => sb_cpy0 ht, fun t ht => sb_cpy0 ht, fun b hb => ((uF_ne _ _ (by omega)).trans ((uF_ne _ _ (by omega)).trans ((uF_ne _ _ (by omega)).trans ((uF_ne _ _ (by omega)).trans ((uF_ne _ _ (by omega)).trans ((uF_ne _ _ (by omega)).trans ((uF_ne _ _ (by omega)).trans (uF_ne _ _ (by omega)))))))))⟩
theorem cp_22_98 (I : WI) (F : WF) : ∃ I' F', f_X6_copyFrom_22_98 I F = some (I', F') ∧ CopyR 0 7 I F I' F' := ⟨_, _, rfl, rfl, rfl, fun n h1 h2 => (upd_ne h2).trans (upd_ne h1), fun t ht => sb_cpy0 ht, fun t ht => sb_cpy0 ht, fun t ht => sb_cpy0 ht, fun t ht => sb_cpy0 ht, fun t ht => sb_cpy0 ht, fun t ht => sb_cpy0 ht, fun t ht => sb_cpy0 ht, fun t ht => sb_cpy0 ht, fun b hb => ((uF_ne _ _ (by omega)).trans ((uF_ne _ _ (by omega)).trans ((uF_ne _ _ (by omega)).trans ((uF_ne _ _ (by omega)).trans ((uF_ne _ _ (by omega)).trans ((uF_ne _ _ (by omega)).trans ((uF_ne _ _ (by omega)).trans (uF_ne _ _ (by omega)))))))))⟩
theorem cp_107_22 (I : WI) (F : WF) : ∃ I' F', f_X6_copyFrom_107_22 I F = some (I', F') ∧ CopyR 8 0 I F I' F' := ⟨_, _, rfl, rfl, rfl, fun n h1 h2 => (upd_ne h2).trans (upd_ne h1), fun t ht => sb_cpy0 ht, fun t ht => sb_cpy0 ht, fun t ht => sb_cpy0 ht, fun t ht => sb_cpy0 ht, fun t ht => sb_cpy0 ht, fun t ht => sb_cpy0 ht, fun t ht => sb_cpy0 ht, fun t ht => sb_cpy0 ht, fun b hb => ((uF_ne _ _ (by omega)).trans ((uF_ne _ _ (by omega)).trans ((uF_ne _ _ (by omega)).trans ((uF_ne _ _ (by omega)).trans ((uF_ne _ _ (by omega)).trans ((uF_ne _ _ (by omega)).trans ((uF_ne _ _ (by omega)).trans (uF_ne _ _ (by omega)))))))))⟩
theorem cp_22_107 (I : WI) (F : WF) : ∃ I' F', f_X6_copyFrom_22_107 I F = some (I', F') ∧ CopyR 0 8 I F I' F' := ⟨_, _, rfl, rfl, rfl, fun n h1 h2 => (upd_ne h2).trans (upd_ne h1), fun t ht => sb_cpy0 ht, fun t ht => sb_cpy0 ht, fun t ht => sb_cpy0 ht, fun t ht => sb_cpy0 ht, fun t ht => sb_cpy0 ht, fun t ht => sb_cpy0 ht, fun t ht => sb_cpy0 ht, fun t ht => sb_cpy0 ht, fun b hb => ((uF_ne _ _ (by omega)).trans ((uF_ne _ _ (by omega)).trans ((uF_ne _ _ (by omega)).trans ((uF_ne _ _ (by omega)).trans ((uF_ne _ _ (by omega)).trans ((uF_ne _ _ (by omega)).trans ((uF_ne _ _ (by omega)).trans (uF_ne _ _ (by omega)))))))))⟩
theorem cp_116_22 (I : WI) (F : WF) : ∃ I' F', f_X6_copyFrom_116_22 I F = some (I', F') ∧ CopyR 9 0 I F I' F' := ⟨_, _, rfl, rfl, rfl, fun n h1 h2 => (upd_ne h2).trans (upd_ne h1), fun t ht => sb_cpy0 ht, fun t ht => sb_cpy0 ht, fun t ht => sb_cpy0 ht, fun t ht => sb_cpy0 ht, fun t ht => sb_cpy0 ht, fun t ht => sb_cpy0 ht, fun t ht => sb_cpy0 ht, fun t ht => sb_cpy0 ht, fun b hb => ((uF_ne _ _ (by omega)).trans ((uF_ne _ _ (by omega)).trans ((uF_ne _ _ (by omega)).trans ((uF_ne _ _ (by omega)).trans ((uF_ne _ _ (by omega)).trans ((uF_ne _ _ (by omega)).trans ((uF_ne _ _ (by omega)).trans (uF_ne _ _ (by omega)))))))))⟩
theorem cp_22_116 (I : WI) (F : WF) : ∃ I' F', f_X6_copyFrom_22_116 I F = some (I', F') ∧ CopyR 0 9 I F I' F' := ⟨_, _, rfl, rfl, rfl, fun n h1 h2 => (upd_ne h2).trans (upd_ne h1), fun t ht => sb_cpy0 ht, fun t ht => sb_cpy0 ht, fun t ht => sb_cpy0 ht, fun t ht => sb_cpy0 ht, fun t ht => sb_cpy0 ht, fun t ht => sb_cpy0 ht, fun t ht => sb_cpy0 ht, fun t ht => sb_cpy0 ht, fun b hb => ((uF_ne _ _ (by omega)).trans ((uF_ne _ _ (by omega)).trans ((uF_ne _ _ (by omega)).trans ((uF_ne _ _ (by omega)).trans ((uF_ne _ _ (by omega)).trans ((uF_ne _ _ (by omega)).trans ((uF_ne _ _ (by omega)).trans (uF_ne _ _ (by omega)))))))))⟩
theorem cp_125_22 (I : WI) (F : WF) : ∃ I' F', f_X6_copyFrom_125_22 I F = some (I', F') ∧ CopyR 10 0 I F I' F' := ⟨_, _, rfl, rfl, rfl, fun n h1 h2 => (upd_ne h2).trans (upd_ne h1), fun t ht => sb_cpy0 ht, fun t ht => sb_cpy0 ht, fun t ht => sb_cpy0 ht, fun t ht => sb_cpy0 ht, fun t ht => sb_cpy0 ht, fun t ht => sb_cpy0 ht, fun t ht => sb_cpy0 ht, fun t ht => sb_cpy0 ht, fun b hb => ((uF_ne _ _ (by omega)).trans ((uF_ne _ _ (by omega)).trans ((uF_ne _ _ (by omega)).trans ((uF_ne _ _ (by omega)).trans ((uF_ne _ _ (by omega)).trans ((uF_ne _ _ (by omega)).trans ((uF_ne _ _ (by omega)).trans (uF_ne _ _ (by omega)))))))))⟩
theorem cp_22_125 (I : WI) (F : WF) : ∃ I' F', f_X6_copyFrom_22_125 I F = some (I', F') ∧ CopyR 0 10 I F I' F' := ⟨_, _, rfl, rfl, rfl, fun n h1 h2 => (upd_ne h2).trans (upd_ne h1), fun t ht => sb_cpy0 ht, fun t ht => sb_cpy0 ht, fun t ht => sb_cpy0 ht, fun t ht => sb_cpy0 ht, fun t ht => sb_cpy0 ht, fun t ht => sb_cpy0 ht, fun t ht => sb_cpy0 ht, fun t ht => sb_cpy0 ht, fun b hb => ((uF_ne _ _ (by omega)).trans ((uF_ne _ _ (by omega)).trans ((uF_ne _ _ (by omega)).trans ((uF_ne _ _ (by omega)).trans ((uF_ne _ _ (by omega)).trans ((uF_ne _ _ (by omega)).trans ((uF_ne _ _ (by omega)).trans (uF_ne _ _ (by omega)))))))))⟩
theorem cp_134_22 (I : WI) (F : WF) : ∃ I' F', f_X6_copyFrom_134_22 I F = some (I', F') ∧ CopyR 11 0 I F I' F' := ⟨_, _, rfl, rfl, rfl, fun n h1 h2 => (upd_ne h2).trans (upd_ne h1), fun t ht => sb_cpy0 ht, fun t ht => sb_cpy0 ht, fun t ht => sb_cpy0 ht, fun t ht => sb_cpy0 ht, fun t ht => sb_cpy0 ht, fun t ht => sb_cpy0 ht, fun t ht => sb_cpy0 ht, fun t ht => sb_cpy0 ht, fun b hb => ((uF_ne _ _ (by omega)).trans ((uF_ne _ _ (by omega)).trans ((uF_ne _ _ (by omega)).trans ((uF_ne _ _ (by omega)).trans ((uF_ne _ _ (by omega)).trans ((uF_ne _ _ (by omega)).trans ((uF_ne _ _ (by omega)).trans (uF_ne _ _ (by omega)))))))))⟩
theorem cp_22_134 (I : WI) (F : WF) : ∃ I' F', f_X6_copyFrom_22_134 I F = some (I', F') ∧ CopyR 0 11 I F I' F' := ⟨_, _, rfl, rfl, rfl, fun n h1 h2 => (upd_ne h2).trans (upd_ne h1), fun t ht => sb_cpy0 ht, fun t ht => sb_cpy0 ht, fun t ht => sb_cpy0 ht, fun t ht => sb_cpy0 ht, fun t ht => sb_cpy0 ht, fun t ht => sb_cpy0 ht, fun t ht => sb_cpy0 ht, fun t ht => sb_cpy0 ht, fun b hb => ((uF_ne _ _ (by omega)).trans ((uF_ne _ _ (by omega)).trans ((uF_ne _ _ (by omega)).trans ((uF_ne _ _ (by omega)).trans ((uF_ne _ _ (by omega)).trans ((uF_ne _ _ (by omega)).trans ((uF_ne _ _ (by omega)).trans (uF_ne _ _ (by omega)))))))))⟩
theorem cp_143_22 (I : WI) (F : WF) : ∃ I' F', f_X6_copyFrom_143_22 I F = some (I', F') ∧ CopyR 12 0 I F I' F' := ⟨_, _, rfl, rfl, rfl, fun n h1 h2 => (upd_ne h2).trans (upd_ne h1), fun t ht => sb_cpy0 ht, fun t ht => sb_cpy0 ht, fun t ht => sb_cpy0 ht, fun t ht => sb_cpy0 ht, fun t ht => sb_cpy0 ht, fun t ht => sb_cpy0 ht, fun t ht => sb_cpy0 ht, fun t ht => sb_cpy0 ht, fun b hb => ((uF_ne _ _ (by omega)).trans ((uF_ne _ _ (by omega)).trans ((uF_ne _ _ (by omega)).trans ((uF_ne _ _ (by omega)).trans ((uF_ne _ _ (by omega)).trans ((uF_ne _ _ (by omega)).trans ((uF_ne _ _ (by omega)).trans (uF_ne _ _ (by omega)))))))))⟩
theorem cp_22_143 (I : WI) (F : WF) : ∃ I' F', f_X6_copyFrom_22_143 I F = some (I', F') ∧ CopyR 0 12 I F I' F' := ⟨_, _, rfl, rfl, rfl, fun n h1 h2 => (upd_ne h2).trans (upd_ne h1), fun t ht => sb_cpy0 ht, fun t ht => sb_cpy0 ht, fun t ht => sb_cpy0 ht, fun t ht => sb_cpy0 ht, fun t ht => sb_cpy0 ht, fun t ht => sb_cpy0 ht, fun t ht => sb_cpy0 ht, fun t ht => sb_cpy0 ht, fun b hb => ((uF_ne _ _ (by omega)).trans ((uF_ne _ _ (by omega)).trans ((uF_ne _ _ (by omega)).trans ((uF_ne _ _ (by omega)).trans ((uF_ne _ _ (by omega)).trans ((uF_ne _ _ (by omega)).trans ((uF_ne _ _ (by omega)).trans (uF_ne _ _ (by omega)))))))))⟩
theorem cp_152_22 (I : WI) (F : WF) : ∃ I' F', f_X6_copyFrom_152_22 I F = some (I', F') ∧ CopyR 13 0 I F I' F' := ⟨_, _, rfl, rfl, rfl, fun n h1 h2 => (upd_ne h2).trans (upd_ne h1), fun t ht => sb_cpy0 ht, fun t ht => sb_cpy0 ht, fun t ht => sb_cpy0 ht, fun t ht => sb_cpy0 ht, fun t ht => sb_cpy0 ht, fun t ht => sb_cpy0 ht, fun t ht => sb_cpy0 ht, fun t ht => sb_cpy0 ht, fun b hb => ((uF_ne _ _ (by omega)).trans ((uF_ne _ _ (by omega)).trans ((uF_ne _ _ (by omega)).trans ((uF_ne _ _ (by omega)).trans ((uF_ne _ _ (by omega)).trans ((uF_ne _ _ (by omega)).trans ((uF_ne _ _ (by omega)).trans (uF_ne _ _ (by omega)))))))))⟩
theorem cp_22_152 (I : WI) (F : WF) : ∃ I' F', f_X6_copyFrom_22_152 I F = some (I', F') ∧ CopyR 0 13 I F I' F' := ⟨_, _, rfl, rfl, rfl, fun n h1 h2 => (upd_ne h2).trans (upd_ne h1), fun t ht => sb_cpy0 ht, fun t ht => sb_cpy0 ht, fun t ht => sb_cpy0 ht, fun t ht => sb_cpy0 ht, fun t ht => sb_cpy0 ht, fun t ht => sb_cpy0 ht, fun t ht => sb_cpy0 ht, fun t ht => sb_cpy0 ht, fun b hb => ((uF_ne _ _ (by omega)).trans ((uF_ne _ _ (by omega)).trans ((uF_ne _ _ (by omega)).trans ((uF_ne _ _ (by omega)).trans ((uF_ne _ _ (by omega)).trans ((uF_ne _ _ (by omega)).trans ((uF_ne _ _ (by omega)).trans (uF_ne _ _ (by omega)))))))))⟩
theorem cp_161_22 (I : WI) (F : WF) : ∃ I' F', f_X6_copyFrom_161_22 I F = some (I', F') ∧ CopyR 14 0 I F I' F' := ⟨_, _, rfl, rfl, rfl, fun n h1 h2 => (upd_ne h2).trans (upd_ne h1), fun t ht => sb_cpy0 ht, fun t ht => sb_cpy0 ht, fun t ht => sb_cpy0 ht, fun t ht => sb_cpy0 ht, fun t ht => sb_cpy0 ht, fun t ht => sb_cpy0 ht, fun t ht => sb_cpy0 ht, fun t ht => sb_cpy0 ht, fun b hb => ((uF_ne _ _ (by omega)).trans ((uF_ne _ _ (by omega)).trans ((uF_ne _ _ (by omega)).trans ((uF_ne _ _ (by omega)).trans ((uF_ne _ _ (by omega)).trans ((uF_ne _ _ (by omega)).trans ((uF_ne _ _ (by omega)).trans (uF_ne _ _ (by omega)))))))))⟩
theorem cp_22_161 (I : WI) (F : WF) : ∃ I' F', f_X6_copyFrom_22_161 I F = some (I', F') ∧ CopyR 0 14 I F I' F' := ⟨_, _, rfl, rfl, rfl, fun n h1 h2 => (upd_ne h2).trans (upd_ne h1), fun t ht => sb_cpy0 ht, fun t ht => sb_cpy0 ht, fun t ht => sb_cpy0 ht, fun t ht => sb_cpy0 ht, fun t ht => sb_cpy0 ht, fun t ht => sb_cpy0 ht, fun t ht => sb_cpy0 ht, fun t ht => sb_cpy0 ht, fun b hb => ((uF_ne _ _ (by omega)).trans ((uF_ne _ _ (by omega)).trans ((uF_ne _ _ (by omega)).trans ((uF_ne _ _ (by omega)).trans ((uF_ne _ _ (by omega)).trans ((uF_ne _ _ (by omega)).trans ((uF_ne _ _ (by omega)).trans (uF_ne _ _ (by omega)))))))))⟩
theorem cp_170_22 (I : WI) (F : WF) : ∃ I' F', f_X6_copyFrom_170_22 I F = some (I', F') ∧ CopyR 15 0 I F I' F' := ⟨_, _, rfl, rfl, rfl, fun n h1 h2 => (upd_ne h2).trans (upd_ne h1), fun t ht => sb_cpy0 ht, fun t ht => sb_cpy0 ht, fun t ht => sb_cpy0 ht, fun t ht => sb_cpy0 ht, fun t ht => sb_cpy0 ht, fun t ht => sb_cpy0 ht, fun t ht => sb_cpy0 ht, fun t ht => sb_cpy0 ht, fun b hb => ((uF_ne _ _ (by omega)).trans ((uF_ne _ _ (by omega)).trans ((uF_ne _ _ (by omega)).trans ((uF_ne _ _ (by omega)).trans ((uF_ne _ _ (by omega)).trans ((uF_ne _ _ (by omega)).trans ((uF_ne _ _ (by omega)).trans (uF_ne _ _ (by omega)))))))))⟩
theorem cp_22_170 (I : WI) (F : WF) : ∃ I' F', f_X6_copyFrom_22_170 I F = some (I', F') ∧ CopyR 0 15 I F I' F' := ⟨_, _, rfl, rfl, rfl, fun n h1 h2 => (upd_ne h2).trans (upd_ne h1), fun t ht => sb_cpy0 ht, fun t ht => sb_cpy0 ht, fun t ht => sb_cpy0 ht, fun t ht => sb_cpy0 ht, fun t ht => sb_cpy0 ht, fun t ht => sb_cpy0 ht, fun t ht => sb_cpy0 ht, fun t ht => sb_cpy0 ht, fun b hb => ((uF_ne _ _ (by omega)).trans ((uF_ne _ _ (by omega)).trans ((uF_ne _ _ (by omega)).trans ((uF_ne _ _ (by omega)).trans ((uF_ne _ _ (by omega)).trans ((uF_ne _ _ (by omega)).trans ((uF_ne _ _ (by omega)).trans (uF_ne _ _ (by omega)))))))))⟩
theorem cp_179_22 (I : WI) (F : WF) : ∃ I' F', f_X6_copyFrom_179_22 I F = some (I', F') ∧ CopyR 16 0 I F I' F' := ⟨_, _, rfl, rfl, rfl, fun n h1 h2 => (upd_ne h2).trans (upd_ne h1), fun t ht => sb_cpy0 ht, fun t ht => sb_cpy0 ht, fun t ht => sb_cpy0 ht, fun t ht => sb_cpy0 ht, fun t ht => sb_cpy0 ht, fun t ht => sb_cpy0 ht, fun t ht => sb_cpy0 ht, fun t ht => sb_cpy0 ht, fun b hb => ((uF_ne _ _ (by omega)).trans ((uF_ne _ _ (by omega)).trans ((uF_ne _ _ (by omega)).trans ((uF_ne _ _ (by omega)).trans ((uF_ne _ _ (by omega)).trans ((uF_ne _ _ (by omega)).trans ((uF_ne _ _ (by omega)).trans (uF_ne _ _ (by omega)))))))))⟩
theorem cp_22_179 (I : WI) (F : WF) : ∃ I' F', f_X6_copyFrom_22_179 I F = some (I', F') ∧ CopyR 0 16 I F I' F' := ⟨_, _, rfl, rfl, rfl, fun n h1 h2 => (upd_ne h2).trans (upd_ne h1), fun t ht => sb_cpy0 ht, fun t ht => sb_cpy0 ht, fun t ht => sb_cpy0 ht, fun t ht => sb_cpy0 ht, fun t ht => sb_cpy0 ht, fun t ht => sb_cpy0 ht, fun t ht => sb_cpy0 ht, fun t ht => sb_cpy0 ht, fun b hb => ((uF_ne _ _ (by omega)).trans ((uF_ne _ _ (by omega)).trans ((uF_ne _ _ (by omega)).trans ((uF_ne _ _ (by omega)).trans ((uF_ne _ _ (by omega)).trans ((uF_ne _ _ (by omega)).trans ((uF_ne _ _ (by omega)).trans (uF_ne _ _ (by omega)))))))))⟩
theorem cp_190_22 (I : WI) (F : WF) : ∃ I' F', f_X6_copyFrom_190_22 I F = some (I', F') ∧ CopyR 17 0 I F I' F' := ⟨_, _, rfl, rfl, rfl, fun n h1 h2 => (upd_ne h2).trans (upd_ne h1), fun t ht => sb_cpy0 ht, fun t ht => sb_cpy0 ht, fun t ht => sb_cpy0 ht, fun t ht => sb_cpy0 ht, fun t ht => sb_cpy0 ht, fun t ht => sb_cpy0 ht, fun t ht => sb_cpy0 ht, fun t ht => sb_cpy0 ht, fun b hb => ((uF_ne _ _ (by omega)).trans ((uF_ne _ _ (by omega)).trans ((uF_ne _ _ (by omega)).trans ((uF_ne _ _ (by omega)).trans ((uF_ne _ _ (by omega)).trans ((uF_ne _ _ (by omega)).trans ((uF_ne _ _ (by omega)).trans (uF_ne _ _ (by omega)))))))))⟩
theorem cp_22_190 (I : WI) (F : WF) : ∃ I' F', f_X6_copyFrom_22_190 I F = some (I', F') ∧ CopyR 0 17 I F I' F' := ⟨_, _, rfl, rfl, rfl, fun n h1 h2 => (upd_ne h2).trans (upd_ne h1), fun t ht => sb_cpy0 ht, fun t ht => sb_cpy0 ht, fun t ht => sb_cpy0 ht, fun t ht => sb_cpy0 ht, fun t ht => sb_cpy0 ht, fun t ht => sb_cpy0 ht, fun t ht => sb_cpy0 ht, fun t ht => sb_cpy0 ht, fun b hb => ((uF_ne _ _ (by omega)).trans ((uF_ne _ _ (by omega)).trans ((uF_ne _ _ (by omega)).trans ((uF_ne _ _ (by omega)).trans ((uF_ne _ _ (by omega)).trans ((uF_ne _ _ (by omega)).trans ((uF_ne _ _ (by omega)).trans (uF_ne _ _ (by omega)))))))))⟩
theorem cp_200_22 (I : WI) (F : WF) : ∃ I' F', f_X6_copyFrom_200_22 I F = some (I', F') ∧ CopyR 18 0 I F I' F' := ⟨_, _, rfl, rfl, rfl, fun n h1 h2 => (upd_ne h2).trans (upd_ne h1), fun t ht => sb_cpy0 ht, fun t ht => sb_cpy0 ht, fun t ht => sb_cpy0 ht, fun t ht => sb_cpy0 ht, fun t ht => sb_cpy0 ht, fun t ht => sb_cpy0 ht, fun t ht => sb_cpy0 ht, fun t ht => sb_cpy0 ht, fun b hb => ((uF_ne _ _ (by omega)).trans ((uF_ne _ _ (by omega)).trans ((uF_ne _ _ (by omega)).trans ((uF_ne _ _ (by omega)).trans ((uF_ne _ _ (by omega)).trans ((uF_ne _ _ (by omega)).trans ((uF_ne _ _ (by omega)).trans (uF_ne _ _ (by omega)))))))))⟩
theorem cp_22_200 (I : WI) (F : WF) : ∃ I' F', f_X6_copyFrom_22_200 I F = some (I', F') ∧ CopyR 0 18 I F I' F' := ⟨_, _, rfl, rfl, rfl, fun n h1 h2 => (upd_ne h2).trans (upd_ne h1), fun t ht => sb_cpy0 ht, fun t ht => sb_cpy0 ht, fun t ht => sb_cpy0 ht, fun t ht => sb_cpy0 ht, fun t ht => sb_cpy0 ht, fun t ht => sb_cpy0 ht, fun t ht => sb_cpy0 ht, fun t ht => sb_cpy0 ht, fun b hb => ((uF_ne _ _ (by omega)).trans ((uF_ne _ _ (by omega)).trans ((uF_ne _ _ (by omega)).trans ((uF_ne _ _ (by omega)).trans ((uF_ne _ _ (by omega)).trans ((uF_ne _ _ (by omega)).trans ((uF_ne _ _ (by omega)).trans (uF_ne _ _ (by omega)))))))))⟩
/-- what remember leaves -/
def RemR (nx z : Nat) (I : WI) (F : WF) (I' : WI) (F' : WF) : Prop := ∃ I1, CopyR (1 + nx) 0 I F I1 F' ∧ I' 62 = nI ((nx + 1) % 16) ∧ I' 61 = nI (if 16 < z + 1 then 16 else z + 1) ∧ ∀ n, ¬ n = 61 → ¬ n = 62 → I' n = I1 n
theorem rem_fin {nx z : Nat} {I I1 : WI} {F F1 : WF} (h62 : I 62 = nI nx) (h61 : I 61 = nI z) (hnx : nx < 16) (hz : z ≤ 16) (hc : CopyR (1 + nx) 0 I F I1 F1) : ∃ I' F', (bnd (upd I1 62 (((I1 62) + (nI 1)) - ((I1 62) + (nI 1)) / (nI 16) * (nI 16))) fun I2 => bnd (upd I2 61 (if (nI 16) < ((I2 61) + (nI 1)) then (nI 16) else ((I2 61) + (nI 1)))) fun I3 => some (I3, F1)) = some (I', F') ∧ RemR nx z I F I' F' := by
  have e62 : I1 62 = nI nx := (hc.2.2.1 62 (by omega) (by omega)).trans h62
  have e61 : I1 61 = nI z := (hc.2.2.1 61 (by omega) (by omega)).trans h61
  refine ⟨_, _, rfl, I1, hc, ?_, ?_, ?_⟩
  · show upd I1 62 _ 62 = _
    rw [upd_same, e62, nI_add, remN (by omega) (by omega) (by omega)]
    try rw [upd_same]
  · show (if nI 16 < upd I1 62 _ 61 + nI 1 then nI 16 else upd I1 62 _ 61 + nI 1) = _
    rw [upd_ne (by omega), e61, nI_add]
    by_cases h : 16 < z + 1
    · rw [if_pos ((nI_ltI (by omega) (by omega)).mpr h), if_pos h]
    · rw [if_neg (fun q => h ((nI_ltI (by omega) (by omega)).mp q)), if_neg h]
  · intro n h1 h2
    exact (upd_ne h1).trans (upd_ne h2)
set_option maxHeartbeats 1000000 in
theorem remember_c {nx z : Nat} {I : WI} {F : WF} (h62 : I 62 = nI nx) (h61 : I 61 = nI z) (hnx : nx < 16) (hz : z ≤ 16) : ∃ I' F', f_X3_remember_42_22 I F = some (I', F') ∧ RemR nx z I F I' F' := by
  rw [nf_f_X3_remember_42_22, h62]
  rcases (show nx = 0 ∨ nx = 1 ∨ nx = 2 ∨ nx = 3 ∨ nx = 4 ∨ nx = 5 ∨ nx = 6 ∨ nx = 7 ∨ nx = 8 ∨ nx = 9 ∨ nx = 10 ∨ nx = 11 ∨ nx = 12 ∨ nx = 13 ∨ nx = 14 ∨ nx = 15 by omega) with rfl | rfl | rfl | rfl | rfl | rfl | rfl | rfl | rfl | rfl | rfl | rfl | rfl | rfl | rfl | rfl
  · obtain ⟨I1, F1, e, hc⟩ := cp_44_22 I F
    rw [ if_pos rfl, e, ob_some]
    exact rem_fin h62 h61 (by omega) hz hc
  · obtain ⟨I1, F1, e, hc⟩ := cp_53_22 I F
    rw [if_neg (by decide),  if_pos rfl, e, ob_some]
    exact rem_fin h62 h61 (by omega) hz hc
  · obtain ⟨I1, F1, e, hc⟩ := cp_62_22 I F
    rw [if_neg (by decide), if_neg (by decide),  if_pos rfl, e, ob_some]
    exact rem_fin h62 h61 (by omega) hz hc
  · obtain ⟨I1, F1, e, hc⟩ := cp_71_22 I F
    rw [if_neg (by decide), if_neg (by decide), if_neg (by decide),  if_pos rfl, e, ob_some]
    exact rem_fin h62 h61 (by omega) hz hc
  · obtain ⟨I1, F1, e, hc⟩ := cp_80_22 I F
    rw [if_neg (by decide), if_neg (by decide), if_neg (by decide), if_neg (by decide),  if_pos rfl, e, ob_some]
    exact rem_fin h62 h61 (by omega) hz hc
  · obtain ⟨I1, F1, e, hc⟩ := cp_89_22 I F
    rw [if_neg (by decide), if_neg (by decide), if_neg (by decide), if_neg (by decide), if_neg (by decide),  if_pos rfl, e, ob_some]
    exact rem_fin h62 h61 (by omega) hz hc
  · obtain ⟨I1, F1, e, hc⟩ := cp_98_22 I F
    rw [if_neg (by decide), if_neg (by decide), if_neg (by decide), if_neg (by decide), if_neg (by decide), if_neg (by decide),  if_pos rfl, e, ob_some]
    exact rem_fin h62 h61 (by omega) hz hc
  · obtain ⟨I1, F1, e, hc⟩ := cp_107_22 I F
    rw [if_neg (by decide), if_neg (by decide), if_neg (by decide), if_neg (by decide), if_neg (by decide), if_neg (by decide), if_neg (by decide),  if_pos rfl, e, ob_some]
    exact rem_fin h62 h61 (by omega) hz hc
  · obtain ⟨I1, F1, e, hc⟩ := cp_116_22 I F
    rw [if_neg (by decide), if_neg (by decide), if_neg (by decide), if_neg (by decide), if_neg (by decide), if_neg (by decide), if_neg (by decide), if_neg (by decide),  if_pos rfl, e, ob_some]
    exact rem_fin h62 h61 (by omega) hz hc
  · obtain ⟨I1, F1, e, hc⟩ := cp_125_22 I F
    rw [if_neg (by decide), if_neg (by decide), if_neg (by decide), if_neg (by decide), if_neg (by decide), if_neg (by decide), if_neg (by decide), if_neg (by decide), if_neg (by decide),  if_pos rfl, e, ob_some]
    exact rem_fin h62 h61 (by omega) hz hc
  · obtain ⟨I1, F1, e, hc⟩ := cp_134_22 I F
    rw [if_neg (by decide), if_neg (by decide), if_neg (by decide), if_neg (by decide), if_neg (by decide), if_neg (by decide), if_neg (by decide), if_neg (by decide), if_neg (by decide), if_neg (by decide),  if_pos rfl, e, ob_some]
    exact rem_fin h62 h61 (by omega) hz hc
  · obtain ⟨I1, F1, e, hc⟩ := cp_143_22 I F
    rw [if_neg (by decide), if_neg (by decide), if_neg (by decide), if_neg (by decide), if_neg (by decide), if_neg (by decide), if_neg (by decide), if_neg (by decide), if_neg (by decide), if_neg (by decide), if_neg (by decide),  if_pos rfl, e, ob_some]
    exact rem_fin h62 h61 (by omega) hz hc
  · obtain ⟨I1, F1, e, hc⟩ := cp_152_22 I F
    rw [if_neg (by decide), if_neg (by decide), if_neg (by decide), if_neg (by decide), if_neg (by decide), if_neg (by decide), if_neg (by decide), if_neg (by decide), if_neg (by decide), if_neg (by decide), if_neg (by decide), if_neg (by decide),  if_pos rfl, e, ob_some]
    exact rem_fin h62 h61 (by omega) hz hc
  · obtain ⟨I1, F1, e, hc⟩ := cp_161_22 I F
    rw [if_neg (by decide), if_neg (by decide), if_neg (by decide), if_neg (by decide), if_neg (by decide), if_neg (by decide), if_neg (by decide), if_neg (by decide), if_neg (by decide), if_neg (by decide), if_neg (by decide), if_neg (by decide), if_neg (by decide),  if_pos rfl, e, ob_some]
    exact rem_fin h62 h61 (by omega) hz hc
  · obtain ⟨I1, F1, e, hc⟩ := cp_170_22 I F
    rw [if_neg (by decide), if_neg (by decide), if_neg (by decide), if_neg (by decide), if_neg (by decide), if_neg (by decide), if_neg (by decide), if_neg (by decide), if_neg (by decide), if_neg (by decide), if_neg (by decide), if_neg (by decide), if_neg (by decide), if_neg (by decide),  if_pos rfl, e, ob_some]
    exact rem_fin h62 h61 (by omega) hz hc
  · obtain ⟨I1, F1, e, hc⟩ := cp_179_22 I F
    rw [if_neg (by decide), if_neg (by decide), if_neg (by decide), if_neg (by decide), if_neg (by decide), if_neg (by decide), if_neg (by decide), if_neg (by decide), if_neg (by decide), if_neg (by decide), if_neg (by decide), if_neg (by decide), if_neg (by decide), if_neg (by decide), if_neg (by decide),  if_pos rfl, e, ob_some]
    exact rem_fin h62 h61 (by omega) hz hc
def BackR (nx z : Nat) (I : WI) (F : WF) (I' : WI) (F' : WF) : Prop := ∃ I1, CopyR 0 (1 + (nx + 15) % 16) I F I1 F' ∧ I' 62 = nI ((nx + 15) % 16) ∧ I' 61 = nI (z - 1) ∧ ∀ n, ¬ n = 61 → ¬ n = 62 → I' n = I1 n
theorem back_fin {nx z q : Nat} {I I1 : WI} {F F1 : WF} (h61 : I 61 = nI z) (hz : z ≤ 16) (hz1 : 1 ≤ z) (hq : q = (nx + 15) % 16) (hc : CopyR 0 (1 + q) (upd I 62 (nI q)) F I1 F1) : ∃ I' F', (bnd (upd I1 61 ((I1 61) - (nI 1))) fun I3 => some (I3, F1)) = some (I', F') ∧ BackR nx z I F I' F' := by
  subst hq
  obtain ⟨c1, c2, c3, c4⟩ := hc
  refine ⟨_, _, rfl, upd I1 62 (I 62), ⟨?_, ?_, ?_, c4⟩, ?_, ?_, ?_⟩
  · rw [upd_ne (by omega), c1, upd_ne (by omega)]
  · rw [upd_ne (by omega), c2, upd_ne (by omega)]
  · intro n h1 h2
    by_cases hn : n = 62
    · subst hn; rw [upd_same]
    · rw [upd_ne hn, c3 n h1 h2, upd_ne hn]
  · show upd I1 61 _ 62 = _
    rw [upd_ne (by omega), c3 62 (by omega) (by omega), upd_same]
  · show upd I1 61 _ 61 = _
    rw [upd_same, c3 61 (by omega) (by omega), upd_ne (by omega), h61, subN hz1]
  · intro n h1 h2
    show upd I1 61 _ n = _
    rw [upd_ne h1, upd_ne h2]
set_option maxHeartbeats 1000000 in
theorem bringBack_c {nx z : Nat} {I : WI} {F : WF} (h62 : I 62 = nI nx) (h61 : I 61 = nI z) (hnx : nx < 16) (hz : z ≤ 16) (hz1 : 1 ≤ z) : ∃ I' F', f_X3_bringBack_42_22 I F = some (I', F') ∧ BackR nx z I F I' F' := by
  have e : nI nx + nI 16 - nI 1 - (nI nx + nI 16 - nI 1) / nI 16 * nI 16 = nI ((nx + 15) % 16) := by
    rw [nI_add, subN (by omega), remN (by omega) (by omega) (by omega), show nx + 16 - 1 = nx + 15 by omega]
  rw [nf_f_X3_bringBack_42_22, h62, e, bnd_eq, upd_same]
  obtain ⟨q, hq⟩ : ∃ q, q = (nx + 15) % 16 := ⟨_, rfl⟩
  rw [← hq]
  have hq16 : q < 16 := by omega
  rcases (show q = 0 ∨ q = 1 ∨ q = 2 ∨ q = 3 ∨ q = 4 ∨ q = 5 ∨ q = 6 ∨ q = 7 ∨ q = 8 ∨ q = 9 ∨ q = 10 ∨ q = 11 ∨ q = 12 ∨ q = 13 ∨ q = 14 ∨ q = 15 by omega) with rfl | rfl | rfl | rfl | rfl | rfl | rfl | rfl | rfl | rfl | rfl | rfl | rfl | rfl | rfl | rfl
  · obtain ⟨I1, F1, e, hc⟩ := cp_22_44 (upd I 62 (nI 0)) F
    rw [ if_pos rfl, e, ob_some]
    exact back_fin h61 hz hz1 hq hc
  · obtain ⟨I1, F1, e, hc⟩ := cp_22_53 (upd I 62 (nI 1)) F
    rw [if_neg (by decide),  if_pos rfl, e, ob_some]
    exact back_fin h61 hz hz1 hq hc
  · obtain ⟨I1, F1, e, hc⟩ := cp_22_62 (upd I 62 (nI 2)) F
    rw [if_neg (by decide), if_neg (by decide),  if_pos rfl, e, ob_some]
    exact back_fin h61 hz hz1 hq hc
  · obtain ⟨I1, F1, e, hc⟩ := cp_22_71 (upd I 62 (nI 3)) F
    rw [if_neg (by decide), if_neg (by decide), if_neg (by decide),  if_pos rfl, e, ob_some]
    exact back_fin h61 hz hz1 hq hc
  · obtain ⟨I1, F1, e, hc⟩ := cp_22_80 (upd I 62 (nI 4)) F
    rw [if_neg (by decide), if_neg (by decide), if_neg (by decide), if_neg (by decide),  if_pos rfl, e, ob_some]
    exact back_fin h61 hz hz1 hq hc
  · obtain ⟨I1, F1, e, hc⟩ := cp_22_89 (upd I 62 (nI 5)) F
    rw [if_neg (by decide), if_neg (by decide), if_neg (by decide), if_neg (by decide), if_neg (by decide),  if_pos rfl, e, ob_some]
    exact back_fin h61 hz hz1 hq hc
  · obtain ⟨I1, F1, e, hc⟩ := cp_22_98 (upd I 62 (nI 6)) F
    rw [if_neg (by decide), if_neg (by decide), if_neg (by decide), if_neg (by decide), if_neg (by decide), if_neg (by decide),  if_pos rfl, e, ob_some]
    exact back_fin h61 hz hz1 hq hc
  · obtain ⟨I1, F1, e, hc⟩ := cp_22_107 (upd I 62 (nI 7)) F
    rw [if_neg (by decide), if_neg (by decide), if_neg (by decide), if_neg (by decide), if_neg (by decide), if_neg (by decide), if_neg (by decide),  if_pos rfl, e, ob_some]
    exact back_fin h61 hz hz1 hq hc
  · obtain ⟨I1, F1, e, hc⟩ := cp_22_116 (upd I 62 (nI 8)) F
    rw [if_neg (by decide), if_neg (by decide), if_neg (by decide), if_neg (by decide), if_neg (by decide), if_neg (by decide), if_neg (by decide), if_neg (by decide),  if_pos rfl, e, ob_some]
    exact back_fin h61 hz hz1 hq hc
  · obtain ⟨I1, F1, e, hc⟩ := cp_22_125 (upd I 62 (nI 9)) F
    rw [if_neg (by decide), if_neg (by decide), if_neg (by decide), if_neg (by decide), if_neg (by decide), if_neg (by decide), if_neg (by decide), if_neg (by decide), if_neg (by decide),  if_pos rfl, e, ob_some]
    exact back_fin h61 hz hz1 hq hc
  · obtain ⟨I1, F1, e, hc⟩ := cp_22_134 (upd I 62 (nI 10)) F
    rw [if_neg (by decide), if_neg (by decide), if_neg (by decide), if_neg (by decide), if_neg (by decide), if_neg (by decide), if_neg (by decide), if_neg (by decide), if_neg (by decide), if_neg (by decide),  if_pos rfl, e, ob_some]
    exact back_fin h61 hz hz1 hq hc
  · obtain ⟨I1, F1, e, hc⟩ := cp_22_143 (upd I 62 (nI 11)) F
    rw [if_neg (by decide), if_neg (by decide), if_neg (by decide), if_neg (by decide), if_neg (by decide), if_neg (by decide), if_neg (by decide), if_neg (by decide), if_neg (by decide), if_neg (by decide), if_neg (by decide),  if_pos rfl, e, ob_some]
    exact back_fin h61 hz hz1 hq hc
  · obtain ⟨I1, F1, e, hc⟩ := cp_22_152 (upd I 62 (nI 12)) F
    rw [if_neg (by decide), if_neg (by decide), if_neg (by decide), if_neg (by decide), if_neg (by decide), if_neg (by decide), if_neg (by decide), if_neg (by decide), if_neg (by decide), if_neg (by decide), if_neg (by decide), if_neg (by decide),  if_pos rfl, e, ob_some]
    exact back_fin h61 hz hz1 hq hc
  · obtain ⟨I1, F1, e, hc⟩ := cp_22_161 (upd I 62 (nI 13)) F
    rw [if_neg (by decide), if_neg (by decide), if_neg (by decide), if_neg (by decide), if_neg (by decide), if_neg (by decide), if_neg (by decide), if_neg (by decide), if_neg (by decide), if_neg (by decide), if_neg (by decide), if_neg (by decide), if_neg (by decide),  if_pos rfl, e, ob_some]
    exact back_fin h61 hz hz1 hq hc
  · obtain ⟨I1, F1, e, hc⟩ := cp_22_170 (upd I 62 (nI 14)) F
    rw [if_neg (by decide), if_neg (by decide), if_neg (by decide), if_neg (by decide), if_neg (by decide), if_neg (by decide), if_neg (by decide), if_neg (by decide), if_neg (by decide), if_neg (by decide), if_neg (by decide), if_neg (by decide), if_neg (by decide), if_neg (by decide),  if_pos rfl, e, ob_some]
    exact back_fin h61 hz hz1 hq hc
  · obtain ⟨I1, F1, e, hc⟩ := cp_22_179 (upd I 62 (nI 15)) F
    rw [if_neg (by decide), if_neg (by decide), if_neg (by decide), if_neg (by decide), if_neg (by decide), if_neg (by decide), if_neg (by decide), if_neg (by decide), if_neg (by decide), if_neg (by decide), if_neg (by decide), if_neg (by decide), if_neg (by decide), if_neg (by decide), if_neg (by decide),  if_pos rfl, e, ob_some]
    exact back_fin h61 hz hz1 hq hc
