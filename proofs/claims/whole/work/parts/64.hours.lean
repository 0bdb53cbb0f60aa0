/-! pure layer: leap, hour -/
theorem rem_P {P B Kp Jm : Nat} {I : WI} {F : WF} {J : WI} {K : WF} (h : InvP P B Kp Jm I F J K) : ∃ I1 F1 J1 K1, f_X3_remember_42_22 I F = some (I1, F1) ∧ f_X11_notes (upd J 0 (nI 0)) K = some (J1, K1) ∧ InvP P B Kp Jm I1 F1 J1 K1 ∧ (∀ n, n < 2 ∨ (38 ≤ n ∧ ¬ n = 61 ∧ ¬ n = 62) → I1 n = I n) ∧ (∀ a, a < 8 ∨ 152 ≤ a → F1 a = F a) ∧ (∀ a, ¬ a = 6 → K1 a = K a) := by
  obtain ⟨hT, hN, hS, hX, hf, hSe, hB, hP, hI⟩ := h
  obtain ⟨I1, F1, J1, K1, er, en, hP1, hM1, gI, gF, gJ, gK⟩ := rem_both hT hN hP hI
  refine ⟨I1, F1, J1, K1, er, en, ⟨⟨⟨(gI 48 (by omega)).trans hT.1.1, (gI 49 (by omega)).trans hT.1.2.1, (gI 50 (by omega)).trans hT.1.2.2.1, (gI 51 (by omega)).trans hT.1.2.2.2⟩, ?_⟩, ?_, ?_, ?_, ?_, ?_, ?_, hP1, hM1⟩, gI, gF, gK⟩
  · rw [gF 161 (by omega), gF 162 (by omega), gF 163 (by omega), gF 164 (by omega), gF 165 (by omega), gF 166 (by omega), gF 167 (by omega), gF 168 (by omega), gK 2 (by omega)]; exact hT.2
  · exact InvN_of ⟨gI 0 (by omega), gI 1 (by omega), gF 0 (by omega), gF 1 (by omega), gF 2 (by omega), gF 3 (by omega), gF 4 (by omega), gF 5 (by omega), gF 6 (by omega), gF 7 (by omega), gK 3 (by omega)⟩ hN
  · rw [gI 47 (by omega), gK 3 (by omega)]; exact hS
  · rw [gI 38 (by omega), gJ 1 (by omega) (by omega), gF 160 (by omega), gK 0 (by omega)]; exact hX
  · rw [gI 40 (by omega), gJ 5 (by omega) (by omega)]; exact hf
  · rw [gI 57 (by omega), gI 58 (by omega), gI 59 (by omega), gJ 7 (by omega) (by omega), gK 7 (by omega), gK 8 (by omega)]; exact hSe
  · rw [gI 60 (by omega), gJ 8 (by omega) (by omega), gF 174 (by omega), gF 175 (by omega), gK 9 (by omega), gK 10 (by omega)]; exact hB
theorem step_leap : ∀ (I : WI) (F : WF) (J : WI) (K : WF) (x1 : Int32) (x2 : Int32), Inv I F J K → ∃ (a : Int32 × WI × WF) (b : Int32 × WI × WF), f_X10_leap x1 x2 I F = some a ∧ f_X11_leap x1 x2 J K = some b ∧ a.1 = b.1 ∧ Inv a.2.1 a.2.2 b.2.1 b.2.2 := fun I F J K x1 x2 h0 => by
  obtain ⟨P, B, Kp, Jm, h⟩ := id h0
  have hT := h.1
  have hN := h.2.1
  have hs := T_sz hT
  rw [nf_f_X10_leap, nf_f_X11_leap]
  by_cases h1 : inR x1 Jm
  · obtain ⟨j, hj, rfl⟩ := h1
    by_cases h2 : inR x2 B
    · obtain ⟨b, hb, rfl⟩ := h2
      obtain ⟨⟨x, hx, ex⟩, -, -, -, mx, -⟩ := hN.2.2.2.2.2.1 j hj
      rw [ex] at mx
      obtain ⟨y, hy, et, eb, em, -⟩ | ⟨et, em, -⟩ := beyond_both (J := upd J 0 (nI 0)) hT hb hx
      · obtain ⟨I1, F1, J1, K1, er, en, hI1, gI, gF, gK⟩ := rem_P h
        have et1 : f_X7_touches_13 (nI b) (nI x) I1 F1 = some (nI 1) := by
          rw [nf_f_X7_touches_13, gF 161 (by omega), gF 162 (by omega)]; rw [nf_f_X7_touches_13] at et; exact et
        obtain ⟨c, I2, F2, K2, hc, q1, q2, q3, -⟩ := jump_both hI1 hj hb hx ((congrFun (gF 3 (by omega)) j).trans ex) et1 (Or.inl rfl)
        refine ⟨(nI c, I2, F2), (nI c, J1, K2), ?_, ?_, rfl, ⟨P, B, Kp, Jm, q3⟩⟩
        · rcases c2 hc with rfl | rfl <;> simp (disch := omega) [bnd_eq, ob_some, eqN, hasJ_in hT hj, hasB_in hT hb, ixN, nI_clamp, ex, et, er, q1]
        · simp (disch := omega) [bnd_eq, ob_some, eqN, isJ_in hT hj, isB_in hT hb, ixN, nI_clamp, nI_add, mx, em, en, m1N, q2]
      · refine ⟨(-1000000003, I, F), (-1000000003, upd J 0 (nI 0), K), ?_, ?_, rfl, Inv_J0 h0⟩ <;> simp (disch := omega) [bnd_eq, ob_some, eqN, hasJ_in hT hj, isJ_in hT hj, hasB_in hT hb, isB_in hT hb, ixN, nI_clamp, nI_add, ex, mx, et, em]
    · refine ⟨(-1000000001, I, F), (-1000000001, upd J 0 (nI 0), K), ?_, ?_, rfl, Inv_J0 h0⟩ <;> simp (disch := omega) [bnd_eq, ob_some, eqN, hasJ_in hT hj, isJ_in hT hj, hasB_out hT h2, isB_out hT h2]
  · refine ⟨(-1000000001, I, F), (-1000000001, upd J 0 (nI 0), K), ?_, ?_, rfl, Inv_J0 h0⟩
    · simp [hasJ_out hT h1, ob_some]
    · simp [bnd_eq, isJ_out hT h1, ob_some]
theorem SR_hr {P B Kp Jm n : Nat} {h rs : Int32} {ne po ti pl db ov dr ro v : Nat → Int32} (hk9 : Kp ≤ 9) (hj6 : Jm ≤ 6) (hn : n ≤ 9060) (hs : SR P B Kp Jm h rs ne po ti pl db ov dr ro v) : SR P B Kp Jm (nI n) rs ne po ti pl db ov dr ro (upd v 51 (nI n)) := by
  obtain ⟨h1, h2, h3, h4, h5, h6, r, hr, h7, h8⟩ := hs
  refine ⟨⟨n, hn, rfl⟩, upd_same, ?_, ?_, h5, ?_, r, hr, h7, ?_⟩
  · rw [upd_ne (by omega)]; exact h3
  · intro q hq
    rw [upd_ne (by omega), upd_ne (by omega), upd_ne (by omega)]
    exact h4 q hq
  · intro j hj
    rw [upd_ne (by omega), upd_ne (by omega), upd_ne (by omega), upd_ne (by omega)]
    exact h6 j hj
  · intro i hi
    rw [upd_ne (by omega), upd_ne (by omega), upd_ne (by omega), upd_ne (by omega)]
    exact h8 i hi
theorem less_c {t e : Nat} (ht : t < 2 ^ 30) (he : e < 4) : (if nI 0 < nI t - nI e then nI t - nI e else nI 0) = nI (t - e) := by
  by_cases q : e < t
  · rw [subN (by omega), if_pos (by rw [ltN (by omega) (by omega)]; omega)]
  · have : ∀ e, e < 4 → ∀ t, t < 4 → ¬ e < t → (if nI 0 < nI t - nI e then nI t - nI e else nI 0) = nI (t - e) := by decide
    exact this e he t (by omega) q
theorem less_m {t e : Nat} (ht : t < 2 ^ 30) (he : e < 4) : (if nI 0 ≤ nI t - nI e then nI t - nI e else nI 0) = nI (t - e) := by
  by_cases q : e < t
  · rw [subN (by omega), if_pos (by rw [leN (by omega) (by omega)]; omega)]
  · have : ∀ e, e < 4 → ∀ t, t < 4 → ¬ e < t → (if nI 0 ≤ nI t - nI e then nI t - nI e else nI 0) = nI (t - e) := by decide
    exact this e he t (by omega) q
theorem tire_both {P B Kp Jm : Nat} {I : WI} {J : WI} (cc : WF → Option (WI × WF)) (cm : WF → Option WF) : ∀ (m k n n' : Nat) (F K : WF), InvP P B Kp Jm I F J K → k + m = Kp → m < n → m < n' → ∃ F' K', L_X1_oneHour_12_2 cc I n (nI k) F = cc F' ∧ L_X11_oneHour_2 cm J n' (nI k) K = cm K' ∧ InvP P B Kp Jm I F' J K' := by
  intro m
  induction m with
  | zero =>
    intro k n n' F K h h1 h2 h3
    have hs := T_sz h.1
    obtain ⟨n, rfl⟩ : ∃ z, n = z + 1 := ⟨n - 1, by omega⟩
    obtain ⟨n', rfl⟩ : ∃ z, n' = z + 1 := ⟨n' - 1, by omega⟩
    refine ⟨F, K, ?_, ?_, h⟩
    · rw [nf_L_X1_oneHour_12_2, h.1.1.2.2.1, if_pos (by rw [leN (by omega) (by omega)]; omega)]
    · rw [nf_L_X11_oneHour_2, h.1.2.2.1.2.2.1, if_pos (by rw [leN (by omega) (by omega)]; omega)]
  | succ m ih =>
    intro k n n' F K h h1 h2 h3
    have hs := T_sz h.1
    obtain ⟨n, rfl⟩ : ∃ z, n = z + 1 := ⟨n - 1, by omega⟩
    obtain ⟨n', rfl⟩ : ∃ z, n' = z + 1 := ⟨n' - 1, by omega⟩
    obtain ⟨-, -, ⟨t, ht, et⟩, -, mp, mt⟩ := h.2.1.2.2.2.1 k (by omega)
    rw [et] at mt
    have hgo : ∀ e, e < 4 → (if F 1 k = (-1 : Int32) then nI 3 else nI 1) = nI e → ∃ F' K', L_X1_oneHour_12_2 cc I (n + 1) (nI k) F = cc F' ∧ L_X11_oneHour_2 cm J (n' + 1) (nI k) K = cm K' ∧ InvP P B Kp Jm I F' J K' := by
      intro e he hee
      have hn : InvP P B Kp Jm I (uF F 2 (upd (F 2) k (nI (t - e)))) J (uF K 3 (upd (K 3) (33 + k) (nI (t - e)))) := by
        refine InvP_chg h (fun _ _ _ => rfl) (fun a ha => uF_ne _ _ (by omega)) (fun _ _ => rfl) (fun a ha => uF_ne _ _ ha) ?_ (InvN_of ⟨rfl, rfl, rfl, rfl, rfl, rfl, rfl, rfl, rfl, rfl, rfl⟩ (SR_ti (k := k) (n := t - e) hs.2.2.1 hs.2.2.2 (by omega) (by omega) h.2.1))
        rw [uF_same, upd_ne (by omega)]; exact h.2.2.1
      obtain ⟨F', K', a1, a2, a3⟩ := ih (k + 1) n n' _ _ hn (by omega) (by omega) (by omega)
      refine ⟨F', K', ?_, ?_, a3⟩
      · rw [nf_L_X1_oneHour_12_2, h.1.1.2.2.1, if_neg (by rw [leN (by omega) (by omega)]; omega)]
        simp (disch := omega) only [jn_ite, ixN, nI_clamp, nI_add]
        simp (disch := omega) only [ixN, nI_clamp, bnd_eq, hee, et, less_c]
        exact a1
      · rw [nf_L_X11_oneHour_2, h.1.2.2.1.2.2.1, if_neg (by rw [leN (by omega) (by omega)]; omega)]
        simp (disch := omega) only [jn_ite, ixN, nI_clamp, nI_add]
        simp (disch := omega) only [ixN, nI_clamp, mp, hee, mt, bnd_eq, less_m]
        exact a2
    by_cases q : F 1 k = (-1 : Int32)
    · exact hgo 3 (by omega) (if_pos q)
    · exact hgo 1 (by omega) (if_neg q)
theorem even_m {d : Nat} (h : d < 2 ^ 30) : nI d - (nI d - nI d / nI 2 * nI 2) = nI (d - d % 2) := by
  rw [remN (by omega) (by omega) (by omega), subN (by omega)]
theorem calm_both {P B Kp Jm : Nat} {I : WI} {J : WI} (cc : WF → Option (WI × WF)) (cm : WF → Option WF) : ∀ (m k n n' : Nat) (F K : WF), InvP P B Kp Jm I F J K → k + m = Jm → m < n → m < n' → ∃ F' K', L_X1_oneHour_12_64 cc I n (nI k) F = cc F' ∧ L_X11_oneHour_67 cm J n' (nI k) K = cm K' ∧ InvP P B Kp Jm I F' J K' := by
  intro m
  induction m with
  | zero =>
    intro k n n' F K h h1 h2 h3
    have hs := T_sz h.1
    obtain ⟨n, rfl⟩ : ∃ z, n = z + 1 := ⟨n - 1, by omega⟩
    obtain ⟨n', rfl⟩ : ∃ z, n' = z + 1 := ⟨n' - 1, by omega⟩
    refine ⟨F, K, ?_, ?_, h⟩
    · rw [nf_L_X1_oneHour_12_64, h.1.1.2.2.2, if_pos (by rw [leN (by omega) (by omega)]; omega)]
    · rw [nf_L_X11_oneHour_67, h.1.2.2.1.2.2.2, if_pos (by rw [leN (by omega) (by omega)]; omega)]
  | succ m ih =>
    intro k n n' F K h h1 h2 h3
    have hs := T_sz h.1
    obtain ⟨n, rfl⟩ : ∃ z, n = z + 1 := ⟨n - 1, by omega⟩
    obtain ⟨n', rfl⟩ : ∃ z, n' = z + 1 := ⟨n' - 1, by omega⟩
    obtain ⟨-, ⟨d, hd, ed⟩, -, -, -, md, -⟩ := h.2.1.2.2.2.2.2.1 k (by omega)
    rw [ed] at md
    have hn : InvP P B Kp Jm I (uF F 4 (upd (F 4) k (nI (d - d % 2)))) J (uF K 3 (upd (K 3) (6 + k) (nI (d - d % 2)))) := by
      refine InvP_chg h (fun _ _ _ => rfl) (fun a ha => uF_ne _ _ (by omega)) (fun _ _ => rfl) (fun a ha => uF_ne _ _ ha) ?_ (InvN_of ⟨rfl, rfl, rfl, rfl, rfl, rfl, rfl, rfl, rfl, rfl, rfl⟩ (SR_db (k := k) (n := d - d % 2) hs.2.2.1 hs.2.2.2 (by omega) (by omega) h.2.1))
      rw [uF_same, upd_ne (by omega)]; exact h.2.2.1
    obtain ⟨F', K', a1, a2, a3⟩ := ih (k + 1) n n' _ _ hn (by omega) (by omega) (by omega)
    refine ⟨F', K', ?_, ?_, a3⟩
    · rw [nf_L_X1_oneHour_12_64, h.1.1.2.2.2, if_neg (by rw [leN (by omega) (by omega)]; omega)]
      simp (disch := omega) only [ixN, nI_clamp, bnd_eq, ed, remN, nI_add]
      rw [← a1]
      by_cases q : d % 2 = 1
      · rw [if_pos (by rw [q]), subN (by omega), q]
      · have e2 : upd (F 4) k (nI (d - d % 2)) = F 4 := by
          rw [show d - d % 2 = d by omega, ← ed]
          funext t
          by_cases e : t = k
          · subst e; rw [upd_same]
          · rw [upd_ne e]
        rw [if_neg (by rw [eqN (by omega) (by omega)]; exact q), e2, uF_id]
    · rw [nf_L_X11_oneHour_67, h.1.2.2.1.2.2.2, if_neg (by rw [leN (by omega) (by omega)]; omega)]
      simp (disch := omega) only [ixN, nI_clamp, nI_add, md, even_m, bnd_eq]
      exact a2
theorem hour_both {P B Kp Jm n : Nat} {I : WI} {F : WF} {J : WI} {K : WF} (h : InvP P B Kp Jm I F J K) (e0 : I 0 = nI n) (hn : n < 9060) : ∃ I' F' K', f_X1_oneHour_12 I F = some (I', F') ∧ f_X11_oneHour J K = some K' ∧ InvP P B Kp Jm I' F' J K' ∧ I' 0 = nI (n + 1) := by
  have hs := T_sz h.1
  rw [nf_f_X1_oneHour_12, nf_f_X11_oneHour, bnd_eq, bnd_eq]
  obtain ⟨F1, K1, a1, a2, h1⟩ := tire_both (fun F_580 => bnd (nI 0) fun x1_581 => L_X1_oneHour_12_64 (fun F_586 => bnd (upd I 0 ((I 0) + (nI 1))) fun I_587 => some (I_587, F_586)) I FU x1_581 F_580) (fun F_1429 => bnd (nI 0) fun x1_1430 => L_X11_oneHour_67 (fun F_1433 => bnd (uF F_1433 3 (upd (F_1433 3) 51 ((F_1433 3 51) + (nI 1)))) fun F_1434 => some F_1434) J FU x1_1430 F_1429) Kp 0 FU FU F K h (by omega) (by rw [FU_big]; omega) (by rw [FU_big]; omega)
  rw [a1, a2, bnd_eq, bnd_eq]
  obtain ⟨F2, K2, b1, b2, h2⟩ := calm_both (fun F_586 => bnd (upd I 0 ((I 0) + (nI 1))) fun I_587 => some (I_587, F_586)) (fun F_1433 => bnd (uF F_1433 3 (upd (F_1433 3) 51 ((F_1433 3 51) + (nI 1)))) fun F_1434 => some F_1434) Jm 0 FU FU F1 K1 h1 (by omega) (by rw [FU_big]; omega) (by rw [FU_big]; omega)
  rw [b1, b2, bnd_eq, bnd_eq, h2.2.1.2.1, e0, nI_add]
  refine ⟨_, _, _, rfl, rfl, ?_, upd_same⟩
  refine InvP_chg h2 (fun n a _ => upd_ne (by omega)) (fun a ha => rfl) (fun _ _ => rfl) (fun a ha => uF_ne _ _ ha) ?_ (InvN_of ⟨upd_same, rfl, rfl, rfl, rfl, rfl, rfl, rfl, rfl, rfl, rfl⟩ (SR_hr (n := n + 1) hs.2.2.1 hs.2.2.2 (by omega) h2.2.1))
  rw [uF_same, upd_ne (by omega), upd_ne (by omega)]; exact h2.2.2.1
theorem hours_both {P B Kp Jm N h0 : Nat} (hN : N ≤ 60) (hh : h0 ≤ 9000) {J : WI} (cc : WI → WF → Option (Int32 × WI × WF)) (cm : WF → Option (Int32 × WI × WF)) : ∀ (m i n n' : Nat) (I : WI) (F K : WF), InvP P B Kp Jm I F J K → I 0 = nI (h0 + i) → i + m = N → m < n → m < n' → ∃ I' F' K', L_X10_passHours_56 cc (nI N) (nI 0) n (nI i) I F = cc I' F' ∧ L_X11_hour_23 cm (nI N) J n' (nI i) K = cm K' ∧ InvP P B Kp Jm I' F' J K' := by
  intro m
  induction m with
  | zero =>
    intro i n n' I F K h e0 h1 h2 h3
    obtain ⟨n, rfl⟩ : ∃ z, n = z + 1 := ⟨n - 1, by omega⟩
    obtain ⟨n', rfl⟩ : ∃ z, n' = z + 1 := ⟨n' - 1, by omega⟩
    refine ⟨I, F, K, ?_, ?_, h⟩
    · rw [nf_L_X10_passHours_56, if_pos (by rw [leN (by omega) (by omega)]; omega)]
    · rw [nf_L_X11_hour_23, if_pos (by rw [leN (by omega) (by omega)]; omega)]
  | succ m ih =>
    intro i n n' I F K h e0 h1 h2 h3
    obtain ⟨n, rfl⟩ : ∃ z, n = z + 1 := ⟨n - 1, by omega⟩
    obtain ⟨n', rfl⟩ : ∃ z, n' = z + 1 := ⟨n' - 1, by omega⟩
    obtain ⟨I1, F1, K1, a1, a2, a3, a4⟩ := hour_both h e0 (by omega)
    obtain ⟨I2, F2, K2, b1, b2, b3⟩ := ih (i + 1) n n' I1 F1 K1 a3 a4 (by omega) (by omega) (by omega)
    refine ⟨I2, F2, K2, ?_, ?_, b3⟩
    · rw [nf_L_X10_passHours_56, if_neg (by rw [leN (by omega) (by omega)]; omega), bnd_eq, if_pos rfl]
      simp only [a1, ob_some, bnd_eq, nI_add]
      exact b1
    · rw [nf_L_X11_hour_23, if_neg (by rw [leN (by omega) (by omega)]; omega), a2, ob_some, bnd_eq, nI_add]
      exact b2
theorem may_ok {P B Kp Jm N h0 : Nat} {I : WI} {F : WF} {J : WI} {K : WF} (hT : InvT P B Kp Jm I F K) (m51 : K 3 51 = nI h0) (hN1 : 1 ≤ N) (hN2 : N ≤ 60) (hP : ¬ P = 0) (hh : h0 ≤ 9000) : f_X11_mayGo (nI N) J K = some (nI 0) := by
  have hs := T_sz hT
  rw [nf_f_X11_mayGo, in_in hN1 hN2 (by omega), ob_some, if_neg (show ¬ nI 1 = nI 0 by decide), hT.2.2.1.1, if_neg (by rw [eqN (by omega) (by omega)]; exact hP), m51, if_pos (by rw [leN (by omega) (by omega)]; exact hh)]
/-- hour and drift: all but the loop -/
theorem pass_both {P B Kp Jm : Nat} {I : WI} {F : WF} {J : WI} {K : WF} (h : InvP P B Kp Jm I F J K) (x1 x2 : Int32) : (∃ w, f_X10_passHours x1 x2 I F = some (w, I, F) ∧ f_X11_mayGo x1 (upd J 0 (nI 0)) K = some w ∧ ¬ w = nI 0) ∨ ∃ N h0, N ≤ 60 ∧ h0 ≤ 9000 ∧ x1 = nI N ∧ I 0 = nI h0 ∧ f_X11_mayGo x1 (upd J 0 (nI 0)) K = some (nI 0) ∧ f_X10_passHours x1 x2 I F = Option.bind (f_X3_remember_42_22 I F) fun c_569 => bnd (nI 0) fun x3_570 => L_X10_passHours_56 (fun I_603 F_604 => some ((I_603 0), I_603, F_604)) x1 x2 FU x3_570 c_569.1 c_569.2 := by
  have hT := h.1
  have hs := T_sz hT
  obtain ⟨⟨h0, h9, e0⟩, m51, -⟩ := id h.2.1
  rw [e0] at m51
  rw [nf_f_X10_passHours, nf_f_X11_mayGo]
  by_cases h1 : inR x1 61 ∧ ¬ x1 = nI 0
  · obtain ⟨⟨N, hN, rfl⟩, hz⟩ := h1
    have hz2 : ¬ N = 0 := fun e => hz (by rw [e])
    rw [if_neg (by rw [ltN (by omega) (by omega)]; omega), if_pos (by rw [leN (by omega) (by omega)]; omega), in_in (by omega) (by omega) (by omega), ob_some, if_neg (show ¬ nI 1 = nI 0 by decide), hT.2.2.1.1, hT.1.1, e0, m51]
    by_cases q : P = 0
    · left
      refine ⟨-1000000003, ?_, ?_, by decide⟩
      · rw [if_pos (by rw [q])]
      · rw [if_pos (by rw [q])]
    · have q' : ¬ nI P = nI 0 := by rw [eqN (by omega) (by omega)]; exact q
      simp only [if_neg q']
      by_cases q2 : h0 ≤ 9000
      · right
        refine ⟨N, h0, by omega, q2, rfl, rfl, ?_, ?_⟩
        · rw [if_pos (by rw [leN (by omega) (by omega)]; exact q2)]
        · rw [if_pos (by rw [leN (by omega) (by omega)]; exact q2)]
      · left
        refine ⟨-1000000004, ?_, ?_, by decide⟩
        · rw [if_neg (by rw [leN (by omega) (by omega)]; exact q2)]
        · rw [if_neg (by rw [leN (by omega) (by omega)]; exact q2)]
  · left
    refine ⟨-1000000002, ?_, ?_, by decide⟩
    · by_cases q : x1 < nI 1
      · rw [if_pos q]
      · rw [if_neg q, if_neg]
        intro q2
        obtain ⟨N, hN, rfl⟩ := nI_of2 (x := x1) (M := nI 60) (n := 60) (by decide) (fun q3 => q (Int32.lt_trans q3 (by decide))) q2
        refine h1 ⟨⟨N, by omega, rfl⟩, fun e => q ?_⟩
        rw [e]; decide
    · rw [in_out (by omega) (fun j q1 q2 e => h1 ⟨⟨j, by omega, e⟩, fun e2 => ?_⟩) (by omega)]
      · rfl
      · rw [e, eqN (by omega) (by omega)] at e2; omega
theorem step_hour : ∀ (I : WI) (F : WF) (J : WI) (K : WF) (x1 : Int32), Inv I F J K → ∃ (a : Int32 × WI × WF) (b : Int32 × WI × WF), f_X10_hour x1 I F = some a ∧ f_X11_hour x1 J K = some b ∧ a.1 = b.1 ∧ Inv a.2.1 a.2.2 b.2.1 b.2.2 := fun I F J K x1 h0 => by
  obtain ⟨P, B, Kp, Jm, h⟩ := id h0
  rw [nf_f_X10_hour, nf_f_X11_hour, bnd_eq]
  rcases pass_both h x1 (nI 0) with ⟨w, a1, a2, a3⟩ | ⟨N, hh, hN, h9, rfl, e0, a2, a1⟩
  · refine ⟨(w, I, F), (w, upd J 0 (nI 0), K), ?_, ?_, rfl, Inv_J0 h0⟩
    · rw [a1, ob_some]
    · rw [a2, ob_some, bnd_eq, if_neg a3]
  · obtain ⟨I1, F1, J1, K1, er, en, hI1, gI, gF, gK⟩ := rem_P h
    obtain ⟨I2, F2, K2, b1, b2, b3⟩ := hours_both (J := J1) (h0 := hh) hN h9 (fun I_603 F_604 => some ((I_603 0), I_603, F_604)) (fun F_1437 => some ((F_1437 3 51), J1, F_1437)) N 0 FU FU I1 F1 K1 hI1 ((gI 0 (by omega)).trans e0) (by omega) (by rw [FU_big]; omega) (by rw [FU_big]; omega)
    refine ⟨(I2 0, I2, F2), (K2 3 51, J1, K2), ?_, ?_, b3.2.1.2.1.symm, ⟨P, B, Kp, Jm, b3⟩⟩
    · rw [a1, er, ob_some, bnd_eq]
      simp only [b1, ob_some]
    · rw [a2, ob_some, bnd_eq, if_pos rfl, en, ob_some, bnd_eq]
      exact b2
