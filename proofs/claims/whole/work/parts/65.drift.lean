/-! pure layer: drift -/
def sd (s : Nat) : Nat := (s * 1103515245 + 12345) % 2147483648
theorem sd_lt (s : Nat) : sd s < 2 ^ 31 := Nat.mod_lt _ (by decide)
theorem lN_and (a b : Nat) : lN a &&& lN b = lN (a &&& b) := by
  apply Int64.toBitVec_inj.mp
  show BitVec.ofNat 64 a &&& BitVec.ofNat 64 b = BitVec.ofNat 64 (a &&& b)
  exact BitVec.ofNat_and.symm
theorem sd_big {s : Nat} (h : s < 2 ^ 31) : s * 1103515245 + 12345 < 2 ^ 63 := by
  have : s * 1103515245 ≤ 2 ^ 31 * 1103515245 := Nat.mul_le_mul (by omega) (Nat.le_refl _)
  omega
theorem sd_c {s : Nat} (h : s < 2 ^ 31) : (((((nI s).toInt64) * (1103515245 : Int64)) + (12345 : Int64)) &&& (2147483647 : Int64)).toInt32 = nI (sd s) := by
  rw [nI_l h, show (1103515245 : Int64) = lN 1103515245 from rfl, lN_mul, show (12345 : Int64) = lN 12345 from rfl, lN_add, show (2147483647 : Int64) = lN 2147483647 from rfl, lN_and, lN_i, sd, show (2147483647 : Nat) = 2 ^ 31 - 1 from rfl, Nat.and_two_pow_sub_one_eq_mod]
theorem sd_m {s : Nat} (h : s < 2 ^ 31) : (((((nI s).toInt64) * (1103515245 : Int64)) + (12345 : Int64)) - ((((nI s).toInt64) * (1103515245 : Int64)) + (12345 : Int64)) / (2147483648 : Int64) * (2147483648 : Int64)).toInt32 = nI (sd s) := by
  rw [nI_l h, show (1103515245 : Int64) = lN 1103515245 from rfl, lN_mul, show (12345 : Int64) = lN 12345 from rfl, lN_add, show (2147483648 : Int64) = lN 2147483648 from rfl, pk_lRem (sd_big h) (by omega) (by omega), lN_i, sd]
theorem nzN {α : Type} {q : Nat} (h1 : 1 ≤ q) (h2 : q < 2 ^ 31) (e : Option α) : nzI (nI q) e = e := by
  rw [nzI, if_neg]
  intro e2
  rw [show (0 : Int32) = nI 0 from rfl, eqN (by omega) (by omega)] at e2
  omega
theorem draw_c {I : WI} {F : WF} {s q : Nat} (e : I 47 = nI s) (h : s < 2 ^ 31) (h1 : 1 ≤ q) (h2 : q < 2 ^ 31) : f_X1_draw_12 (nI q) I F = some (nI (sd s / 65536 % q), upd I 47 (nI (sd s))) := by
  have h3 := sd_lt s
  rw [nf_f_X1_draw_12, bnd_eq, if_neg (by rw [leN (by omega) (by omega)]; omega), nzN h1 h2, upd_same, e, sd_c h, divN h3 (by omega) (by omega), remN (by omega) (by omega) (by omega)]
theorem draw_m {J : WI} {K : WF} {s q : Nat} (e : K 3 133 = nI s) (h : s < 2 ^ 31) (h1 : 1 ≤ q) (h2 : q < 2 ^ 31) : f_X11_draw (nI q) J K = some (nI (sd s / 65536 % q), uF K 3 (upd (K 3) 133 (nI (sd s)))) := by
  have h3 := sd_lt s
  rw [nf_f_X11_draw, bnd_eq, bnd_eq, bnd_eq, nzN h1 h2, uF_same, upd_same, e, sd_m h, divN h3 (by omega) (by omega), remN (by omega) (by omega) (by omega)]
theorem draw_P {P B Kp Jm s : Nat} {I : WI} {F : WF} {J : WI} {K : WF} (h : InvP P B Kp Jm I F J K) (hs : s < 2 ^ 31) : InvP P B Kp Jm (upd I 47 (nI s)) F J (uF K 3 (upd (K 3) 133 (nI s))) := by
  have hz := T_sz h.1
  refine InvP_chg h (fun n a b => upd_ne b) (fun _ _ => rfl) (fun _ _ => rfl) (fun a ha => uF_ne _ _ ha) ?_ ?_
  · rw [upd_same, uF_same, upd_same]; exact ⟨rfl, nI_pos hs⟩
  · exact SRq_at (q := 0) hz.2.2.1 hz.2.2.2 (I := I) (F := F) (v := K 3) (fun n hn => upd_ne (by omega)) (fun _ _ _ => rfl) (fun t ht => by rw [uF_same, upd_ne (by omega)]) h.2.1
theorem drawn_both {α : Type} {P B Kp Jm : Nat} {I : WI} {F : WF} {J : WI} {K : WF} (h : InvP P B Kp Jm I F J K) (jj : WF → Option α) : ∃ I' F' K', f_X1_drawnJump_12 I F = some (I', F') ∧ (if (K 2 3) ≤ (nI 0) then (jj K)
  else (if (K 2 1) ≤ (nI 0) then (jj K)
  else (Option.bind (f_X11_draw (K 2 3) J K) fun c_1451 =>
  bnd c_1451.1 fun x4_1452 =>
  Option.bind (f_X11_draw (c_1451.2 2 1) J c_1451.2) fun c_1453 =>
  bnd c_1453.1 fun x5_1454 =>
  Option.bind (f_X11_draw (nI 100) J c_1453.2) fun c_1455 =>
  bnd c_1455.1 fun x6_1456 =>
  ixG ((nI 0) + x4_1452) 134 (
  Option.bind (f_X11_beyond x5_1454 (c_1455.2 3 ((nI 0) + x4_1452).toNatClampNeg) J c_1455.2) fun c_1457 =>
  if c_1457 = (-1 : Int32) then (jj c_1455.2)
  else (ixG ((nI 31) + x5_1454) 70 (
  bnd (fun (s_1459 : Int32) => Option.bind (f_X11_leaps x4_1452 x5_1454 s_1459 J c_1455.2) fun c_1460 =>
  jj c_1460.2) fun j122_1458 =>
  if (c_1455.2 2 ((nI 31) + x5_1454).toNatClampNeg) ≤ x6_1456 then (j122_1458 (nI 0))
  else (j122_1458 (nI 1)))))))) = jj K' ∧ InvP P B Kp Jm I' F' J K' ∧ I' 0 = I 0 := by
  have hT := h.1
  have hs := T_sz hT
  rw [nf_f_X1_drawnJump_12, hT.1.2.2.2, hT.1.2.1, hT.2.2.1.2.2.2, hT.2.2.1.2.1]
  by_cases q1 : Jm = 0
  · refine ⟨I, F, K, ?_, ?_, h, rfl⟩
    · rw [if_pos (by rw [q1])]
    · rw [if_pos (by rw [q1, leN (by omega) (by omega)]; omega)]
  · by_cases q2 : B = 0
    · refine ⟨I, F, K, ?_, ?_, h, rfl⟩
      · rw [if_neg (by rw [eqN (by omega) (by omega)]; omega), if_pos (by rw [q2])]
      · rw [if_neg (by rw [leN (by omega) (by omega)]; omega), if_pos (by rw [q2, leN (by omega) (by omega)]; omega)]
    · obtain ⟨s, hs31, e47⟩ := nI_of h.2.2.1.2
      have m133 : K 3 133 = nI s := h.2.2.1.1.symm.trans e47
      have l1 := sd_lt s
      have l2 := sd_lt (sd s)
      have l3 := sd_lt (sd (sd s))
      have p1 := draw_P h l1
      have p2 := draw_P p1 l2
      have p3 := draw_P p2 l3
      have hj : sd s / 65536 % Jm < Jm := Nat.mod_lt _ (by omega)
      have hb : sd (sd s) / 65536 % B < B := Nat.mod_lt _ (by omega)
      have hl : sd (sd (sd s)) / 65536 % 100 < 100 := Nat.mod_lt _ (by omega)
      have d1 := draw_c (F := F) (q := Jm) e47 hs31 (by omega) (by omega)
      have d2 := draw_c (I := upd I 47 (nI (sd s))) (F := F) (q := B) upd_same l1 (by omega) (by omega)
      have d3 := draw_c (I := upd (upd I 47 (nI (sd s))) 47 (nI (sd (sd s)))) (F := F) (q := 100) upd_same l2 (by omega) (by omega)
      have g1 := draw_m (J := J) (q := Jm) m133 hs31 (by omega) (by omega)
      have g2 := draw_m (J := J) (K := uF K 3 (upd (K 3) 133 (nI (sd s)))) (q := B) (by rw [uF_same, upd_same]) l1 (by omega) (by omega)
      have g3 := draw_m (J := J) (K := uF (uF K 3 (upd (K 3) 133 (nI (sd s)))) 3 (upd (uF K 3 (upd (K 3) 133 (nI (sd s))) 3) 133 (nI (sd (sd s))))) (q := 100) (by rw [uF_same, upd_same]) l2 (by omega) (by omega)
      rw [if_neg (by rw [eqN (by omega) (by omega)]; omega), if_neg (by rw [eqN (by omega) (by omega)]; omega), if_neg (by rw [leN (by omega) (by omega)]; omega), if_neg (by rw [leN (by omega) (by omega)]; omega), d1, g1]
      simp only [ob_some, bnd_eq]
      rw [show upd I 47 (nI (sd s)) 49 = nI B from hT.1.2.1, show uF K 3 (upd (K 3) 133 (nI (sd s))) 2 1 = nI B from hT.2.2.1.2.1, d2, g2]
      simp only [ob_some, bnd_eq]
      rw [d3, g3]
      simp only [ob_some, bnd_eq]
      generalize sd s / 65536 % Jm = j at hj ⊢
      generalize sd (sd s) / 65536 % B = b at hb ⊢
      generalize sd (sd (sd s)) / 65536 % 100 = l at hl ⊢
      have i30 : upd (upd (upd I 47 (nI (sd s))) 47 (nI (sd (sd s)))) 47 (nI (sd (sd (sd s)))) 0 = I 0 := rfl
      generalize upd (upd (upd I 47 (nI (sd s))) 47 (nI (sd (sd s)))) 47 (nI (sd (sd (sd s)))) = I3 at p3 i30 ⊢
      generalize (uF (uF (uF K 3 (upd (K 3) 133 (nI (sd s)))) 3 (upd (uF K 3 (upd (K 3) 133 (nI (sd s))) 3) 133 (nI (sd (sd s))))) 3 (upd (uF (uF K 3 (upd (K 3) 133 (nI (sd s)))) 3 (upd (uF K 3 (upd (K 3) 133 (nI (sd s))) 3) 133 (nI (sd (sd s)))) 3) 133 (nI (sd (sd (sd s)))))) = K3 at p3 ⊢
      have hT3 := p3.1
      obtain ⟨⟨x, hx, ex⟩, -, -, -, mx, -⟩ := p3.2.1.2.2.2.2.2.1 j hj
      rw [ex] at mx
      obtain ⟨-, -, ⟨v, hv, ev⟩, -, -, -, mv⟩ := hT3.2.2.2.1 b hb
      rw [ev] at mv
      rcases beyond_both (J := J) hT3 hb hx with ⟨y, hy, et, eb, em, -⟩ | ⟨et, em, -⟩
      · have hx3 : (if nI v ≤ nI l then nI 0 else nI 1) = nI 0 ∨ (if nI v ≤ nI l then nI 0 else nI 1) = nI 1 := by
          split
          · exact Or.inl rfl
          · exact Or.inr rfl
        obtain ⟨c, I4, F4, K4, hc, r1, r2, r3, r4⟩ := jump_both p3 hj hb hx ex et hx3
        refine ⟨I4, F4, K4, ?_, ?_, r3, r4.trans i30⟩
        · have r1' : (if nI v ≤ nI l then f_X1_jump_12 (nI j) (nI b) (nI 0) I3 F else f_X1_jump_12 (nI j) (nI b) (nI 1) I3 F) = some (nI c, I4, F4) := by
            rw [← r1]; split <;> rfl
          simp (disch := omega) only [ixN, nI_clamp, ex, et, ob_some, if_neg (show ¬ nI 1 = nI 0 by decide), ev]
          by_cases q : nI v ≤ nI l
          · rw [if_pos q] at r1' ⊢; rw [r1', ob_some]
          · rw [if_neg q] at r1' ⊢; rw [r1', ob_some]
        · have r2' : (if nI v ≤ nI l then f_X11_leaps (nI j) (nI b) (nI 0) J K3 else f_X11_leaps (nI j) (nI b) (nI 1) J K3) = some (nI c, K4) := by
            rw [← r2]; split <;> rfl
          simp (disch := omega) only [ixN, nI_clamp, nI_add, Nat.zero_add, mx, em, ob_some, if_neg (m1N (a := y) (by omega)), mv]
          by_cases q : nI v ≤ nI l
          · rw [if_pos q] at r2' ⊢; rw [r2', ob_some]
          · rw [if_neg q] at r2' ⊢; rw [r2', ob_some]
      · refine ⟨I3, F, K3, ?_, ?_, p3, i30⟩
        · simp (disch := omega) only [ixN, nI_clamp, ex, et, ob_some, if_true]
        · simp (disch := omega) only [ixN, nI_clamp, nI_add, Nat.zero_add, mx, em, ob_some, if_true]
theorem drifts_both {P B Kp Jm N h0 : Nat} (hN : N ≤ 60) (hh : h0 ≤ 9000) {J : WI} (cc : WI → WF → Option (Int32 × WI × WF)) (cm : WF → Option (Int32 × WI × WF)) : ∀ (m i n n' : Nat) (I : WI) (F K : WF), InvP P B Kp Jm I F J K → I 0 = nI (h0 + i) → i + m = N → m < n → m < n' → ∃ I' F' K', L_X10_passHours_56 cc (nI N) (nI 1) n (nI i) I F = cc I' F' ∧ L_X11_drift_23 cm (nI N) J n' (nI i) K = cm K' ∧ InvP P B Kp Jm I' F' J K' := by
  intro m
  induction m with
  | zero =>
    intro i n n' I F K h e0 h1 h2 h3
    obtain ⟨n, rfl⟩ : ∃ z, n = z + 1 := ⟨n - 1, by omega⟩
    obtain ⟨n', rfl⟩ : ∃ z, n' = z + 1 := ⟨n' - 1, by omega⟩
    refine ⟨I, F, K, ?_, ?_, h⟩
    · rw [nf_L_X10_passHours_56, if_pos (by rw [leN (by omega) (by omega)]; omega)]
    · rw [nf_L_X11_drift_23, if_pos (by rw [leN (by omega) (by omega)]; omega)]
  | succ m ih =>
    intro i n n' I F K h e0 h1 h2 h3
    obtain ⟨n, rfl⟩ : ∃ z, n = z + 1 := ⟨n - 1, by omega⟩
    obtain ⟨n', rfl⟩ : ∃ z, n' = z + 1 := ⟨n' - 1, by omega⟩
    obtain ⟨I1, F1, K1, d1, d2, d3, d4⟩ := drawn_both h (fun F_1444 => Option.bind (f_X11_oneHour J F_1444) fun c_1445 => bnd (nI i + (nI 1)) fun x3_1446 => L_X11_drift_23 cm (nI N) J n' x3_1446 c_1445)
    obtain ⟨I2, F2, K2, a1, a2, a3, a4⟩ := hour_both d3 (d4.trans e0) (by omega)
    obtain ⟨I3, F3, K3, b1, b2, b3⟩ := ih (i + 1) n n' I2 F2 K2 a3 a4 (by omega) (by omega) (by omega)
    refine ⟨I3, F3, K3, ?_, ?_, b3⟩
    · rw [nf_L_X10_passHours_56, if_neg (by rw [leN (by omega) (by omega)]; omega), bnd_eq, if_neg (show ¬ nI 1 = nI 0 by decide), d1, ob_some]
      simp only [a1, ob_some, bnd_eq, nI_add]
      exact b1
    · rw [nf_L_X11_drift_23, if_neg (by rw [leN (by omega) (by omega)]; omega), bnd_eq]
      refine Eq.trans d2 ?_
      simp only [a2, ob_some, bnd_eq, nI_add]
      exact b2
theorem step_drift : ∀ (I : WI) (F : WF) (J : WI) (K : WF) (x1 : Int32), Inv I F J K → ∃ (a : Int32 × WI × WF) (b : Int32 × WI × WF), f_X10_drift x1 I F = some a ∧ f_X11_drift x1 J K = some b ∧ a.1 = b.1 ∧ Inv a.2.1 a.2.2 b.2.1 b.2.2 := fun I F J K x1 h0 => by
  obtain ⟨P, B, Kp, Jm, h⟩ := id h0
  rw [nf_f_X10_drift, nf_f_X11_drift, bnd_eq]
  rcases pass_both h x1 (nI 1) with ⟨w, a1, a2, a3⟩ | ⟨N, hh, hN, h9, rfl, e0, a2, a1⟩
  · refine ⟨(w, I, F), (w, upd J 0 (nI 0), K), ?_, ?_, rfl, Inv_J0 h0⟩
    · rw [a1, ob_some]
    · rw [a2, ob_some, bnd_eq, if_neg a3]
  · obtain ⟨I1, F1, J1, K1, er, en, hI1, gI, gF, gK⟩ := rem_P h
    obtain ⟨I2, F2, K2, b1, b2, b3⟩ := drifts_both (J := J1) (h0 := hh) hN h9 (fun I_603 F_604 => some ((I_603 0), I_603, F_604)) (fun F_1461 => some ((F_1461 3 51), J1, F_1461)) N 0 FU FU I1 F1 K1 hI1 ((gI 0 (by omega)).trans e0) (by omega) (by rw [FU_big]; omega) (by rw [FU_big]; omega)
    refine ⟨(I2 0, I2, F2), (K2 3 51, J1, K2), ?_, ?_, b3.2.1.2.1.symm, ⟨P, B, Kp, Jm, b3⟩⟩
    · rw [a1, er, ob_some, bnd_eq]
      simp only [b1, ob_some]
    · rw [a2, ob_some, bnd_eq, if_pos rfl, en, ob_some, bnd_eq]
      exact b2
