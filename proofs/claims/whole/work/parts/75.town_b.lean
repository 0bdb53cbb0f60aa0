/-! pure layer: town, the step -/
theorem town_ok {P B Kp Jm : Nat} {I1 : WI} {F1 : WF} {J1 : WI} {K1 : WF} {I : WI} {F : WF} {J : WI} {K : WF} (hP0 : ∃ P B Kp Jm, PA P B Kp Jm I F (J 6) (K 6)) (hS : I 47 = K 3 133 ∧ ¬ I 47 < 0) (c1 : ∀ n, n < 39 ∨ 46 < n → I1 n = I n) (c2 : ∀ a, a < 152 ∨ 159 < a → F1 a = F a) (c4 : ∀ a, ¬ a = 1 → K1 a = K a) (h39 : I1 39 = nI 0) (h40 : I1 40 = -1) (hd : DT P B Kp Jm I1 F1 K1) (h3 : J1 3 = nI 0) (h5 : J1 5 = -1) (h1 : J1 1 = nI 0) :
    ∃ I' F' J' K', (Option.bind (f_X7_copyFrom_13_2 (upd I1 38 (nI 0)) F1) fun c_120 =>
      Option.bind (f_X6_begin_22_13 c_120.1 c_120.2) fun c_138 =>
      Option.bind (f_X5_forget_38 c_138.1 c_138.2) fun c_142 =>
      bnd (upd c_142 60 (nI 0)) fun I_143 =>
      Option.bind (f_X3_forget_42 I_143 c_138.2) fun c_145 =>
      bnd (nI 0) fun x1_146 =>
      L_X10_town_85 (fun I_153 => some ((I_153 49), I_153, c_138.2)) c_138.2 FU x1_146 c_145) = some (nI B, I', F') ∧ f_X11_settles J1 K1 = some (J', K') ∧ K' 2 1 = nI B ∧ Inv I' F' J' K' := by
  obtain ⟨⟨d43, d44, d45, d46⟩, hTR⟩ := hd
  have hs : P ≤ 8 ∧ B ≤ 9 ∧ Kp ≤ 9 ∧ Jm ≤ 6 := ⟨hTR.1.1, hTR.1.2.1, hTR.1.2.2.1, hTR.1.2.2.2.1⟩
  obtain ⟨⟨u0, u1, u2, u3⟩, -⟩ := hTR.2
  obtain ⟨K', km, ko, k2, k50, k51, k133, kj, kz, kk, kr⟩ := settles_m (J := J1) (K := K1) u1 u2 hs.2.1 hs.2.2.1
  rw [nf_f_X7_copyFrom_13_2]
  simp only [bnd_eq, ob_some]
  -- the class's town
  have eI : ∃ I2 : WI, I2 = upd (upd (upd (upd (upd I1 38 (nI 0)) 48 (upd I1 38 (nI 0) 43)) 49 (upd (upd I1 38 (nI 0)) 48 (upd I1 38 (nI 0) 43) 44)) 50 (upd (upd (upd I1 38 (nI 0)) 48 (upd I1 38 (nI 0) 43)) 49 (upd (upd I1 38 (nI 0)) 48 (upd I1 38 (nI 0) 43) 44) 45)) 51 (upd (upd (upd (upd I1 38 (nI 0)) 48 (upd I1 38 (nI 0) 43)) 49 (upd (upd I1 38 (nI 0)) 48 (upd I1 38 (nI 0) 43) 44)) 50 (upd (upd (upd I1 38 (nI 0)) 48 (upd I1 38 (nI 0) 43)) 49 (upd (upd I1 38 (nI 0)) 48 (upd I1 38 (nI 0) 43) 44) 45) 46) := ⟨_, rfl⟩
  obtain ⟨I2, eI⟩ := eI
  rw [← eI]
  have i48 : I2 48 = nI P := by rw [eI]; exact d43
  have i49 : I2 49 = nI B := by rw [eI]; exact d44
  have i50 : I2 50 = nI Kp := by rw [eI]; exact d45
  have i51 : I2 51 = nI Jm := by rw [eI]; exact d46
  have i38 : I2 38 = nI 0 := by rw [eI]; rfl
  have io : ∀ m, 46 < m → ¬ (48 ≤ m ∧ m < 52) → I2 m = I m := fun m h h' => by rw [eI]; simp (disch := omega) only [upd_ne]; exact c1 m (by omega)
  have i40 : I2 40 = -1 := by rw [eI]; exact h40
  clear eI
  obtain ⟨F2, hF2, f1, f2, f3, f4, f5, f6, f7, f8, fo⟩ : ∃ F2 : WF, F2 = (uF (uF (uF (uF (uF (uF (uF (uF F1 161 (va_cpy (F1 152) (F1 161) 0 0 9)) 162 (va_cpy (uF F1 161 (va_cpy (F1 152) (F1 161) 0 0 9) 153) (uF F1 161 (va_cpy (F1 152) (F1 161) 0 0 9) 162) 0 0 9)) 163 (va_cpy (F1 154) (F1 163) 0 0 9)) 164 (va_cpy (F1 155) (F1 164) 0 0 9)) 165 (va_cpy (F1 156) (F1 165) 0 0 9)) 166 (va_cpy (F1 157) (F1 166) 0 0 9)) 167 (va_cpy (F1 158) (F1 167) 0 0 6)) 168 (va_cpy (F1 159) (F1 168) 0 0 6)) ∧ (∀ t, t < 9 → F2 161 t = F1 152 t) ∧ (∀ t, t < 9 → F2 162 t = F1 153 t) ∧ (∀ t, t < 9 → F2 163 t = F1 154 t) ∧ (∀ t, t < 9 → F2 164 t = F1 155 t) ∧ (∀ t, t < 9 → F2 165 t = F1 156 t) ∧ (∀ t, t < 9 → F2 166 t = F1 157 t) ∧ (∀ t, t < 6 → F2 167 t = F1 158 t) ∧ (∀ t, t < 6 → F2 168 t = F1 159 t) ∧ (∀ a, a < 161 ∨ 168 < a → F2 a = F1 a) :=
    ⟨_, rfl, fun t ht => sb_cpy0 ht, fun t ht => sb_cpy0 ht, fun t ht => sb_cpy0 ht, fun t ht => sb_cpy0 ht, fun t ht => sb_cpy0 ht, fun t ht => sb_cpy0 ht, fun t ht => sb_cpy0 ht, fun t ht => sb_cpy0 ht, fun a ha => by simp (disch := omega) only [uF_ne]⟩
  have eF : (uF (uF (uF (uF (uF (uF (uF (uF F1 161 (va_cpy (F1 152) (F1 161) 0 0 9)) 162 (va_cpy (uF F1 161 (va_cpy (F1 152) (F1 161) 0 0 9) 153) (uF F1 161 (va_cpy (F1 152) (F1 161) 0 0 9) 162) 0 0 9)) 163 (va_cpy (F1 154) (F1 163) 0 0 9)) 164 (va_cpy (F1 155) (F1 164) 0 0 9)) 165 (va_cpy (F1 156) (F1 165) 0 0 9)) 166 (va_cpy (F1 157) (F1 166) 0 0 9)) 167 (va_cpy (F1 158) (F1 167) 0 0 6)) 168 (va_cpy (F1 159) (F1 168) 0 0 6)) = F2 := hF2.symm
  clear hF2
  obtain ⟨F3, bg, bo, bk, bj⟩ := begin_c (I := I2) (F := F2) i49 i50 i51 hs.2.1 hs.2.2.1 hs.2.2.2
  have hbg : f_X6_begin_22_13 I2 (uF (uF (uF (uF (uF (uF (uF (uF F1 161 (va_cpy (F1 152) (F1 161) 0 0 9)) 162 (va_cpy (uF F1 161 (va_cpy (F1 152) (F1 161) 0 0 9) 153) (uF F1 161 (va_cpy (F1 152) (F1 161) 0 0 9) 162) 0 0 9)) 163 (va_cpy (F1 154) (F1 163) 0 0 9)) 164 (va_cpy (F1 155) (F1 164) 0 0 9)) 165 (va_cpy (F1 156) (F1 165) 0 0 9)) 166 (va_cpy (F1 157) (F1 166) 0 0 9)) 167 (va_cpy (F1 158) (F1 167) 0 0 6)) 168 (va_cpy (F1 159) (F1 168) 0 0 6)) = some (upd (upd I2 0 (nI 0)) 1 (nI 0), F3) := by rw [eF]; exact bg
  refine ⟨upd (upd (upd (upd (upd (upd (upd (upd (upd I2 0 (nI 0)) 1 (nI 0)) 57 (nI 0)) 58 (nI 1)) 59 (nI 40)) 60 (nI 0)) 61 (nI 0)) 63 (nI 0)) 65 (nI 0), F3, _, K', ?_, km, (k2 1 (by omega)).trans u1, ?_⟩
  · refine (congrArg (fun z => Option.bind z _) hbg).trans ?_
    rw [ob_some, nf_f_X5_forget_38]
    simp only [bnd_eq, ob_some, nf_f_X3_forget_42, town_l]
    rw [show upd (upd (upd (upd (upd (upd (upd (upd (upd I2 0 (nI 0)) 1 (nI 0)) 57 (nI 0)) 58 (nI 1)) 59 (nI 40)) 60 (nI 0)) 61 (nI 0)) 63 (nI 0)) 65 (nI 0) 49 = nI B from i49]
  · obtain ⟨P0, B0, Kp0, Jm0, z, nx, z16, nx16, e61, e62, e6, hp⟩ := hP0
    have c3 := c4 3 (by omega)
    refine ⟨P, B, Kp, Jm, ⟨⟨i48, i49, i50, i51⟩, ?_⟩, ?_, ?_, ?_, ?_, seen_empty _ _, book_empty _ _ _ _ _ _, ⟨0, nx, by omega, nx16, rfl, (io 62 (by omega) (by omega)).trans e62, rfl, fun i hi => absurd hi (by omega)⟩, ?_⟩
    · refine TR_co hTR ?_ ?_ ?_ ?_ ?_ ?_ ?_ ?_ k2
      · intro t ht; rw [bo _ (by omega)]; exact f1 t ht
      · intro t ht; rw [bo _ (by omega)]; exact f2 t ht
      · intro t ht; rw [bo _ (by omega)]; exact f3 t ht
      · intro t ht; rw [bo _ (by omega)]; exact f4 t ht
      · intro t ht; rw [bo _ (by omega)]; exact f5 t ht
      · intro t ht; rw [bo _ (by omega)]; exact f6 t ht
      · intro t ht; rw [bo _ (by omega)]; exact f7 t ht
      · intro t ht; rw [bo _ (by omega)]; exact f8 t ht
    · refine ⟨⟨0, by omega, rfl⟩, kr 51 (by omega) (by omega), kr 52 (by omega) (by omega), fun k hk => ?_, fun k q hk hq => ?_, fun j hj => ?_, 0, by omega, rfl, fun i hi => absurd hi (by omega)⟩
      · obtain ⟨q0, q1, q2⟩ := bk k hk
        obtain ⟨-, ⟨w, w1, w2, w3⟩, -, w4⟩ := hTR.2.2.2.1 k hk
        obtain ⟨r1, r2, r3⟩ := kk k (by omega)
        have e0 : F3 0 k = nI w := by rw [q0, bo 166 (by omega), f6 k (by omega), w3]
        refine ⟨⟨w, w1, w2, e0⟩, ?_, ⟨0, by omega, q2⟩, ?_, ?_, ?_⟩
        · rw [q1]
          by_cases q : k < B
          · rw [if_pos q]; exact Or.inr ⟨k, q, rfl⟩
          · rw [if_neg q]; exact Or.inl rfl
        · rw [r3, w4, e0, w3]
        · rw [r1, q1, psN]
          by_cases q : k < B
          · rw [if_pos ⟨hk, q⟩, if_pos q]
          · rw [if_neg (fun h => q h.2), if_neg q]
        · rw [r2, q2]
      · intro e1 e2
        rw [(bk k hk).2.1, (bk q hq).2.1] at e1
        rw [(bk k hk).2.1] at e2
        by_cases a : k < B
        · rw [if_pos a] at e1 e2
          by_cases b : q < B
          · rw [if_pos b, eqN (by omega) (by omega)] at e1; exact e1
          · rw [if_neg b] at e1; exact absurd e1 (m1N (by omega))
        · rw [if_neg a] at e2; exact absurd rfl e2
      · obtain ⟨q0, q1, q2, q3⟩ := bj j hj
        obtain ⟨-, ⟨w, w1, w3⟩, -, w4⟩ := hTR.2.2.2.2 j hj
        have e0 : F3 3 j = nI w := by rw [q0, bo 168 (by omega), f8 j (by omega), w3]
        refine ⟨⟨w, w1, e0⟩, ⟨0, by omega, q1⟩, ⟨0, by omega, q2⟩, ⟨0, by omega, q3⟩, ?_, ?_, ?_, ?_⟩
        · rw [kj j (by omega), w4, e0, w3]
        · rw [kz _ (by omega) (by omega), q1]
        · rw [kz _ (by omega) (by omega), q2]
        · rw [kz _ (by omega) (by omega), q3]
    · have e47 : upd (upd (upd (upd (upd (upd (upd (upd (upd I2 0 (nI 0)) 1 (nI 0)) 57 (nI 0)) 58 (nI 1)) 59 (nI 40)) 60 (nI 0)) 61 (nI 0)) 63 (nI 0)) 65 (nI 0) 47 = I 47 := io 47 (by omega) (by omega)
      rw [e47, k133, c3]; exact hS
    · exact ⟨0, by omega, i38, h1, fun i hi => absurd hi (by omega)⟩
    · exact i40.trans h5.symm
    · intro i hi
      rcases (show i = 0 ∨ i = 1 by omega) with rfl | rfl
      · exact ⟨Or.inl rfl, k50, fun h => absurd (show nI 0 = (1 : Int32) from h) (by decide)⟩
      · exact ⟨Or.inl rfl, k51, fun h => absurd (show nI 0 = (1 : Int32) from h) (by decide)⟩
theorem step_town : ∀ (I : WI) (F : WF) (J : WI) (K : WF), Inv I F J K → ∃ (a : Int32 × WI × WF) (b : Int32 × WI × WF), f_X10_town  I F = some a ∧ f_X11_town  J K = some b ∧ a.1 = b.1 ∧ Inv a.2.1 a.2.2 b.2.1 b.2.2 := fun I F J K h0 => by
  obtain ⟨P, B, Kp, Jm, hT, hN, hS, ⟨n, hn, hx1, hx2, hx3⟩, hf, hSe, hB, hP, hM⟩ := id h0
  have hs := T_sz hT
  obtain ⟨I1, F1, J1, K1, a1, a2, c1, c2, c3, c4, c5⟩ := read_town (n := n) hn (I := I) (F := F) (J := upd (upd (upd J 0 (nI 0)) 2 (nI 0)) 3 (nI 0)) (K := K) (fun i hi => (hx3 i hi).symm) hx1 hx2 rfl rfl
  rw [nf_f_X10_town, nf_f_X11_town, a1, ob_some]
  simp only [bnd_eq, zero_a, a2, ob_some]
  rcases c5 with ⟨P', B', Kp', Jm', hw, hd⟩ | hb
  · obtain ⟨w1, v1, w2, v2, w3, -⟩ := hw
    have j3 : upd J1 1 (nI 0) 3 = nI 0 := (upd_ne (by omega)).trans v2
    rw [if_pos ((upd_ne (by omega)).trans w2), well_m j3, ob_some, if_neg (show ¬ nI 1 = nI 0 by decide), well_m ((upd_ne (by omega)).trans j3), ob_some, if_neg (show ¬ nI 1 = nI 0 by decide)]
    obtain ⟨I', F', J', K', b1, b2, b3, b4⟩ := town_ok (I1 := I1) (F1 := F1) (J1 := upd (upd J1 1 (nI 0)) 5 (-1)) (K1 := K1) (I := I) (F := F) (J := J) (K := K) ⟨P, B, Kp, Jm, hP⟩ hS c1 c2 c4 w2 w3 hd ((upd_ne (by omega)).trans j3) upd_same ((upd_ne (by omega)).trans upd_same)
    simp only [bnd_eq] at b1
    exact ⟨(nI B', I', F'), (nI B', J', K'), b1, by rw [b2, ob_some]; show some (K' 2 1, J', K') = _; rw [b3], rfl, b4⟩
  · obtain ⟨w1, v1, ⟨f, f1, f2, f3, f4⟩, h40, -⟩ := hb
    have j3 : upd J1 1 (nI 0) 3 = nI f := (upd_ne (by omega)).trans f4
    have j35 : ∀ x, upd (upd J1 1 (nI 0)) 5 x 3 = nI f := fun x => (upd_ne (by omega)).trans j3
    have i39 : upd I1 38 (nI 0) 39 = nI f := (upd_ne (by omega)).trans f3
    rw [if_neg (by rw [i39, eqN (by omega) (by omega)]; omega), ill_m f1 f2 j3, ob_some, if_pos rfl, ill_m f1 f2 (j35 _), ob_some, if_pos rfl, i39, j35]
    refine ⟨(-10 - nI f, upd I1 38 (nI 0), F1), (-10 - nI f, upd (upd J1 1 (nI 0)) 5 (upd J1 1 (nI 0) 4), K1), rfl, rfl, rfl, ?_⟩
    have eI : ∀ m, 46 < m ∨ m < 38 → upd I1 38 (nI 0) m = I m := fun m hm => (upd_ne (by omega)).trans (c1 m (by omega))
    have eJ : ∀ m, 6 ≤ m → m ≤ 8 → upd (upd J1 1 (nI 0)) 5 (upd J1 1 (nI 0) 4) m = J m := fun m h1 h2 => by
      rw [upd_ne (by omega), upd_ne (by omega), c3 m (by omega) (by omega) (by omega) (by omega), upd_ne (by omega), upd_ne (by omega), upd_ne (by omega)]
    show Inv (upd I1 38 (nI 0)) F1 (upd (upd J1 1 (nI 0)) 5 (upd J1 1 (nI 0) 4)) K1
    refine ⟨P, B, Kp, Jm, ⟨⟨(eI 48 (by omega)).trans hT.1.1, (eI 49 (by omega)).trans hT.1.2.1, (eI 50 (by omega)).trans hT.1.2.2.1, (eI 51 (by omega)).trans hT.1.2.2.2⟩, ?_⟩, ?_, ?_, ⟨0, by omega, upd_same, rfl, fun i hi => absurd hi (by omega)⟩, ?_, ?_, ?_, ?_, ?_⟩
    · rw [c2 161 (by omega), c2 162 (by omega), c2 163 (by omega), c2 164 (by omega), c2 165 (by omega), c2 166 (by omega), c2 167 (by omega), c2 168 (by omega), c4 2 (by omega)]; exact hT.2
    · exact InvN_of ⟨eI 0 (by omega), eI 1 (by omega), c2 0 (by omega), c2 1 (by omega), c2 2 (by omega), c2 3 (by omega), c2 4 (by omega), c2 5 (by omega), c2 6 (by omega), c2 7 (by omega), c4 3 (by omega)⟩ hN
    · rw [eI 47 (by omega), c4 3 (by omega)]; exact hS
    · rw [upd_same, upd_ne (by omega), upd_ne (by omega)]; exact h40
    · rw [eI 57 (by omega), eI 58 (by omega), eI 59 (by omega), eJ 7 (by omega) (by omega), c4 7 (by omega), c4 8 (by omega)]; exact hSe
    · rw [eI 60 (by omega), eJ 8 (by omega) (by omega), c2 174 (by omega), c2 175 (by omega), c4 9 (by omega), c4 10 (by omega)]; exact hB
    · rw [eJ 6 (by omega) (by omega), c4 6 (by omega)]
      exact PA_fr (I := I) (F := F) (fun m a b => eI m (by omega)) (eI 61 (by omega)) (eI 62 (by omega)) (fun a b d => c2 a (by omega)) hs.2.2.1 hs.2.2.2 hP
    · rw [c4 5 (by omega), c4 4 (by omega)]
      exact IM_fr (I := I) (F := F) (fun m a b => eI m (by omega)) (fun m a b => eI m (by omega)) (fun a b d => c2 a (by omega)) hs.2.2.1 hs.2.2.2 hM
