/-! pure layer: undo, keep, goBack -/
theorem Inv_asm {P B Kp Jm : Nat} {I I' : WI} {F F' : WF} {J J' : WI} {K K' : WF} (hT : InvT P B Kp Jm I F K) (hX : TX (I 38) (J 1) (F 160) (K 0)) (hf : I 40 = J 5) (hSe : SE (I 57) (I 58) (I 59) (J 7) (K 7) (K 8)) (hB : BK P Jm (I 60) (J 8) (F 174) (F 175) (K 9) (K 10))
    (eI : ∀ n, 38 ≤ n → n < 61 → ¬ n = 47 → I' n = I n) (eF : ∀ a, 152 ≤ a → F' a = F a) (eJ : ∀ n, ¬ n = 0 → ¬ n = 6 → J' n = J n) (eK : ∀ a, a < 3 ∨ 6 < a → K' a = K a) (hse : I' 47 = K' 3 133 ∧ ¬ I' 47 < 0) (hN : InvN P B Kp Jm I' F' K') (hP : PA P B Kp Jm I' F' (J' 6) (K' 6)) (hM : IM P B Kp Jm I' F' (K' 5) (K' 4)) : Inv I' F' J' K' := by
  refine ⟨P, B, Kp, Jm, ⟨⟨(eI 48 (by omega) (by omega) (by omega)).trans hT.1.1, (eI 49 (by omega) (by omega) (by omega)).trans hT.1.2.1, (eI 50 (by omega) (by omega) (by omega)).trans hT.1.2.2.1, (eI 51 (by omega) (by omega) (by omega)).trans hT.1.2.2.2⟩, ?_⟩, hN, hse, ?_, ?_, ?_, ?_, hP, hM⟩
  · rw [eF 161 (by omega), eF 162 (by omega), eF 163 (by omega), eF 164 (by omega), eF 165 (by omega), eF 166 (by omega), eF 167 (by omega), eF 168 (by omega), eK 2 (by omega)]; exact hT.2
  · rw [eI 38 (by omega) (by omega) (by omega), eJ 1 (by omega) (by omega), eF 160 (by omega), eK 0 (by omega)]; exact hX
  · rw [eI 40 (by omega) (by omega) (by omega), eJ 5 (by omega) (by omega)]; exact hf
  · rw [eI 57 (by omega) (by omega) (by omega), eI 58 (by omega) (by omega) (by omega), eI 59 (by omega) (by omega) (by omega), eJ 7 (by omega) (by omega), eK 7 (by omega), eK 8 (by omega)]; exact hSe
  · rw [eI 60 (by omega) (by omega) (by omega), eJ 8 (by omega) (by omega), eF 174 (by omega), eF 175 (by omega), eK 9 (by omega), eK 10 (by omega)]; exact hB
theorem step_undo : ∀ (I : WI) (F : WF) (J : WI) (K : WF), Inv I F J K → ∃ (a : Int32 × WI × WF) (b : Int32 × WI × WF), f_X10_undo  I F = some a ∧ f_X11_undo  J K = some b ∧ a.1 = b.1 ∧ Inv a.2.1 a.2.2 b.2.1 b.2.2 := fun I F J K h => by
  have h0 := h
  obtain ⟨P, B, Kp, Jm, hT, hN, hS, hX, hf, hSe, hB, hP, hI⟩ := h
  have hs := T_sz hT
  obtain ⟨z, nx, z16, nx16, e61, e62, e6, hp⟩ := hP
  rw [nf_f_X10_undo, nf_f_X11_undo]
  by_cases hz : z = 0
  · refine ⟨(-1000000003, I, F), (-1000000003, upd J 0 (nI 0), K), ?_, ?_, rfl, Inv_J0 h0⟩
    · rw [e61, hz, if_pos rfl]
    · rw [bnd_eq, show upd J 0 (nI 0) 6 = nI z from e6, hz, if_pos rfl]
  · obtain ⟨I', F', hb, I1, hc, b62, b61, bI⟩ := bringBack_c e62 e61 nx16 z16 (by omega)
    have e0 : K = uF K 3 (va_cpy (K 6) (K 3) (134 * (z - 1)) 0 0) := by rw [cpy_0, uF_id]
    have hu := cl_undo_27 (J := upd (upd J 0 (nI 0)) 6 (nI (z - 1))) (K := K) (z := z - 1) upd_same (by omega) (fun F_1467 => some (upd (upd J 0 (nI 0)) 6 (nI (z - 1)) 6, upd (upd J 0 (nI 0)) 6 (nI (z - 1)), F_1467)) 133 0 FU (by omega) (by rw [FU_big]; omega)
    rw [← e0] at hu
    refine ⟨(nI (z - 1), I', F'), (nI (z - 1), upd (upd J 0 (nI 0)) 6 (nI (z - 1)), uF K 3 (va_cpy (K 6) (K 3) (134 * (z - 1)) 0 133)), ?_, ?_, rfl, ?_⟩
    · rw [e61, if_neg (by rw [eqN (by omega) (by omega)]; exact hz), hb, ob_some]
      show some (I' 61, I', F') = _
      rw [b61]
    · simp only [bnd_eq, show upd J 0 (nI 0) 6 = nI z from e6]
      rw [if_neg (by rw [eqN (by omega) (by omega)]; exact hz), subN (by omega), hu, upd_same]
    · have hIf : ∀ n, 2 ≤ n → ¬ n = 61 → ¬ n = 62 → I' n = I n := fun n h1 h2 h3 => (bI n h2 h3).trans (hc.2.2.1 n (by omega) (by omega))
      have hFf : ∀ a, 8 ≤ a → F' a = F a := fun a ha => hc.2.2.2.2.2.2.2.2.2.2.2 a (by omega)
      refine Inv_asm hT hX hf hSe hB (fun n h1 h2 _ => hIf n (by omega) (by omega) (by omega)) (fun a ha => hFf a (by omega)) (fun n h1 h2 => (upd_ne h2).trans (upd_ne h1)) (fun a ha => uF_ne _ _ (by omega)) ?_ ?_ ?_ ?_
      · show I' 47 = uF K 3 (va_cpy (K 6) (K 3) (134 * (z - 1)) 0 133) 3 133 ∧ ¬ I' 47 < 0
        rw [hIf 47 (by omega) (by omega) (by omega), uF_same, cpy_out (by omega)]; exact hS
      · have h1 := hp (z - 1) (by omega)
        rw [show 1 + (nx + 16 - z + (z - 1)) % 16 = 1 + (nx + 15) % 16 by omega] at h1
        have h2 := SRq_copy hs.2.2.1 hs.2.2.2 hc (v' := uF K 3 (va_cpy (K 6) (K 3) (134 * (z - 1)) 0 133) 3) (fun t ht => by rw [uF_same, cpy_in (by omega) (by omega), Nat.sub_zero]) h1
        exact SRq_at (q := 0) hs.2.2.1 hs.2.2.2 (fun n hn => bI n (by omega) (by omega)) (fun _ _ _ => rfl) (fun _ _ => rfl) h2
      · refine ⟨z - 1, (nx + 15) % 16, by omega, by omega, b61, b62, (show upd (upd J 0 (nI 0)) 6 (nI (z - 1)) 6 = _ from upd_same), fun i hi => ?_⟩
        rw [show 1 + ((nx + 15) % 16 + 16 - (z - 1) + i) % 16 = 1 + (nx + 16 - z + i) % 16 by omega]
        exact SRq_fr (fun n h1 h2 => hIf n h1 (by omega) (by omega)) (fun a h1 _ => hFf a h1) (by omega) (by omega) (fun t _ => rfl) (hp i (by omega)) hs.2.2.1 hs.2.2.2
      · exact IM_fr (I := I) (F := F) (fun n h1 h2 => hIf n h1 (by omega) (by omega)) (fun n h1 h2 => hIf n (by omega) (by omega) (by omega)) (fun a h1 _ => hFf a h1) hs.2.2.1 hs.2.2.2 hI
/-- keep, for an image by its number -/
theorem keep_fin {P B Kp Jm i : Nat} {I I1 I2 : WI} {F F1 : WF} {J : WI} {K : WF} (hi : i < 2) (hInv : Inv I F J K) (hT : InvT P B Kp Jm I F K) (hN : InvN P B Kp Jm I F K) (hS : I 47 = K 3 133 ∧ ¬ I 47 < 0) (hX : TX (I 38) (J 1) (F 160) (K 0)) (hf : I 40 = J 5) (hSe : SE (I 57) (I 58) (I 59) (J 7) (K 7) (K 8)) (hB : BK P Jm (I 60) (J 8) (F 174) (F 175) (K 9) (K 10)) (hP : PA P B Kp Jm I F (J 6) (K 6)) (hM : IM P B Kp Jm I F (K 5) (K 4))
    (hI1 : I1 = upd (upd I (63 + 2 * i) (nI 1)) (64 + 2 * i) (I 47)) (hc : CopyR (17 + i) 0 I1 F I2 F1) : Inv (upd I2 61 (nI 0)) F1 (upd (upd J 0 (nI 0)) 6 (nI 0)) (uF (uF K 4 (va_cpy (K 3) (K 4) 0 (134 * i) 134)) 5 (upd (K 5) i (nI 1))) := by
  have hs := T_sz hT
  have h1n : ∀ n, ¬ n = 63 + 2 * i → ¬ n = 64 + 2 * i → I1 n = I n := fun n a b => by rw [hI1, upd_ne b, upd_ne a]
  have h2n : ∀ n, ¬ n = 63 + 2 * i → ¬ n = 64 + 2 * i → ¬ n = 34 + 2 * i → ¬ n = 35 + 2 * i → I2 n = I n := fun n a b c d => (hc.2.2.1 n (by omega) (by omega)).trans (h1n n a b)
  have hFf : ∀ a, a < 8 * (17 + i) ∨ 8 * (17 + i) + 8 ≤ a → F1 a = F a := hc.2.2.2.2.2.2.2.2.2.2.2
  obtain ⟨z, nx, z16, nx16, e61, e62, e6, hp⟩ := hP
  refine Inv_asm hT hX hf hSe hB (fun n a b c => (upd_ne (by omega)).trans (h2n n (by omega) (by omega) (by omega) (by omega))) (fun a ha => hFf a (by omega)) (fun n a b => (upd_ne b).trans (upd_ne a)) (fun a ha => (uF_ne _ _ (by omega)).trans (uF_ne _ _ (by omega))) ?_ ?_ ⟨0, nx, by omega, nx16, upd_same, (upd_ne (by omega)).trans ((h2n 62 (by omega) (by omega) (by omega) (by omega)).trans e62), upd_same, fun i hi => absurd hi (by omega)⟩ ?_
  · show upd I2 61 (nI 0) 47 = K 3 133 ∧ ¬ upd I2 61 (nI 0) 47 < 0
    rw [upd_ne (by omega), h2n 47 (by omega) (by omega) (by omega) (by omega)]; exact hS
  · exact InvN_of (I := upd I2 61 (nI 0)) ⟨(upd_ne (by omega)).trans (h2n 0 (by omega) (by omega) (by omega) (by omega)), (upd_ne (by omega)).trans (h2n 1 (by omega) (by omega) (by omega) (by omega)), hFf 0 (by omega), hFf 1 (by omega), hFf 2 (by omega), hFf 3 (by omega), hFf 4 (by omega), hFf 5 (by omega), hFf 6 (by omega), hFf 7 (by omega), rfl⟩ hN
  · rw [uF_same, uF_ne _ _ (show 4 ≠ 5 by omega), uF_same]
    intro q hq
    have eI : ∀ n, 63 ≤ n → upd I2 61 (nI 0) n = I1 n := fun n a => (upd_ne (by omega)).trans (hc.2.2.1 n (by omega) (by omega))
    rw [eI _ (by omega), eI _ (by omega)]
    by_cases hqi : q = i
    · subst hqi
      have e1 : I1 (63 + 2 * q) = nI 1 := by rw [hI1, upd_ne (by omega), upd_same]
      have e2 : I1 (64 + 2 * q) = I 47 := by rw [hI1, upd_same]
      rw [e1, e2, upd_same, cpy_in (by omega) (by omega), show 0 + (134 * q + 133 - 134 * q) = 133 by omega]
      refine ⟨Or.inr rfl, rfl, fun _ => ⟨hS.1, hS.2, ?_⟩⟩
      have h1 : SRq P B Kp Jm I1 F 0 (K 3) := SRq_at hs.2.2.1 hs.2.2.2 (fun n hn => h1n n (by omega) (by omega)) (fun _ _ _ => rfl) (fun _ _ => rfl) hN
      have h2 := SRq_copy hs.2.2.1 hs.2.2.2 hc (v' := fun t => va_cpy (K 3) (K 4) 0 (134 * q) 134 (134 * q + t)) (fun t ht => by show va_cpy _ _ _ _ _ _ = _; rw [cpy_in (by omega) (by omega), show 0 + (134 * q + t - 134 * q) = t by omega]) h1
      exact SRq_at hs.2.2.1 hs.2.2.2 (fun n hn => upd_ne (by omega)) (fun _ _ _ => rfl) (fun _ _ => rfl) h2
    · obtain ⟨a1, a2, a3⟩ := hM q hq
      rw [h1n _ (by omega) (by omega), h1n _ (by omega) (by omega), upd_ne hqi, cpy_out (by omega)]
      refine ⟨a1, a2, fun hk => ?_⟩
      obtain ⟨b1, b2, b3⟩ := a3 hk
      refine ⟨b1, b2, SRq_at hs.2.2.1 hs.2.2.2 (fun n hn => (upd_ne (by omega)).trans (h2n n (by omega) (by omega) (by omega) (by omega))) (fun a q1 q2 => hFf a (by omega)) (fun t ht => ?_) b3⟩
      show va_cpy _ _ _ _ _ _ = _
      rw [cpy_out (by omega)]
theorem step_keep : ∀ (I : WI) (F : WF) (J : WI) (K : WF) (x1 : Int32), Inv I F J K → ∃ (a : Int32 × WI × WF) (b : Int32 × WI × WF), f_X10_keep x1 I F = some a ∧ f_X11_keep x1 J K = some b ∧ a.1 = b.1 ∧ Inv a.2.1 a.2.2 b.2.1 b.2.2 := fun I F J K x1 h => by
  have h0 := h
  obtain ⟨P, B, Kp, Jm, hT, hN, hS, hX, hf, hSe, hB, hP, hM⟩ := h
  rw [nf_f_X10_keep, nf_f_X11_keep]
  by_cases h1 : inR x1 2
  · obtain ⟨i, hi, rfl⟩ := h1
    have e0 : K = uF K 4 (va_cpy (K 3) (K 4) 0 (134 * i) 0) := by rw [cpy_0, uF_id]
    have hm := cl_keep_19 (J := upd J 0 (nI 0)) (K := K) (z := i) (by omega) (fun F_1718 => ixG (nI i) 2 (bnd (uF F_1718 5 (upd (F_1718 5) (nI i).toNatClampNeg (vp_nar .boolean (nI 1)))) fun F_1719 => bnd (upd (upd J 0 (nI 0)) 6 (nI 0)) fun I_1720 => some ((nI 1), I_1720, F_1719))) 134 0 FU (by omega) (by rw [FU_big]; omega)
    rw [← e0] at hm
    have hm2 : (bnd (upd J 0 (nI 0)) fun I_1713 => Option.bind (f_X11_in (nI i) (nI 0) (nI 1)) fun c_1714 => if c_1714 = (nI 0) then (some ((-1000000001 : Int32), I_1713, K)) else (bnd (nI 0) fun x2_1715 => L_X11_keep_19 (fun F_1718 => ixG (nI i) 2 (bnd (uF F_1718 5 (upd (F_1718 5) (nI i).toNatClampNeg (vp_nar .boolean (nI 1)))) fun F_1719 => bnd (upd I_1713 6 (nI 0)) fun I_1720 => some ((nI 1), I_1720, F_1719))) (nI i) I_1713 FU x2_1715 K)) = some (nI 1, upd (upd J 0 (nI 0)) 6 (nI 0), uF (uF K 4 (va_cpy (K 3) (K 4) 0 (134 * i) 134)) 5 (upd (K 5) i (nI 1))) := by
      rw [bnd_eq, in_in (by omega) (by omega) (by omega), ob_some, if_neg (show ¬ nI 1 = nI 0 by decide), bnd_eq, hm, ixN hi (by omega), bnd_eq, bnd_eq, nI_clamp (by omega), uF_ne _ _ (show 5 ≠ 4 by omega)]
      rfl
    rw [hm2]
    rcases c2 hi with rfl | rfl
    · obtain ⟨I2, F1, ec, hc⟩ := cp_190_22 (upd (upd I 63 (nI 1)) 64 (I 47)) F
      refine ⟨(nI 1, upd I2 61 (nI 0), F1), _, ?_, rfl, rfl, keep_fin (by omega) h0 hT hN hS hX hf hSe hB hP hM rfl hc⟩
      rw [if_neg (by decide), if_pos (by decide), if_pos rfl]
      simp only [bnd_eq]
      rw [show upd I 63 (nI 1) 47 = I 47 from rfl, ec, ob_some, nf_f_X3_forget_42, bnd_eq, ob_some]
    · obtain ⟨I2, F1, ec, hc⟩ := cp_200_22 (upd (upd I 65 (nI 1)) 66 (I 47)) F
      refine ⟨(nI 1, upd I2 61 (nI 0), F1), _, ?_, rfl, rfl, keep_fin (by omega) h0 hT hN hS hX hf hSe hB hP hM rfl hc⟩
      rw [if_neg (by decide), if_pos (by decide), if_neg (by decide), if_pos rfl]
      simp only [bnd_eq]
      rw [show upd I 65 (nI 1) 47 = I 47 from rfl, ec, ob_some, nf_f_X3_forget_42, bnd_eq, ob_some]
  · refine ⟨(-1000000001, I, F), (-1000000001, upd J 0 (nI 0), K), ?_, ?_, rfl, Inv_J0 h0⟩
    · rcases inR_out (by decide) h1 with h3 | h3
      · rw [if_pos (show x1 < nI 0 from h3)]
      · by_cases h4 : x1 < nI 0
        · rw [if_pos h4]
        · rw [if_neg h4, if_neg (Int32.not_lt.mpr h3)]
    · simp (disch := omega) [bnd_eq, ob_some, eqN, in_out (x := x1) (a := 0) (b := 1) (by omega) (fun j _ hj => nin h1 j (by omega)) (by omega)]
theorem goBack_fin {P B Kp Jm i : Nat} {I I1 I2 : WI} {F F1 : WF} {J : WI} {K : WF} (hi : i < 2) (hT : InvT P B Kp Jm I F K) (hX : TX (I 38) (J 1) (F 160) (K 0)) (hf : I 40 = J 5) (hSe : SE (I 57) (I 58) (I 59) (J 7) (K 7) (K 8)) (hB : BK P Jm (I 60) (J 8) (F 174) (F 175) (K 9) (K 10)) (hP : PA P B Kp Jm I F (J 6) (K 6)) (hM : IM P B Kp Jm I F (K 5) (K 4))
    (hkept : I (63 + 2 * i) = 1) (hI1 : I1 = upd I 47 (I (64 + 2 * i))) (hc : CopyR 0 (17 + i) I1 F I2 F1) : Inv (upd I2 61 (nI 0)) F1 (upd (upd J 0 (nI 0)) 6 (nI 0)) (uF K 3 (va_cpy (K 4) (K 3) (134 * i) 0 134)) := by
  have hs := T_sz hT
  have h1n : ∀ n, ¬ n = 47 → I1 n = I n := fun n a => by rw [hI1, upd_ne a]
  have h2n : ∀ n, 2 ≤ n → ¬ n = 47 → I2 n = I n := fun n a b => (hc.2.2.1 n (by omega) (by omega)).trans (h1n n b)
  have hFf : ∀ a, 8 ≤ a → F1 a = F a := fun a ha => hc.2.2.2.2.2.2.2.2.2.2.2 a (by omega)
  obtain ⟨z, nx, z16, nx16, e61, e62, e6, hp⟩ := hP
  obtain ⟨-, -, a3⟩ := hM i hi
  obtain ⟨b1, b2, b3⟩ := a3 hkept
  refine Inv_asm hT hX hf hSe hB (fun n a b c => (upd_ne (by omega)).trans (h2n n (by omega) c)) (fun a ha => hFf a (by omega)) (fun n a b => (upd_ne b).trans (upd_ne a)) (fun a ha => uF_ne _ _ (by omega)) ?_ ?_ ⟨0, nx, by omega, nx16, upd_same, (upd_ne (by omega)).trans ((h2n 62 (by omega) (by omega)).trans e62), upd_same, fun i hi => absurd hi (by omega)⟩ ?_
  · have e1 : upd I2 61 (nI 0) 47 = I (64 + 2 * i) := (upd_ne (by omega)).trans ((hc.2.2.1 47 (by omega) (by omega)).trans (by rw [hI1, upd_same]))
    rw [e1, uF_same, cpy_in (by omega) (by omega), Nat.sub_zero]
    exact ⟨b1, b2⟩
  · have h1 : SRq P B Kp Jm I1 F (17 + i) (fun t => K 4 (134 * i + t)) := SRq_at hs.2.2.1 hs.2.2.2 (fun n hn => h1n n (by omega)) (fun _ _ _ => rfl) (fun _ _ => rfl) b3
    have h2 := SRq_copy hs.2.2.1 hs.2.2.2 hc (v' := uF K 3 (va_cpy (K 4) (K 3) (134 * i) 0 134) 3) (fun t ht => by rw [uF_same, cpy_in (by omega) (by omega), Nat.sub_zero]) h1
    exact SRq_at (q := 0) hs.2.2.1 hs.2.2.2 (fun n hn => upd_ne (by omega)) (fun _ _ _ => rfl) (fun _ _ => rfl) h2
  · exact IM_fr (I := I) (F := F) (fun n a b => (upd_ne (by omega)).trans (h2n n a (by omega))) (fun n a b => (upd_ne (by omega)).trans (h2n n (by omega) (by omega))) (fun a b _ => hFf a b) hs.2.2.1 hs.2.2.2 hM
theorem step_goBack : ∀ (I : WI) (F : WF) (J : WI) (K : WF) (x1 : Int32), Inv I F J K → ∃ (a : Int32 × WI × WF) (b : Int32 × WI × WF), f_X10_goBack x1 I F = some a ∧ f_X11_goBack x1 J K = some b ∧ a.1 = b.1 ∧ Inv a.2.1 a.2.2 b.2.1 b.2.2 := fun I F J K x1 h => by
  have h0 := h
  obtain ⟨P, B, Kp, Jm, hT, hN, hS, hX, hf, hSe, hB, hP, hM⟩ := h
  rw [nf_f_X10_goBack, nf_f_X11_goBack]
  by_cases h1 : inR x1 2
  · obtain ⟨i, hi, rfl⟩ := h1
    obtain ⟨k1, k2, -⟩ := hM i hi
    have hz1 : ¬ (1 : Int32) = nI 0 := by decide
    have e0 : K = uF K 3 (va_cpy (K 4) (K 3) (134 * i) 0 0) := by rw [cpy_0, uF_id]
    have hm := cl_goBack_31 (J := upd J 0 (nI 0)) (K := K) (z := i) (by omega) (fun F_1726 => bnd (upd (upd J 0 (nI 0)) 6 (nI 0)) fun I_1727 => some ((nI 1), I_1727, F_1726)) 134 0 FU (by omega) (by rw [FU_big]; omega)
    rw [← e0] at hm
    simp (disch := omega) only [bnd_eq, in_in, ob_some, ixN, nI_clamp]
    rw [if_neg (show ¬ nI 1 = nI 0 by decide), k2]
    rcases k1 with hk | hk
    · refine ⟨(-1000000003, I, F), (-1000000003, upd J 0 (nI 0), K), ?_, by rw [hk, if_pos (show (0 : Int32) = nI 0 from rfl)], rfl, Inv_J0 h0⟩
      rcases c2 hi with rfl | rfl
      · rw [if_neg (by decide), if_pos (by decide), if_pos rfl, show I 63 = 0 from hk, if_pos (show (0 : Int32) = nI 0 from rfl)]
      · rw [if_neg (by decide), if_pos (by decide), if_neg (by decide), if_pos rfl, show I 65 = 0 from hk, if_pos (show (0 : Int32) = nI 0 from rfl)]
    · have hm2 : (if I (63 + 2 * i) = nI 0 then some ((-1000000003 : Int32), upd J 0 (nI 0), K) else L_X11_goBack_31 (fun F_1726 => some (nI 1, upd (upd J 0 (nI 0)) 6 (nI 0), F_1726)) (nI i) (upd J 0 (nI 0)) FU (nI 0) K) = some (nI 1, upd (upd J 0 (nI 0)) 6 (nI 0), uF K 3 (va_cpy (K 4) (K 3) (134 * i) 0 134)) := by
        rw [hk, if_neg hz1]
        exact hm
      rw [hm2]
      rcases c2 hi with rfl | rfl
      · obtain ⟨I2, F1, ec, hc⟩ := cp_22_190 (upd I 47 (I 64)) F
        refine ⟨(nI 1, upd I2 61 (nI 0), F1), _, ?_, rfl, rfl, goBack_fin (by omega) hT hX hf hSe hB hP hM hk rfl hc⟩
        rw [if_neg (by decide), if_pos (by decide), if_pos rfl, show I 63 = 1 from hk, if_neg hz1, ec, ob_some, nf_f_X3_forget_42, bnd_eq, ob_some]
      · obtain ⟨I2, F1, ec, hc⟩ := cp_22_200 (upd I 47 (I 66)) F
        refine ⟨(nI 1, upd I2 61 (nI 0), F1), _, ?_, rfl, rfl, goBack_fin (by omega) hT hX hf hSe hB hP hM hk rfl hc⟩
        rw [if_neg (by decide), if_pos (by decide), if_neg (by decide), if_pos rfl, show I 65 = 1 from hk, if_neg hz1, ec, ob_some, nf_f_X3_forget_42, bnd_eq, ob_some]
  · refine ⟨(-1000000001, I, F), (-1000000001, upd J 0 (nI 0), K), ?_, ?_, rfl, Inv_J0 h0⟩
    · rcases inR_out (by decide) h1 with h3 | h3
      · rw [if_pos (show x1 < nI 0 from h3)]
      · by_cases h4 : x1 < nI 0
        · rw [if_pos h4]
        · rw [if_neg h4, if_neg (Int32.not_lt.mpr h3)]
    · simp (disch := omega) [bnd_eq, ob_some, eqN, in_out (x := x1) (a := 0) (b := 1) (by omega) (fun j _ hj => nin h1 j (by omega)) (by omega)]
