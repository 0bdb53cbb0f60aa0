/-! pure layer: what is kept when other slots change; small steps -/
theorem SRq_fr {P B Kp Jm q : Nat} {I I' : WI} {F F' : WF} {v v' : Nat → Int32} (hI : ∀ n, 2 ≤ n → n < 38 → I' n = I n) (hF : ∀ a, 8 ≤ a → a < 152 → F' a = F a) (hq : 1 ≤ q) (hq2 : q ≤ 18) (hv : ∀ t, t < 134 → v' t = v t) (h : SRq P B Kp Jm I F q v) (hk : Kp ≤ 9) (hj : Jm ≤ 6) : SRq P B Kp Jm I' F' q v' := by
  unfold SRq at h ⊢
  rw [hI _ (by omega) (by omega), hI _ (by omega) (by omega), hF _ (by omega) (by omega), hF _ (by omega) (by omega), hF _ (by omega) (by omega), hF _ (by omega) (by omega), hF _ (by omega) (by omega), hF _ (by omega) (by omega), hF _ (by omega) (by omega), hF _ (by omega) (by omega)]
  obtain ⟨h1, h2, h3, h4, h5, h6, r, hr, h7, h8⟩ := h
  refine ⟨h1, ?_, ?_, ?_, h5, ?_, r, hr, h7, ?_⟩
  · rw [hv _ (by omega)]; exact h2
  · rw [hv _ (by omega)]; exact h3
  · intro k hk2
    rw [hv _ (by omega), hv _ (by omega), hv _ (by omega)]
    exact h4 k hk2
  · intro j hj2
    rw [hv _ (by omega), hv _ (by omega), hv _ (by omega), hv _ (by omega)]
    exact h6 j hj2
  · intro i hi
    rw [hv _ (by omega), hv _ (by omega), hv _ (by omega), hv _ (by omega)]
    exact h8 i hi
theorem PA_fr {P B Kp Jm : Nat} {I I' : WI} {F F' : WF} {um : Int32} {un : Nat → Int32} (hI : ∀ n, 2 ≤ n → n < 38 → I' n = I n) (h61 : I' 61 = I 61) (h62 : I' 62 = I 62) (hF : ∀ a, 8 ≤ a → a < 152 → F' a = F a) (hk : Kp ≤ 9) (hj : Jm ≤ 6) (h : PA P B Kp Jm I F um un) : PA P B Kp Jm I' F' um un := by
  obtain ⟨z, nx, h1, h2, h3, h4, h5, h6⟩ := h
  exact ⟨z, nx, h1, h2, h61.trans h3, h62.trans h4, h5, fun i hi => SRq_fr hI hF (by omega) (by omega) (fun _ _ => rfl) (h6 i hi) hk hj⟩
theorem IM_fr {P B Kp Jm : Nat} {I I' : WI} {F F' : WF} {ik ke : Nat → Int32} (hI : ∀ n, 2 ≤ n → n < 38 → I' n = I n) (h63 : ∀ n, 63 ≤ n → n < 67 → I' n = I n) (hF : ∀ a, 8 ≤ a → a < 152 → F' a = F a) (hk : Kp ≤ 9) (hj : Jm ≤ 6) (h : IM P B Kp Jm I F ik ke) : IM P B Kp Jm I' F' ik ke := by
  intro i hi
  obtain ⟨h1, h2, h3⟩ := h i hi
  rw [h63 _ (by omega) (by omega), h63 _ (by omega) (by omega)]
  refine ⟨h1, h2, fun h4 => ?_⟩
  obtain ⟨h5, h6, h7⟩ := h3 h4
  exact ⟨h5, h6, SRq_fr hI hF (by omega) (by omega) (fun _ _ => rfl) h7 hk hj⟩
theorem step_keeper : ∀ (I : WI) (F : WF) (J : WI) (K : WF) (x1 : Int32) (x2 : Int32), Inv I F J K → ∃ (a : Int32) (b : Int32 × WI), f_X10_keeper x1 x2 I F = some a ∧ f_X11_keeper x1 x2 J K = some b ∧ a = b.1 ∧ Inv I F b.2 K := fun I F J K x1 x2 h => by
  have h0 := h
  obtain ⟨P, B, Kp, Jm, hT, hN, -⟩ := h
  have hs := T_sz hT
  rw [nf_f_X10_keeper, nf_f_X11_keeper]
  by_cases h1 : inR x1 Kp
  · obtain ⟨k, hb, rfl⟩ := h1
    obtain ⟨-, -, e1, -⟩ := hT.2.2.2.2.1 k hb
    obtain ⟨-, -, -, e2, e3, e4⟩ := hN.2.2.2.1 k hb
    by_cases h2 : inR x2 5
    · obtain ⟨q, hq, rfl⟩ := h2
      rcases c5 hq with rfl | rfl | rfl | rfl | rfl
      · refine ⟨F 165 k, (F 165 k, upd J 0 (nI 0)), ?_, ?_, rfl, Inv_J0 h0⟩ <;> simp (disch := omega) [bnd_eq, ob_some, eqN, leN, ltN, ixN, nI_clamp, nI_add, hasK_in hT hb, isK_in hT hb, in_in, e1]
      · refine ⟨F 0 k, (F 0 k, upd J 0 (nI 0)), ?_, ?_, rfl, Inv_J0 h0⟩ <;> simp (disch := omega) [bnd_eq, ob_some, eqN, leN, ltN, ixN, nI_clamp, nI_add, hasK_in hT hb, isK_in hT hb, in_in, e2]
      · refine ⟨F 1 k, (F 1 k, upd J 0 (nI 0)), ?_, ?_, rfl, Inv_J0 h0⟩ <;> simp (disch := omega) [bnd_eq, ob_some, eqN, leN, ltN, ixN, nI_clamp, nI_add, hasK_in hT hb, isK_in hT hb, in_in, e3]
      · refine ⟨F 2 k, (F 2 k, upd J 0 (nI 0)), ?_, ?_, rfl, Inv_J0 h0⟩ <;> simp (disch := omega) [bnd_eq, ob_some, eqN, leN, ltN, ixN, nI_clamp, nI_add, hasK_in hT hb, isK_in hT hb, in_in, e4]
      · refine ⟨tmF I F k, (tmF I F k, upd J 0 (nI 0)), ?_, ?_, rfl, Inv_J0 h0⟩ <;> simp (disch := omega) [bnd_eq, ob_some, eqN, leN, ltN, hasK_in hT hb, isK_in hT hb, in_in, tmC hT hb, tmM hT hN hb]
    · refine ⟨-1000000002, (-1000000002, upd J 0 (nI 0)), ?_, ?_, rfl, Inv_J0 h0⟩
      · simp (disch := omega) [bnd_eq, ob_some, eqN, hasK_in hT hb, nin h2 0, nin h2 1, nin h2 2, nin h2 3, nin h2 4]
      · simp (disch := omega) [bnd_eq, ob_some, eqN, isK_in hT hb, in_out (x := x2) (a := 0) (b := 4) (by omega) (fun j _ hj => nin h2 j (by omega)) (by omega)]
  · refine ⟨-1000000001, (-1000000001, upd J 0 (nI 0)), ?_, ?_, rfl, Inv_J0 h0⟩
    · simp [hasK_out hT h1, ob_some]
    · simp [bnd_eq, isK_out hT h1, ob_some]
theorem step_jumper : ∀ (I : WI) (F : WF) (J : WI) (K : WF) (x1 : Int32) (x2 : Int32), Inv I F J K → ∃ (a : Int32) (b : Int32 × WI), f_X10_jumper x1 x2 I F = some a ∧ f_X11_jumper x1 x2 J K = some b ∧ a = b.1 ∧ Inv I F b.2 K := fun I F J K x1 x2 h => by
  have h0 := h
  obtain ⟨P, B, Kp, Jm, hT, hN, -⟩ := h
  have hs := T_sz hT
  rw [nf_f_X10_jumper, nf_f_X11_jumper]
  by_cases h1 : inR x1 Jm
  · obtain ⟨j, hb, rfl⟩ := h1
    obtain ⟨-, -, e1, -⟩ := hT.2.2.2.2.2 j hb
    obtain ⟨-, -, -, -, e2, e3, e4, e5⟩ := hN.2.2.2.2.2.1 j hb
    by_cases h2 : inR x2 6
    · obtain ⟨q, hq, rfl⟩ := h2
      rcases c6 hq with rfl | rfl | rfl | rfl | rfl | rfl
      · refine ⟨F 167 j, (F 167 j, upd J 0 (nI 0)), ?_, ?_, rfl, Inv_J0 h0⟩ <;> simp (disch := omega) [bnd_eq, ob_some, eqN, leN, ltN, ixN, nI_clamp, nI_add, hasJ_in hT hb, isJ_in hT hb, in_in, e1]
      · refine ⟨F 3 j, (F 3 j, upd J 0 (nI 0)), ?_, ?_, rfl, Inv_J0 h0⟩ <;> simp (disch := omega) [bnd_eq, ob_some, eqN, leN, ltN, ixN, nI_clamp, nI_add, subN, pk_mul, hasJ_in hT hb, isJ_in hT hb, in_in, e2]
      · refine ⟨F 4 j, (F 4 j, upd J 0 (nI 0)), ?_, ?_, rfl, Inv_J0 h0⟩ <;> simp (disch := omega) [bnd_eq, ob_some, eqN, leN, ltN, ixN, nI_clamp, nI_add, subN, pk_mul, hasJ_in hT hb, isJ_in hT hb, in_in, e3]
      · refine ⟨F 5 j, (F 5 j, upd J 0 (nI 0)), ?_, ?_, rfl, Inv_J0 h0⟩ <;> simp (disch := omega) [bnd_eq, ob_some, eqN, leN, ltN, ixN, nI_clamp, nI_add, subN, pk_mul, hasJ_in hT hb, isJ_in hT hb, in_in, e4]
      · refine ⟨F 6 j, (F 6 j, upd J 0 (nI 0)), ?_, ?_, rfl, Inv_J0 h0⟩ <;> simp (disch := omega) [bnd_eq, ob_some, eqN, leN, ltN, ixN, nI_clamp, nI_add, subN, pk_mul, hasJ_in hT hb, isJ_in hT hb, in_in, e5]
      · refine ⟨drv (cmF I F Kp j) B 0 0, (drv (cmF I F Kp j) B 0 0, upd J 0 (nI 0)), ?_, ?_, rfl, Inv_J0 h0⟩ <;> simp (disch := omega) [bnd_eq, ob_some, eqN, leN, ltN, hasJ_in hT hb, isJ_in hT hb, in_in, daC hT hb, daM hT hN hb]
    · refine ⟨-1000000002, (-1000000002, upd J 0 (nI 0)), ?_, ?_, rfl, Inv_J0 h0⟩
      · simp (disch := omega) [bnd_eq, ob_some, eqN, hasJ_in hT hb, nin h2 0, nin h2 1, nin h2 2, nin h2 3, nin h2 4, nin h2 5]
      · simp (disch := omega) [bnd_eq, ob_some, eqN, isJ_in hT hb, in_out (x := x2) (a := 0) (b := 5) (by omega) (fun j _ hj => nin h2 j (by omega)) (by omega)]
  · refine ⟨-1000000001, (-1000000001, upd J 0 (nI 0)), ?_, ?_, rfl, Inv_J0 h0⟩
    · simp [hasJ_out hT h1, ob_some]
    · simp [bnd_eq, isJ_out hT h1, ob_some]
theorem step_flight : ∀ (I : WI) (F : WF) (J : WI) (K : WF) (x1 : Int32) (x2 : Int32), Inv I F J K → ∃ (a : Int32) (b : Int32 × WI), f_X10_flight x1 x2 I F = some a ∧ f_X11_flight x1 x2 J K = some b ∧ a = b.1 ∧ Inv I F b.2 K := fun I F J K x1 x2 h => by
  have h0 := h
  obtain ⟨P, B, Kp, Jm, hT, hN, -⟩ := h
  have hs := T_sz hT
  rw [nf_f_X10_flight, nf_f_X11_flight]
  by_cases h1 : inR x1 Jm
  · obtain ⟨j, hj, rfl⟩ := h1
    by_cases h2 : inR x2 B
    · obtain ⟨b, hb, rfl⟩ := h2
      refine ⟨flF I F j b, (flF I F j b, upd J 0 (nI 0)), ?_, ?_, rfl, Inv_J0 h0⟩ <;> simp (disch := omega) [bnd_eq, ob_some, eqN, hasJ_in hT hj, isJ_in hT hj, hasB_in hT hb, isB_in hT hb, flC hT hj hb, flM hT hN hj hb]
    · refine ⟨-1000000001, (-1000000001, upd J 0 (nI 0)), ?_, ?_, rfl, Inv_J0 h0⟩ <;> simp (disch := omega) [bnd_eq, ob_some, eqN, hasJ_in hT hj, isJ_in hT hj, hasB_out hT h2, isB_out hT h2]
  · refine ⟨-1000000001, (-1000000001, upd J 0 (nI 0)), ?_, ?_, rfl, Inv_J0 h0⟩
    · simp [hasJ_out hT h1, ob_some]
    · simp [bnd_eq, isJ_out hT h1, ob_some]
theorem step_seed : ∀ (I : WI) (F : WF) (J : WI) (K : WF) (x1 : Int32), Inv I F J K → ∃ (a : Int32 × WI) (b : Int32 × WI × WF), f_X10_seed x1 I F = some a ∧ f_X11_seed x1 J K = some b ∧ a.1 = b.1 ∧ Inv a.2 F b.2.1 b.2.2 := fun I F J K x1 h => by
  rw [nf_f_X10_seed, nf_f_X11_seed]
  by_cases h1 : nI 0 ≤ x1
  · simp only [if_pos h1, bnd_eq]
    refine ⟨_, _, rfl, rfl, ?_⟩
    show I 47 = K 3 133 ∧ Inv (upd I 47 x1) F (upd J 0 (nI 0)) (uF K 3 (upd (K 3) 133 x1))
    obtain ⟨P, B, Kp, Jm, hT, hN, hS, hX, hf, hSe, hB, hP, hI⟩ := h
    have hs := T_sz hT
    refine ⟨hS.1, P, B, Kp, Jm, hT, ?_, ⟨?_, Int32.not_lt.mpr h1⟩, hX, hf, hSe, hB, PA_fr (I := I) (F := F) (fun n _ _ => upd_ne (by omega)) rfl rfl (fun _ _ _ => rfl) hs.2.2.1 hs.2.2.2 hP, IM_fr (I := I) (F := F) (fun n _ _ => upd_ne (by omega)) (fun n _ _ => upd_ne (by omega)) (fun _ _ _ => rfl) hs.2.2.1 hs.2.2.2 hI⟩
    · obtain ⟨n1, n2, n3, n4, n5, n6, r, n7, n8, n9⟩ := hN
      have hv : ∀ t, t < 133 → uF K 3 (upd (K 3) 133 x1) 3 t = K 3 t := fun t ht => by rw [uF_same, upd_ne (by omega)]
      refine ⟨n1, ?_, ?_, ?_, n5, ?_, r, n7, n8, ?_⟩
      · exact (hv 51 (by omega)).trans n2
      · exact (hv 52 (by omega)).trans n3
      · intro k hk; rw [hv _ (by omega), hv _ (by omega), hv _ (by omega)]; exact n4 k hk
      · intro j hj; rw [hv _ (by omega), hv _ (by omega), hv _ (by omega), hv _ (by omega)]; exact n6 j hj
      · intro i hi; rw [hv _ (by omega), hv _ (by omega), hv _ (by omega), hv _ (by omega)]; exact n9 i hi
    · rfl
  · simp only [if_neg h1, bnd_eq]
    exact ⟨_, _, rfl, rfl, rfl, Inv_J0 h⟩
theorem seen_empty (fl ov : Nat → Int32) : SE (nI 0) (nI 1) (nI 40) (nI 0) fl ov := ⟨0, 1, 40, by omega, by omega, by omega, by omega, rfl, rfl, rfl, rfl, fun k hk => absurd hk (by omega), fun r h1 h2 => ⟨fun _ => ⟨h1, h2⟩, fun _ k hk => absurd hk (by omega)⟩⟩
theorem book_empty (P Jm : Nat) (a b c d : Nat → Int32) : BK P Jm (nI 0) (nI 0) a b c d := ⟨0, by omega, rfl, rfl, fun i hi => absurd hi (by omega)⟩
theorem step_tear : ∀ (I : WI) (F : WF) (J : WI) (K : WF), Inv I F J K → ∃ (a : Int32 × WI) (b : Int32 × WI), f_X10_tear  I F = some a ∧ f_X11_tear  J K = some b ∧ a.1 = b.1 ∧ Inv a.2 F b.2 K := fun I F J K h => by
  obtain ⟨P, B, Kp, Jm, hT, hN, hS, hX, hf, hSe, hB, hP, hI⟩ := h
  have hs := T_sz hT
  rw [nf_f_X10_tear, nf_f_X11_tear]
  simp only [bnd_eq, nf_f_X5_forget_38, ob_some]
  refine ⟨_, _, rfl, rfl, ?_⟩
  show I 57 + I 60 = upd J 0 (nI 0) 7 + upd J 0 (nI 0) 8 ∧ Inv (upd (upd (upd (upd I 57 (nI 0)) 58 (nI 1)) 59 (nI 40)) 60 (nI 0)) F (upd (upd (upd J 0 (nI 0)) 7 (nI 0)) 8 (nI 0)) K
  have hu : ∀ n, (n < 57 ∨ 60 < n) → upd (upd (upd (upd I 57 (nI 0)) 58 (nI 1)) 59 (nI 40)) 60 (nI 0) n = I n := fun n hn => by rw [upd_ne (by omega), upd_ne (by omega), upd_ne (by omega), upd_ne (by omega)]
  refine ⟨?_, P, B, Kp, Jm, hT, hN, hS, hX, hf, seen_empty _ _, book_empty _ _ _ _ _ _, PA_fr (I := I) (F := F) (fun n _ _ => hu n (by omega)) rfl rfl (fun _ _ _ => rfl) hs.2.2.1 hs.2.2.2 hP, IM_fr (I := I) (F := F) (fun n _ _ => hu n (by omega)) (fun n _ _ => hu n (by omega)) (fun _ _ _ => rfl) hs.2.2.1 hs.2.2.2 hI⟩
  obtain ⟨c, -, -, -, -, -, -, e1, e2, -⟩ := hSe
  obtain ⟨z, -, e3, e4, -⟩ := hB
  rw [upd_ne (by omega), upd_ne (by omega), e1, e2, e3, e4]
theorem step_write : ∀ (I : WI) (F : WF) (J : WI) (K : WF) (x1 : Int32) (x2 : Int32), Inv I F J K → ∃ (a : Int32 × WI × WF) (b : Int32 × WI × WF), f_X10_write x1 x2 I F = some a ∧ f_X11_write x1 x2 J K = some b ∧ a.1 = b.1 ∧ Inv a.2.1 a.2.2 b.2.1 b.2.2 := fun I F J K x1 x2 h => by
  have h0 := h
  obtain ⟨P, B, Kp, Jm, hT, hN, hS, hX, hf, hSe, hB, hP, hI⟩ := h
  have hs := T_sz hT
  rw [nf_f_X10_write, nf_f_X11_write]
  by_cases h1 : inR x1 Jm
  · obtain ⟨j, hj, rfl⟩ := h1
    by_cases h2 : inR x2 P
    · obtain ⟨x, hx, rfl⟩ := h2
      obtain ⟨z, z1, z2, z3, z4⟩ := hB
      by_cases h3 : z = 15
      · refine ⟨(-1000000004, I, F), (-1000000004, upd J 0 (nI 0), K), ?_, ?_, rfl, Inv_J0 h0⟩ <;> simp (disch := omega) [bnd_eq, ob_some, eqN, ltN, hasJ_in hT hj, isJ_in hT hj, hasP_in hT hx, isP_in hT hx, z2, z3, h3, upd]
      · refine ⟨(nI (z + 1), upd I 60 (nI (z + 1)), uF (uF F 174 (upd (F 174) z (nI j))) 175 (upd (F 175) z (nI x))), (nI (z + 1), upd (upd J 0 (nI 0)) 8 (nI (z + 1)), uF (uF K 9 (upd (K 9) z (nI j))) 10 (upd (K 10) z (nI x))), ?_, ?_, rfl, ?_⟩
        · simp (disch := omega) [bnd_eq, ob_some, eqN, ltN, hasJ_in hT hj, hasP_in hT hx, z2, nf_f_X0_add_39, ixN, nI_clamp, nI_add, upd_same, uF_ne, show z < 15 by omega]
        · simp (disch := omega) [bnd_eq, ob_some, eqN, ltN, isJ_in hT hj, isP_in hT hx, show upd J 0 (nI 0) 8 = nI z from z3, h3, ixN, nI_clamp, nI_add, upd_same, uF_ne]
        · refine ⟨P, B, Kp, Jm, hT, hN, hS, hX, hf, hSe, ⟨z + 1, by omega, rfl, rfl, fun i hi => ?_⟩, PA_fr (I := I) (F := F) (fun n _ _ => upd_ne (by omega)) rfl rfl (fun a _ _ => (uF_ne _ _ (by omega)).trans (uF_ne _ _ (by omega))) hs.2.2.1 hs.2.2.2 hP, IM_fr (I := I) (F := F) (fun n _ _ => upd_ne (by omega)) (fun n _ _ => upd_ne (by omega)) (fun a _ _ => (uF_ne _ _ (by omega)).trans (uF_ne _ _ (by omega))) hs.2.2.1 hs.2.2.2 hI⟩
          show (∃ q, q < Jm ∧ upd (F 174) z (nI j) i = nI q) ∧ (∃ q, q < P ∧ upd (F 175) z (nI x) i = nI q) ∧ upd (K 9) z (nI j) i = upd (F 174) z (nI j) i ∧ upd (K 10) z (nI x) i = upd (F 175) z (nI x) i
          by_cases hiz : i = z
          · subst hiz
            rw [upd_same, upd_same, upd_same, upd_same]
            exact ⟨⟨j, hj, rfl⟩, ⟨x, hx, rfl⟩, rfl, rfl⟩
          · rw [upd_ne hiz, upd_ne hiz, upd_ne hiz, upd_ne hiz]
            exact z4 i (by omega)
    · refine ⟨(-1000000001, I, F), (-1000000001, upd J 0 (nI 0), K), ?_, ?_, rfl, Inv_J0 h0⟩ <;> simp (disch := omega) [bnd_eq, ob_some, eqN, hasJ_in hT hj, isJ_in hT hj, hasP_out hT h2, isP_out hT h2]
  · refine ⟨(-1000000001, I, F), (-1000000001, upd J 0 (nI 0), K), ?_, ?_, rfl, Inv_J0 h0⟩
    · simp [hasJ_out hT h1, ob_some]
    · simp [bnd_eq, isJ_out hT h1, ob_some]
theorem step_feed : ∀ (I : WI) (F : WF) (J : WI) (K : WF) (x1 : Int32), Inv I F J K → ∃ (a : Int32 × WI × WF) (b : Int32 × WI × WF), f_X10_feed x1 I F = some a ∧ f_X11_feed x1 J K = some b ∧ a.1 = b.1 ∧ Inv a.2.1 a.2.2 b.2.1 b.2.2 := fun I F J K x1 h => by
  have h0 := h
  obtain ⟨P, B, Kp, Jm, hT, hN, hS, hX, hf, hSe, hB, hP, hI⟩ := h
  have hs := T_sz hT
  rw [nf_f_X10_feed, nf_f_X11_feed]
  by_cases h1 : inR x1 256
  · obtain ⟨j, hj, rfl⟩ := h1
    obtain ⟨z, z1, z2, z3, z4⟩ := hX
    by_cases h3 : z = 240
    · refine ⟨(-1000000004, I, F), (-1000000004, upd J 0 (nI 0), K), ?_, ?_, rfl, Inv_J0 h0⟩
      · simp (disch := omega) [bnd_eq, ob_some, eqN, ltN, leN, z2, h3, show j ≤ 255 by omega]
      · simp (disch := omega) [bnd_eq, ob_some, eqN, in_in, show upd J 0 (nI 0) 1 = nI z from z3, h3]
    · refine ⟨(nI (z + 1), upd I 38 (nI (z + 1)), uF F 160 (upd (F 160) z (nI j))), (nI (z + 1), upd (upd J 0 (nI 0)) 1 (nI (z + 1)), uF K 0 (upd (K 0) z (nI j))), ?_, ?_, rfl, ?_⟩
      · simp (disch := omega) [bnd_eq, ob_some, eqN, ltN, leN, z2, show z < 240 by omega, show j ≤ 255 by omega, nf_f_X8_add_1, ixN, nI_clamp, nI_add, upd_same]
      · simp (disch := omega) [bnd_eq, ob_some, eqN, in_in, show upd J 0 (nI 0) 1 = nI z from z3, h3, ixN, nI_clamp, nI_add, upd_same]
      · refine ⟨P, B, Kp, Jm, hT, hN, hS, ⟨z + 1, by omega, rfl, rfl, fun i hi => ?_⟩, hf, hSe, hB, PA_fr (I := I) (F := F) (fun n _ _ => upd_ne (by omega)) rfl rfl (fun a _ _ => uF_ne _ _ (by omega)) hs.2.2.1 hs.2.2.2 hP, IM_fr (I := I) (F := F) (fun n _ _ => upd_ne (by omega)) (fun n _ _ => upd_ne (by omega)) (fun a _ _ => uF_ne _ _ (by omega)) hs.2.2.1 hs.2.2.2 hI⟩
        show upd (F 160) z (nI j) i = upd (K 0) z (nI j) i
        by_cases hiz : i = z
        · subst hiz; rw [upd_same, upd_same]
        · rw [upd_ne hiz, upd_ne hiz]; exact z4 i (by omega)
  · refine ⟨(-1000000002, I, F), (-1000000002, upd J 0 (nI 0), K), ?_, ?_, rfl, Inv_J0 h0⟩
    · rcases inR_out (by decide) h1 with h2 | h2
      · rw [if_pos (show x1 < nI 0 from h2)]
      · by_cases h3 : x1 < nI 0
        · rw [if_pos h3]
        · rw [if_neg h3, if_neg (fun h4 => absurd (Int32.le_trans h2 h4) (by decide))]
    · simp (disch := omega) [bnd_eq, ob_some, eqN, in_out (x := x1) (a := 0) (b := 255) (by omega) (fun j _ hj => nin h1 j (by omega)) (by omega)]
