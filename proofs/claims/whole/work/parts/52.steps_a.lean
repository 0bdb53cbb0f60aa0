/-! pure layer: steps that only read -/
theorem Inv_J0 {I : WI} {F : WF} {J : WI} {K : WF} (h : Inv I F J K) : Inv I F (upd J 0 0) K := h
abbrev tmF (I : WI) (F : WF) (k : Nat) : Int32 := tmv (F 165 k) (F 0 k) (I 0) (F 2 k)
abbrev flF (I : WI) (F : WF) (j b : Nat) : Int32 := flv (F 167 j) (F 163 b) (F 4 j) (I 0)
abbrev cmF (I : WI) (F : WF) (Kp j b : Nat) : Int32 := cmv (F 1) Kp (tmF I F) (flF I F j) b
section Reads
variable {P B Kp Jm : Nat} {I : WI} {F : WF} {K : WF}
theorem T_sz (hT : InvT P B Kp Jm I F K) : P ≤ 8 ∧ B ≤ 9 ∧ Kp ≤ 9 ∧ Jm ≤ 6 := ⟨hT.2.1.1, hT.2.1.2.1, hT.2.1.2.2.1, hT.2.1.2.2.2.1⟩
theorem hasB_in (hT : InvT P B Kp Jm I F K) {b : Nat} (h : b < B) : f_X7_hasBridge_13 (nI b) I F = some (nI 1) := by
  have hs := T_sz hT
  rw [nf_f_X7_hasBridge_13, hT.1.2.1]; exact has_in h (by omega)
theorem hasB_out (hT : InvT P B Kp Jm I F K) {x : Int32} (h : ¬ inR x B) : f_X7_hasBridge_13 x I F = some (nI 0) := by
  have hs := T_sz hT
  rw [nf_f_X7_hasBridge_13, hT.1.2.1]; exact has_out (by omega) h
theorem hasK_in (hT : InvT P B Kp Jm I F K) {b : Nat} (h : b < Kp) : f_X7_hasKeeper_13 (nI b) I F = some (nI 1) := by
  have hs := T_sz hT
  rw [nf_f_X7_hasKeeper_13, hT.1.2.2.1]; exact has_in h (by omega)
theorem hasK_out (hT : InvT P B Kp Jm I F K) {x : Int32} (h : ¬ inR x Kp) : f_X7_hasKeeper_13 x I F = some (nI 0) := by
  have hs := T_sz hT
  rw [nf_f_X7_hasKeeper_13, hT.1.2.2.1]; exact has_out (by omega) h
theorem hasJ_in (hT : InvT P B Kp Jm I F K) {b : Nat} (h : b < Jm) : f_X7_hasJumper_13 (nI b) I F = some (nI 1) := by
  have hs := T_sz hT
  rw [nf_f_X7_hasJumper_13, hT.1.2.2.2]; exact has_in h (by omega)
theorem hasJ_out (hT : InvT P B Kp Jm I F K) {x : Int32} (h : ¬ inR x Jm) : f_X7_hasJumper_13 x I F = some (nI 0) := by
  have hs := T_sz hT
  rw [nf_f_X7_hasJumper_13, hT.1.2.2.2]; exact has_out (by omega) h
theorem hasP_in (hT : InvT P B Kp Jm I F K) {b : Nat} (h : b < P) : f_X7_hasPlace_13 (nI b) I F = some (nI 1) := by
  have hs := T_sz hT
  rw [nf_f_X7_hasPlace_13, hT.1.1]; exact has_in h (by omega)
theorem hasP_out (hT : InvT P B Kp Jm I F K) {x : Int32} (h : ¬ inR x P) : f_X7_hasPlace_13 x I F = some (nI 0) := by
  have hs := T_sz hT
  rw [nf_f_X7_hasPlace_13, hT.1.1]; exact has_out (by omega) h
theorem isB_in (hT : InvT P B Kp Jm I F K) {J : WI} {b : Nat} (h : b < B) : f_X11_isBridge (nI b) J K = some (nI 1) := by
  have hs := T_sz hT
  rw [nf_f_X11_isBridge, hT.2.2.1.2.1]; exact is_in h (by omega)
theorem isB_out (hT : InvT P B Kp Jm I F K) {J : WI} {x : Int32} (h : ¬ inR x B) : f_X11_isBridge x J K = some (nI 0) := by
  have hs := T_sz hT
  rw [nf_f_X11_isBridge, hT.2.2.1.2.1]; exact is_out (by omega) h
theorem isK_in (hT : InvT P B Kp Jm I F K) {J : WI} {b : Nat} (h : b < Kp) : f_X11_isKeeper (nI b) J K = some (nI 1) := by
  have hs := T_sz hT
  rw [nf_f_X11_isKeeper, hT.2.2.1.2.2.1]; exact is_in h (by omega)
theorem isK_out (hT : InvT P B Kp Jm I F K) {J : WI} {x : Int32} (h : ¬ inR x Kp) : f_X11_isKeeper x J K = some (nI 0) := by
  have hs := T_sz hT
  rw [nf_f_X11_isKeeper, hT.2.2.1.2.2.1]; exact is_out (by omega) h
theorem isJ_in (hT : InvT P B Kp Jm I F K) {J : WI} {b : Nat} (h : b < Jm) : f_X11_isJumper (nI b) J K = some (nI 1) := by
  have hs := T_sz hT
  rw [nf_f_X11_isJumper, hT.2.2.1.2.2.2]; exact is_in h (by omega)
theorem isJ_out (hT : InvT P B Kp Jm I F K) {J : WI} {x : Int32} (h : ¬ inR x Jm) : f_X11_isJumper x J K = some (nI 0) := by
  have hs := T_sz hT
  rw [nf_f_X11_isJumper, hT.2.2.1.2.2.2]; exact is_out (by omega) h
theorem isP_in (hT : InvT P B Kp Jm I F K) {J : WI} {b : Nat} (h : b < P) : f_X11_isPlace (nI b) J K = some (nI 1) := by
  have hs := T_sz hT
  rw [nf_f_X11_isPlace, hT.2.2.1.1]; exact is_in h (by omega)
theorem isP_out (hT : InvT P B Kp Jm I F K) {J : WI} {x : Int32} (h : ¬ inR x P) : f_X11_isPlace x J K = some (nI 0) := by
  have hs := T_sz hT
  rw [nf_f_X11_isPlace, hT.2.2.1.1]; exact is_out (by omega) h
theorem kpC (hT : InvT P B Kp Jm I F K) (x : Int32) : f_X1_keeperAt_12 x I F = some (kOf (kAt (F 1) x Kp 0)) := keeperAt_c hT.1.2.2.1 (T_sz hT).2.2.1 x
theorem kpM (hT : InvT P B Kp Jm I F K) (hN : InvN P B Kp Jm I F K) {J : WI} {b : Nat} (hb : b < 2 ^ 31) : f_X11_keeperAt (nI b) J K = some (kOf (kAt (F 1) (nI b) Kp 0)) := keeperAt_m hT.2.2.1.2.2.1 (T_sz hT).2.2.1 (F 1) (fun k hk => (hN.2.2.2.1 k hk).2.2.2.2.1) hN.2.2.2.2.1 hb
theorem tmC (hT : InvT P B Kp Jm I F K) {k : Nat} (hk : k < Kp) : f_X1_timeOf_12 (nI k) I F = some (tmF I F k) := timeOf_c (by have := T_sz hT; omega)
theorem tmM (hT : InvT P B Kp Jm I F K) (hN : InvN P B Kp Jm I F K) {J : WI} {k : Nat} (hk : k < Kp) : f_X11_timeOf (nI k) J K = some (tmF I F k) := by
  rw [timeOf_m (by have := T_sz hT; omega), (hT.2.2.2.2.1 k hk).2.2.1, (hN.2.2.2.1 k hk).2.2.2.1, (hN.2.2.2.1 k hk).2.2.2.2.2, hN.2.1]
theorem flC (hT : InvT P B Kp Jm I F K) {j b : Nat} (hj : j < Jm) (hb : b < B) : f_X1_flightOver_12 (nI j) (nI b) I F = some (flF I F j b) := flight_c (by have := T_sz hT; omega) (by have := T_sz hT; omega)
theorem flM (hT : InvT P B Kp Jm I F K) (hN : InvN P B Kp Jm I F K) {J : WI} {j b : Nat} (hj : j < Jm) (hb : b < B) : f_X11_flightOf (nI j) (nI b) J K = some (flF I F j b) := by
  have hs := T_sz hT
  obtain ⟨⟨q, hq, eq⟩, -, e1, -⟩ := hT.2.2.2.2.2 j hj
  obtain ⟨-, ⟨a, ha, ha2, ea⟩, -, -, -, e2, -⟩ := hT.2.2.2.1 b hb
  rw [flight_m (q := q) (a := a) (by omega) (by omega) hq (by rw [e1, eq]) (by rw [e2, ea]) (by omega), e1, e2, (hN.2.2.2.2.2.1 j hj).2.2.2.2.2.1, hN.2.1]
theorem cmC (hT : InvT P B Kp Jm I F K) {j b : Nat} (hj : j < Jm) (hb : b < B) : f_X1_comesOver_12 (nI j) (nI b) I F = some (cmF I F Kp j b) := by
  have hs := T_sz hT
  rw [f_X1_comesOver_12, kpC hT, ob_some, bnd_eq, cmF, cmv]
  cases h : kAt (F 1) (nI b) Kp 0 with
  | none => rw [kOf, if_pos rfl]
  | some k =>
    have hk := (kAt_some h).1
    rw [kOf, if_neg (m1N (by omega)), tmC hT hk, flC hT hj hb, ob_some, ob_some]
    show (if _ < _ then some (0 : Int32) else some 1) = some (if _ < _ then 0 else 1)
    split <;> rfl
theorem cmM (hT : InvT P B Kp Jm I F K) (hN : InvN P B Kp Jm I F K) {J : WI} {j b : Nat} (hj : j < Jm) (hb : b < B) : f_X11_comes (nI j) (nI b) J K = some (cmF I F Kp j b) := by
  have hs := T_sz hT
  rw [f_X11_comes, kpM hT hN (by omega), ob_some, bnd_eq, cmF, cmv]
  cases h : kAt (F 1) (nI b) Kp 0 with
  | none => rw [kOf, if_pos rfl]
  | some k =>
    have hk := (kAt_some h).1
    rw [kOf, if_neg (m1N (by omega)), tmM hT hN hk, flM hT hN hj hb, ob_some, ob_some]
    show (if _ < _ then some (0 : Int32) else some 1) = some (if _ < _ then 0 else 1)
    split <;> rfl
theorem daC (hT : InvT P B Kp Jm I F K) {j : Nat} (hj : j < Jm) : f_X1_dares_12 (nI j) I F = some (drv (cmF I F Kp j) B 0 0) := by
  rw [f_X1_dares_12, bnd_eq, bnd_eq]
  exact dares_c hT.1.2.1 (T_sz hT).2.1 (nI j) (cmF I F Kp j) (fun b hb => cmC hT hj hb) _ B 0 FU 0 (by omega) (by have := T_sz hT; rw [FU_big]; omega)
theorem daM (hT : InvT P B Kp Jm I F K) (hN : InvN P B Kp Jm I F K) {J : WI} {j : Nat} (hj : j < Jm) : f_X11_daresOf (nI j) J K = some (drv (cmF I F Kp j) B 0 0) := by
  rw [f_X11_daresOf, bnd_eq, bnd_eq]
  exact dares_m hT.2.2.1.2.1 (T_sz hT).2.1 (nI j) (cmF I F Kp j) (fun b hb => cmM hT hN hj hb) _ B 0 FU 0 (by omega) (by have := T_sz hT; rw [FU_big]; omega)
end Reads
theorem step_fault : ∀ (I : WI) (F : WF) (J : WI) (K : WF), Inv I F J K → ∃ (a : Int32) (b : Int32 × WI), f_X10_fault  I F = some a ∧ f_X11_fault  J K = some b ∧ a = b.1 ∧ Inv I F b.2 K := fun I F J K h => by
  refine ⟨_, _, rfl, rfl, ?_, Inv_J0 h⟩
  obtain ⟨P, B, Kp, Jm, hT, hN, hS, hX, hf, -⟩ := h
  exact hf
theorem c6 {j : Nat} (h : j < 6) : j = 0 ∨ j = 1 ∨ j = 2 ∨ j = 3 ∨ j = 4 ∨ j = 5 := by omega
theorem c5 {j : Nat} (h : j < 5) : j = 0 ∨ j = 1 ∨ j = 2 ∨ j = 3 ∨ j = 4 := by omega
theorem c4 {j : Nat} (h : j < 4) : j = 0 ∨ j = 1 ∨ j = 2 ∨ j = 3 := by omega
theorem c2 {j : Nat} (h : j < 2) : j = 0 ∨ j = 1 := by omega
theorem step_bridge : ∀ (I : WI) (F : WF) (J : WI) (K : WF) (x1 : Int32) (x2 : Int32), Inv I F J K → ∃ (a : Int32) (b : Int32 × WI), f_X10_bridge x1 x2 I F = some a ∧ f_X11_bridge x1 x2 J K = some b ∧ a = b.1 ∧ Inv I F b.2 K := fun I F J K x1 x2 h => by
  have h0 := h
  obtain ⟨P, B, Kp, Jm, hT, hN, -⟩ := h
  have hs := T_sz hT
  rw [nf_f_X10_bridge, nf_f_X11_bridge]
  by_cases h1 : inR x1 B
  · obtain ⟨b, hb, rfl⟩ := h1
    obtain ⟨-, -, -, e1, e2, e3, e4⟩ := hT.2.2.2.1 b hb
    by_cases h2 : inR x2 6
    · obtain ⟨q, hq, rfl⟩ := h2
      rcases c6 hq with rfl | rfl | rfl | rfl | rfl | rfl
      · refine ⟨F 161 b, (F 161 b, upd J 0 (nI 0)), ?_, ?_, rfl, Inv_J0 h0⟩ <;> simp (disch := omega) [bnd_eq, ob_some, eqN, leN, ltN, ixN, nI_clamp, nI_add, pk_mul, hasB_in hT hb, isB_in hT hb, in_in, e1]
      · refine ⟨F 162 b, (F 162 b, upd J 0 (nI 0)), ?_, ?_, rfl, Inv_J0 h0⟩ <;> simp (disch := omega) [bnd_eq, ob_some, eqN, leN, ltN, ixN, nI_clamp, nI_add, pk_mul, hasB_in hT hb, isB_in hT hb, in_in, e2]
      · refine ⟨F 163 b, (F 163 b, upd J 0 (nI 0)), ?_, ?_, rfl, Inv_J0 h0⟩ <;> simp (disch := omega) [bnd_eq, ob_some, eqN, leN, ltN, ixN, nI_clamp, nI_add, pk_mul, hasB_in hT hb, isB_in hT hb, in_in, e3]
      · refine ⟨F 164 b, (F 164 b, upd J 0 (nI 0)), ?_, ?_, rfl, Inv_J0 h0⟩ <;> simp (disch := omega) [bnd_eq, ob_some, eqN, leN, ltN, ixN, nI_clamp, nI_add, pk_mul, hasB_in hT hb, isB_in hT hb, in_in, e4]
      · refine ⟨kOf (kAt (F 1) (nI b) Kp 0), (kOf (kAt (F 1) (nI b) Kp 0), upd J 0 (nI 0)), ?_, ?_, rfl, Inv_J0 h0⟩ <;> simp (disch := omega) [bnd_eq, ob_some, eqN, leN, ltN, hasB_in hT hb, isB_in hT hb, in_in, kpC hT, kpM hT hN]
      · cases hk : kAt (F 1) (nI b) Kp 0 with
        | none =>
          refine ⟨-1, (-1, upd J 0 (nI 0)), ?_, ?_, rfl, Inv_J0 h0⟩ <;> simp (disch := omega) [bnd_eq, ob_some, eqN, leN, ltN, hasB_in hT hb, isB_in hT hb, in_in, kpC hT, kpM hT hN, hk, nf_f_X1_timeAt_12, kOf]
        | some k =>
          have hk2 := (kAt_some hk).1
          refine ⟨tmF I F k, (tmF I F k, upd J 0 (nI 0)), ?_, ?_, rfl, Inv_J0 h0⟩ <;> simp (disch := omega) [bnd_eq, ob_some, eqN, leN, ltN, hasB_in hT hb, isB_in hT hb, in_in, kpC hT, kpM hT hN, hk, nf_f_X1_timeAt_12, kOf, m1N, tmC hT hk2, tmM hT hN hk2]
    · refine ⟨-1000000002, (-1000000002, upd J 0 (nI 0)), ?_, ?_, rfl, Inv_J0 h0⟩
      · simp (disch := omega) [bnd_eq, ob_some, eqN, hasB_in hT hb, nin h2 0, nin h2 1, nin h2 2, nin h2 3, nin h2 4, nin h2 5]
      · simp (disch := omega) [bnd_eq, ob_some, eqN, isB_in hT hb, in_out (x := x2) (a := 0) (b := 5) (by omega) (fun j _ hj => nin h2 j (by omega)) (by omega)]
  · refine ⟨-1000000001, (-1000000001, upd J 0 (nI 0)), ?_, ?_, rfl, Inv_J0 h0⟩
    · simp [hasB_out hT h1, ob_some]
    · simp [bnd_eq, isB_out hT h1, ob_some]
