/-! pure layer: post, rest, train, talk, undo, keep, goBack -/
theorem InvN_of {P B Kp Jm : Nat} {I : WI} {F K : WF} {h rs : Int32} {a0 a1 a2 a3 a4 a5 a6 a7 v : Nat → Int32} (e : I 0 = h ∧ I 1 = rs ∧ F 0 = a0 ∧ F 1 = a1 ∧ F 2 = a2 ∧ F 3 = a3 ∧ F 4 = a4 ∧ F 5 = a5 ∧ F 6 = a6 ∧ F 7 = a7 ∧ K 3 = v) (hs : SR P B Kp Jm h rs a0 a1 a2 a3 a4 a5 a6 a7 v) : InvN P B Kp Jm I F K := by
  obtain ⟨rfl, rfl, rfl, rfl, rfl, rfl, rfl, rfl, rfl, rfl, rfl⟩ := e
  exact hs
/-- the whole, from a changed 'now' behind remember and notes -/
theorem Inv_now {P B Kp Jm : Nat} {I I1 I2 : WI} {F F1 F2 : WF} {J J1 : WI} {K K1 K2 : WF} (hT : InvT P B Kp Jm I F K) (hX : TX (I 38) (J 1) (F 160) (K 0)) (hf : I 40 = J 5) (hSe : SE (I 57) (I 58) (I 59) (J 7) (K 7) (K 8)) (hB : BK P Jm (I 60) (J 8) (F 174) (F 175) (K 9) (K 10))
    (hP : PA P B Kp Jm I1 F1 (J1 6) (K1 6)) (hM : IM P B Kp Jm I1 F1 (K1 5) (K1 4)) (gI : ∀ n, n < 2 ∨ (38 ≤ n ∧ ¬ n = 61 ∧ ¬ n = 62) → I1 n = I n) (gF : ∀ a, a < 8 ∨ 152 ≤ a → F1 a = F a) (gJ : ∀ n, ¬ n = 0 → ¬ n = 6 → J1 n = J n) (gK : ∀ a, ¬ a = 6 → K1 a = K a)
    (hI2 : ∀ n, 2 ≤ n → ¬ n = 47 → I2 n = I1 n) (hF2 : ∀ a, 8 ≤ a → F2 a = F1 a) (hK2 : ∀ a, ¬ a = 3 → K2 a = K1 a) (hse : I2 47 = K2 3 133 ∧ ¬ I2 47 < 0) (hN : InvN P B Kp Jm I2 F2 K2) : Inv I2 F2 J1 K2 := by
  have hs := T_sz hT
  have eI : ∀ n, 38 ≤ n → ¬ n = 47 → ¬ n = 61 → ¬ n = 62 → I2 n = I n := fun n a b c d => (hI2 n (by omega) b).trans (gI n (Or.inr ⟨a, c, d⟩))
  have eF : ∀ a, 152 ≤ a → F2 a = F a := fun a h => (hF2 a (by omega)).trans (gF a (Or.inr h))
  have eK : ∀ a, ¬ a = 3 → ¬ a = 6 → K2 a = K a := fun a h1 h2 => (hK2 a h1).trans (gK a h2)
  refine ⟨P, B, Kp, Jm, ⟨⟨(eI 48 (by omega) (by omega) (by omega) (by omega)).trans hT.1.1, (eI 49 (by omega) (by omega) (by omega) (by omega)).trans hT.1.2.1, (eI 50 (by omega) (by omega) (by omega) (by omega)).trans hT.1.2.2.1, (eI 51 (by omega) (by omega) (by omega) (by omega)).trans hT.1.2.2.2⟩, ?_⟩, hN, hse, ?_, ?_, ?_, ?_, ?_, ?_⟩
  · rw [eF 161 (by omega), eF 162 (by omega), eF 163 (by omega), eF 164 (by omega), eF 165 (by omega), eF 166 (by omega), eF 167 (by omega), eF 168 (by omega), eK 2 (by omega) (by omega)]; exact hT.2
  · rw [eI 38 (by omega) (by omega) (by omega) (by omega), gJ 1 (by omega) (by omega), eF 160 (by omega), eK 0 (by omega) (by omega)]; exact hX
  · rw [eI 40 (by omega) (by omega) (by omega) (by omega), gJ 5 (by omega) (by omega)]; exact hf
  · rw [eI 57 (by omega) (by omega) (by omega) (by omega), eI 58 (by omega) (by omega) (by omega) (by omega), eI 59 (by omega) (by omega) (by omega) (by omega), gJ 7 (by omega) (by omega), eK 7 (by omega) (by omega), eK 8 (by omega) (by omega)]; exact hSe
  · rw [eI 60 (by omega) (by omega) (by omega) (by omega), gJ 8 (by omega) (by omega), eF 174 (by omega), eF 175 (by omega), eK 9 (by omega) (by omega), eK 10 (by omega) (by omega)]; exact hB
  · rw [hK2 6 (by omega)]
    exact PA_fr (fun n a b => hI2 n a (by omega)) (hI2 61 (by omega) (by omega)) (hI2 62 (by omega) (by omega)) (fun a b _ => hF2 a b) hs.2.2.1 hs.2.2.2 hP
  · rw [hK2 5 (by omega), hK2 4 (by omega)]
    exact IM_fr (fun n a b => hI2 n a (by omega)) (fun n a b => hI2 n (by omega) (by omega)) (fun a b _ => hF2 a b) hs.2.2.1 hs.2.2.2 hM
section SRup
variable {P B Kp Jm : Nat} {h rs : Int32} {ne po ti pl db ov dr ro v : Nat → Int32}
theorem SR_po (hk9 : Kp ≤ 9) (hj6 : Jm ≤ 6) {k : Nat} (hk : k < Kp) {x : Int32} (hx : x = -1 ∨ ∃ b, b < B ∧ x = nI b) (hfree : ¬ x = -1 → ∀ q, q < Kp → ¬ po q = x) (hs : SR P B Kp Jm h rs ne po ti pl db ov dr ro v) : SR P B Kp Jm h rs ne (upd po k x) ti pl db ov dr ro (upd v (24 + k) x) := by
  obtain ⟨h1, h2, h3, h4, h5, h6, r, hr, h7, h8⟩ := hs
  refine ⟨h1, ?_, ?_, ?_, ?_, ?_, r, hr, h7, ?_⟩
  · rw [upd_ne (by omega)]; exact h2
  · rw [upd_ne (by omega)]; exact h3
  · intro q hq
    obtain ⟨g1, g2, g3, g4, g5, g6⟩ := h4 q hq
    rw [upd_ne (show 42 + q ≠ 24 + k by omega), upd_ne (show 33 + q ≠ 24 + k by omega)]
    by_cases e : q = k
    · subst e
      rw [upd_same, upd_same]
      exact ⟨g1, hx, g3, g4, rfl, g6⟩
    · rw [upd_ne e, upd_ne (show 24 + q ≠ 24 + k by omega)]
      exact ⟨g1, g2, g3, g4, g5, g6⟩
  · intro p q hp hq e e1
    by_cases ep : p = k
    · by_cases eq : q = k
      · omega
      · subst ep
        rw [upd_same, upd_ne eq] at e
        rw [upd_same] at e1
        exact absurd e.symm (hfree e1 q hq)
    · rw [upd_ne ep] at e e1
      by_cases eq : q = k
      · subst eq
        rw [upd_same] at e
        exact absurd e (hfree (fun z => e1 (e.trans z)) p hp)
      · rw [upd_ne eq] at e
        exact h5 p q hp hq e e1
  · intro j hj
    rw [upd_ne (by omega), upd_ne (by omega), upd_ne (by omega), upd_ne (by omega)]
    exact h6 j hj
  · intro i hi
    rw [upd_ne (by omega), upd_ne (by omega), upd_ne (by omega), upd_ne (by omega)]
    exact h8 i hi
theorem SR_ne (hk9 : Kp ≤ 9) (hj6 : Jm ≤ 6) {k : Nat} (hk : k < Kp) {n : Nat} (n1 : 1 ≤ n) (n2 : n ≤ 40) (hs : SR P B Kp Jm h rs ne po ti pl db ov dr ro v) : SR P B Kp Jm h rs (upd ne k (nI n)) po ti pl db ov dr ro (upd v (42 + k) (nI n)) := by
  obtain ⟨h1, h2, h3, h4, h5, h6, r, hr, h7, h8⟩ := hs
  refine ⟨h1, ?_, ?_, ?_, h5, ?_, r, hr, h7, ?_⟩
  · rw [upd_ne (by omega)]; exact h2
  · rw [upd_ne (by omega)]; exact h3
  · intro q hq
    obtain ⟨g1, g2, g3, g4, g5, g6⟩ := h4 q hq
    rw [upd_ne (show 24 + q ≠ 42 + k by omega), upd_ne (show 33 + q ≠ 42 + k by omega)]
    by_cases e : q = k
    · subst e
      rw [upd_same, upd_same]
      exact ⟨⟨n, n1, n2, rfl⟩, g2, g3, rfl, g5, g6⟩
    · rw [upd_ne e, upd_ne (show 42 + q ≠ 42 + k by omega)]
      exact ⟨g1, g2, g3, g4, g5, g6⟩
  · intro j hj
    rw [upd_ne (by omega), upd_ne (by omega), upd_ne (by omega), upd_ne (by omega)]
    exact h6 j hj
  · intro i hi
    rw [upd_ne (by omega), upd_ne (by omega), upd_ne (by omega), upd_ne (by omega)]
    exact h8 i hi
theorem SR_ti (hk9 : Kp ≤ 9) (hj6 : Jm ≤ 6) {k : Nat} (hk : k < Kp) {n : Nat} (n2 : n ≤ 99) (hs : SR P B Kp Jm h rs ne po ti pl db ov dr ro v) : SR P B Kp Jm h rs ne po (upd ti k (nI n)) pl db ov dr ro (upd v (33 + k) (nI n)) := by
  obtain ⟨h1, h2, h3, h4, h5, h6, r, hr, h7, h8⟩ := hs
  refine ⟨h1, ?_, ?_, ?_, h5, ?_, r, hr, h7, ?_⟩
  · rw [upd_ne (by omega)]; exact h2
  · rw [upd_ne (by omega)]; exact h3
  · intro q hq
    obtain ⟨g1, g2, g3, g4, g5, g6⟩ := h4 q hq
    rw [upd_ne (show 42 + q ≠ 33 + k by omega), upd_ne (show 24 + q ≠ 33 + k by omega)]
    by_cases e : q = k
    · subst e
      rw [upd_same, upd_same]
      exact ⟨g1, g2, ⟨n, n2, rfl⟩, g4, g5, rfl⟩
    · rw [upd_ne e, upd_ne (show 33 + q ≠ 33 + k by omega)]
      exact ⟨g1, g2, g3, g4, g5, g6⟩
  · intro j hj
    rw [upd_ne (by omega), upd_ne (by omega), upd_ne (by omega), upd_ne (by omega)]
    exact h6 j hj
  · intro i hi
    rw [upd_ne (by omega), upd_ne (by omega), upd_ne (by omega), upd_ne (by omega)]
    exact h8 i hi
theorem SR_db (hk9 : Kp ≤ 9) (hj6 : Jm ≤ 6) {k : Nat} (hk : k < Jm) {n : Nat} (n2 : n ≤ 30) (hs : SR P B Kp Jm h rs ne po ti pl db ov dr ro v) : SR P B Kp Jm h rs ne po ti pl (upd db k (nI n)) ov dr ro (upd v (6 + k) (nI n)) := by
  obtain ⟨h1, h2, h3, h4, h5, h6, r, hr, h7, h8⟩ := hs
  refine ⟨h1, ?_, ?_, ?_, h5, ?_, r, hr, h7, ?_⟩
  · rw [upd_ne (by omega)]; exact h2
  · rw [upd_ne (by omega)]; exact h3
  · intro q hq
    rw [upd_ne (by omega), upd_ne (by omega), upd_ne (by omega)]
    exact h4 q hq
  · intro j hj
    obtain ⟨g1, g2, g3, g4, g5, g6, g7, g8⟩ := h6 j hj
    rw [upd_ne (show j ≠ 6 + k by omega), upd_ne (show 12 + j ≠ 6 + k by omega), upd_ne (show 18 + j ≠ 6 + k by omega)]
    by_cases e : j = k
    · subst e
      rw [upd_same, upd_same]
      exact ⟨g1, ⟨n, n2, rfl⟩, g3, g4, g5, rfl, g7, g8⟩
    · rw [upd_ne e, upd_ne (show 6 + j ≠ 6 + k by omega)]
      exact ⟨g1, g2, g3, g4, g5, g6, g7, g8⟩
  · intro i hi
    rw [upd_ne (by omega), upd_ne (by omega), upd_ne (by omega), upd_ne (by omega)]
    exact h8 i hi
theorem SR_pl (hk9 : Kp ≤ 9) (hj6 : Jm ≤ 6) {k : Nat} (hk : k < Jm) {n : Nat} (n2 : n < P) (hs : SR P B Kp Jm h rs ne po ti pl db ov dr ro v) : SR P B Kp Jm h rs ne po ti (upd pl k (nI n)) db ov dr ro (upd v k (nI n)) := by
  obtain ⟨h1, h2, h3, h4, h5, h6, r, hr, h7, h8⟩ := hs
  refine ⟨h1, ?_, ?_, ?_, h5, ?_, r, hr, h7, ?_⟩
  · rw [upd_ne (by omega)]; exact h2
  · rw [upd_ne (by omega)]; exact h3
  · intro q hq
    rw [upd_ne (by omega), upd_ne (by omega), upd_ne (by omega)]
    exact h4 q hq
  · intro j hj
    obtain ⟨g1, g2, g3, g4, g5, g6, g7, g8⟩ := h6 j hj
    rw [upd_ne (show 6 + j ≠ k by omega), upd_ne (show 12 + j ≠ k by omega), upd_ne (show 18 + j ≠ k by omega)]
    by_cases e : j = k
    · subst e
      rw [upd_same, upd_same]
      exact ⟨⟨n, n2, rfl⟩, g2, g3, g4, rfl, g6, g7, g8⟩
    · rw [upd_ne e, upd_ne e]
      exact ⟨g1, g2, g3, g4, g5, g6, g7, g8⟩
  · intro i hi
    rw [upd_ne (by omega), upd_ne (by omega), upd_ne (by omega), upd_ne (by omega)]
    exact h8 i hi
theorem SR_ov (hk9 : Kp ≤ 9) (hj6 : Jm ≤ 6) {k : Nat} (hk : k < Jm) {n : Nat} (n2 : n ≤ 999999) (hs : SR P B Kp Jm h rs ne po ti pl db ov dr ro v) : SR P B Kp Jm h rs ne po ti pl db (upd ov k (nI n)) dr ro (upd v (12 + k) (nI n)) := by
  obtain ⟨h1, h2, h3, h4, h5, h6, r, hr, h7, h8⟩ := hs
  refine ⟨h1, ?_, ?_, ?_, h5, ?_, r, hr, h7, ?_⟩
  · rw [upd_ne (by omega)]; exact h2
  · rw [upd_ne (by omega)]; exact h3
  · intro q hq
    rw [upd_ne (by omega), upd_ne (by omega), upd_ne (by omega)]
    exact h4 q hq
  · intro j hj
    obtain ⟨g1, g2, g3, g4, g5, g6, g7, g8⟩ := h6 j hj
    rw [upd_ne (show j ≠ 12 + k by omega), upd_ne (show 6 + j ≠ 12 + k by omega), upd_ne (show 18 + j ≠ 12 + k by omega)]
    by_cases e : j = k
    · subst e
      rw [upd_same, upd_same]
      exact ⟨g1, g2, ⟨n, n2, rfl⟩, g4, g5, g6, rfl, g8⟩
    · rw [upd_ne e, upd_ne (show 12 + j ≠ 12 + k by omega)]
      exact ⟨g1, g2, g3, g4, g5, g6, g7, g8⟩
  · intro i hi
    rw [upd_ne (by omega), upd_ne (by omega), upd_ne (by omega), upd_ne (by omega)]
    exact h8 i hi
theorem SR_dr (hk9 : Kp ≤ 9) (hj6 : Jm ≤ 6) {k : Nat} (hk : k < Jm) {n : Nat} (n2 : n ≤ 999999) (hs : SR P B Kp Jm h rs ne po ti pl db ov dr ro v) : SR P B Kp Jm h rs ne po ti pl db ov (upd dr k (nI n)) ro (upd v (18 + k) (nI n)) := by
  obtain ⟨h1, h2, h3, h4, h5, h6, r, hr, h7, h8⟩ := hs
  refine ⟨h1, ?_, ?_, ?_, h5, ?_, r, hr, h7, ?_⟩
  · rw [upd_ne (by omega)]; exact h2
  · rw [upd_ne (by omega)]; exact h3
  · intro q hq
    rw [upd_ne (by omega), upd_ne (by omega), upd_ne (by omega)]
    exact h4 q hq
  · intro j hj
    obtain ⟨g1, g2, g3, g4, g5, g6, g7, g8⟩ := h6 j hj
    rw [upd_ne (show j ≠ 18 + k by omega), upd_ne (show 6 + j ≠ 18 + k by omega), upd_ne (show 12 + j ≠ 18 + k by omega)]
    by_cases e : j = k
    · subst e
      rw [upd_same, upd_same]
      exact ⟨g1, g2, g3, ⟨n, n2, rfl⟩, g5, g6, g7, rfl⟩
    · rw [upd_ne e, upd_ne (show 18 + j ≠ 18 + k by omega)]
      exact ⟨g1, g2, g3, g4, g5, g6, g7, g8⟩
  · intro i hi
    rw [upd_ne (by omega), upd_ne (by omega), upd_ne (by omega), upd_ne (by omega)]
    exact h8 i hi
end SRup
theorem step_post : ∀ (I : WI) (F : WF) (J : WI) (K : WF) (x1 : Int32) (x2 : Int32), Inv I F J K → ∃ (a : Int32 × WI × WF) (b : Int32 × WI × WF), f_X10_post x1 x2 I F = some a ∧ f_X11_post x1 x2 J K = some b ∧ a.1 = b.1 ∧ Inv a.2.1 a.2.2 b.2.1 b.2.2 := fun I F J K x1 x2 h => by
  have h0 := h
  obtain ⟨P, B, Kp, Jm, hT, hN, hS, hX, hf, hSe, hB, hP, hI⟩ := h
  have hs := T_sz hT
  rw [nf_f_X10_post, nf_f_X11_post]
  by_cases h1 : inR x1 Kp
  · obtain ⟨k, hk, rfl⟩ := h1
    by_cases h2 : inR x2 B
    · obtain ⟨b, hb, rfl⟩ := h2
      cases hka : kAt (F 1) (nI b) Kp 0 with
      | some q =>
        have hq := (kAt_some hka).1
        refine ⟨(-1000000003, I, F), (-1000000003, upd J 0 (nI 0), K), ?_, ?_, rfl, Inv_J0 h0⟩ <;> simp (disch := omega) [bnd_eq, ob_some, eqN, hasK_in hT hk, isK_in hT hk, hasB_in hT hb, isB_in hT hb, kpC hT, kpM hT hN, hka, kOf, m1N]
      | none =>
        obtain ⟨I1, F1, J1, K1, er, en, hP1, hM1, gI, gF, gJ, gK⟩ := rem_both hT hN hP hI
        have e1 : F1 1 = F 1 := gF 1 (by omega)
        have e3 : K1 3 = K 3 := gK 3 (by omega)
        have ek := (hN.2.2.2.1 k hk).2.2.2.2.1
        refine ⟨(F 1 k, I1, uF F1 1 (upd (F 1) k (nI b))), (F 1 k, J1, uF K1 3 (upd (K 3) (24 + k) (nI b))), ?_, ?_, rfl, ?_⟩
        · simp (disch := omega) [bnd_eq, ob_some, eqN, hasK_in hT hk, hasB_in hT hb, kpC hT, hka, kOf, er, ixN, nI_clamp, e1]
        · simp (disch := omega) [bnd_eq, ob_some, eqN, isK_in hT hk, isB_in hT hb, kpM hT hN, hka, kOf, en, ixN, nI_clamp, nI_add, e3, ek]
        · refine Inv_now hT hX hf hSe hB hP1 hM1 gI gF gJ gK (fun _ _ _ => rfl) (fun a ha => uF_ne _ _ (by omega)) (fun a ha => uF_ne _ _ ha) ?_ ?_
          · show I1 47 = uF K1 3 (upd (K 3) (24 + k) (nI b)) 3 133 ∧ ¬ I1 47 < 0
            rw [gI 47 (by omega), uF_same, upd_ne (by omega)]; exact hS
          · exact InvN_of ⟨gI 0 (by omega), gI 1 (by omega), (gF 0 (by omega)), rfl, (gF 2 (by omega)), (gF 3 (by omega)), (gF 4 (by omega)), (gF 5 (by omega)), (gF 6 (by omega)), (gF 7 (by omega)), rfl⟩ (SR_po hs.2.2.1 hs.2.2.2 hk (Or.inr ⟨b, hb, rfl⟩) (fun _ q hq => kAt_none hka q hq) hN)
    · refine ⟨(-1000000001, I, F), (-1000000001, upd J 0 (nI 0), K), ?_, ?_, rfl, Inv_J0 h0⟩ <;> simp (disch := omega) [bnd_eq, ob_some, eqN, hasK_in hT hk, isK_in hT hk, hasB_out hT h2, isB_out hT h2]
  · refine ⟨(-1000000001, I, F), (-1000000001, upd J 0 (nI 0), K), ?_, ?_, rfl, Inv_J0 h0⟩
    · simp [hasK_out hT h1, ob_some]
    · simp [bnd_eq, isK_out hT h1, ob_some]
theorem step_rest : ∀ (I : WI) (F : WF) (J : WI) (K : WF) (x1 : Int32), Inv I F J K → ∃ (a : Int32 × WI × WF) (b : Int32 × WI × WF), f_X10_rest x1 I F = some a ∧ f_X11_rest x1 J K = some b ∧ a.1 = b.1 ∧ Inv a.2.1 a.2.2 b.2.1 b.2.2 := fun I F J K x1 h => by
  have h0 := h
  obtain ⟨P, B, Kp, Jm, hT, hN, hS, hX, hf, hSe, hB, hP, hI⟩ := h
  have hs := T_sz hT
  rw [nf_f_X10_rest, nf_f_X11_rest]
  by_cases h1 : inR x1 Kp
  · obtain ⟨k, hk, rfl⟩ := h1
    have ek := (hN.2.2.2.1 k hk).2.2.2.2.1
    by_cases hm : F 1 k = -1
    · refine ⟨(-1000000003, I, F), (-1000000003, upd J 0 (nI 0), K), ?_, ?_, rfl, Inv_J0 h0⟩ <;> simp (disch := omega) [bnd_eq, ob_some, eqN, hasK_in hT hk, isK_in hT hk, ixN, nI_clamp, nI_add, ek, hm]
    · obtain ⟨I1, F1, J1, K1, er, en, hP1, hM1, gI, gF, gJ, gK⟩ := rem_both hT hN hP hI
      have e1 : F1 1 = F 1 := gF 1 (by omega)
      have e3 : K1 3 = K 3 := gK 3 (by omega)
      refine ⟨(F 1 k, I1, uF F1 1 (upd (F 1) k (-1))), (F 1 k, J1, uF K1 3 (upd (K 3) (24 + k) (-1))), ?_, ?_, rfl, ?_⟩
      · simp (disch := omega) [bnd_eq, ob_some, eqN, hasK_in hT hk, er, ixN, nI_clamp, e1, hm]
      · simp (disch := omega) [bnd_eq, ob_some, eqN, isK_in hT hk, en, ixN, nI_clamp, nI_add, e3, ek, hm]
      · refine Inv_now hT hX hf hSe hB hP1 hM1 gI gF gJ gK (fun _ _ _ => rfl) (fun a ha => uF_ne _ _ (by omega)) (fun a ha => uF_ne _ _ ha) ?_ ?_
        · show I1 47 = uF K1 3 (upd (K 3) (24 + k) (-1)) 3 133 ∧ ¬ I1 47 < 0
          rw [gI 47 (by omega), uF_same, upd_ne (by omega)]; exact hS
        · exact InvN_of ⟨gI 0 (by omega), gI 1 (by omega), (gF 0 (by omega)), rfl, (gF 2 (by omega)), (gF 3 (by omega)), (gF 4 (by omega)), (gF 5 (by omega)), (gF 6 (by omega)), (gF 7 (by omega)), rfl⟩ (SR_po hs.2.2.1 hs.2.2.2 hk (Or.inl rfl) (fun z => absurd rfl z) hN)
  · refine ⟨(-1000000001, I, F), (-1000000001, upd J 0 (nI 0), K), ?_, ?_, rfl, Inv_J0 h0⟩
    · simp [hasK_out hT h1, ob_some]
    · simp [bnd_eq, isK_out hT h1, ob_some]
theorem step_train : ∀ (I : WI) (F : WF) (J : WI) (K : WF) (x1 : Int32), Inv I F J K → ∃ (a : Int32 × WI × WF) (b : Int32 × WI × WF), f_X10_train x1 I F = some a ∧ f_X11_train x1 J K = some b ∧ a.1 = b.1 ∧ Inv a.2.1 a.2.2 b.2.1 b.2.2 := fun I F J K x1 h => by
  have h0 := h
  obtain ⟨P, B, Kp, Jm, hT, hN, hS, hX, hf, hSe, hB, hP, hI⟩ := h
  have hs := T_sz hT
  rw [nf_f_X10_train, nf_f_X11_train]
  by_cases h1 : inR x1 Kp
  · obtain ⟨k, hk, rfl⟩ := h1
    obtain ⟨⟨n, n1, n2, en0⟩, -, -, ek, -⟩ := hN.2.2.2.1 k hk
    by_cases hm : n = 1
    · refine ⟨(-1000000003, I, F), (-1000000003, upd J 0 (nI 0), K), ?_, ?_, rfl, Inv_J0 h0⟩ <;> simp (disch := omega) [bnd_eq, ob_some, eqN, ltN, hasK_in hT hk, isK_in hT hk, ixN, nI_clamp, nI_add, ek, en0, hm]
    · obtain ⟨I1, F1, J1, K1, er, en, hP1, hM1, gI, gF, gJ, gK⟩ := rem_both hT hN hP hI
      have e1 : F1 0 = F 0 := gF 0 (by omega)
      have e3 : K1 3 = K 3 := gK 3 (by omega)
      refine ⟨(nI (n - 1), I1, uF F1 0 (upd (F 0) k (nI (n - 1)))), (nI (n - 1), J1, uF K1 3 (upd (K 3) (42 + k) (nI (n - 1)))), ?_, ?_, rfl, ?_⟩
      · simp (disch := omega) [bnd_eq, ob_some, eqN, ltN, hasK_in hT hk, er, ixN, nI_clamp, e1, en0, show 1 < n by omega, subN, uF_same, upd_same]
      · simp (disch := omega) [bnd_eq, ob_some, eqN, isK_in hT hk, en, ixN, nI_clamp, nI_add, e3, ek, en0, hm, subN, uF_same, upd_same]
      · refine Inv_now hT hX hf hSe hB hP1 hM1 gI gF gJ gK (fun _ _ _ => rfl) (fun a ha => uF_ne _ _ (by omega)) (fun a ha => uF_ne _ _ ha) ?_ ?_
        · show I1 47 = uF K1 3 (upd (K 3) (42 + k) (nI (n - 1))) 3 133 ∧ ¬ I1 47 < 0
          rw [gI 47 (by omega), uF_same, upd_ne (by omega)]; exact hS
        · exact InvN_of ⟨gI 0 (by omega), gI 1 (by omega), rfl, (gF 1 (by omega)), (gF 2 (by omega)), (gF 3 (by omega)), (gF 4 (by omega)), (gF 5 (by omega)), (gF 6 (by omega)), (gF 7 (by omega)), rfl⟩ (SR_ne hs.2.2.1 hs.2.2.2 hk (by omega) (by omega) hN)
  · refine ⟨(-1000000001, I, F), (-1000000001, upd J 0 (nI 0), K), ?_, ?_, rfl, Inv_J0 h0⟩
    · simp [hasK_out hT h1, ob_some]
    · simp [bnd_eq, isK_out hT h1, ob_some]
theorem step_talk : ∀ (I : WI) (F : WF) (J : WI) (K : WF) (x1 : Int32) (x2 : Int32), Inv I F J K → ∃ (a : Int32 × WI × WF) (b : Int32 × WI × WF), f_X10_talk x1 x2 I F = some a ∧ f_X11_talk x1 x2 J K = some b ∧ a.1 = b.1 ∧ Inv a.2.1 a.2.2 b.2.1 b.2.2 := fun I F J K x1 x2 h => by
  have h0 := h
  obtain ⟨P, B, Kp, Jm, hT, hN, hS, hX, hf, hSe, hB, hP, hI⟩ := h
  have hs := T_sz hT
  rw [nf_f_X10_talk, nf_f_X11_talk]
  by_cases h1 : inR x1 Jm
  · obtain ⟨j, hj, rfl⟩ := h1
    have ej := (hN.2.2.2.2.2.1 j hj).2.2.2.2.2.1
    by_cases h2 : inR x2 31
    · obtain ⟨d, hd, rfl⟩ := h2
      obtain ⟨I1, F1, J1, K1, er, en, hP1, hM1, gI, gF, gJ, gK⟩ := rem_both hT hN hP hI
      have e1 : F1 4 = F 4 := gF 4 (by omega)
      have e3 : K1 3 = K 3 := gK 3 (by omega)
      refine ⟨(F 4 j, I1, uF F1 4 (upd (F 4) j (nI d))), (F 4 j, J1, uF K1 3 (upd (K 3) (6 + j) (nI d))), ?_, ?_, rfl, ?_⟩
      · simp (disch := omega) [bnd_eq, ob_some, eqN, ltN, leN, hasJ_in hT hj, er, ixN, nI_clamp, e1, show d ≤ 30 by omega]
      · simp (disch := omega) [bnd_eq, ob_some, eqN, isJ_in hT hj, in_in, en, ixN, nI_clamp, nI_add, e3, ej]
      · refine Inv_now hT hX hf hSe hB hP1 hM1 gI gF gJ gK (fun _ _ _ => rfl) (fun a ha => uF_ne _ _ (by omega)) (fun a ha => uF_ne _ _ ha) ?_ ?_
        · show I1 47 = uF K1 3 (upd (K 3) (6 + j) (nI d)) 3 133 ∧ ¬ I1 47 < 0
          rw [gI 47 (by omega), uF_same, upd_ne (by omega)]; exact hS
        · exact InvN_of ⟨gI 0 (by omega), gI 1 (by omega), (gF 0 (by omega)), (gF 1 (by omega)), (gF 2 (by omega)), (gF 3 (by omega)), rfl, (gF 5 (by omega)), (gF 6 (by omega)), (gF 7 (by omega)), rfl⟩ (SR_db hs.2.2.1 hs.2.2.2 hj (by omega) hN)
    · refine ⟨(-1000000002, I, F), (-1000000002, upd J 0 (nI 0), K), ?_, ?_, rfl, Inv_J0 h0⟩
      · rw [hasJ_in hT hj, ob_some, if_neg (show ¬ nI 1 = nI 0 by decide)]
        rcases out_ifs (by omega) h2 with h3 | h3
        · rw [if_pos h3]
        · by_cases h4 : x2 < nI 0
          · rw [if_pos h4]
          · rw [if_neg h4, if_neg (Int32.not_le.mpr h3)]
      · simp (disch := omega) [bnd_eq, ob_some, eqN, isJ_in hT hj, in_out (x := x2) (a := 0) (b := 30) (by omega) (fun j _ hj => nin h2 j (by omega)) (by omega)]
  · refine ⟨(-1000000001, I, F), (-1000000001, upd J 0 (nI 0), K), ?_, ?_, rfl, Inv_J0 h0⟩
    · simp [hasJ_out hT h1, ob_some]
    · simp [bnd_eq, isJ_out hT h1, ob_some]
