/-! pure layer: see, quick, watch -/
section Seen
variable {J : WI} {K : WF} {c : Nat}
theorem seenT (hc : J 7 = nI c) (hc6 : c ≤ 6) (hov : ∀ k, k < c → K 8 k = 0 ∨ K 8 k = 1) (k0 : Int32 → Option Int32) {x : Int32} : ∀ m i n, i + m = c → m < n → (∀ k, i ≤ k → k < c → ((x ≤ K 7 k) ↔ K 8 k = 1)) → L_X11_isAsSeen_4 k0 x J K n (nI 1) (nI i) = k0 (nI 1) := by
  intro m
  induction m with
  | zero =>
    intro i n h1 h2 _
    obtain ⟨n, rfl⟩ : ∃ z, n = z + 1 := ⟨n - 1, by omega⟩
    rw [nf_L_X11_isAsSeen_4, hc, if_pos (by rw [leN (by omega) (by omega)]; omega)]
  | succ m ih =>
    intro i n h1 h2 h3
    obtain ⟨n, rfl⟩ : ∃ z, n = z + 1 := ⟨n - 1, by omega⟩
    rw [nf_L_X11_isAsSeen_4, hc, if_neg (by rw [leN (by omega) (by omega)]; omega)]
    simp (disch := omega) only [bnd_eq, ixN, nI_clamp, nI_add]
    rw [if_neg (show ¬ nI 1 = nI 0 by decide)]
    have h4 := h3 i (by omega) (by omega)
    by_cases hw : K 7 i < x
    · rw [if_pos hw, if_pos]
      · exact ih (i + 1) n (by omega) (by omega) (fun k q1 q2 => h3 k (by omega) q2)
      · rcases hov i (by omega) with e | e
        · rw [e]; rfl
        · exact absurd (h4.mpr e) (Int32.not_le.mpr hw)
    · rw [if_neg hw, if_pos]
      · exact ih (i + 1) n (by omega) (by omega) (fun k q1 q2 => h3 k (by omega) q2)
      · exact (h4.mp (Int32.not_lt.mp hw)).symm
theorem seenZ (hc : J 7 = nI c) (hc6 : c ≤ 6) (k0 : Int32 → Option Int32) {x : Int32} : ∀ m i n, i + m = c → m < n → L_X11_isAsSeen_4 k0 x J K n (nI 0) (nI i) = k0 (nI 0) := by
  intro m
  induction m with
  | zero =>
    intro i n h1 h2
    obtain ⟨n, rfl⟩ : ∃ z, n = z + 1 := ⟨n - 1, by omega⟩
    rw [nf_L_X11_isAsSeen_4, hc, if_pos (by rw [leN (by omega) (by omega)]; omega)]
  | succ m ih =>
    intro i n h1 h2
    obtain ⟨n, rfl⟩ : ∃ z, n = z + 1 := ⟨n - 1, by omega⟩
    rw [nf_L_X11_isAsSeen_4, hc, if_neg (by rw [leN (by omega) (by omega)]; omega)]
    simp (disch := omega) only [bnd_eq, nI_add, if_true]
    exact ih (i + 1) n (by omega) (by omega)
theorem seenF (hc : J 7 = nI c) (hc6 : c ≤ 6) (hov : ∀ k, k < c → K 8 k = 0 ∨ K 8 k = 1) (k0 : Int32 → Option Int32) {x : Int32} : ∀ m i n, i + m = c → m < n → ¬ (∀ k, i ≤ k → k < c → ((x ≤ K 7 k) ↔ K 8 k = 1)) → L_X11_isAsSeen_4 k0 x J K n (nI 1) (nI i) = k0 (nI 0) := by
  intro m
  induction m with
  | zero =>
    intro i n h1 h2 h3
    exact absurd (fun k q1 q2 => absurd q2 (by omega)) h3
  | succ m ih =>
    intro i n h1 h2 h3
    obtain ⟨n, rfl⟩ : ∃ z, n = z + 1 := ⟨n - 1, by omega⟩
    rw [nf_L_X11_isAsSeen_4, hc, if_neg (by rw [leN (by omega) (by omega)]; omega)]
    simp (disch := omega) only [bnd_eq, ixN, nI_clamp, nI_add]
    rw [if_neg (show ¬ nI 1 = nI 0 by decide)]
    have step : ((x ≤ K 7 i) ↔ K 8 i = 1) → ¬ (∀ k, i + 1 ≤ k → k < c → ((x ≤ K 7 k) ↔ K 8 k = 1)) := fun h4 h5 => h3 (fun k q1 q2 => by
      rcases Nat.eq_or_lt_of_le q1 with e | e
      · subst e; exact h4
      · exact h5 k e q2)
    by_cases hw : K 7 i < x
    · rw [if_pos hw]
      rcases hov i (by omega) with e | e
      · rw [if_pos (by rw [e]; rfl)]
        exact ih (i + 1) n (by omega) (by omega) (step ⟨fun q => absurd q (Int32.not_le.mpr hw), fun q => absurd (e.symm.trans q) (by decide)⟩)
      · rw [if_neg (by rw [e]; decide)]
        exact seenZ hc hc6 k0 m (i + 1) n (by omega) (by omega)
    · rw [if_neg hw]
      rcases hov i (by omega) with e | e
      · rw [if_neg (by rw [e]; decide)]
        exact seenZ hc hc6 k0 m (i + 1) n (by omega) (by omega)
      · rw [if_pos (by rw [e]; rfl)]
        exact ih (i + 1) n (by omega) (by omega) (step ⟨fun _ => e, fun _ => Int32.not_lt.mp hw⟩)
end Seen
def inAB (a b r : Nat) : Nat := if a ≤ r ∧ r ≤ b then 1 else 0
theorem asSeen_eq {J : WI} {K : WF} {c a b : Nat} (hc : J 7 = nI c) (hc6 : c ≤ 6) (hk : ∀ k, k < c → (∃ f, f ≤ 40 ∧ K 7 k = nI f) ∧ (K 8 k = 0 ∨ K 8 k = 1)) (hab : ∀ r, 1 ≤ r → r ≤ 40 → (asSeen c (K 7) (K 8) r ↔ a ≤ r ∧ r ≤ b)) {r : Nat} (r1 : 1 ≤ r) (r2 : r ≤ 40) : f_X11_isAsSeen (nI r) J K = some (nI (inAB a b r)) := by
  rw [nf_f_X11_isAsSeen, bnd_eq, bnd_eq, inAB]
  by_cases h : a ≤ r ∧ r ≤ b
  · rw [if_pos h, seenT hc hc6 (fun k q => (hk k q).2) _ c 0 FU (by omega) (by rw [FU_big]; omega) (fun k _ q => (hab r r1 r2).mpr h k q)]
    rfl
  · rw [if_neg h, seenF hc hc6 (fun k q => (hk k q).2) _ c 0 FU (by omega) (by rw [FU_big]; omega) (fun q => h ((hab r r1 r2).mp (fun k q2 => q k (Nat.zero_le _) q2)))]
    rfl
theorem sub_add1 (x y : Int32) : x - y + nI 1 = x + nI 1 - y := by
  rw [Int32.sub_eq_add_neg, Int32.sub_eq_add_neg, Int32.add_assoc, Int32.add_assoc, Int32.add_comm (-y)]
theorem fitN {a b : Nat} (ha : a ≤ 41) (hb : b ≤ 40) : (if nI 0 < nI b - nI a + nI 1 then nI b - nI a + nI 1 else nI 0) = nI (b + 1 - a) := by
  rw [sub_add1, nI_add]
  by_cases h : a ≤ b + 1
  · rw [subN h]
    split
    · rfl
    · next h2 => rw [ltN (by omega) (by omega)] at h2; rw [show b + 1 - a = 0 by omega]
  · rw [if_neg (show ¬ nI 0 < nI (b + 1) - nI a from fun h2 => absurd (pk_sneg (a := b + 1) (b := a) (by omega) (by omega)) (Int32.not_lt.mpr (Int32.le_of_lt h2))), show b + 1 - a = 0 by omega]
theorem fit_c {I : WI} {F : WF} {a b : Nat} (ha : a ≤ 41) (hb : b ≤ 40) (e1 : I 58 = nI a) (e2 : I 59 = nI b) : f_X5_fitting_38 I F = some (nI (b + 1 - a)) := by
  rw [nf_f_X5_fitting_38, e1, e2, fitN ha hb]
theorem step_see : ∀ (I : WI) (F : WF) (J : WI) (K : WF) (x1 : Int32) (x2 : Int32), Inv I F J K → (x2 = 0 ∨ x2 = 1) → ∃ (a : Int32 × WI) (b : Int32 × WI × WF), f_X10_see x1 x2 I F = some a ∧ f_X11_see x1 x2 J K = some b ∧ a.1 = b.1 ∧ Inv a.2 F b.2.1 b.2.2 := fun I F J K x1 x2 h hx2 => by
  have h0 := h
  obtain ⟨P, B, Kp, Jm, hT, hN, hS, hX, hf, hSe, hB, hP, hI⟩ := h
  have hs := T_sz hT
  obtain ⟨c, a, b, c6, a1, a41, b40, e1, e2, e3, e4, hk, hab⟩ := hSe
  rw [nf_f_X10_see, nf_f_X11_see]
  by_cases h1 : inR x1 41
  · obtain ⟨f, hf1, rfl⟩ := h1
    by_cases hc : c = 6
    · refine ⟨(-1000000004, I), (-1000000004, upd J 0 (nI 0), K), ?_, ?_, rfl, Inv_J0 h0⟩
      · simp (disch := omega) [ltN, leN, e1, hc, show f ≤ 40 by omega]
      · simp (disch := omega) [bnd_eq, in_in, ob_some, eqN, show upd J 0 (nI 0) 7 = nI c from e2, hc]
    · have key : ∀ (aa bb : Nat) (ov : Int32), (ov = 0 ∨ ov = 1) → 1 ≤ aa → aa ≤ 41 → bb ≤ 40 → (∀ r, 1 ≤ r → r ≤ 40 → ((a ≤ r ∧ r ≤ b) ∧ ((nI r ≤ nI f) ↔ ov = 1) ↔ aa ≤ r ∧ r ≤ bb)) → SE (nI (c + 1)) (nI aa) (nI bb) (nI (c + 1)) (upd (K 7) c (nI f)) (upd (K 8) c ov) := by
        intro aa bb ov hov h1 h2 h3 h4
        refine ⟨c + 1, aa, bb, by omega, h1, h2, h3, rfl, rfl, rfl, rfl, ?_, ?_⟩
        · intro k hk1
          by_cases hkc : k = c
          · subst hkc; rw [upd_same, upd_same]; exact ⟨⟨f, by omega, rfl⟩, hov⟩
          · rw [upd_ne hkc, upd_ne hkc]; exact hk k (by omega)
        · intro r r1 r2
          rw [← h4 r r1 r2, ← hab r r1 r2]
          constructor
          · intro hh
            refine ⟨fun k hk1 => ?_, ?_⟩
            · have := hh k (by omega)
              rw [upd_ne (by omega), upd_ne (by omega)] at this
              exact this
            · have := hh c (by omega)
              rw [upd_same, upd_same] at this
              exact this
          · rintro ⟨g1, g2⟩ k hk1
            by_cases hkc : k = c
            · subst hkc; rw [upd_same, upd_same]; exact g2
            · rw [upd_ne hkc, upd_ne hkc]; exact g1 k (by omega)
      have fr : ∀ (I' : WI) (n : Nat) (v1 v2 : Int32), 57 < n → n < 60 → I' = upd (upd I 57 v1) n v2 → ∀ K' : WF, (∀ t, t ≠ 7 → t ≠ 8 → K' t = K t) → SE (I' 57) (I' 58) (I' 59) (nI (c + 1)) (K' 7) (K' 8) → Inv I' F (upd (upd J 0 (nI 0)) 7 (nI (c + 1))) K' := by
        intro I' n v1 v2 n1 n2 hI' K' hK' hse
        have hu : ∀ q, q < 57 ∨ 60 ≤ q → I' q = I q := fun q hq => by rw [hI', upd_ne (by omega), upd_ne (by omega)]
        refine ⟨P, B, Kp, Jm, ⟨⟨(hu 48 (by omega)).trans hT.1.1, (hu 49 (by omega)).trans hT.1.2.1, (hu 50 (by omega)).trans hT.1.2.2.1, (hu 51 (by omega)).trans hT.1.2.2.2⟩, ?_⟩, ?_, ?_, ?_, ?_, hse, ?_, ?_, ?_⟩
        · rw [hK' 2 (by omega) (by omega)]; exact hT.2
        · unfold InvN; rw [hK' 3 (by omega) (by omega), hu 0 (by omega), hu 1 (by omega)]; exact hN
        · rw [hK' 3 (by omega) (by omega), hu 47 (by omega)]; exact hS
        · rw [hK' 0 (by omega) (by omega), hu 38 (by omega)]; exact hX
        · rw [hu 40 (by omega)]; exact hf
        · rw [hK' 9 (by omega) (by omega), hK' 10 (by omega) (by omega), hu 60 (by omega)]; exact hB
        · rw [hK' 6 (by omega) (by omega)]; exact PA_fr (I := I) (F := F) (fun q _ _ => hu q (by omega)) (hu 61 (by omega)) (hu 62 (by omega)) (fun _ _ _ => rfl) hs.2.2.1 hs.2.2.2 hP
        · rw [hK' 5 (by omega) (by omega), hK' 4 (by omega) (by omega)]; exact IM_fr (I := I) (F := F) (fun q _ _ => hu q (by omega)) (fun q _ _ => hu q (by omega)) (fun _ _ _ => rfl) hs.2.2.1 hs.2.2.2 hI
      rcases hx2 with rfl | rfl
      · have hv : (if nI a < nI f + nI 1 then nI f + nI 1 else nI a) = nI (if a < f + 1 then f + 1 else a) := by
          rw [nI_add]
          by_cases q : a < f + 1
          · rw [if_pos (by rw [ltN (by omega) (by omega)]; exact q), if_pos q]
          · rw [if_neg (by rw [ltN (by omega) (by omega)]; exact q), if_neg q]
        refine ⟨(nI (c + 1), upd (upd I 57 (nI (c + 1))) 58 (nI (if a < f + 1 then f + 1 else a))), (nI (c + 1), upd (upd J 0 (nI 0)) 7 (nI (c + 1)), uF (uF K 7 (upd (K 7) c (nI f))) 8 (upd (K 8) c 0)), ?_, ?_, rfl, ?_⟩
        · simp (disch := omega) only [ltN, leN, e1, show ¬ f < 0 by omega, show f ≤ 40 by omega, show c < 6 by omega, if_true, if_false, nf_f_X5_add_38, bnd_eq, show (0 : Int32) = nI 0 from rfl, nI_add, upd_ne, upd_same, e3, ob_some]
          by_cases q : a < f + 1 <;> simp [q]
        · simp (disch := omega) only [bnd_eq, in_in, ob_some, eqN, Nat.one_ne_zero, if_false, show upd J 0 (nI 0) 7 = nI c from e2, hc, ixN, nI_clamp, nI_add, upd_same, uF_ne]
          rfl
        · refine fr _ 58 _ _ (by omega) (by omega) rfl _ (fun t t7 t8 => by show uF _ _ _ _ = _; rw [uF_ne _ _ t8, uF_ne _ _ t7]) ?_
          show SE (nI (c + 1)) (nI (if a < f + 1 then f + 1 else a)) (I 59) (nI (c + 1)) (upd (K 7) c (nI f)) (upd (K 8) c 0)
          rw [e4]
          refine key _ b 0 (Or.inl rfl) (by split <;> omega) (by split <;> omega) b40 (fun r r1 r2 => ?_)
          rw [nI_leI (by omega) (by omega)]
          have h01 : ¬ (0 : Int32) = 1 := by decide
          simp only [h01, iff_false]
          split <;> omega
      · have hv : (if nI f < nI b then nI f else nI b) = nI (if f < b then f else b) := by
          by_cases q : f < b
          · rw [if_pos (by rw [ltN (by omega) (by omega)]; exact q), if_pos q]
          · rw [if_neg (by rw [ltN (by omega) (by omega)]; exact q), if_neg q]
        refine ⟨(nI (c + 1), upd (upd I 57 (nI (c + 1))) 59 (nI (if f < b then f else b))), (nI (c + 1), upd (upd J 0 (nI 0)) 7 (nI (c + 1)), uF (uF K 7 (upd (K 7) c (nI f))) 8 (upd (K 8) c 1)), ?_, ?_, rfl, ?_⟩
        · simp (disch := omega) only [ltN, leN, e1, show ¬ f < 0 by omega, show f ≤ 40 by omega, show c < 6 by omega, if_true, if_false, nf_f_X5_add_38, bnd_eq, show (1 : Int32) = nI 1 from rfl, eqN, Nat.one_ne_zero, nI_add, upd_ne, upd_same, e4, ob_some]
          by_cases q : f < b <;> simp [q]
        · simp (disch := omega) only [bnd_eq, in_in, ob_some, eqN, Nat.one_ne_zero, if_false, show upd J 0 (nI 0) 7 = nI c from e2, hc, ixN, nI_clamp, nI_add, upd_same, uF_ne]
          rfl
        · refine fr _ 59 _ _ (by omega) (by omega) rfl _ (fun t t7 t8 => by show uF _ _ _ _ = _; rw [uF_ne _ _ t8, uF_ne _ _ t7]) ?_
          show SE (nI (c + 1)) (I 58) (nI (if f < b then f else b)) (nI (c + 1)) (upd (K 7) c (nI f)) (upd (K 8) c 1)
          rw [e3]
          refine key a _ 1 (Or.inr rfl) a1 a41 (by split <;> omega) (fun r r1 r2 => ?_)
          rw [nI_leI (by omega) (by omega)]
          simp only [iff_true]
          split <;> omega
  · refine ⟨(-1000000002, I), (-1000000002, upd J 0 (nI 0), K), ?_, ?_, rfl, Inv_J0 h0⟩
    · rcases out_ifs (by omega) h1 with h3 | h3
      · rw [if_pos h3]
      · by_cases h4 : x1 < nI 0
        · rw [if_pos h4]
        · rw [if_neg h4, if_neg (Int32.not_le.mpr h3)]
    · simp (disch := omega) [bnd_eq, ob_some, eqN, in_out (x := x1) (a := 0) (b := 40) (by omega) (fun j _ hj => nin h1 j (by omega)) (by omega)]
/-- the model's count over 1 .. 40, its first and its last -/
theorem quick_m {J : WI} {K : WF} {a b : Nat} (ha : 1 ≤ a) (ha2 : a ≤ 41) (hb : b ≤ 40) (hsn : ∀ r, 1 ≤ r → r ≤ 40 → f_X11_isAsSeen (nI r) J K = some (nI (inAB a b r))) (c : Int32 → Int32 → Int32 → Option (Int32 × WI)) (x : Int32) : ∀ m r n, r + m = 41 → m < n → 1 ≤ r → ∀ cnt, cnt = min b (r - 1) + 1 - a → L_X11_quick_27 c x J K n (nI cnt) (if cnt = 0 then -1 else nI a) (if cnt = 0 then -1 else nI (min b (r - 1))) (nI r) = c (nI (b + 1 - a)) (if b + 1 - a = 0 then -1 else nI a) (if b + 1 - a = 0 then -1 else nI b) := by
  intro m
  induction m with
  | zero =>
    intro r n h1 h2 h3 cnt hc
    obtain ⟨n, rfl⟩ : ∃ z, n = z + 1 := ⟨n - 1, by omega⟩
    rw [nf_L_X11_quick_27, if_pos (by rw [ltN (by omega) (by omega)]; omega)]
    have e1 : min b (r - 1) = b := by omega
    rw [e1] at hc ⊢
    rw [hc]
  | succ m ih =>
    intro r n h1 h2 h3 cnt hc
    obtain ⟨n, rfl⟩ : ∃ z, n = z + 1 := ⟨n - 1, by omega⟩
    rw [nf_L_X11_quick_27, if_neg (by rw [ltN (by omega) (by omega)]; omega), hsn r h3 (by omega), ob_some]
    simp only [bnd_eq, nI_add]
    by_cases hin : a ≤ r ∧ r ≤ b
    · rw [inAB, if_pos hin, if_neg (show ¬ nI 1 = nI 0 by decide)]
      have e1 : min b (r + 1 - 1) = r := by omega
      have e2 : cnt = r - a := by omega
      have h := ih (r + 1) n (by omega) (by omega) (by omega) (cnt + 1) (by omega)
      rw [e1, if_neg (by omega), if_neg (by omega)] at h
      by_cases h0 : cnt = 0
      · rw [if_pos (by rw [h0])]
        have : r = a := by omega
        subst this
        exact h
      · rw [if_neg (by rw [eqN (by omega) (by omega)]; exact h0), if_neg h0]
        exact h
    · rw [inAB, if_neg hin, if_pos rfl]
      have e2 : min b (r - 1) + 1 - a = min b (r + 1 - 1) + 1 - a := by omega
      have h := ih (r + 1) n (by omega) (by omega) (by omega) cnt (by omega)
      by_cases h0 : cnt = 0
      · rw [if_pos h0, if_pos h0] at h ⊢
        exact h
      · rw [if_neg h0, if_neg h0] at h ⊢
        rw [show min b (r - 1) = min b (r + 1 - 1) by omega]
        exact h
theorem step_quick : ∀ (I : WI) (F : WF) (J : WI) (K : WF) (x1 : Int32), Inv I F J K → ∃ (a : Int32) (b : Int32 × WI), f_X10_quick x1 I F = some a ∧ f_X11_quick x1 J K = some b ∧ a = b.1 ∧ Inv I F b.2 K := fun I F J K x1 h => by
  have h0 := h
  obtain ⟨P, B, Kp, Jm, hT, hN, hS, hX, hf, hSe, hB, hP, hI⟩ := h
  obtain ⟨c, a, b, c6, a1, a41, b40, e1, e2, e3, e4, hk, hab⟩ := hSe
  have hsn : ∀ r, 1 ≤ r → r ≤ 40 → f_X11_isAsSeen (nI r) (upd J 0 (nI 0)) K = some (nI (inAB a b r)) := fun r r1 r2 => asSeen_eq (J := upd J 0 (nI 0)) e2 c6 hk hab r1 r2
  rw [nf_f_X10_quick, nf_f_X11_quick]
  by_cases h1 : inR x1 3
  · obtain ⟨q, hq, rfl⟩ := h1
    have hm : ∀ (k : Int32 → Int32 → Int32 → Option (Int32 × WI)), L_X11_quick_27 k (nI q) (upd J 0 (nI 0)) K FU (nI 0) (-1) (-1) (nI 1) = k (nI (b + 1 - a)) (if b + 1 - a = 0 then -1 else nI a) (if b + 1 - a = 0 then -1 else nI b) := fun k => by
      have := quick_m a1 a41 b40 hsn k (nI q) 40 1 FU (by omega) (by rw [FU_big]; omega) (by omega) 0 (by omega)
      rw [if_pos rfl, if_pos rfl] at this
      exact this
    simp (disch := omega) only [bnd_eq, in_in, ob_some, hm, fit_c a41 b40 e3 e4, e3, e4]
    rw [if_neg (show ¬ nI 1 = nI 0 by decide)]
    rcases (show q = 0 ∨ q = 1 ∨ q = 2 by omega) with rfl | rfl | rfl
    · exact ⟨nI (b + 1 - a), (nI (b + 1 - a), upd J 0 (nI 0)), by rw [if_pos rfl], by rw [if_pos rfl], rfl, Inv_J0 h0⟩
    · refine ⟨if b + 1 - a = 0 then -1 else nI a, (if b + 1 - a = 0 then -1 else nI a, upd J 0 (nI 0)), ?_, ?_, rfl, Inv_J0 h0⟩
      · rw [if_neg (by decide), if_pos rfl]
        by_cases z : b + 1 - a = 0
        · rw [if_pos (by rw [z]), if_pos z]
        · rw [if_neg (by rw [eqN (by omega) (by omega)]; exact z), if_neg z]
      · rw [if_neg (by decide), if_pos rfl]
    · refine ⟨if b + 1 - a = 0 then -1 else nI b, (if b + 1 - a = 0 then -1 else nI b, upd J 0 (nI 0)), ?_, ?_, rfl, Inv_J0 h0⟩
      · rw [if_neg (by decide), if_neg (by decide), if_pos rfl]
        by_cases z : b + 1 - a = 0
        · rw [if_pos (by rw [z]), if_pos z]
        · rw [if_neg (by rw [eqN (by omega) (by omega)]; exact z), if_neg z]
      · rw [if_neg (by decide), if_neg (by decide)]
  · refine ⟨-1000000002, (-1000000002, upd J 0 (nI 0)), ?_, ?_, rfl, Inv_J0 h0⟩
    · rw [if_neg (nin h1 0 (by omega)), if_neg (nin h1 1 (by omega)), if_neg (nin h1 2 (by omega))]
    · simp (disch := omega) [bnd_eq, ob_some, eqN, in_out (x := x1) (a := 0) (b := 2) (by omega) (fun j _ hj => nin h1 j (by omega)) (by omega)]
theorem watch_all {J : WI} {K : WF} {a b : Nat} (ha : 1 ≤ a) (ha2 : a ≤ 41) (hb : b ≤ 40) (hsn : ∀ r, 1 ≤ r → r ≤ 40 → f_X11_isAsSeen (nI r) J K = some (nI (inAB a b r))) (c : Int32 → Option (Int32 × WI)) : ∀ m r n, r + m = 41 → m < n → 1 ≤ r → L_X11_watch_9 c J K n (nI (min b (r - 1) + 1 - a)) (nI r) = c (nI (b + 1 - a)) := by
  intro m
  induction m with
  | zero =>
    intro r n h1 h2 h3
    obtain ⟨n, rfl⟩ : ∃ z, n = z + 1 := ⟨n - 1, by omega⟩
    rw [nf_L_X11_watch_9, if_pos (by rw [ltN (by omega) (by omega)]; omega), show min b (r - 1) = b by omega]
  | succ m ih =>
    intro r n h1 h2 h3
    obtain ⟨n, rfl⟩ : ∃ z, n = z + 1 := ⟨n - 1, by omega⟩
    rw [nf_L_X11_watch_9, if_neg (by rw [ltN (by omega) (by omega)]; omega), hsn r h3 (by omega), ob_some]
    simp only [bnd_eq, nI_add]
    have h := ih (r + 1) n (by omega) (by omega) (by omega)
    by_cases hin : a ≤ r ∧ r ≤ b
    · rw [inAB, if_pos hin, if_neg (show ¬ nI 1 = nI 0 by decide), show min b (r - 1) + 1 - a + 1 = min b (r + 1 - 1) + 1 - a by omega]
      exact h
    · rw [inAB, if_neg hin, if_pos rfl, show min b (r - 1) + 1 - a + 0 = min b (r + 1 - 1) + 1 - a by omega]
      exact h
theorem watch_in {J : WI} {K : WF} {a b f : Nat} (ha : 1 ≤ a) (ha2 : a ≤ 41) (hb : b ≤ 40) (hf : f ≤ 40) (hsn : ∀ r, 1 ≤ r → r ≤ 40 → f_X11_isAsSeen (nI r) J K = some (nI (inAB a b r))) (c : Int32 → Option (Int32 × WI)) (x1 x2 x3 : Int32) : ∀ m r n, r + m = f + 1 → m < n → 1 ≤ r → L_X11_watch_57 c x1 x2 x3 (nI f) J K n (nI (min b (r - 1) + 1 - a)) (nI r) = c (nI (min b f + 1 - a)) := by
  intro m
  induction m with
  | zero =>
    intro r n h1 h2 h3
    obtain ⟨n, rfl⟩ : ∃ z, n = z + 1 := ⟨n - 1, by omega⟩
    rw [nf_L_X11_watch_57, if_pos (by rw [ltN (by omega) (by omega)]; omega), show r - 1 = f by omega]
  | succ m ih =>
    intro r n h1 h2 h3
    obtain ⟨n, rfl⟩ : ∃ z, n = z + 1 := ⟨n - 1, by omega⟩
    rw [nf_L_X11_watch_57, if_neg (by rw [ltN (by omega) (by omega)]; omega), hsn r h3 (by omega), ob_some]
    simp only [bnd_eq, nI_add]
    have h := ih (r + 1) n (by omega) (by omega) (by omega)
    by_cases hin : a ≤ r ∧ r ≤ b
    · rw [inAB, if_pos hin, if_neg (show ¬ nI 1 = nI 0 by decide), show min b (r - 1) + 1 - a + 1 = min b (r + 1 - 1) + 1 - a by omega]
      exact h
    · rw [inAB, if_neg hin, if_pos rfl, show min b (r - 1) + 1 - a + 0 = min b (r + 1 - 1) + 1 - a by omega]
      exact h
/-- at flight f: y of the N fit up to f - 1; the best so far has m = min y (N / 2) below it -/
theorem watch_m {J : WI} {K : WF} {a b N : Nat} (ha : 1 ≤ a) (ha2 : a ≤ 41) (hb : b ≤ 40) (hN : N = b + 1 - a) (hsn : ∀ r, 1 ≤ r → r ≤ 40 → f_X11_isAsSeen (nI r) J K = some (nI (inAB a b r))) (c : Int32 → Option (Int32 × WI)) : ∀ q f n, f + q = 41 → q < n → ∀ m, m = min (min b (f - 1) + 1 - a) (N / 2) → (f = 0 → m = 0) → L_X11_watch_44 c (nI N) J K n (if m = 0 then -1 else nI (a - 1 + m)) (nI (N - m)) (nI f) = c (if N / 2 = 0 then -1 else nI (a - 1 + N / 2)) := by
  intro q
  induction q with
  | zero =>
    intro f n h1 h2 m hm hm0
    obtain ⟨n, rfl⟩ : ∃ z, n = z + 1 := ⟨n - 1, by omega⟩
    rw [nf_L_X11_watch_44, if_pos (by rw [ltN (by omega) (by omega)]; omega), show m = N / 2 by omega]
  | succ q ih =>
    intro f n h1 h2 m hm hm0
    obtain ⟨n, rfl⟩ : ∃ z, n = z + 1 := ⟨n - 1, by omega⟩
    have hin := watch_in (f := f) ha ha2 hb (by omega) hsn
    rw [nf_L_X11_watch_44, if_neg (by rw [ltN (by omega) (by omega)]; omega), bnd_eq, bnd_eq]
    have e0 : nI 0 = nI (min b (1 - 1) + 1 - a) := by rw [show min b (1 - 1) + 1 - a = 0 by omega]
    rw [e0, hin _ _ _ _ f 1 FU (by omega) (by rw [FU_big]; omega) (by omega)]
    simp only [bnd_eq]
    obtain ⟨y, hy⟩ : ∃ y, y = min b f + 1 - a := ⟨_, rfl⟩
    rw [← hy, subN (show y ≤ N by omega), nI_add]
    have hg : ∀ g : Nat, g = max y (N - y) → (if nI (N - m) ≤ nI g then (if nI (N - m) ≤ nI g then L_X11_watch_44 c (nI N) J K n (if m = 0 then -1 else nI (a - 1 + m)) (nI (N - m)) (nI (f + 1)) else L_X11_watch_44 c (nI N) J K n (if m = 0 then -1 else nI (a - 1 + m)) (nI g) (nI (f + 1))) else (if nI (N - m) ≤ nI g then L_X11_watch_44 c (nI N) J K n (nI f) (nI (N - m)) (nI (f + 1)) else L_X11_watch_44 c (nI N) J K n (nI f) (nI g) (nI (f + 1)))) = c (if N / 2 = 0 then -1 else nI (a - 1 + N / 2)) := by
      intro g hg
      by_cases h : N - m ≤ g
      · have h' : nI (N - m) ≤ nI g := (nI_leI (by omega) (by omega)).mpr h
        rw [if_pos h', if_pos h']
        exact ih (f + 1) n (by omega) (by omega) m (by omega) (by omega)
      · have h' : ¬ nI (N - m) ≤ nI g := fun z => h ((nI_leI (by omega) (by omega)).mp z)
        rw [if_neg h', if_neg h']
        have hh := ih (f + 1) n (by omega) (by omega) (m + 1) (by omega) (by omega)
        rw [if_neg (by omega), show a - 1 + (m + 1) = f by omega, show N - (m + 1) = g by omega] at hh
        exact hh
    by_cases h : y ≤ N - y
    · rw [if_pos ((nI_leI (by omega) (by omega)).mpr h)]
      exact hg (N - y) (by omega)
    · rw [if_neg (fun z => h ((nI_leI (by omega) (by omega)).mp z))]
      exact hg y (by omega)
theorem step_watch : ∀ (I : WI) (F : WF) (J : WI) (K : WF), Inv I F J K → ∃ (a : Int32) (b : Int32 × WI), f_X10_watch  I F = some a ∧ f_X11_watch  J K = some b ∧ a = b.1 ∧ Inv I F b.2 K := fun I F J K h => by
  have h0 := h
  obtain ⟨P, B, Kp, Jm, hT, hN, hS, hX, hf, hSe, hB, hP, hI⟩ := h
  obtain ⟨c, a, b, c6, a1, a41, b40, e1, e2, e3, e4, hk, hab⟩ := hSe
  have hsn : ∀ r, 1 ≤ r → r ≤ 40 → f_X11_isAsSeen (nI r) (upd J 0 (nI 0)) K = some (nI (inAB a b r)) := fun r r1 r2 => asSeen_eq (J := upd J 0 (nI 0)) e2 c6 hk hab r1 r2
  refine ⟨if (b + 1 - a) / 2 = 0 then -1 else nI (a - 1 + (b + 1 - a) / 2), (if (b + 1 - a) / 2 = 0 then -1 else nI (a - 1 + (b + 1 - a) / 2), upd J 0 (nI 0)), ?_, ?_, rfl, Inv_J0 h0⟩
  · rw [nf_f_X10_watch, nf_f_X5_bestFlight_38, fit_c a41 b40 e3 e4, ob_some, bnd_eq, e3]
    by_cases h2 : 2 ≤ b + 1 - a
    · rw [if_pos ((nI_leI (by omega) (by omega)).mpr h2), if_neg (by omega), divN (by omega) (by omega) (by omega), nI_add, subN (by omega), show a + (b + 1 - a) / 2 - 1 = a - 1 + (b + 1 - a) / 2 by omega]
      rfl
    · rw [if_neg (fun z => h2 ((nI_leI (by omega) (by omega)).mp z)), if_pos (by omega)]
      rfl
  · rw [nf_f_X11_watch]
    simp only [bnd_eq]
    have e0 : nI 0 = nI (min b (1 - 1) + 1 - a) := by rw [show min b (1 - 1) + 1 - a = 0 by omega]
    have hw := watch_all (J := upd J 0 (nI 0)) a1 a41 b40 hsn (fun x1 => L_X11_watch_44 (fun x2 => some (x2, upd J 0 (nI 0))) x1 (upd J 0 (nI 0)) K FU (-1) x1 (nI 0)) 40 1 FU (by omega) (by rw [FU_big]; omega) (by omega)
    rw [← e0] at hw
    rw [hw]
    have := watch_m (J := upd J 0 (nI 0)) (N := b + 1 - a) a1 a41 b40 rfl hsn (fun x2 => some (x2, upd J 0 (nI 0))) 41 0 FU (by omega) (by rw [FU_big]; omega) 0 (by omega) (by omega)
    rw [if_pos rfl] at this
    exact this
