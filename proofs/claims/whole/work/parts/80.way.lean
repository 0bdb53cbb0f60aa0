/-! pure layer: way -/
section Way
variable {P B Kp Jm : Nat} {I : WI} {F K : WF} {J : WI} {set : Int32} {D : Nat → Option Nat} {g G : Nat → Int32}
theorem way_l (hT : InvT P B Kp Jm I F K) (hg : ∀ z, z < P → g z = oE (D z)) (hG : ∀ z, z < P → G z = nI (oN (D z))) (hD : ∀ x k, D x = some k → k < P) {p k j : Nat} (hp : p < P) (hk1 : 1 ≤ k) (hk : k ≤ 8) (hj : j < 6) (hpl : K 3 j = nI p) (kc : Option (Int32 × WF)) (km : Option (Int32 × WI × WF)) : ∀ m b n n', b + m = B → m < n → m < n' → (L_X9_firstOfFewest_31_12 kc (nI p) set (nI k) I (uF F 169 g) n (nI b) = kc ∧ L_X11_way_93 km (nI j) set (nI k) J (uF K 11 G) n' (nI b) = km) ∨ ∃ q, L_X9_firstOfFewest_31_12 kc (nI p) set (nI k) I (uF F 169 g) n (nI b) = some (nI q, uF F 169 g) ∧ L_X11_way_93 km (nI j) set (nI k) J (uF K 11 G) n' (nI b) = some (nI q, J, uF K 11 G) := by
  have hs := T_sz hT
  have hT2 := InvT_sc hT g G
  intro m
  induction m with
  | zero =>
    intro b n n' h1 h2 h3
    obtain ⟨n, rfl⟩ : ∃ z, n = z + 1 := ⟨n - 1, by omega⟩
    obtain ⟨n', rfl⟩ : ∃ z, n' = z + 1 := ⟨n' - 1, by omega⟩
    left
    constructor
    · rw [nf_L_X9_firstOfFewest_31_12, hT.1.2.1, if_pos (by rw [leN (by omega) (by omega)]; omega)]
    · rw [nf_L_X11_way_93, uF_ne _ _ (by omega), hT.2.2.1.2.1, if_pos (by rw [leN (by omega) (by omega)]; omega)]
  | succ m ih =>
    intro b n n' h1 h2 h3
    obtain ⟨n, rfl⟩ : ∃ z, n = z + 1 := ⟨n - 1, by omega⟩
    obtain ⟨n', rfl⟩ : ∃ z, n' = z + 1 := ⟨n' - 1, by omega⟩
    have ih' := ih (b + 1) n n' (by omega) (by omega) (by omega)
    have ej : nI 0 + nI j = nI j := by rw [nI_add, Nat.zero_add]
    rw [nf_L_X9_firstOfFewest_31_12, hT.1.2.1, if_neg (by rw [leN (by omega) (by omega)]; omega), if_neg (show ¬ nI k ≤ nI 0 by rw [leN (by omega) (by omega)]; omega)]
    rw [nf_L_X11_way_93, uF_ne _ _ (show (2 : Nat) ≠ 11 by omega), hT.2.2.1.2.1, if_neg (by rw [leN (by omega) (by omega)]; omega), ej, ixN (by omega) (by omega), nI_clamp (by omega), uF_ne _ _ (show (3 : Nat) ≠ 11 by omega), hpl]
    by_cases hS : inS set b
    · rw [isIn_yes hS, has_yes hS, ob_some]
      rcases beyond_both hT2 (J := J) (b := b) (x := p) (by omega) hp with ⟨y, hy, t1, t2, t3, -⟩ | ⟨t1, t3, -, -⟩
      · rw [t3, ob_some]
        simp only [bnd_eq, ob_some, if_neg (show ¬ nI 1 = nI 0 by decide), t1, t2]
        rw [ixN (by omega) (by omega), nI_clamp (by omega), uF_same, hg y hy, subN hk1, if_neg (m1N (by omega)), ixN (by omega) (by omega), uF_same, hG y hy]
        have o1 := oE_eq (o := D y) (r := k - 1) (by omega) (fun k hk => by have := hD y k hk; omega)
        by_cases q : D y = some (k - 1)
        · right
          refine ⟨b, ?_, ?_⟩
          · rw [if_pos (o1.mpr q)]
          · rw [if_pos (by rw [q]; rfl)]
        · rw [if_neg (fun h => q (o1.mp h)), if_neg (fun h => q (by
            cases hDy : D y with
            | none => rw [hDy, oN, eqN (by omega) (by omega)] at h; omega
            | some r => have := hD y r hDy; rw [hDy, oN, eqN (by omega) (by omega)] at h; rw [h]))]
          rw [nI_add]
          exact ih'
      · rw [t3, ob_some]
        simp only [bnd_eq, ob_some, if_neg (show ¬ nI 1 = nI 0 by decide), t1, if_true, nI_add]
        exact ih'
    · rw [isIn_no hS, has_no hS]
      rcases beyond_both hT2 (J := J) (b := b) (x := p) (by omega) hp with ⟨y, hy, t1, t2, t3, -⟩ | ⟨t1, t3, -, -⟩
      · rw [t3, ob_some]
        simp only [bnd_eq, ob_some, if_true, nI_add]
        exact ih'
      · rw [t3, ob_some]
        simp only [bnd_eq, ob_some, if_true, nI_add]
        exact ih'
theorem way_0 (hT : InvT P B Kp Jm I F K) (hG : ∀ z, z < P → G z = nI (oN (D z))) (hD : ∀ x k, D x = some k → k < P) {p j : Nat} (hp : p < P) (hj : j < 6) (hpl : K 3 j = nI p) (km : Option (Int32 × WI × WF)) : ∀ m b n', b + m = B → m < n' → L_X11_way_93 km (nI j) set (nI 0) J (uF K 11 G) n' (nI b) = km := by
  have hs := T_sz hT
  have hT2 := InvT_sc hT (F 169) G
  intro m
  induction m with
  | zero =>
    intro b n' h1 h3
    obtain ⟨n', rfl⟩ : ∃ z, n' = z + 1 := ⟨n' - 1, by omega⟩
    rw [nf_L_X11_way_93, uF_ne _ _ (by omega), hT.2.2.1.2.1, if_pos (by rw [leN (by omega) (by omega)]; omega)]
  | succ m ih =>
    intro b n' h1 h3
    obtain ⟨n', rfl⟩ : ∃ z, n' = z + 1 := ⟨n' - 1, by omega⟩
    have ih' := ih (b + 1) n' (by omega) (by omega)
    have ej : nI 0 + nI j = nI j := by rw [nI_add, Nat.zero_add]
    rw [nf_L_X11_way_93, uF_ne _ _ (show (2 : Nat) ≠ 11 by omega), hT.2.2.1.2.1, if_neg (by rw [leN (by omega) (by omega)]; omega), ej, ixN (by omega) (by omega), nI_clamp (by omega), uF_ne _ _ (show (3 : Nat) ≠ 11 by omega), hpl]
    by_cases hS : inS set b
    · rw [has_yes hS]
      rcases beyond_both hT2 (J := J) (b := b) (x := p) (by omega) hp with ⟨y, hy, t1, t2, t3, -⟩ | ⟨t1, t3, -, -⟩
      · rw [t3, ob_some]
        simp only [bnd_eq, ob_some, if_neg (show ¬ nI 1 = nI 0 by decide)]
        rw [if_neg (m1N (by omega)), ixN (by omega) (by omega), nI_clamp (by omega), uF_same, hG y hy, if_neg (show ¬ nI (oN (D y)) = nI 0 - nI 1 from fun h => absurd h (m1N (by
          cases hDy : D y with
          | none => decide
          | some r => have := hD y r hDy; rw [oN]; omega))), nI_add]
        exact ih'
      · rw [t3, ob_some]
        simp only [bnd_eq, ob_some, if_neg (show ¬ nI 1 = nI 0 by decide), if_true, nI_add]
        exact ih'
    · rw [has_no hS]
      rcases beyond_both hT2 (J := J) (b := b) (x := p) (by omega) hp with ⟨y, hy, t1, t2, t3, -⟩ | ⟨t1, t3, -, -⟩
      · rw [t3, ob_some]
        simp only [bnd_eq, ob_some, if_true, nI_add]
        exact ih'
      · rw [t3, ob_some]
        simp only [bnd_eq, ob_some, if_true, nI_add]
        exact ih'
end Way
theorem step_way : ∀ (I : WI) (F : WF) (J : WI) (K : WF) (x1 : Int32) (x2 : Int32) (x3 : Int32), Inv I F J K → ∃ (a : Int32 × WF) (b : Int32 × WI × WF), f_X10_way x1 x2 x3 I F = some a ∧ f_X11_way x1 x2 x3 J K = some b ∧ a.1 = b.1 ∧ Inv I a.2 b.2.1 b.2.2 := fun I F J K x1 x2 x3 h => by
  have h0 := h
  obtain ⟨P, B, Kp, Jm, hA⟩ := h
  have hT : InvT P B Kp Jm I F K := hA.1
  have hN : InvN P B Kp Jm I F K := hA.2.1
  have hs := T_sz hT
  have z1 : ¬ nI 1 = nI 0 := by decide
  by_cases h1 : inR x1 Jm
  · obtain ⟨j, hj, rfl⟩ := h1
    by_cases h2 : inR x2 P
    · obtain ⟨x, hx, rfl⟩ := h2
      by_cases h3 : inR x3 2
      · obtain ⟨w, hw, rfl⟩ := h3
        obtain ⟨⟨p, hp, ep⟩, -, -, -, ep2, -⟩ := hN.2.2.2.2.2.1 j hj
        rw [ep] at ep2
        obtain ⟨g, G, D, m1, m2, hg, hG, hD⟩ := dist0 (upd J 0 (nI 0)) hT (drv (cmF I F Kp j) B 0 0) hx
        have hDk : ∀ x k, D x = some k → k < P := fun x k hk => (hD.2.2.2.1 x k hk).2
        have fin : Inv I (uF F 169 g) (upd J 0 (nI 0)) (uF K 11 G) := ⟨P, B, Kp, Jm, InvP_sc hA g G _⟩
        have hc : f_X10_way (nI j) (nI x) (nI w) I F = if nI w = nI 0 then Option.bind (f_X9_fewest_31 (nI p) (nI x) (drv (cmF I F Kp j) B 0 0) I F) (fun c => some (c.1, c.2)) else Option.bind (f_X9_firstOfFewest_31 (nI p) (nI x) (drv (cmF I F Kp j) B 0 0) I F) (fun c => some (c.1, c.2)) := by
          rw [nf_f_X10_way, hasJ_in hT hj, ob_some, if_neg z1, hasP_in hT hx, ob_some, if_neg z1, if_neg (show ¬ nI w < nI 0 by rw [ltN (by omega) (by omega)]; omega), if_pos (show nI w ≤ nI 1 by rw [leN (by omega) (by omega)]; omega), daC hT hj, ob_some, bnd_eq, ixN (by omega) (by omega), ixN (by omega) (by omega), nI_clamp (by omega), ep]
        have hfe : f_X9_fewest_31 (nI p) (nI x) (drv (cmF I F Kp j) B 0 0) I F = some (oE (D p), uF F 169 g) := by
          rw [nf_f_X9_fewest_31, m1, ob_some, ixN (by omega) (by omega), nI_clamp (by omega), uF_same, hg p hp]
        have hm : f_X11_way (nI j) (nI x) (nI w) J K = if nI (oN (D p)) = nI 99 then (if nI (oN (D p)) = nI 99 then some ((-1 : Int32), upd J 0 (nI 0), uF K 11 G) else some (nI (oN (D p)), upd J 0 (nI 0), uF K 11 G)) else if nI w = nI 0 then (if nI (oN (D p)) = nI 99 then some ((-1 : Int32), upd J 0 (nI 0), uF K 11 G) else some (nI (oN (D p)), upd J 0 (nI 0), uF K 11 G)) else L_X11_way_93 (some ((-1 : Int32), upd J 0 (nI 0), uF K 11 G)) (nI j) (drv (cmF I F Kp j) B 0 0) (nI (oN (D p))) (upd J 0 (nI 0)) (uF K 11 G) FU (nI 0) := by
          rw [nf_f_X11_way, bnd_eq, isJ_in hT hj, ob_some, if_neg z1, isP_in hT hx, ob_some, if_neg z1, in_in (by omega) (by omega) (by omega), ob_some, if_neg z1, daM hT hN hj, ob_some, bnd_eq, m2, ob_some, nI_add, Nat.zero_add, ixN (by omega) (by omega), nI_clamp (by omega), uF_ne _ _ (show (3 : Nat) ≠ 11 by omega), ep2, ixN (by omega) (by omega), nI_clamp (by omega), uF_same, hG p hp, bnd_eq, bnd_eq, bnd_eq]
        rw [hc, hm]
        cases hDp : D p with
        | none =>
          have e99 : nI (oN none) = nI 99 := rfl
          rw [if_pos e99, if_pos e99]
          refine ⟨(-1, uF F 169 g), (-1, upd J 0 (nI 0), uF K 11 G), ?_, rfl, rfl, fin⟩
          by_cases hw0 : nI w = nI 0
          · rw [if_pos hw0, hfe, hDp, ob_some]; rfl
          · rw [if_neg hw0, nf_f_X9_firstOfFewest_31, hfe, hDp, ob_some, bnd_eq, bnd_eq]
            obtain ⟨f, ef⟩ : ∃ f, FU = f + 1 := ⟨FU - 1, by rw [FU_big]⟩
            rw [ef, nf_L_X9_firstOfFewest_31_12]
            show Option.bind (if I 49 ≤ nI 0 then some ((-1 : Int32), uF F 169 g) else if oE none ≤ nI 0 then some ((-1 : Int32), uF F 169 g) else _) _ = _
            rw [if_pos (show oE none ≤ nI 0 by decide), ite_self]
            rfl
        | some k =>
          have hk := hDk p k hDp
          have e99 : ¬ nI (oN (some k)) = nI 99 := by rw [oN, eqN (by omega) (by omega)]; omega
          rw [if_neg e99, if_neg e99]
          by_cases hw0 : nI w = nI 0
          · rw [if_pos hw0, if_pos hw0, hfe, hDp, ob_some]
            exact ⟨_, _, rfl, rfl, rfl, fin⟩
          · rw [if_neg hw0, if_neg hw0, nf_f_X9_firstOfFewest_31, hfe, hDp, ob_some, bnd_eq, bnd_eq]
            show ∃ a b, Option.bind (L_X9_firstOfFewest_31_12 (some ((-1 : Int32), uF F 169 g)) (nI p) (drv (cmF I F Kp j) B 0 0) (nI k) I (uF F 169 g) FU (nI 0)) _ = some a ∧ L_X11_way_93 (some ((-1 : Int32), upd J 0 (nI 0), uF K 11 G)) (nI j) (drv (cmF I F Kp j) B 0 0) (nI k) (upd J 0 (nI 0)) (uF K 11 G) FU (nI 0) = some b ∧ _
            by_cases k0 : k = 0
            · subst k0
              obtain ⟨f, ef⟩ : ∃ f, FU = f + 1 := ⟨FU - 1, by rw [FU_big]⟩
              refine ⟨(-1, uF F 169 g), (-1, upd J 0 (nI 0), uF K 11 G), ?_, ?_, rfl, fin⟩
              · rw [ef, nf_L_X9_firstOfFewest_31_12, if_pos (show nI 0 ≤ nI 0 by decide), ite_self]
                rfl
              · exact way_0 hT hG hDk hp (by omega) ep2 _ B 0 FU (by omega) (by rw [FU_big]; omega)
            · rcases way_l (J := upd J 0 (nI 0)) (set := drv (cmF I F Kp j) B 0 0) (j := j) (k := k) hT hg hG hDk hp (by omega) (by omega) (by omega) ep2 (some ((-1 : Int32), uF F 169 g)) (some ((-1 : Int32), upd J 0 (nI 0), uF K 11 G)) B 0 FU FU (by omega) (by rw [FU_big]; omega) (by rw [FU_big]; omega) with ⟨e1, e2⟩ | ⟨q, e1, e2⟩
              · rw [e1, e2]
                exact ⟨_, _, rfl, rfl, rfl, fin⟩
              · rw [e1, e2]
                exact ⟨_, _, rfl, rfl, rfl, fin⟩
      · refine ⟨(-1000000002, F), (-1000000002, upd J 0 (nI 0), K), ?_, ?_, rfl, Inv_J0 h0⟩
        · rw [nf_f_X10_way, hasJ_in hT hj, ob_some, if_neg z1, hasP_in hT hx, ob_some, if_neg z1]
          rcases inR_out (by omega) h3 with q | q
          · rw [if_pos (show x3 < nI 0 from q)]
          · by_cases q2 : x3 < nI 0
            · rw [if_pos q2]
            · rw [if_neg q2, if_neg (show ¬ x3 ≤ nI 1 from fun q3 => absurd (Int32.le_trans q q3) (by decide))]
        · rw [nf_f_X11_way, bnd_eq, isJ_in hT hj, ob_some, if_neg z1, isP_in hT hx, ob_some, if_neg z1, in_out (x := x3) (a := 0) (b := 1) (by omega) (fun j _ hj => nin h3 j (by omega)) (by omega), ob_some, if_pos rfl]
    · refine ⟨(-1000000001, F), (-1000000001, upd J 0 (nI 0), K), ?_, ?_, rfl, Inv_J0 h0⟩
      · rw [nf_f_X10_way, hasJ_in hT hj, ob_some, if_neg z1, hasP_out hT h2, ob_some, if_pos rfl]
      · rw [nf_f_X11_way, bnd_eq, isJ_in hT hj, ob_some, if_neg z1, isP_out hT h2, ob_some, if_pos rfl]
  · refine ⟨(-1000000001, F), (-1000000001, upd J 0 (nI 0), K), ?_, ?_, rfl, Inv_J0 h0⟩
    · rw [nf_f_X10_way, hasJ_out hT h1, ob_some, if_pos rfl]
    · rw [nf_f_X11_way, bnd_eq, isJ_out hT h1, ob_some, if_pos rfl]
