/-! pure layer: a clause, all clauses -/
theorem cls {n p P B Kp Jm : Nat} (hn : n ≤ 240) {I : WI} {F : WF} {J : WI} {K : WF} (hl : ∀ i, i < n → K 0 i = F 160 i) (hw : Well n p I J) (hp : p < n) (hd : DT P B Kp Jm I F K) : ∃ I1 F1 I2 J3 K1, f_X8_readClause_1 I F = some (I1, F1) ∧ f_X8_skipBlanks_1 I1 F1 = some I2 ∧ (∀ k m, L_X11_reads_4 k (m + 1) J K = L_X11_reads_4 k m J3 K1) ∧ CL n p I F J K I2 F1 J3 K1 := by
  obtain ⟨h1, g1, h2, g2, h3, h4, g4, -⟩ := id hw
  have hs : P ≤ 8 ∧ B ≤ 9 ∧ Kp ≤ 9 ∧ Jm ≤ 6 := ⟨hd.2.1.1, hd.2.1.2.1, hd.2.1.2.2.1, hd.2.1.2.2.2.1⟩
  have hlp := hl p hp
  obtain ⟨mc1, mc2, mc3, mc4⟩ := isMore_c (F := F) hd.1 hs
  obtain ⟨mm1, mm2, mm3, mm4⟩ := isMore_m (J := J) hd.2.2.1 hs
  have hwell1 : Well n (p + 1) (upd I 41 (nI (p + 1))) (upd J 2 (nI (p + 1))) := by
    refine ⟨?_, ?_, ?_, ?_, ?_, upd_same, upd_same, by omega⟩ <;> simp (disch := omega) only [upd_ne, h1, g1, h2, g2, h3]
  have hd1 : DT P B Kp Jm (upd I 41 (nI (p + 1))) F K := ⟨⟨(upd_ne (by omega)).trans hd.1.1, (upd_ne (by omega)).trans hd.1.2.1, (upd_ne (by omega)).trans hd.1.2.2.1, (upd_ne (by omega)).trans hd.1.2.2.2⟩, hd.2⟩
  have hc0 : f_X8_readClause_1 I F = (Option.bind (f_X8_isWordHere_1 (F 160 p) I F) fun c_18 =>
      if c_18 = (nI 0) then (Option.bind (f_X8_fail_1 (nI 1) (nI p) I F) fun c_100 => some (c_100, F))
      else (Option.bind (f_X8_isOneTooMany_1 (F 160 p) I F) fun c_22 =>
      if c_22 = (nI 0) then (
      if F 160 p = (nI 98) then (Option.bind (f_X8_readBridge_1 (upd I 41 (nI (p + 1))) F) fun c_70 => some (c_70.1, c_70.2))
      else if F 160 p = (nI 107) then (Option.bind (f_X8_readKeeper_1 (upd I 41 (nI (p + 1))) F) fun c_81 => some (c_81.1, c_81.2))
      else if F 160 p = (nI 110) then (Option.bind (f_X8_readPlaces_1 (upd I 41 (nI (p + 1))) F) fun c_87 => some (c_87, F))
      else Option.bind (f_X8_readJumper_1 (upd I 41 (nI (p + 1))) F) fun c_98 => some (c_98.1, c_98.2))
      else (Option.bind (f_X8_fail_1 (nI 3) (nI p) I F) fun c_99 => some (c_99, F)))) := by
    rw [nf_f_X8_readClause_1, h4, ixN (by omega) (by omega), nI_clamp (by omega), bnd_eq]
    simp only [bnd_eq, nI_add]
  -- a fault at the word
  have hfault : ∀ f, 1 ≤ f → f ≤ 4 → f_X8_readClause_1 I F = some (upd (upd I 39 (nI f)) 40 (nI p), F) → (∀ k m, L_X11_reads_4 k (m + 1) J K = L_X11_reads_4 k m (upd (upd J 3 (nI f)) 4 (nI p)) K) → ∃ I1 F1 I2 J3 K1, f_X8_readClause_1 I F = some (I1, F1) ∧ f_X8_skipBlanks_1 I1 F1 = some I2 ∧ (∀ k m, L_X11_reads_4 k (m + 1) J K = L_X11_reads_4 k m J3 K1) ∧ CL n p I F J K I2 F1 J3 K1 := by
    intro f f1 f2 e1 e2
    obtain ⟨I2, b1, b2⟩ := CL_blankC hn (CL_fail (F := F) (K := K) hw f1 f2) (bad_mk _ h1 g1 h4 (by omega) g4 (by omega) f1 f2)
    exact ⟨_, _, I2, _, _, e1, b1, e2, b2⟩
  -- a clause read
  have hread : ∀ I1 F1 J1 J2 K1, f_X8_readClause_1 I F = some (I1, F1) → f_X11_tells (F 160 p) (upd J 2 (nI (p + 1))) K = some (J1, K1) → f_X11_ends J1 K1 = some J2 → word P (F 160 p) → f_X11_isMore (F 160 p) J K = some (nI 0) → CL n (p + 1) (upd I 41 (nI (p + 1))) F (upd J 2 (nI (p + 1))) K I1 F1 J2 K1 → ∃ I1 F1 I2 J3 K1, f_X8_readClause_1 I F = some (I1, F1) ∧ f_X8_skipBlanks_1 I1 F1 = some I2 ∧ (∀ k m, L_X11_reads_4 k (m + 1) J K = L_X11_reads_4 k m J3 K1) ∧ CL n p I F J K I2 F1 J3 K1 := by
    intro I1 F1 J1 J2 K1 e1 e2 e3 e4 e5 e6
    obtain ⟨I2, J3, b1, b2, b3⟩ := CL_blank hn hl (CL_pre e6)
    refine ⟨I1, F1, I2, J3, K1, e1, b1, fun k m => ?_, b3⟩
    rw [reads_g hn g1 g2 g4 hp hlp hd.2.2.1.1 hs.1 e4, e5, ob_some, if_pos rfl, e2, ob_some, e3, ob_some, b2, ob_some]
  rcases word_c (F := F) (w := F 160 p) hd.1.1 hs.1 with ⟨hwd, ec⟩ | ⟨hwd, ec⟩
  · rw [ec, ob_some, if_neg (show ¬ nI 1 = nI 0 by decide)] at hc0
    have hmany : ∀ x : Int32, f_X8_isOneTooMany_1 (F 160 p) I F = some (nI 1) → f_X11_isMore (F 160 p) J K = some (nI 1) → ∃ I1 F1 I2 J3 K1, f_X8_readClause_1 I F = some (I1, F1) ∧ f_X8_skipBlanks_1 I1 F1 = some I2 ∧ (∀ k m, L_X11_reads_4 k (m + 1) J K = L_X11_reads_4 k m J3 K1) ∧ CL n p I F J K I2 F1 J3 K1 := by
      intro x e1 e2
      refine hfault 3 (by omega) (by omega) ?_ (fun k m => ?_)
      · rw [hc0, e1, ob_some, if_neg (show ¬ nI 1 = nI 0 by decide), fail_c, ob_some]
      · rw [reads_g hn g1 g2 g4 hp hlp hd.2.2.1.1 hs.1 hwd, e2, ob_some, if_neg (show ¬ nI 1 = nI 0 by decide)]
    rcases hwd with hwe | ⟨hP, hwe | hwe | hwe⟩
    · by_cases q : P = 0
      · subst q
        obtain ⟨I', J1, J', K', a1, a2, a3, a4⟩ := cl_n hn hl hwell1 hd1
        refine hread I' F J1 J' K' ?_ (by rw [hwe]; exact a2) a3 (Or.inl hwe) (by rw [hwe, mm1, if_pos rfl]) a4
        rw [hc0, hwe, mc1, ob_some, if_pos rfl, if_pos rfl, if_neg (by decide), if_neg (by decide), if_pos rfl, a1, ob_some]
      · exact hmany 0 (by rw [hwe, mc1, if_neg q]) (by rw [hwe, mm1, if_neg q])
    · by_cases q : B < 9
      · obtain ⟨I', F', J1, J', K', a1, a2, a3, a4⟩ := cl_b hn hl hwell1 hd1 hP q
        refine hread I' F' J1 J' K' ?_ (by rw [hwe]; exact a2) a3 (Or.inr ⟨hP, Or.inl hwe⟩) (by rw [hwe, mm2, if_pos q]) a4
        rw [hc0, hwe, mc2, ob_some, if_pos q, if_pos rfl, if_pos rfl, a1, ob_some]
      · exact hmany 0 (by rw [hwe, mc2, if_neg q]) (by rw [hwe, mm2, if_neg q])
    · by_cases q : Kp < 9
      · obtain ⟨I', F', J1, J', K', a1, a2, a3, a4⟩ := cl_k hn hl hwell1 hd1 hP q
        refine hread I' F' J1 J' K' ?_ (by rw [hwe]; exact a2) a3 (Or.inr ⟨hP, Or.inr (Or.inl hwe)⟩) (by rw [hwe, mm3, if_pos q]) a4
        rw [hc0, hwe, mc3, ob_some, if_pos q, if_pos rfl, if_neg (by decide), if_pos rfl, a1, ob_some]
      · exact hmany 0 (by rw [hwe, mc3, if_neg q]) (by rw [hwe, mm3, if_neg q])
    · by_cases q : Jm < 6
      · obtain ⟨I', F', J1, J', K', a1, a2, a3, a4⟩ := cl_j hn hl hwell1 hd1 hP q
        refine hread I' F' J1 J' K' ?_ (by rw [hwe]; exact a2) a3 (Or.inr ⟨hP, Or.inr (Or.inr hwe)⟩) (by rw [hwe, mm4, if_pos q]) a4
        rw [hc0, hwe, mc4, ob_some, if_pos q, if_pos rfl, if_neg (by decide), if_neg (by decide), if_neg (by decide), a1, ob_some]
      · exact hmany 0 (by rw [hwe, mc4, if_neg q]) (by rw [hwe, mm4, if_neg q])
  · rw [ec, ob_some, if_pos rfl, fail_c, ob_some] at hc0
    exact hfault 1 (by omega) (by omega) hc0 (fun k m => reads_f hn g1 g2 g4 hp hlp hd.2.2.1.1 hs.1 hwd k m)
theorem CL_trans {n p q : Nat} {I I' I'' : WI} {F F' F'' : WF} {J J' J'' : WI} {K K' K'' : WF} (c1 : ∀ n, n < 39 ∨ 46 < n → I' n = I n) (c2 : ∀ a, a < 152 ∨ 159 < a → F' a = F a) (c3 : frJ J J') (c4 : ∀ a, ¬ a = 1 → K' a = K a) (hpq : p ≤ q) (h : CL n q I' F' J' K' I'' F'' J'' K'') : CL n p I F J K I'' F'' J'' K'' := by
  obtain ⟨d1, d2, d3, d4, d5⟩ := h
  refine ⟨fun m hm => (d1 m hm).trans (c1 m hm), fun a ha => (d2 a ha).trans (c2 a ha), frJ_t c3 d3, fun a ha => (d4 a ha).trans (c4 a ha), ?_⟩
  rcases d5 with ⟨q', P, B, Kp, Jm, hq, h2⟩ | hb
  · exact Or.inl ⟨q', P, B, Kp, Jm, by omega, h2⟩
  · exact Or.inr hb
/-- all of the text: a town at its end, or the first fault -/
def RD (n : Nat) (I : WI) (F : WF) (J : WI) (K : WF) (I' : WI) (F' : WF) (J' : WI) (K' : WF) : Prop := (∀ n, n < 39 ∨ 46 < n → I' n = I n) ∧ (∀ a, a < 152 ∨ 159 < a → F' a = F a) ∧ frJ J J' ∧ (∀ a, ¬ a = 1 → K' a = K a) ∧ ((∃ P B Kp Jm, Well n n I' J' ∧ DT P B Kp Jm I' F' K') ∨ Bad n I' J')
theorem read_all {n : Nat} (hn : n ≤ 240) (cc cm : WI → WF → Option (WI × WF)) : ∀ (m p i k k' P B Kp Jm : Nat) (I : WI) (F : WF) (J : WI) (K : WF), p + m = n → i ≤ p → m + 1 < k → m + 1 < k' → (∀ i, i < n → K 0 i = F 160 i) → Well n p I J → DT P B Kp Jm I F K → ∃ I' F' J' K', L_X8_readTown_1_28 cc k (nI i) I F = cc I' F' ∧ L_X11_reads_4 cm k' J K = cm J' K' ∧ RD n I F J K I' F' J' K' := by
  intro m
  induction m using Nat.strongRecOn with
  | _ m ih =>
    intro p i k k' P B Kp Jm I F J K h1 h2 h3 h4 hl hw hd
    obtain ⟨k, rfl⟩ : ∃ z, k = z + 1 := ⟨k - 1, by omega⟩
    obtain ⟨k', rfl⟩ : ∃ z, k' = z + 1 := ⟨k' - 1, by omega⟩
    obtain ⟨w1, v1, w2, v2, w3, w4, v4, -⟩ := id hw
    by_cases hpn : p < n
    · obtain ⟨I1, F1, I2, J3, K1, a1, a2, a3, a4⟩ := cls hn hl hw hpn hd
      rw [nf_L_X8_readTown_1_28, if_neg (by rw [leN (by omega) (by omega)]; omega), w1, w4, if_neg (by rw [leN (by omega) (by omega)]; omega), if_pos w2, a1, ob_some, a2, ob_some, bnd_eq, nI_add, a3]
      obtain ⟨c1, c2, c3, c4, c5⟩ := id a4
      rcases c5 with ⟨q, P', B', Kp', Jm', hq, hw', hd'⟩ | hb
      · have hqn := hw'.2.2.2.2.2.2.2
        obtain ⟨I', F', J', K', b1, b2, d1, d2, d3, d4, d5⟩ := ih (n - q) (by omega) q (i + 1) k k' P' B' Kp' Jm' I2 F1 J3 K1 (by omega) (by omega) (by omega) (by omega) (fun i hi => by rw [c4 0 (by omega), c2 160 (by omega)]; exact hl i hi) hw' hd'
        exact ⟨I', F', J', K', b1, b2, fun m hm => (d1 m hm).trans (c1 m hm), fun a ha => (d2 a ha).trans (c2 a ha), frJ_t c3 d3, fun a ha => (d4 a ha).trans (c4 a ha), d5⟩
      · obtain ⟨k, rfl⟩ : ∃ z, k = z + 1 := ⟨k - 1, by omega⟩
        obtain ⟨k', rfl⟩ : ∃ z, k' = z + 1 := ⟨k' - 1, by omega⟩
        obtain ⟨e1, e2, ⟨f, f1, f2, f3, f4⟩, -, ⟨r, hr, e4⟩, -⟩ := id hb
        refine ⟨I2, F1, J3, K1, ?_, ?_, c1, c2, c3, c4, Or.inr hb⟩
        · rw [nf_L_X8_readTown_1_28, e1, e4, f3]
          split
          · rfl
          · split
            · rfl
            · rw [if_neg (by rw [eqN (by omega) (by omega)]; omega)]
        · rw [nf_L_X11_reads_4, ill_m f1 f2 f4, ob_some, if_pos rfl]
    · have : p = n := by omega
      subst this
      refine ⟨I, F, J, K, ?_, ?_, fun _ _ => rfl, fun _ _ => rfl, frJ_r _, fun _ _ => rfl, Or.inl ⟨P, B, Kp, Jm, hw, hd⟩⟩
      · rw [nf_L_X8_readTown_1_28, w1, w4]
        split
        · rfl
        · rw [if_pos (by rw [leN (by omega) (by omega)]; omega)]
      · rw [nf_L_X11_reads_4, well_m v2, ob_some, if_neg (show ¬ nI 1 = nI 0 by decide), v1, v4, if_pos (by rw [leN (by omega) (by omega)]; omega)]
