/-! pure layer: clauses -/
def DT (P B Kp Jm : Nat) (I : WI) (F K : WF) : Prop := (I 43 = nI P ∧ I 44 = nI B ∧ I 45 = nI Kp ∧ I 46 = nI Jm) ∧ TR P B Kp Jm (F 152) (F 153) (F 154) (F 155) (F 156) (F 157) (F 158) (F 159) (K 1)
def CL (n p : Nat) (I : WI) (F : WF) (J : WI) (K : WF) (I' : WI) (F' : WF) (J' : WI) (K' : WF) : Prop := (∀ n, n < 39 ∨ 46 < n → I' n = I n) ∧ (∀ a, a < 152 ∨ 159 < a → F' a = F a) ∧ frJ J J' ∧ (∀ a, ¬ a = 1 → K' a = K a) ∧ ((∃ q P B Kp Jm, p < q ∧ Well n q I' J' ∧ DT P B Kp Jm I' F' K') ∨ Bad n I' J')
theorem Well_I {n p : Nat} {I I' J : WI} (e : ∀ n, 38 ≤ n → n < 42 → I' n = I n) (h : Well n p I J) : Well n p I' J := by
  obtain ⟨h1, g1, h2, g2, h3, h4, g4, hp⟩ := h
  exact ⟨(e 38 (by omega) (by omega)).trans h1, g1, (e 39 (by omega) (by omega)).trans h2, g2, (e 40 (by omega) (by omega)).trans h3, (e 41 (by omega) (by omega)).trans h4, g4, hp⟩
theorem DT_of {P B Kp Jm : Nat} {I : WI} {F K : WF} {p b k j : Int32} {a0 a1 a2 a3 a4 a5 a6 a7 u : Nat → Int32} (e : I 43 = p ∧ I 44 = b ∧ I 45 = k ∧ I 46 = j ∧ F 152 = a0 ∧ F 153 = a1 ∧ F 154 = a2 ∧ F 155 = a3 ∧ F 156 = a4 ∧ F 157 = a5 ∧ F 158 = a6 ∧ F 159 = a7 ∧ K 1 = u) (hp : p = nI P) (hb : b = nI B) (hk : k = nI Kp) (hj : j = nI Jm) (h : TR P B Kp Jm a0 a1 a2 a3 a4 a5 a6 a7 u) : DT P B Kp Jm I F K := by
  obtain ⟨e1, e2, e3, e4, e5, e6, e7, e8, e9, e10, e11, e12, e13⟩ := e
  refine ⟨⟨e1.trans hp, e2.trans hb, e3.trans hk, e4.trans hj⟩, ?_⟩
  rw [e5, e6, e7, e8, e9, e10, e11, e12, e13]
  exact h
theorem cl_n {n p B Kp Jm : Nat} (hn : n ≤ 240) {I : WI} {F : WF} {J : WI} {K : WF} (hl : ∀ i, i < n → K 0 i = F 160 i) (hw : Well n p I J) (hd : DT 0 B Kp Jm I F K) : ∃ I' J1 J' K', f_X8_readPlaces_1 I F = some I' ∧ f_X11_tells (nI 110) J K = some (J1, K') ∧ f_X11_ends J1 K' = some J' ∧ CL n p I F J K I' F J' K' := by
  obtain ⟨x, y, I1, J1, a1, a2, f1, f2, hr⟩ := rn (lo := 2) (hi := 8) hn (by omega) (by omega) hl (Or.inl ⟨p, Nat.le_refl _, hw⟩)
  obtain ⟨c, I2, J2, b1, b2, f3, f4, he⟩ := ends_both (p := p) (I := I1) (F := F) (J := J1) (K := uF K 1 (upd (K 1) 0 y)) hn (fun i hi => by rw [uF_ne _ _ (by omega)]; exact hl i hi) (RN_st hr)
  have e1 : f_X11_tells (nI 110) J K = some (J1, uF K 1 (upd (K 1) 0 y)) := by rw [nf_f_X11_tells, if_pos rfl, a2, ob_some, bnd_eq]
  have e2 : f_X8_readPlaces_1 I F = if c = nI 0 then some I2 else some (upd I2 43 x) := by rw [nf_f_X8_readPlaces_1, a1, ob_some, bnd_eq, b1, ob_some]; rfl
  have fi := frI_t f1 f3
  rcases he with ⟨q, hq, hw2, rfl, q0, hw1⟩ | ⟨hb, rfl⟩
  · rcases hr with ⟨q1, v, p1, p2, ⟨rfl, rfl, v1, v2⟩, -⟩ | hb
    · obtain ⟨rfl, rfl, rfl, ht⟩ := TR_place (v := v) hd.2 v1 v2
      refine ⟨_, _, _, _, e2.trans (if_neg (by decide)), e1, b2, fun m hm => (upd_ne (by omega)).trans (fi m (by omega)), fun _ _ => rfl, frJ_t f2 f4, fun a ha => uF_ne _ _ ha, Or.inl ⟨q, v, 0, 0, 0, hq, Well_I (fun m h1 h2 => upd_ne (by omega)) hw2, ?_⟩⟩
      exact DT_of ⟨upd_same, upd_ne (by omega), upd_ne (by omega), upd_ne (by omega), rfl, rfl, rfl, rfl, rfl, rfl, rfl, rfl, rfl⟩ rfl ((fi 44 (by omega)).trans hd.1.2.1) ((fi 45 (by omega)).trans hd.1.2.2.1) ((fi 46 (by omega)).trans hd.1.2.2.2) ht
    · exact absurd hb (fun h => WB hw1 h)
  · exact ⟨_, _, _, _, e2.trans (if_pos rfl), e1, b2, fun m hm => fi m (by omega), fun _ _ => rfl, frJ_t f2 f4, fun a ha => uF_ne _ _ ha, Or.inr hb⟩
theorem cl_k {n p P B Kp Jm : Nat} (hn : n ≤ 240) {I : WI} {F : WF} {J : WI} {K : WF} (hl : ∀ i, i < n → K 0 i = F 160 i) (hw : Well n p I J) (hd : DT P B Kp Jm I F K) (hP : ¬ P = 0) (hK : Kp < 9) : ∃ I' F' J1 J' K', f_X8_readKeeper_1 I F = some (I', F') ∧ f_X11_tells (nI 107) J K = some (J1, K') ∧ f_X11_ends J1 K' = some J' ∧ CL n p I F J K I' F' J' K' := by
  obtain ⟨x, y, I1, J1, a1, a2, f1, f2, hr⟩ := rn (lo := 0) (hi := 3) hn (by omega) (by omega) hl (Or.inl ⟨p, Nat.le_refl _, hw⟩)
  have u2 : K 1 2 = nI Kp := hd.2.2.1.2.2.1
  obtain ⟨x', y', I2, J2, a3, a4, f3, f4, hr2⟩ := rn (lo := 1) (hi := 40) (p := p) (I := I1) (F := F) (J := J1) (K := uF K 1 (upd (K 1) (40 + Kp) y)) hn (by omega) (by omega) (fun i hi => by rw [uF_ne _ _ (by omega)]; exact hl i hi) (RN_st hr)
  obtain ⟨c, I3, J3, b1, b2, f5, f6, he⟩ := ends_both (p := p) (I := I2) (F := F) (J := J2) (K := uF K 1 (upd (upd (upd (K 1) (40 + Kp) y) (49 + Kp) y') 2 (nI (Kp + 1)))) hn (fun i hi => by rw [uF_ne _ _ (by omega)]; exact hl i hi) (RN_st hr2)
  have e1 : f_X11_tells (nI 107) J K = some (J2, uF K 1 (upd (upd (upd (K 1) (40 + Kp) y) (49 + Kp) y') 2 (nI (Kp + 1)))) := by
    rw [nf_f_X11_tells, if_neg (by decide), if_neg (by decide), if_pos rfl, a2, ob_some]
    simp (disch := omega) only [u2, nI_add, ixN, nI_clamp, bnd_eq, a4, ob_some, uF_same, upd_ne, uF_uF]
  have e2 : f_X8_readKeeper_1 I F = if c = nI 0 then some (I3, F) else Option.bind (f_X7_addKeeper_2 x x' I3 F) fun c_80 => some (c_80.1, c_80.2) := by
    rw [nf_f_X8_readKeeper_1, a1, ob_some, bnd_eq, a3, ob_some, bnd_eq, b1, ob_some]
  have fi := frI_t f1 (frI_t f3 f5)
  have fj := frJ_t f2 (frJ_t f4 f6)
  rcases he with ⟨q, hq, hw3, rfl, q0, hw2⟩ | ⟨hb, rfl⟩
  · rcases hr2 with ⟨q1, v', p1, p2, ⟨rfl, rfl, v1', v2'⟩, -, q00, hw1⟩ | hb
    · rcases hr with ⟨q1, v, p1, p2, ⟨rfl, rfl, v1, v2⟩, -⟩ | hb
      · have i45 : I3 45 = nI Kp := (fi 45 (by omega)).trans hd.1.2.2.1
        refine ⟨upd I3 45 (nI (Kp + 1)), uF (uF F 156 (upd (F 156) Kp (nI v))) 157 (upd (F 157) Kp (nI v')), _, _, _, ?_, e1, b2, fun m hm => (upd_ne (by omega)).trans (fi m (by omega)), fun a ha => (uF_ne _ _ (by omega)).trans (uF_ne _ _ (by omega)), fj, fun a ha => uF_ne _ _ ha, Or.inl ⟨q, P, B, Kp + 1, Jm, hq, Well_I (fun m h1 h2 => upd_ne (by omega)) hw3, ?_⟩⟩
        · rw [e2, if_neg (by decide), nf_f_X7_addKeeper_2, i45]
          simp (disch := omega) only [ixN, nI_clamp, bnd_eq, nI_add, ob_some, uF_ne]
        · exact DT_of ⟨upd_ne (by omega), upd_ne (by omega), upd_same, upd_ne (by omega), rfl, rfl, rfl, rfl, rfl, rfl, rfl, rfl, rfl⟩ ((fi 43 (by omega)).trans hd.1.1) ((fi 44 (by omega)).trans hd.1.2.1) rfl ((fi 46 (by omega)).trans hd.1.2.2.2) (TR_keeper hd.2 hP hK v2 v1' v2')
      · exact absurd hb (fun h => WB hw1 h)
    · exact absurd hb (fun h => WB hw2 h)
  · exact ⟨_, _, _, _, _, e2.trans (if_pos rfl), e1, b2, fun m hm => fi m (by omega), fun _ _ => rfl, fj, fun a ha => uF_ne _ _ ha, Or.inr hb⟩
theorem place_c {I : WI} {F : WF} {P : Nat} (hP : ¬ P = 0) (h : I 43 = nI P) : f_X8_readPlace_1 I F = f_X8_readNumber_1 (nI 0) (nI (P - 1)) I F := by
  rw [nf_f_X8_readPlace_1, h, subN (by omega)]
  cases f_X8_readNumber_1 (nI 0) (nI (P - 1)) I F <;> rfl
theorem cl_j {n p P B Kp Jm : Nat} (hn : n ≤ 240) {I : WI} {F : WF} {J : WI} {K : WF} (hl : ∀ i, i < n → K 0 i = F 160 i) (hw : Well n p I J) (hd : DT P B Kp Jm I F K) (hP : ¬ P = 0) (hK : Jm < 6) : ∃ I' F' J1 J' K', f_X8_readJumper_1 I F = some (I', F') ∧ f_X11_tells (nI 106) J K = some (J1, K') ∧ f_X11_ends J1 K' = some J' ∧ CL n p I F J K I' F' J' K' := by
  have hP8 : P ≤ 8 := hd.2.1.1
  obtain ⟨x, y, I1, J1, a1, a2, f1, f2, hr⟩ := rn (lo := 0) (hi := 3) hn (by omega) (by omega) hl (Or.inl ⟨p, Nat.le_refl _, hw⟩)
  have u0 : K 1 0 = nI P := hd.2.2.1.1
  have u2 : K 1 3 = nI Jm := hd.2.2.1.2.2.2
  obtain ⟨x', y', I2, J2, a3, a4, f3, f4, hr2⟩ := rn (lo := 0) (hi := P - 1) (p := p) (I := I1) (F := F) (J := J1) (K := uF K 1 (upd (K 1) (58 + Jm) y)) hn (by omega) (by omega) (fun i hi => by rw [uF_ne _ _ (by omega)]; exact hl i hi) (RN_st hr)
  obtain ⟨c, I3, J3, b1, b2, f5, f6, he⟩ := ends_both (p := p) (I := I2) (F := F) (J := J2) (K := uF K 1 (upd (upd (upd (K 1) (58 + Jm) y) (64 + Jm) y') 3 (nI (Jm + 1)))) hn (fun i hi => by rw [uF_ne _ _ (by omega)]; exact hl i hi) (RN_st hr2)
  have e1 : f_X11_tells (nI 106) J K = some (J2, uF K 1 (upd (upd (upd (K 1) (58 + Jm) y) (64 + Jm) y') 3 (nI (Jm + 1)))) := by
    rw [nf_f_X11_tells, if_neg (by decide), if_neg (by decide), if_neg (by decide), a2, ob_some]
    simp (disch := omega) only [u2, u0, nI_add, ixN, nI_clamp, bnd_eq, uF_same, upd_ne, subN, a4, ob_some, uF_uF]
  have e2 : f_X8_readJumper_1 I F = if c = nI 0 then some (I3, F) else Option.bind (f_X7_addJumper_2 x x' I3 F) fun c_80 => some (c_80.1, c_80.2) := by
    rw [nf_f_X8_readJumper_1, a1, ob_some, bnd_eq, place_c hP ((f1 43 (by omega)).trans hd.1.1), a3, ob_some, bnd_eq, b1, ob_some]
  have fi := frI_t f1 (frI_t f3 f5)
  have fj := frJ_t f2 (frJ_t f4 f6)
  rcases he with ⟨q, hq, hw3, rfl, q0, hw2⟩ | ⟨hb, rfl⟩
  · rcases hr2 with ⟨q1, v', p1, p2, ⟨rfl, rfl, v1', v2'⟩, -, q00, hw1⟩ | hb
    · rcases hr with ⟨q1, v, p1, p2, ⟨rfl, rfl, v1, v2⟩, -⟩ | hb
      · have i46 : I3 46 = nI Jm := (fi 46 (by omega)).trans hd.1.2.2.2
        refine ⟨upd I3 46 (nI (Jm + 1)), uF (uF F 158 (upd (F 158) Jm (nI v))) 159 (upd (F 159) Jm (nI v')), _, _, _, ?_, e1, b2, fun m hm => (upd_ne (by omega)).trans (fi m (by omega)), fun a ha => (uF_ne _ _ (by omega)).trans (uF_ne _ _ (by omega)), fj, fun a ha => uF_ne _ _ ha, Or.inl ⟨q, P, B, Kp, Jm + 1, hq, Well_I (fun m h1 h2 => upd_ne (by omega)) hw3, ?_⟩⟩
        · rw [e2, if_neg (by decide), nf_f_X7_addJumper_2, i46]
          simp (disch := omega) only [ixN, nI_clamp, bnd_eq, nI_add, ob_some, uF_ne]
        · exact DT_of ⟨upd_ne (by omega), upd_ne (by omega), upd_ne (by omega), upd_same, rfl, rfl, rfl, rfl, rfl, rfl, rfl, rfl, rfl⟩ ((fi 43 (by omega)).trans hd.1.1) ((fi 44 (by omega)).trans hd.1.2.1) ((fi 45 (by omega)).trans hd.1.2.2.1) rfl (TR_jumper hd.2 hP hK v2 (by omega))
      · exact absurd hb (fun h => WB hw1 h)
    · exact absurd hb (fun h => WB hw2 h)
  · exact ⟨_, _, _, _, _, e2.trans (if_pos rfl), e1, b2, fun m hm => fi m (by omega), fun _ _ => rfl, fj, fun a ha => uF_ne _ _ ha, Or.inr hb⟩
