/-! pure layer: town -/
def QK (F : WF) (B t : Nat) : Prop := F 0 t = F 166 t ∧ F 1 t = (if t < B then nI t else -1) ∧ F 2 t = nI 0
theorem bgk {I : WI} {B Kp : Nat} (hB : I 49 = nI B) (hK : I 50 = nI Kp) (hB9 : B ≤ 9) (hK9 : Kp ≤ 9) (c : WF → Option (WI × WF)) : ∀ m k n F, (∀ t, t < k → QK F B t) → k + m = Kp → m < n → ∃ F', L_X6_begin_22_13_12 c I n (nI k) F = c F' ∧ (∀ a, 3 ≤ a → F' a = F a) ∧ (∀ t, t < Kp → QK F' B t) := by
  intro m
  induction m with
  | zero =>
    intro k n F hq h1 h2
    obtain ⟨n, rfl⟩ : ∃ z, n = z + 1 := ⟨n - 1, by omega⟩
    refine ⟨F, ?_, fun _ _ => rfl, fun t ht => hq t (by omega)⟩
    rw [nf_L_X6_begin_22_13_12, hK, if_pos (by rw [leN (by omega) (by omega)]; omega)]
  | succ m ih =>
    intro k n F hq h1 h2
    obtain ⟨n, rfl⟩ : ∃ z, n = z + 1 := ⟨n - 1, by omega⟩
    obtain ⟨F', a1, a2, a3⟩ := ih (k + 1) n (uF (uF (uF F 0 (upd (F 0) k (F 166 k))) 1 (upd (F 1) k (if k < B then nI k else -1))) 2 (upd (F 2) k (nI 0))) (fun t ht => by
      unfold QK
      simp (disch := omega) only [uF_ne, uF_same]
      by_cases e : t = k
      · subst e
        simp only [upd_same]
        exact ⟨trivial, trivial, trivial⟩
      · simp (disch := omega) only [upd_ne]
        exact hq t (by omega)) (by omega) (by omega)
    refine ⟨F', ?_, fun a ha => (a2 a ha).trans (by simp (disch := omega) only [uF_ne]), a3⟩
    rw [nf_L_X6_begin_22_13_12, hK, if_neg (by rw [leN (by omega) (by omega)]; omega), hB]
    simp (disch := omega) only [ixN, nI_clamp, bnd_eq, nI_add, uF_ne]
    rw [← a1]
    by_cases q : k < B
    · rw [if_neg (by rw [leN (by omega) (by omega)]; omega), if_pos q]
    · rw [if_pos (by rw [leN (by omega) (by omega)]; omega), if_neg q]
def QJ (F : WF) (t : Nat) : Prop := F 3 t = F 168 t ∧ F 4 t = nI 0 ∧ F 5 t = nI 0 ∧ F 6 t = nI 0
theorem bgj {I : WI} {Jm : Nat} (hK : I 51 = nI Jm) (hK9 : Jm ≤ 6) (c : WF → Option (WI × WF)) : ∀ m k n F, (∀ t, t < k → QJ F t) → k + m = Jm → m < n → ∃ F', L_X6_begin_22_13_66 c I n (nI k) F = c F' ∧ (∀ a, a < 3 ∨ 7 ≤ a → F' a = F a) ∧ (∀ t, t < Jm → QJ F' t) := by
  intro m
  induction m with
  | zero =>
    intro k n F hq h1 h2
    obtain ⟨n, rfl⟩ : ∃ z, n = z + 1 := ⟨n - 1, by omega⟩
    refine ⟨F, ?_, fun _ _ => rfl, fun t ht => hq t (by omega)⟩
    rw [nf_L_X6_begin_22_13_66, hK, if_pos (by rw [leN (by omega) (by omega)]; omega)]
  | succ m ih =>
    intro k n F hq h1 h2
    obtain ⟨n, rfl⟩ : ∃ z, n = z + 1 := ⟨n - 1, by omega⟩
    obtain ⟨F', a1, a2, a3⟩ := ih (k + 1) n (uF (uF (uF (uF F 3 (upd (F 3) k (F 168 k))) 4 (upd (F 4) k (nI 0))) 5 (upd (F 5) k (nI 0))) 6 (upd (F 6) k (nI 0))) (fun t ht => by
      unfold QJ
      simp (disch := omega) only [uF_ne, uF_same]
      by_cases e : t = k
      · subst e
        simp only [upd_same]
        exact ⟨trivial, trivial, trivial, trivial⟩
      · simp (disch := omega) only [upd_ne]
        exact hq t (by omega)) (by omega) (by omega)
    refine ⟨F', ?_, fun a ha => (a2 a ha).trans (by simp (disch := omega) only [uF_ne]), a3⟩
    rw [nf_L_X6_begin_22_13_66, hK, if_neg (by rw [leN (by omega) (by omega)]; omega)]
    simp (disch := omega) only [ixN, nI_clamp, bnd_eq, nI_add, uF_ne]
    exact a1
theorem begin_c {I : WI} {F : WF} {B Kp Jm : Nat} (hB : I 49 = nI B) (hK : I 50 = nI Kp) (hJ : I 51 = nI Jm) (hB9 : B ≤ 9) (hK9 : Kp ≤ 9) (hJ6 : Jm ≤ 6) : ∃ F', f_X6_begin_22_13 I F = some (upd (upd I 0 (nI 0)) 1 (nI 0), F') ∧ (∀ a, 7 ≤ a → F' a = F a) ∧ (∀ t, t < Kp → QK F' B t) ∧ (∀ t, t < Jm → QJ F' t) := by
  rw [nf_f_X6_begin_22_13, bnd_eq, bnd_eq, bnd_eq]
  obtain ⟨F1, a1, a2, a3⟩ := bgk (I := upd (upd I 0 (nI 0)) 1 (nI 0)) (B := B) (Kp := Kp) hB hK hB9 hK9 (fun F_130 => bnd (nI 0) fun x2_131 => L_X6_begin_22_13_66 (fun F_137 => some (upd (upd I 0 (nI 0)) 1 (nI 0), F_137)) (upd (upd I 0 (nI 0)) 1 (nI 0)) FU x2_131 F_130) Kp 0 FU F (fun t ht => absurd ht (by omega)) (by omega) (by rw [FU_big]; omega)
  rw [a1, bnd_eq]
  obtain ⟨F2, b1, b2, b3⟩ := bgj (I := upd (upd I 0 (nI 0)) 1 (nI 0)) (Jm := Jm) hJ hJ6 (fun F_137 => some (upd (upd I 0 (nI 0)) 1 (nI 0), F_137)) Jm 0 FU F1 (fun t ht => absurd ht (by omega)) (by omega) (by rw [FU_big]; omega)
  refine ⟨F2, b1, fun a ha => (b2 a (by omega)).trans (a2 a (by omega)), fun t ht => ?_, b3⟩
  have := a3 t ht
  unfold QK at this ⊢
  rw [b2 0 (by omega), b2 1 (by omega), b2 2 (by omega), b2 166 (by omega)]
  exact this
theorem TR_co {P B Kp Jm : Nat} {eA eB ai ja kk tn jk tp u eA' eB' ai' ja' kk' tn' jk' tp' u' : Nat → Int32} (h : TR P B Kp Jm eA eB ai ja kk tn jk tp u) (e1 : ∀ t, t < 9 → eA' t = eA t) (e2 : ∀ t, t < 9 → eB' t = eB t) (e3 : ∀ t, t < 9 → ai' t = ai t) (e4 : ∀ t, t < 9 → ja' t = ja t) (e5 : ∀ t, t < 9 → kk' t = kk t) (e6 : ∀ t, t < 9 → tn' t = tn t) (e7 : ∀ t, t < 6 → jk' t = jk t) (e8 : ∀ t, t < 6 → tp' t = tp t) (eu : ∀ t, t < 70 → u' t = u t) : TR P B Kp Jm eA' eB' ai' ja' kk' tn' jk' tp' u' := by
  obtain ⟨hs, hu, hb, hk, hj⟩ := h
  refine ⟨hs, ?_, fun b hb' => ?_, fun k hk' => ?_, fun j hj' => ?_⟩
  · rw [eu _ (by omega), eu _ (by omega), eu _ (by omega), eu _ (by omega)]; exact hu
  · rw [e1 b (by omega), e2 b (by omega), e3 b (by omega), e4 b (by omega), eu _ (by omega), eu _ (by omega), eu _ (by omega), eu _ (by omega)]; exact hb b hb'
  · rw [e5 k (by omega), e6 k (by omega), eu _ (by omega), eu _ (by omega)]; exact hk k hk'
  · rw [e7 j (by omega), e8 j (by omega), eu _ (by omega), eu _ (by omega)]; exact hj j hj'
theorem town_l {F : WF} (I : WI) (k : WI → Option (Int32 × WI × WF)) : L_X10_town_85 k F FU (nI 0) I = k (upd (upd I 63 (nI 0)) 65 (nI 0)) := by
  obtain ⟨n, e⟩ : ∃ n, FU = n + 3 := ⟨FU - 3, by have := FU_big; omega⟩
  rw [e, nf_L_X10_town_85, if_neg (by decide), if_pos rfl, bnd_eq, bnd_eq, nI_add, nf_L_X10_town_85, if_neg (by decide), if_neg (by decide), if_pos rfl, bnd_eq, bnd_eq, nI_add, nf_L_X10_town_85, if_pos (by decide)]
/-- the text, read from its start -/
theorem read_town {n : Nat} (hn : n ≤ 240) {I : WI} {F : WF} {J : WI} {K : WF} (hl : ∀ i, i < n → K 0 i = F 160 i) (h38 : I 38 = nI n) (g1 : J 1 = nI n) (g2 : J 2 = nI 0) (g3 : J 3 = nI 0) : ∃ I' F' J' K', f_X8_readTown_1 I F = some (I', F') ∧ f_X11_reads J (uF K 1 (zr (K 1) 70)) = some (J', K') ∧ RD n I F J K I' F' J' K' := by
  have hsk := skN_le (F 160) (n - 0) 0
  have hs := skip_c (n := n) (p := 0) hn (I := upd (upd (upd (upd (upd (upd (upd I 43 (nI 0)) 44 (nI 0)) 45 (nI 0)) 46 (nI 0)) 39 (nI 0)) 40 (-1)) 41 (nI 0)) (F := F) h38 rfl (by omega)
  have hm := skip_m (n := n) (p := 0) hn (J := J) (K := uF K 1 (zr (K 1) 70)) (le := F 160) (fun i hi => by rw [uF_ne _ _ (by omega)]; exact hl i hi) g1 g2 (by omega)
  rw [nf_f_X8_readTown_1, nf_f_X7_clear_2, nf_f_X11_reads]
  simp only [bnd_eq, ob_some]
  rw [hs, hm, ob_some, ob_some, upd_upd]
  generalize skN (F 160) (n - 0) 0 = s at hsk ⊢
  obtain ⟨I', F', J', K', a1, a2, c1, c2, c3, c4, c5⟩ := read_all hn (fun I_104 F_105 => some (I_104, F_105)) (fun I_1163 F_1164 => some (I_1163, F_1164)) (n - s) s 0 FU FU 0 0 0 0 (upd (upd (upd (upd (upd (upd (upd I 43 (nI 0)) 44 (nI 0)) 45 (nI 0)) 46 (nI 0)) 39 (nI 0)) 40 (-1)) 41 (nI s)) F (upd J 2 (nI s)) (uF K 1 (zr (K 1) 70)) (by omega) (by omega) (by rw [FU_big]; omega) (by rw [FU_big]; omega) (fun i hi => by rw [uF_ne _ _ (by omega)]; exact hl i hi)
    (by refine ⟨?_, ?_, ?_, ?_, ?_, upd_same, upd_same, by omega⟩ <;> simp (disch := omega) only [upd_ne, upd_same, h38, g1, g3])
    (by
      refine ⟨⟨rfl, rfl, rfl, rfl⟩, ⟨by omega, by omega, by omega, by omega, fun _ => ⟨rfl, rfl, rfl⟩⟩, ⟨rfl, rfl, rfl, rfl⟩, fun b hb => absurd hb (by omega), fun b hb => absurd hb (by omega), fun b hb => absurd hb (by omega)⟩)
  refine ⟨I', F', J', K', a1, a2, fun m hm => (c1 m hm).trans (by simp (disch := omega) only [upd_ne]), c2, frJ_t (fun m a _ _ _ => upd_ne a) c3, fun a ha => (c4 a ha).trans (uF_ne _ _ ha), c5⟩
