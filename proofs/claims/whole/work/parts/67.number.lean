/-! pure layer: numbers and clauses' ends -/
def Well (n p : Nat) (I J : WI) : Prop := I 38 = nI n ∧ J 1 = nI n ∧ I 39 = nI 0 ∧ J 3 = nI 0 ∧ I 40 = -1 ∧ I 41 = nI p ∧ J 2 = nI p ∧ p ≤ n
def Bad (n : Nat) (I J : WI) : Prop := I 38 = nI n ∧ J 1 = nI n ∧ (∃ f, 1 ≤ f ∧ f ≤ 4 ∧ I 39 = nI f ∧ J 3 = nI f) ∧ I 40 = J 4 ∧ (∃ p, p ≤ n ∧ I 41 = nI p) ∧ (∃ p, p ≤ n + 1 ∧ J 2 = nI p)
def frI (I I' : WI) : Prop := ∀ n, n < 39 ∨ 42 < n → I' n = I n
def frJ (J J' : WI) : Prop := ∀ n, ¬ n = 2 → ¬ n = 3 → ¬ n = 4 → ¬ n = 9 → J' n = J n
theorem frI_r (I : WI) : frI I I := fun _ _ => rfl
theorem frJ_r (J : WI) : frJ J J := fun _ _ _ _ _ => rfl
theorem frI_t {I I' I'' : WI} (h : frI I I') (h' : frI I' I'') : frI I I'' := fun n hn => (h' n hn).trans (h n hn)
theorem frJ_t {I I' I'' : WI} (h : frJ I I') (h' : frJ I' I'') : frJ I I'' := fun n a b c d => (h' n a b c d).trans (h n a b c d)
theorem WB {n p : Nat} {I J : WI} (h : Well n p I J) (h' : Bad n I J) : False := by
  obtain ⟨f, f1, f2, f3, -⟩ := h'.2.2.1
  have := h.2.2.1.symm.trans f3
  rw [eqN (by omega) (by omega)] at this
  omega
theorem fail_c (x1 x2 : Int32) (I : WI) (F : WF) : f_X8_fail_1 x1 x2 I F = some (upd (upd I 39 x1) 40 x2) := by rw [nf_f_X8_fail_1]; rfl
theorem well_m {J : WI} {K : WF} (h : J 3 = nI 0) : f_X11_isWell J K = some (nI 1) := by rw [nf_f_X11_isWell, if_pos h]
theorem ill_m {J : WI} {K : WF} {f : Nat} (h1 : 1 ≤ f) (h2 : f ≤ 4) (h : J 3 = nI f) : f_X11_isWell J K = some (nI 0) := by rw [nf_f_X11_isWell, h, if_neg (by rw [eqN (by omega) (by omega)]; omega)]
theorem fl_w {J : WI} {K : WF} (x1 x2 : Int32) (h : J 3 = nI 0) : f_X11_faulty x1 x2 J K = some (upd (upd J 3 x1) 4 x2) := by
  rw [nf_f_X11_faulty, well_m h, ob_some, if_neg (show ¬ nI 1 = nI 0 by decide)]; rfl
theorem fl_b {J : WI} {K : WF} {f : Nat} (x1 x2 : Int32) (h1 : 1 ≤ f) (h2 : f ≤ 4) (h : J 3 = nI f) : f_X11_faulty x1 x2 J K = some J := by
  rw [nf_f_X11_faulty, ill_m h1 h2 h, ob_some, if_pos rfl]
theorem bad_mk {n p p' f : Nat} {I J : WI} (w : Int32) (h1 : I 38 = nI n) (h2 : J 1 = nI n) (h3 : I 41 = nI p) (hp : p ≤ n) (h4 : J 2 = nI p') (hp' : p' ≤ n + 1) (f1 : 1 ≤ f) (f2 : f ≤ 4) : Bad n (upd (upd I 39 (nI f)) 40 w) (upd (upd J 3 (nI f)) 4 w) := by
  refine ⟨?_, ?_, ⟨f, f1, f2, ?_, ?_⟩, ?_, ⟨p, hp, ?_⟩, ⟨p', hp', ?_⟩⟩ <;> simp (disch := omega) only [upd_same, upd_ne, h1, h2, h3, h4]
def RN (n p lo hi : Nat) (x y : Int32) (I J I' J' : WI) : Prop := (∃ q v, p ≤ q ∧ Well n q I' J' ∧ (x = nI v ∧ y = nI v ∧ lo ≤ v ∧ v ≤ hi) ∧ I' 42 = J' 9 ∧ (∃ q0, Well n q0 I J)) ∨ Bad n I' J'
theorem rn_w {n p lo hi : Nat} (hn : n ≤ 240) (hlo : lo ≤ 99) (hhi : hi ≤ 99) {I : WI} {F : WF} {J : WI} {K : WF} (hl : ∀ i, i < n → K 0 i = F 160 i) (hw : Well n p I J) : ∃ x y I' J', f_X8_readNumber_1 (nI lo) (nI hi) I F = some (x, I') ∧ f_X11_due (nI lo) (nI hi) J K = some (y, J') ∧ frI I I' ∧ frJ J J' ∧ RN n p lo hi x y I J I' J' := by
  obtain ⟨h1, g1, h2, g2, h3, h4, g4, hp⟩ := id hw
  have hsk := skN_le (F 160) (n - p) p
  generalize hs : skN (F 160) (n - p) p = s at hsk
  rw [nf_f_X8_readNumber_1, nf_f_X11_due, h2, if_pos rfl, well_m g2, ob_some, if_neg (show ¬ nI 1 = nI 0 by decide), skip_c hn h1 h4 hp, skip_m hn hl g1 g4 hp, hs, ob_some, ob_some, bnd_eq, bnd_eq, bnd_eq, bnd_eq, upd_same, upd_same]
  obtain ⟨x', y', e, e1, e2, a1, a2, a3⟩ := num_both (b := s) hn hl (nI lo) (nI hi) (fun x3_32 I_33 => bnd ((I_33 41) - (I_33 42)) fun x4_34 =>
    if x4_34 = (nI 0) then (Option.bind (f_X8_fail_1 (nI 1) (I_33 41) I_33 F) fun c_39 =>
    some (x3_32, c_39))
    else (bnd (fun (_u : Unit) => Option.bind (f_X8_fail_1 (nI 2) (I_33 42) I_33 F) fun c_38 =>
    some (x3_32, c_38)) fun j137_35 =>
    if (nI 3) < x4_34 then (j137_35 ())
    else (if x3_32 < nI lo then (j137_35 ())
    else (if x3_32 ≤ nI hi then (some (x3_32, I_33))
    else (j137_35 ()))))) (fun x3_1100 I_1101 => if (I_1101 2) = (I_1101 9) then (Option.bind (f_X11_faulty (nI 1) (I_1101 9) I_1101 K) fun c_1108 =>
    some (x3_1100, c_1108))
    else (bnd (fun (_u : Unit) => Option.bind (f_X11_faulty (nI 2) (I_1101 9) I_1101 K) fun c_1106 =>
    some (x3_1100, c_1106)) fun j127_1102 =>
    if (nI 3) < ((I_1101 2) - (I_1101 9)) then (j127_1102 ())
    else (Option.bind (f_X11_in x3_1100 (nI lo) (nI hi)) fun c_1107 =>
    if c_1107 = (nI 0) then (j127_1102 ())
    else (some (x3_1100, I_1101))))) (n - s) s FU FU (nI 0) (nI 0) (upd (upd I 41 (nI s)) 42 (nI s)) (upd (upd J 2 (nI s)) 9 (nI s)) (by simp (disch := omega) only [upd_same, upd_ne, h1]) (by simp (disch := omega) only [upd_same, upd_ne]) upd_same (by simp (disch := omega) only [upd_same, upd_ne, g1]) (by simp (disch := omega) only [upd_same, upd_ne]) (Nat.le_refl _) (by omega) (by rw [FU_big]; omega) (by rw [FU_big]; omega) (fun _ => ⟨0, by unfold nb; omega, rfl, rfl⟩)
  rw [a1, a2]
  clear a1 a2
  have i38 : upd (upd (upd I 41 (nI s)) 42 (nI s)) 41 (nI e) 38 = nI n := by simp (disch := omega) only [upd_same, upd_ne, h1]
  have i39 : upd (upd (upd I 41 (nI s)) 42 (nI s)) 41 (nI e) 39 = nI 0 := by simp (disch := omega) only [upd_same, upd_ne, h2]
  have i40 : upd (upd (upd I 41 (nI s)) 42 (nI s)) 41 (nI e) 40 = -1 := by simp (disch := omega) only [upd_same, upd_ne, h3]
  have i41 : upd (upd (upd I 41 (nI s)) 42 (nI s)) 41 (nI e) 41 = nI e := upd_same
  have i42 : upd (upd (upd I 41 (nI s)) 42 (nI s)) 41 (nI e) 42 = nI s := by simp (disch := omega) only [upd_same, upd_ne]
  have iF : frI I (upd (upd (upd I 41 (nI s)) 42 (nI s)) 41 (nI e)) := fun m hm => by simp (disch := omega) only [upd_ne]
  have j1 : upd (upd (upd J 2 (nI s)) 9 (nI s)) 2 (nI e) 1 = nI n := by simp (disch := omega) only [upd_same, upd_ne, g1]
  have j3 : upd (upd (upd J 2 (nI s)) 9 (nI s)) 2 (nI e) 3 = nI 0 := by simp (disch := omega) only [upd_same, upd_ne, g2]
  have j2 : upd (upd (upd J 2 (nI s)) 9 (nI s)) 2 (nI e) 2 = nI e := upd_same
  have j9 : upd (upd (upd J 2 (nI s)) 9 (nI s)) 2 (nI e) 9 = nI s := by simp (disch := omega) only [upd_same, upd_ne]
  have jF : frJ J (upd (upd (upd J 2 (nI s)) 9 (nI s)) 2 (nI e)) := fun m a b c d => by simp (disch := omega) only [upd_ne]
  generalize upd (upd (upd I 41 (nI s)) 42 (nI s)) 41 (nI e) = I2 at *
  generalize upd (upd (upd J 2 (nI s)) 9 (nI s)) 2 (nI e) = J2 at *
  have bad : ∀ f w, 1 ≤ f → f ≤ 4 → Bad n (upd (upd I2 39 (nI f)) 40 w) (upd (upd J2 3 (nI f)) 4 w) := fun f w f1 f2 => bad_mk w i38 j1 i41 e2 j2 (by omega) f1 f2
  have frI2 : ∀ a b, frI I (upd (upd I2 39 a) 40 b) := fun a b => frI_t iF (fun m hm => by simp (disch := omega) only [upd_ne])
  have frJ2 : ∀ a b, frJ J (upd (upd J2 3 a) 4 b) := fun a b => frJ_t jF (fun m q1 q2 q3 q4 => by simp (disch := omega) only [upd_ne])
  simp only [bnd_eq, i41, i42, j2, j9, fail_c, fl_w _ _ j3, ob_some]
  rw [subN e1]
  by_cases q1 : e = s
  · rw [if_pos (by rw [show e - s = 0 by omega]), if_pos (by rw [q1]), q1]
    exact ⟨_, _, _, _, rfl, rfl, frI2 _ _, frJ2 _ _, Or.inr (bad _ _ (by omega) (by omega))⟩
  · have q1a : ¬ nI (e - s) = nI 0 := by rw [eqN (by omega) (by omega)]; omega
    have q1b : ¬ nI e = nI s := by rw [eqN (by omega) (by omega)]; omega
    simp only [if_neg q1a, if_neg q1b]
    by_cases q2 : 3 < e - s
    · have q2' : nI 3 < nI (e - s) := by rw [ltN (by omega) (by omega)]; exact q2
      simp only [if_pos q2']
      exact ⟨_, _, _, _, rfl, rfl, frI2 _ _, frJ2 _ _, Or.inr (bad _ _ (by omega) (by omega))⟩
    · have q2' : ¬ nI 3 < nI (e - s) := by rw [ltN (by omega) (by omega)]; exact q2
      obtain ⟨v, hv, rfl, rfl⟩ := a3 (by omega)
      simp only [if_neg q2']
      by_cases q3 : lo ≤ v ∧ v ≤ hi
      · rw [if_neg (by rw [ltN (by omega) (by omega)]; omega), if_pos (by rw [leN (by omega) (by omega)]; omega), in_in q3.1 q3.2 (by omega), ob_some, if_neg (show ¬ nI 1 = nI 0 by decide)]
        exact ⟨_, _, _, _, rfl, rfl, iF, jF, Or.inl ⟨e, v, by omega, ⟨i38, j1, i39, j3, i40, i41, j2, e2⟩, ⟨rfl, rfl, q3.1, q3.2⟩, i42.trans j9.symm, p, hw⟩⟩
      · have e4 : f_X11_in (nI v) (nI lo) (nI hi) = some (nI 0) := by
          rw [nf_f_X11_in]
          by_cases q4 : v < lo
          · rw [if_pos (by rw [ltN (by omega) (by omega)]; omega)]
          · rw [if_neg (by rw [ltN (by omega) (by omega)]; omega), if_pos (by rw [ltN (by omega) (by omega)]; omega)]
        rw [e4, ob_some, if_pos rfl]
        refine ⟨nI v, _, _, _, ?_, rfl, frI2 _ _, frJ2 _ _, Or.inr (bad _ _ (by omega) (by omega))⟩
        by_cases q4 : v < lo
        · rw [if_pos (by rw [ltN (by omega) (by omega)]; omega)]
        · rw [if_neg (by rw [ltN (by omega) (by omega)]; omega), if_neg (by rw [leN (by omega) (by omega)]; omega)]
theorem rn_b {n : Nat} {I : WI} {F : WF} {J : WI} {K : WF} (h : Bad n I J) (a b c d : Int32) : f_X8_readNumber_1 a b I F = some (-1, I) ∧ f_X11_due c d J K = some (nI 0, J) := by
  obtain ⟨f, f1, f2, f3, f4⟩ := h.2.2.1
  constructor
  · rw [nf_f_X8_readNumber_1, f3, if_neg (by rw [eqN (by omega) (by omega)]; omega)]
  · rw [nf_f_X11_due, ill_m f1 f2 f4, ob_some, if_pos rfl]
theorem rn {n p lo hi : Nat} (hn : n ≤ 240) (hlo : lo ≤ 99) (hhi : hi ≤ 99) {I : WI} {F : WF} {J : WI} {K : WF} (hl : ∀ i, i < n → K 0 i = F 160 i) (h : (∃ q, p ≤ q ∧ Well n q I J) ∨ Bad n I J) : ∃ x y I' J', f_X8_readNumber_1 (nI lo) (nI hi) I F = some (x, I') ∧ f_X11_due (nI lo) (nI hi) J K = some (y, J') ∧ frI I I' ∧ frJ J J' ∧ RN n p lo hi x y I J I' J' := by
  rcases h with ⟨q, hq, hw⟩ | hb
  · obtain ⟨x, y, I', J', a1, a2, a3, a4, a5⟩ := rn_w hn hlo hhi hl hw
    refine ⟨x, y, I', J', a1, a2, a3, a4, ?_⟩
    rcases a5 with ⟨q2, v, b1, b2⟩ | b
    · exact Or.inl ⟨q2, v, by omega, b2⟩
    · exact Or.inr b
  · have := rn_b (F := F) (K := K) hb (nI lo) (nI hi) (nI lo) (nI hi)
    exact ⟨_, _, _, _, this.1, this.2, frI_r I, frJ_r J, Or.inr hb⟩
theorem RN_st {n p lo hi : Nat} {x y : Int32} {I J I' J' : WI} (h : RN n p lo hi x y I J I' J') : (∃ q, p ≤ q ∧ Well n q I' J') ∨ Bad n I' J' := by
  rcases h with ⟨q, v, b1, b2, -⟩ | b
  · exact Or.inl ⟨q, b1, b2⟩
  · exact Or.inr b
theorem ends_both {n p : Nat} (hn : n ≤ 240) {I : WI} {F : WF} {J : WI} {K : WF} (hl : ∀ i, i < n → K 0 i = F 160 i) (h : (∃ q, p ≤ q ∧ Well n q I J) ∨ Bad n I J) : ∃ c I' J', f_X8_endsClause_1 I F = some (c, I') ∧ f_X11_ends J K = some J' ∧ frI I I' ∧ frJ J J' ∧ ((∃ q, p < q ∧ Well n q I' J' ∧ c = nI 1 ∧ ∃ q0, Well n q0 I J) ∨ (Bad n I' J' ∧ c = nI 0)) := by
  rcases h with ⟨q, hq, hw⟩ | hb
  · obtain ⟨h1, g1, h2, g2, h3, h4, g4, hp⟩ := id hw
    have hsk := skN_le (F 160) (n - q) q
    generalize hs : skN (F 160) (n - q) q = s at hsk
    rw [nf_f_X8_endsClause_1, nf_f_X11_ends, h2, if_pos rfl, well_m g2, ob_some, if_neg (show ¬ nI 1 = nI 0 by decide), skip_c hn h1 h4 hp, skip_m hn hl g1 g4 hp, hs, ob_some, ob_some]
    have i38 : upd I 41 (nI s) 38 = nI n := by simp (disch := omega) only [upd_same, upd_ne, h1]
    have i39 : upd I 41 (nI s) 39 = nI 0 := by simp (disch := omega) only [upd_same, upd_ne, h2]
    have i40 : upd I 41 (nI s) 40 = -1 := by simp (disch := omega) only [upd_same, upd_ne, h3]
    have i41 : upd I 41 (nI s) 41 = nI s := upd_same
    have iF : frI I (upd I 41 (nI s)) := fun m hm => by simp (disch := omega) only [upd_ne]
    have j1 : upd J 2 (nI s) 1 = nI n := by simp (disch := omega) only [upd_same, upd_ne, g1]
    have j3 : upd J 2 (nI s) 3 = nI 0 := by simp (disch := omega) only [upd_same, upd_ne, g2]
    have j2 : upd J 2 (nI s) 2 = nI s := upd_same
    have jF : frJ J (upd J 2 (nI s)) := fun m a b c d => by simp (disch := omega) only [upd_ne]
    generalize upd I 41 (nI s) = I2 at *
    generalize upd J 2 (nI s) = J2 at *
    have hbad : ∃ c I' J', (some (nI 0, upd (upd I2 39 (nI 1)) 40 (nI s)) : Option (Int32 × WI)) = some (c, I') ∧ (some (upd (upd (upd J2 3 (nI 1)) 4 (nI s)) 2 (nI (s + 1))) : Option WI) = some J' ∧ frI I I' ∧ frJ J J' ∧ ((∃ q, p < q ∧ Well n q I' J' ∧ c = nI 1 ∧ ∃ q0, Well n q0 I J) ∨ (Bad n I' J' ∧ c = nI 0)) := by
      refine ⟨_, _, _, rfl, rfl, frI_t iF (fun m hm => by simp (disch := omega) only [upd_ne]), frJ_t jF (fun m q1 q2 q3 q4 => by simp (disch := omega) only [upd_ne]), Or.inr ⟨?_, rfl⟩⟩
      refine ⟨?_, ?_, ⟨1, by omega, by omega, ?_, ?_⟩, ?_, ⟨s, by omega, ?_⟩, ⟨s + 1, by omega, ?_⟩⟩ <;> simp (disch := omega) only [upd_same, upd_ne, i38, j1, i41]
    rw [i38, i41, j2]
    simp only [bnd_eq, fail_c, ob_some, fl_w _ _ j3]
    rw [show upd (upd J2 3 (nI 1)) 4 (nI s) 2 = nI s by simp (disch := omega) only [upd_ne, j2], j2, nI_add]
    by_cases hsn : s < n
    · rw [if_neg (by rw [leN (by omega) (by omega)]; omega), ixN (by omega) (by omega), nI_clamp (by omega), letter_in hn j1 hsn, ob_some, hl s hsn]
      by_cases hsc : F 160 s = nI 59
      · simp only [if_pos hsc]
        refine ⟨_, _, _, rfl, rfl, frI_t iF (fun m hm => by simp (disch := omega) only [upd_ne]), frJ_t jF (fun m q1 q2 q3 q4 => by simp (disch := omega) only [upd_ne]), Or.inl ⟨s + 1, by omega, ?_, rfl, q, hw⟩⟩
        refine ⟨?_, ?_, ?_, ?_, ?_, ?_, ?_, ?_⟩
        · rw [upd_ne (by omega), i38]
        · rw [upd_ne (by omega), j1]
        · rw [upd_ne (by omega), i39]
        · rw [upd_ne (by omega), j3]
        · rw [upd_ne (by omega), i40]
        · rw [upd_same]
        · rw [upd_same]
        · omega
      · simp only [if_neg hsc]
        exact hbad
    · rw [if_pos (by rw [leN (by omega) (by omega)]; omega), letter_out hn j1 (by omega) (by omega), ob_some, if_neg (by decide)]
      exact hbad
  · obtain ⟨f, f1, f2, f3, f4⟩ := hb.2.2.1
    refine ⟨nI 0, I, J, ?_, ?_, frI_r I, frJ_r J, Or.inr ⟨hb, rfl⟩⟩
    · rw [nf_f_X8_endsClause_1, f3, if_neg (by rw [eqN (by omega) (by omega)]; omega)]
    · rw [nf_f_X11_ends, ill_m f1 f2 f4, ob_some, if_pos rfl]
