/-! pure layer: the text read, clause by clause -/
theorem Bad_upd {n p p' : Nat} {I J : WI} (h : Bad n I J) (hp : p ≤ n) (hp' : p' ≤ n + 1) : Bad n (upd I 41 (nI p)) (upd J 2 (nI p')) := by
  obtain ⟨h1, h2, ⟨f, f1, f2, f3, f4⟩, h3, -, -⟩ := h
  refine ⟨?_, ?_, ⟨f, f1, f2, ?_, ?_⟩, ?_, ⟨p, hp, upd_same⟩, ⟨p', hp', upd_same⟩⟩ <;> simp (disch := omega) only [upd_ne, h1, h2, f3, f4, h3]
theorem CL_blank {n p : Nat} (hn : n ≤ 240) {I : WI} {F : WF} {J : WI} {K : WF} {I1 : WI} {F1 : WF} {J1 : WI} {K1 : WF} (hl : ∀ i, i < n → K 0 i = F 160 i) (h : CL n p I F J K I1 F1 J1 K1) : ∃ I2 J2, f_X8_skipBlanks_1 I1 F1 = some I2 ∧ f_X11_blanks J1 K1 = some J2 ∧ CL n p I F J K I2 F1 J2 K1 := by
  obtain ⟨c1, c2, c3, c4, c5⟩ := h
  have hl' : ∀ i, i < n → K1 0 i = F1 160 i := fun i hi => by rw [c4 0 (by omega), c2 160 (by omega)]; exact hl i hi
  rcases c5 with ⟨q, P, B, Kp, Jm, hq, hw, hd⟩ | hb
  · obtain ⟨h1, g1, h2, g2, h3, h4, g4, hp⟩ := id hw
    have hsk := skN_le (F1 160) (n - q) q
    refine ⟨_, _, skip_c hn h1 h4 hp, skip_m hn hl' g1 g4 hp, fun m hm => (upd_ne (by omega)).trans (c1 m hm), c2, frJ_t c3 (fun m a b c d => upd_ne a), c4, Or.inl ⟨skN (F1 160) (n - q) q, P, B, Kp, Jm, by omega, ?_, ?_⟩⟩
    · refine ⟨?_, ?_, ?_, ?_, ?_, upd_same, upd_same, by omega⟩ <;> simp (disch := omega) only [upd_ne, h1, g1, h2, g2, h3]
    · exact ⟨⟨(upd_ne (by omega)).trans hd.1.1, (upd_ne (by omega)).trans hd.1.2.1, (upd_ne (by omega)).trans hd.1.2.2.1, (upd_ne (by omega)).trans hd.1.2.2.2⟩, hd.2⟩
  · obtain ⟨h1, h2, -, -, ⟨q, hq, h4⟩, ⟨q', hq', g4⟩⟩ := id hb
    have hsk := skN_le (F1 160) (n - q) q
    by_cases e : q' ≤ n
    · have hsk' := skN_le (F1 160) (n - q') q'
      exact ⟨_, _, skip_c hn h1 h4 hq, skip_m hn hl' h2 g4 e, fun m hm => (upd_ne (by omega)).trans (c1 m hm), c2, frJ_t c3 (fun m a b c d => upd_ne a), c4, Or.inr (Bad_upd hb (by omega) (by omega))⟩
    · refine ⟨_, _, skip_c hn h1 h4 hq, skip_mo hn h2 g4 (by omega) (by omega), fun m hm => (upd_ne (by omega)).trans (c1 m hm), c2, c3, c4, Or.inr ?_⟩
      have := Bad_upd (p := skN (F1 160) (n - q) q) (p' := q') hb (by omega) hq'
      rw [upd_id g4] at this
      exact this
theorem CL_pre {n p : Nat} {I : WI} {F : WF} {J : WI} {K : WF} {I1 : WI} {F1 : WF} {J1 : WI} {K1 : WF} {x y : Int32} (h : CL n (p + 1) (upd I 41 x) F (upd J 2 y) K I1 F1 J1 K1) : CL n p I F J K I1 F1 J1 K1 := by
  obtain ⟨c1, c2, c3, c4, c5⟩ := h
  refine ⟨fun m hm => (c1 m hm).trans (upd_ne (by omega)), c2, frJ_t (fun m a b c d => upd_ne a) c3, c4, ?_⟩
  rcases c5 with ⟨q, P, B, Kp, Jm, hq, h2⟩ | hb
  · exact Or.inl ⟨q, P, B, Kp, Jm, by omega, h2⟩
  · exact Or.inr hb
theorem CL_fail {n p f : Nat} {I : WI} {F : WF} {J : WI} {K : WF} (hw : Well n p I J) (f1 : 1 ≤ f) (f2 : f ≤ 4) : CL n p I F J K (upd (upd I 39 (nI f)) 40 (nI p)) F (upd (upd J 3 (nI f)) 4 (nI p)) K := by
  obtain ⟨h1, g1, h2, g2, h3, h4, g4, hp⟩ := hw
  refine ⟨fun m hm => by simp (disch := omega) only [upd_ne], fun _ _ => rfl, fun m a b c d => by simp (disch := omega) only [upd_ne], fun _ _ => rfl, Or.inr (bad_mk _ h1 g1 h4 hp g4 (by omega) f1 f2)⟩
theorem CL_blankC {n p : Nat} (hn : n ≤ 240) {I : WI} {F : WF} {J : WI} {K : WF} {I1 : WI} {F1 : WF} {J1 : WI} {K1 : WF} (h : CL n p I F J K I1 F1 J1 K1) (hb : Bad n I1 J1) : ∃ I2, f_X8_skipBlanks_1 I1 F1 = some I2 ∧ CL n p I F J K I2 F1 J1 K1 := by
  obtain ⟨c1, c2, c3, c4, -⟩ := h
  obtain ⟨h1, h2, -, -, ⟨q, hq, h4⟩, ⟨q', hq', g4⟩⟩ := id hb
  have hsk := skN_le (F1 160) (n - q) q
  refine ⟨_, skip_c hn h1 h4 hq, fun m hm => (upd_ne (by omega)).trans (c1 m hm), c2, c3, c4, Or.inr ?_⟩
  have := Bad_upd (p := skN (F1 160) (n - q) q) (p' := q') hb (by omega) hq'
  rw [upd_id g4] at this
  exact this
theorem isMore_m {P B Kp Jm : Nat} {J : WI} {K : WF} (u : K 1 0 = nI P ∧ K 1 1 = nI B ∧ K 1 2 = nI Kp ∧ K 1 3 = nI Jm) (hs : P ≤ 8 ∧ B ≤ 9 ∧ Kp ≤ 9 ∧ Jm ≤ 6) :
    f_X11_isMore (nI 110) J K = some (if P = 0 then nI 0 else nI 1) ∧ f_X11_isMore (nI 98) J K = some (if B < 9 then nI 0 else nI 1) ∧ f_X11_isMore (nI 107) J K = some (if Kp < 9 then nI 0 else nI 1) ∧ f_X11_isMore (nI 106) J K = some (if Jm < 6 then nI 0 else nI 1) := by
  obtain ⟨u0, u1, u2, u3⟩ := u
  refine ⟨?_, ?_, ?_, ?_⟩
  · rw [nf_f_X11_isMore]
    by_cases q : P = 0
    · simp (disch := omega) [bnd_eq, u0, eqN, ltN, q]
    · simp (disch := omega) [bnd_eq, u0, eqN, ltN, q, show 0 < P by omega]
  · rw [nf_f_X11_isMore]
    by_cases q : B < 9
    · simp (disch := omega) [bnd_eq, u1, eqN, ltN, q, show ¬ B = 9 by omega]
    · simp (disch := omega) [bnd_eq, u1, eqN, ltN, q, show B = 9 by omega]
  · rw [nf_f_X11_isMore]
    by_cases q : Kp < 9
    · simp (disch := omega) [bnd_eq, u2, eqN, ltN, q, show ¬ Kp = 9 by omega]
    · simp (disch := omega) [bnd_eq, u2, eqN, ltN, q, show Kp = 9 by omega]
  · rw [nf_f_X11_isMore]
    by_cases q : Jm < 6
    · simp (disch := omega) [bnd_eq, u3, eqN, ltN, q, show ¬ Jm = 6 by omega]
    · simp (disch := omega) [bnd_eq, u3, eqN, ltN, q, show Jm = 6 by omega]
theorem isMore_c {P B Kp Jm : Nat} {I : WI} {F : WF} (u : I 43 = nI P ∧ I 44 = nI B ∧ I 45 = nI Kp ∧ I 46 = nI Jm) (hs : P ≤ 8 ∧ B ≤ 9 ∧ Kp ≤ 9 ∧ Jm ≤ 6) :
    f_X8_isOneTooMany_1 (nI 110) I F = some (if P = 0 then nI 0 else nI 1) ∧ f_X8_isOneTooMany_1 (nI 98) I F = some (if B < 9 then nI 0 else nI 1) ∧ f_X8_isOneTooMany_1 (nI 107) I F = some (if Kp < 9 then nI 0 else nI 1) ∧ f_X8_isOneTooMany_1 (nI 106) I F = some (if Jm < 6 then nI 0 else nI 1) := by
  obtain ⟨u0, u1, u2, u3⟩ := u
  refine ⟨?_, ?_, ?_, ?_⟩
  · rw [nf_f_X8_isOneTooMany_1]
    by_cases q : P = 0
    · simp (disch := omega) [u0, eqN, leN, q]
    · simp (disch := omega) [u0, eqN, leN, q]
  · rw [nf_f_X8_isOneTooMany_1]
    by_cases q : B < 9 <;> simp (disch := omega) [u1, eqN, ltN, q]
  · rw [nf_f_X8_isOneTooMany_1]
    by_cases q : Kp < 9 <;> simp (disch := omega) [u2, eqN, ltN, q]
  · rw [nf_f_X8_isOneTooMany_1]
    by_cases q : Jm < 6 <;> simp (disch := omega) [u3, eqN, ltN, q]
def word (P : Nat) (w : Int32) : Prop := w = nI 110 ∨ (¬ P = 0 ∧ (w = nI 98 ∨ w = nI 107 ∨ w = nI 106))
theorem word_c {P : Nat} {I : WI} {F : WF} {w : Int32} (h : I 43 = nI P) (hP : P ≤ 8) : (word P w ∧ f_X8_isWordHere_1 w I F = some (nI 1)) ∨ (¬ word P w ∧ f_X8_isWordHere_1 w I F = some (nI 0)) := by
  rw [nf_f_X8_isWordHere_1, h]
  unfold word
  by_cases q1 : w = nI 110
  · left
    refine ⟨Or.inl q1, ?_⟩
    simp only [if_pos q1]
    split <;> rfl
  · simp only [if_neg q1]
    by_cases q : P = 0
    · right
      refine ⟨fun h => ?_, ?_⟩
      · rcases h with h | h
        · exact q1 h
        · exact h.1 q
      · rw [if_pos (by rw [q])]
    · rw [if_neg (by rw [eqN (by omega) (by omega)]; exact q)]
      by_cases q2 : w = nI 98
      · left; exact ⟨Or.inr ⟨q, Or.inl q2⟩, by rw [if_pos q2]⟩
      · rw [if_neg q2]
        by_cases q3 : w = nI 107
        · left; exact ⟨Or.inr ⟨q, Or.inr (Or.inl q3)⟩, by rw [if_pos q3]⟩
        · rw [if_neg q3]
          by_cases q4 : w = nI 106
          · left; exact ⟨Or.inr ⟨q, Or.inr (Or.inr q4)⟩, by rw [if_pos q4]⟩
          · right
            refine ⟨fun h => ?_, by rw [if_neg q4]⟩
            rcases h with h | ⟨-, h | h | h⟩
            · exact q1 h
            · exact q2 h
            · exact q3 h
            · exact q4 h
theorem reads_f {n p P : Nat} (hn : n ≤ 240) {J : WI} {K : WF} {w : Int32} (g1 : J 1 = nI n) (g2 : J 3 = nI 0) (g4 : J 2 = nI p) (hp : p < n) (hw : K 0 p = w) (u0 : K 1 0 = nI P) (hP : P ≤ 8) (hnw : ¬ word P w) (k : WI → WF → Option (WI × WF)) (m : Nat) : L_X11_reads_4 k (m + 1) J K = L_X11_reads_4 k m (upd (upd J 3 (nI 1)) 4 (nI p)) K := by
  unfold word at hnw
  rw [nf_L_X11_reads_4, well_m g2, ob_some, if_neg (show ¬ nI 1 = nI 0 by decide), g1, g4, if_neg (by rw [leN (by omega) (by omega)]; omega), letter_in hn g1 hp, ob_some, hw]
  simp only [bnd_eq, fl_w _ _ g2, ob_some, if_true]
  rw [if_neg (fun h => hnw (Or.inl h)), u0]
  by_cases q : P = 0
  · rw [if_pos (by rw [q, leN (by omega) (by omega)]; omega)]
  · rw [if_neg (by rw [leN (by omega) (by omega)]; omega), if_neg (fun h => hnw (Or.inr ⟨q, Or.inl h⟩)), if_neg (fun h => hnw (Or.inr ⟨q, Or.inr (Or.inl h)⟩)), if_neg (fun h => hnw (Or.inr ⟨q, Or.inr (Or.inr h)⟩))]
theorem reads_g {n p P : Nat} (hn : n ≤ 240) {J : WI} {K : WF} {w : Int32} (g1 : J 1 = nI n) (g2 : J 3 = nI 0) (g4 : J 2 = nI p) (hp : p < n) (hw : K 0 p = w) (u0 : K 1 0 = nI P) (hP : P ≤ 8) (hnw : word P w) (k : WI → WF → Option (WI × WF)) (m : Nat) : L_X11_reads_4 k (m + 1) J K = (Option.bind (f_X11_isMore w J K) fun c_1087 => if c_1087 = (nI 0) then (Option.bind (f_X11_tells w (upd J 2 (nI (p + 1))) K) fun c_1149 => Option.bind (f_X11_ends c_1149.1 c_1149.2) fun c_1157 => Option.bind (f_X11_blanks c_1157 c_1149.2) fun c_1158 => L_X11_reads_4 k m c_1158 c_1149.2) else L_X11_reads_4 k m (upd (upd J 3 (nI 3)) 4 (nI p)) K) := by
  unfold word at hnw
  rw [nf_L_X11_reads_4, well_m g2, ob_some, if_neg (show ¬ nI 1 = nI 0 by decide), g1, g4, if_neg (by rw [leN (by omega) (by omega)]; omega), letter_in hn g1 hp, ob_some, hw]
  simp only [bnd_eq, fl_w _ _ g2, ob_some, if_true, if_neg (show ¬ nI 1 = nI 0 by decide), nI_add]
  by_cases q1 : w = nI 110
  · rw [if_pos q1]
  · rw [if_neg q1, u0]
    rcases hnw with h | ⟨q, h⟩
    · exact absurd h q1
    · rw [if_neg (by rw [leN (by omega) (by omega)]; omega)]
      by_cases q2 : w = nI 98
      · rw [if_pos q2]
      · rw [if_neg q2]
        by_cases q3 : w = nI 107
        · rw [if_pos q3]
        · rw [if_neg q3]
          rcases h with h | h | h
          · exact absurd h q2
          · exact absurd h q3
          · rw [if_pos h]
