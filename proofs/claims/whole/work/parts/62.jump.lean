/-! pure layer: a leap, on both sides -/
def InvP (P B Kp Jm : Nat) (I : WI) (F : WF) (J : WI) (K : WF) : Prop := InvT P B Kp Jm I F K ∧ InvN P B Kp Jm I F K ∧ (I 47 = K 3 133 ∧ ¬ I 47 < 0) ∧ TX (I 38) (J 1) (F 160) (K 0) ∧ I 40 = J 5 ∧ SE (I 57) (I 58) (I 59) (J 7) (K 7) (K 8) ∧ BK P Jm (I 60) (J 8) (F 174) (F 175) (K 9) (K 10) ∧ PA P B Kp Jm I F (J 6) (K 6) ∧ IM P B Kp Jm I F (K 5) (K 4)
theorem InvP_chg {P B Kp Jm : Nat} {I I' : WI} {F F' : WF} {J J' : WI} {K K' : WF} (h : InvP P B Kp Jm I F J K) (eI : ∀ n, 2 ≤ n → ¬ n = 47 → I' n = I n) (eF : ∀ a, 8 ≤ a → F' a = F a) (eJ : ∀ n, ¬ n = 0 → J' n = J n) (eK : ∀ a, ¬ a = 3 → K' a = K a) (hse : I' 47 = K' 3 133 ∧ ¬ I' 47 < 0) (hN : InvN P B Kp Jm I' F' K') : InvP P B Kp Jm I' F' J' K' := by
  obtain ⟨hT, -, -, hX, hf, hSe, hB, hP, hM⟩ := h
  have hs := T_sz hT
  refine ⟨⟨⟨(eI 48 (by omega) (by omega)).trans hT.1.1, (eI 49 (by omega) (by omega)).trans hT.1.2.1, (eI 50 (by omega) (by omega)).trans hT.1.2.2.1, (eI 51 (by omega) (by omega)).trans hT.1.2.2.2⟩, ?_⟩, hN, hse, ?_, ?_, ?_, ?_, ?_, ?_⟩
  · rw [eF 161 (by omega), eF 162 (by omega), eF 163 (by omega), eF 164 (by omega), eF 165 (by omega), eF 166 (by omega), eF 167 (by omega), eF 168 (by omega), eK 2 (by omega)]; exact hT.2
  · rw [eI 38 (by omega) (by omega), eJ 1 (by omega), eF 160 (by omega), eK 0 (by omega)]; exact hX
  · rw [eI 40 (by omega) (by omega), eJ 5 (by omega)]; exact hf
  · rw [eI 57 (by omega) (by omega), eI 58 (by omega) (by omega), eI 59 (by omega) (by omega), eJ 7 (by omega), eK 7 (by omega), eK 8 (by omega)]; exact hSe
  · rw [eI 60 (by omega) (by omega), eJ 8 (by omega), eF 174 (by omega), eF 175 (by omega), eK 9 (by omega), eK 10 (by omega)]; exact hB
  · rw [eJ 6 (by omega), eK 6 (by omega)]
    exact PA_fr (I := I) (F := F) (fun n a b => eI n a (by omega)) (eI 61 (by omega) (by omega)) (eI 62 (by omega) (by omega)) (fun a b _ => eF a b) hs.2.2.1 hs.2.2.2 hP
  · rw [eK 5 (by omega), eK 4 (by omega)]
    exact IM_fr (I := I) (F := F) (fun n a b => eI n a (by omega)) (fun n a b => eI n (by omega) (by omega)) (fun a b _ => eF a b) hs.2.2.1 hs.2.2.2 hM
theorem jn_ite {α β : Type} (f : α → β) (c : Prop) [Decidable c] (a b : α) : (bnd f fun j => if c then j a else j b) = f (if c then a else b) := by
  rw [bnd_eq]
  split <;> rfl
theorem bz1 {α : Type} (e : Option α) : bzG (nI 1) e = e := rfl
theorem bz0 {α : Type} (e : Option α) : bzG (nI 0) e = e := rfl
def inc (m t : Nat) : Nat := if t < m then t + 1 else m
theorem inc_le {m t : Nat} : inc m t ≤ m := by
  rw [inc]; split <;> omega
theorem inc_c {m t : Nat} (h : t ≤ m) (hm : m < 2 ^ 30) : (if nI t + nI 1 < nI m then nI t + nI 1 else nI m) = nI (inc m t) := by
  rw [nI_add, inc]
  by_cases q : t + 1 < m
  · rw [if_pos (by rw [ltN (by omega) (by omega)]; omega), if_pos (by omega)]
  · rw [if_neg (by rw [ltN (by omega) (by omega)]; omega)]
    by_cases q2 : t < m
    · rw [if_pos q2, show t + 1 = m by omega]
    · rw [if_neg q2]
theorem inc_m {m t : Nat} (h : t ≤ m) (hm : m < 2 ^ 30) : nI t + (if nI m ≤ nI t then nI 0 else nI 1) = nI (inc m t) := by
  rw [inc]
  by_cases q : t < m
  · rw [if_neg (by rw [leN (by omega) (by omega)]; omega), if_pos q, nI_add]
  · rw [if_pos (by rw [leN (by omega) (by omega)]; omega), if_neg q, nI_add, show t + 0 = m by omega]
theorem dec_c {d : Nat} (h : d < 2 ^ 30) : (if nI 0 < nI d - nI 1 then nI d - nI 1 else nI 0) = nI (d - 1) := by
  rcases Nat.eq_zero_or_pos d with rfl | q
  · decide
  · rw [subN (by omega)]
    by_cases q2 : 0 < d - 1
    · rw [if_pos (by rw [ltN (by omega) (by omega)]; omega)]
    · rw [if_neg (by rw [ltN (by omega) (by omega)]; omega), show d - 1 = 0 by omega]
theorem dec_m {d : Nat} (h : d < 2 ^ 30) : nI d - (if nI d ≤ nI 0 then nI 0 else nI 1) = nI (d - 1) := by
  rcases Nat.eq_zero_or_pos d with rfl | q
  · decide
  · rw [if_neg (by rw [leN (by omega) (by omega)]; omega), subN (by omega)]
def dry (d : Nat) : Nat := if d ≤ 28 then d + 2 else 30
theorem dry_le {d : Nat} : dry d ≤ 30 := by
  rw [dry]; split <;> omega
theorem dry_c {d : Nat} (h : d < 2 ^ 30) : (if nI d + nI 2 < nI 30 then nI d + nI 2 else nI 30) = nI (dry d) := by
  rw [nI_add, dry]
  by_cases q : d + 2 < 30
  · rw [if_pos (by rw [ltN (by omega) (by omega)]; omega), if_pos (by omega)]
  · rw [if_neg (by rw [ltN (by omega) (by omega)]; omega)]
    by_cases q2 : d ≤ 28
    · rw [if_pos q2, show d + 2 = 30 by omega]
    · rw [if_neg q2]
theorem dry_m {d : Nat} (h : d < 2 ^ 30) : (if nI d ≤ nI 28 then nI (d + 2) else nI 30) = nI (dry d) := by
  rw [dry]
  by_cases q : d ≤ 28
  · rw [if_pos (by rw [leN (by omega) (by omega)]; omega), if_pos (by omega)]
  · rw [if_neg (by rw [leN (by omega) (by omega)]; omega), if_neg q]
theorem kc_any {I : WI} {Kp : Nat} (hK : I 50 = nI Kp) (hKp : Kp ≤ 9) (x : Int32) (G : WF) : f_X1_keeperAt_12 x I G = some (kOf (kAt (G 1) x Kp 0)) := keeperAt_c hK hKp x
theorem cm_01 (I : WI) (F : WF) (Kp j b : Nat) : cmF I F Kp j b = nI 0 ∨ cmF I F Kp j b = nI 1 := by
  unfold cmF cmv
  split
  · exact Or.inl rfl
  · split
    · exact Or.inl rfl
    · exact Or.inr rfl
/-- the bridge's other end -/
theorem beyond_both {P B Kp Jm : Nat} {I : WI} {F : WF} {K : WF} (hT : InvT P B Kp Jm I F K) {J : WI} {b x : Nat} (hb : b < B) (hx : x < P) : (∃ y, y < P ∧ f_X7_touches_13 (nI b) (nI x) I F = some (nI 1) ∧ f_X7_beyond_13 (nI b) (nI x) I F = some (nI y) ∧ f_X11_beyond (nI b) (nI x) J K = some (nI y) ∧ ((F 161 b = nI x ∧ F 162 b = nI y) ∨ (F 162 b = nI x ∧ F 161 b = nI y))) ∨ (f_X7_touches_13 (nI b) (nI x) I F = some (nI 0) ∧ f_X11_beyond (nI b) (nI x) J K = some (-1) ∧ ¬ F 161 b = nI x ∧ ¬ F 162 b = nI x) := by
  have hs := T_sz hT
  obtain ⟨⟨p, q, hp, hq, hpq, e1, e2⟩, -, -, e3, e4, -⟩ := hT.2.2.2.1 b hb
  rw [nf_f_X7_touches_13, nf_f_X7_beyond_13, nf_f_X11_beyond]
  by_cases h1 : p = x
  · subst h1
    left
    refine ⟨q, hq, ?_, ?_, ?_, Or.inl ⟨e1, e2⟩⟩ <;> simp (disch := omega) [ixN, nI_clamp, nI_add, e1, e2, e3, e4]
  · by_cases h2 : q = x
    · subst h2
      left
      refine ⟨p, hp, ?_, ?_, ?_, Or.inr ⟨e2, e1⟩⟩ <;> simp (disch := omega) [ixN, nI_clamp, nI_add, e1, e2, e3, e4, eqN, h1]
    · right
      refine ⟨?_, ?_, ?_, ?_⟩
      · simp (disch := omega) [ixN, nI_clamp, nI_add, e1, e2, e3, e4, eqN, h1, h2]
      · simp (disch := omega) [ixN, nI_clamp, nI_add, e1, e2, e3, e4, eqN, h1, h2]
      · rw [e1, eqN (by omega) (by omega)]; exact h1
      · rw [e2, eqN (by omega) (by omega)]; exact h2
