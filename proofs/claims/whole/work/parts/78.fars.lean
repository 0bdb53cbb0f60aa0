/-! pure layer: fars -/
def mn (a b : Nat) : Nat := if a ≤ b then a else b
theorem mn_l {a b : Nat} : mn a b ≤ a := by rw [mn]; split <;> omega
theorem mn_r {a b : Nat} : mn a b ≤ b := by rw [mn]; split <;> omega
theorem mn_or {a b : Nat} : mn a b = a ∨ (mn a b = b ∧ b < a) := by rw [mn]; split <;> omega
def uN (w : Nat → Nat) (y v : Nat) : Nat → Nat := fun t => if t = y then v else w t
theorem uN_same (w : Nat → Nat) (y v : Nat) : uN w y v y = v := by rw [uN, if_pos rfl]
theorem uN_ne (w : Nat → Nat) {t y : Nat} (v : Nat) (h : t ≠ y) : uN w y v t = w t := by rw [uN, if_neg h]
def so (D : Nat → Option Nat) (w : Nat → Nat) : Prop := ∀ z, w z ≤ 99 ∧ (w z < 99 → ∃ k, D z = some k ∧ k ≤ w z)
theorem so_rl {ea eb : Nat → Nat} {D : Nat → Option Nat} {w : Nat → Nat} {b x y : Nat} (hw : so D w) (hc : ∀ k, co ea eb D b k) (hj : jo ea eb b y x) : so D (uN w x (mn (w x) (w y + 1))) := by
  intro z
  by_cases q : z = x
  · subst q
    rw [uN_same]
    rcases mn_or (a := w z) (b := w y + 1) with h | ⟨h, h2⟩
    · rw [h]; exact hw z
    · rw [h]
      have h99 := (hw z).1
      refine ⟨by omega, fun _ => ?_⟩
      obtain ⟨k, k1, k2⟩ := (hw y).2 (by omega)
      obtain ⟨m, m1, m2⟩ := hc k y z hj k1
      exact ⟨m, m2, by omega⟩
  · rw [uN_ne _ _ q]; exact hw z
theorem uN_le {w : Nat → Nat} {x v : Nat} (h : v ≤ w x) (z : Nat) : uN w x v z ≤ w z := by
  by_cases q : z = x
  · subst q; rw [uN_same]; exact h
  · rw [uN_ne _ _ q]; exact Nat.le_refl _
def pr (D : Nat → Option Nat) (w : Nat → Nat) (t : Nat) : Prop := ∀ z k, D z = some k → k ≤ t → w z ≤ k
theorem pr_le {D : Nat → Option Nat} {w w' : Nat → Nat} {t : Nat} (h : pr D w t) (hl : ∀ z, w' z ≤ w z) : pr D w' t := fun z k a b => Nat.le_trans (hl z) (h z k a b)
/-- one bridge relaxed -/
def rx (w : Nat → Nat) (a c : Nat) : Nat → Nat := uN (uN w a (mn (w a) (w c + 1))) c (mn (uN w a (mn (w a) (w c + 1)) c) (uN w a (mn (w a) (w c + 1)) a + 1))
theorem rx_le (w : Nat → Nat) (a c z : Nat) : rx w a c z ≤ w z := Nat.le_trans (uN_le mn_l z) (uN_le mn_l z)
theorem rx_a (w : Nat → Nat) {a c : Nat} (h : a ≠ c) : rx w a c a ≤ w c + 1 := by
  unfold rx
  rw [uN_ne _ _ h, uN_same]; exact mn_r
theorem rx_c (w : Nat → Nat) (a c : Nat) : rx w a c c ≤ w a + 1 := by
  unfold rx
  rw [uN_same, uN_same]
  exact Nat.le_trans mn_r (by have := @mn_l (w a) (w c + 1); omega)
theorem far_c {K : WF} {G : Nat → Int32} {w : Nat → Nat} {P : Nat} (hP : P ≤ 8) {x : Nat} (hx : x < P) (hG : ∀ z, z < P → G z = nI (w z)) : uF K 11 G 11 x = nI (w x) := by rw [uF_same]; exact hG x hx
theorem relax_m {P B Kp Jm e t : Nat} {I : WI} {F K : WF} {J : WI} (hT : InvT P B Kp Jm I F K) (set : Int32) {D : Nat → Option Nat} (hD : DI P B e (eaF F) (ebF F) (inS set) D) (c : WF → Option WF) : ∀ m b n G w, b + m = B → m < n → (∀ z, z < P → G z = nI (w z)) → so D w → pr D w t → (∀ b' z y, b' < b → inS set b' → jo (eaF F) (ebF F) b' z y → D y = some t → w z ≤ t + 1) → ∃ G' w', L_X11_fars_42 c set (nI t) J n (nI b) (uF K 11 G) = c (uF K 11 G') ∧ (∀ z, z < P → G' z = nI (w' z)) ∧ so D w' ∧ pr D w' (t + 1) := by
  have hs := T_sz hT
  intro m
  induction m with
  | zero =>
    intro b n G w h1 h2 hG hw hp hd
    obtain ⟨n, rfl⟩ : ∃ z, n = z + 1 := ⟨n - 1, by omega⟩
    have : b = B := by omega
    subst this
    refine ⟨G, w, ?_, hG, hw, fun z k hz hk => ?_⟩
    · rw [nf_L_X11_fars_42, uF_ne _ _ (by omega), hT.2.2.1.2.1, if_pos (by rw [leN (by omega) (by omega)]; omega)]
    · by_cases q : k ≤ t
      · exact hp z k hz q
      · have : k = t + 1 := by omega
        subst this
        obtain ⟨b', y, g1, g2, g3, g4⟩ := hD.2.2.1 z t hz
        exact hd b' z y g1 g2 g3 g4
  | succ m ih =>
    intro b n G w h1 h2 hG hw hp hd
    obtain ⟨n, rfl⟩ : ∃ z, n = z + 1 := ⟨n - 1, by omega⟩
    obtain ⟨-, -, l1, l2, e1, e2, hne⟩ := ends_F hT (b := b) (by omega)
    rw [nf_L_X11_fars_42, uF_ne _ _ (by omega), hT.2.2.1.2.1, if_neg (by rw [leN (by omega) (by omega)]; omega)]
    by_cases hS : inS set b
    · have hc := fun k => hD.2.2.2.2 b k (by omega) hS
      have w1 := so_rl (b := b) hw hc (x := eaF F b) (y := ebF F b) (Or.inr ⟨rfl, rfl⟩)
      have w2 := so_rl (b := b) w1 hc (x := ebF F b) (y := eaF F b) (Or.inl ⟨rfl, rfl⟩)
      have g1 : ∀ z, z < P → upd G (eaF F b) (nI (mn (w (eaF F b)) (w (ebF F b) + 1))) z = nI (uN w (eaF F b) (mn (w (eaF F b)) (w (ebF F b) + 1)) z) := fun z hz => by
        by_cases q : z = eaF F b
        · subst q; rw [upd_same, uN_same]
        · rw [upd_ne q, uN_ne _ _ q]; exact hG z hz
      have g2 : ∀ z, z < P → upd (upd G (eaF F b) (nI (mn (w (eaF F b)) (w (ebF F b) + 1)))) (ebF F b) (nI (rx w (eaF F b) (ebF F b) (ebF F b))) z = nI (rx w (eaF F b) (ebF F b) z) := fun z hz => by
        by_cases q : z = ebF F b
        · subst q; rw [upd_same]
        · rw [upd_ne q, rx, uN_ne _ _ q]; exact g1 z hz
      obtain ⟨G', w', a1, a2, a3, a4⟩ := ih (b + 1) n _ _ (by omega) (by omega) g2 w2 (pr_le hp (fun z => rx_le w _ _ z)) (fun b' z y hb' hS' hj hy => by
        by_cases q : b' = b
        · subst q
          have hy' := hp y t hy (Nat.le_refl _)
          rcases hj with ⟨rfl, rfl⟩ | ⟨rfl, rfl⟩
          · exact Nat.le_trans (rx_a w hne) (by omega)
          · exact Nat.le_trans (rx_c w _ _) (by omega)
        · exact Nat.le_trans (rx_le w _ _ z) (hd b' z y (by omega) hS' hj hy))
      refine ⟨G', w', ?_, a2, a3, a4⟩
      rw [has_yes hS, ob_some]
      have wa := (hw (eaF F b)).1
      have wc := (hw (ebF F b)).1
      have hne' : ebF F b ≠ eaF F b := fun e => hne e.symm
      have r : rx w (eaF F b) (ebF F b) (ebF F b) = mn (w (ebF F b)) (mn (w (eaF F b)) (w (ebF F b) + 1) + 1) := by
        unfold rx
        rw [uN_same, uN_same, uN_ne _ _ hne']
      simp (disch := omega) only [if_neg (show ¬ nI 1 = nI 0 by decide), nI_add, ixN, nI_clamp, uF_ne, e1, e2]
      simp (disch := omega) only [bnd_eq, ixN, nI_clamp, uF_same, uF_uF, hG _ l1, hG _ l2, nI_add, upd_same, upd_ne hne']
      rw [← a1, r]
      simp (disch := omega) only [leN, mn]
      by_cases q1 : w (eaF F b) ≤ w (ebF F b) + 1
      · simp only [if_pos q1]
        by_cases q2 : w (ebF F b) ≤ w (eaF F b) + 1
        · simp only [if_pos q2]
        · simp only [if_neg q2]
      · simp only [if_neg q1]
        by_cases q2 : w (ebF F b) ≤ w (ebF F b) + 1 + 1
        · simp only [if_pos q2]
        · simp only [if_neg q2]
    · obtain ⟨G', w', a1, a2, a3, a4⟩ := ih (b + 1) n G w (by omega) (by omega) hG hw hp (fun b' z y hb' hS' hj hy => by
        by_cases q : b' = b
        · subst q; exact absurd hS' hS
        · exact hd b' z y (by omega) hS' hj hy)
      refine ⟨G', w', ?_, a2, a3, a4⟩
      rw [has_no hS, ob_some]
      simp only [bnd_eq, if_true, nI_add]
      exact a1
