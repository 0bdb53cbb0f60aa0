/-! pure layer: measure, fars -/
def inS (set : Int32) (b : Nat) : Prop := ((set >>> (nI b &&& nI 31)) &&& nI 1) = nI 1
def eaF (F : WF) (b : Nat) : Nat := (F 161 b).toNatClampNeg
def ebF (F : WF) (b : Nat) : Nat := (F 162 b).toNatClampNeg
theorem ends_F {P B Kp Jm : Nat} {I : WI} {F : WF} {K : WF} (hT : InvT P B Kp Jm I F K) {b : Nat} (hb : b < B) : F 161 b = nI (eaF F b) ∧ F 162 b = nI (ebF F b) ∧ eaF F b < P ∧ ebF F b < P ∧ K 2 (4 + b) = nI (eaF F b) ∧ K 2 (13 + b) = nI (ebF F b) ∧ eaF F b ≠ ebF F b := by
  have hs := T_sz hT
  obtain ⟨⟨p, q, hp, hq, hpq, e1, e2⟩, -, -, e3, e4, -⟩ := hT.2.2.2.1 b hb
  have a : eaF F b = p := by rw [eaF, e1, nI_clamp (by omega)]
  have c : ebF F b = q := by rw [ebF, e2, nI_clamp (by omega)]
  rw [a, c, e3, e4]
  exact ⟨e1, e2, hp, hq, e1, e2, hpq⟩
theorem isIn_yes {set : Int32} {b : Nat} (h : inS set b) : f_X9_isIn (nI b) set = some (nI 1) := by rw [nf_f_X9_isIn]; exact if_pos h
theorem isIn_no {set : Int32} {b : Nat} (h : ¬ inS set b) : f_X9_isIn (nI b) set = some (nI 0) := by rw [nf_f_X9_isIn]; exact if_neg h
theorem has_yes {set : Int32} {b : Nat} (h : inS set b) : f_X11_has set (nI b) = some (nI 1) := by rw [nf_f_X11_has]; exact if_pos h
theorem has_no {set : Int32} {b : Nat} (h : ¬ inS set b) : f_X11_has set (nI b) = some (nI 0) := by rw [nf_f_X11_has]; exact if_neg h
theorem oE_eq {o : Option Nat} {r : Nat} (hr : r < 2 ^ 31) (ho : ∀ k, o = some k → k < 2 ^ 31) : (oE o = nI r) ↔ o = some r := by
  cases o with
  | none =>
    constructor
    · intro h; exact absurd h.symm (m1N hr)
    · intro h; exact absurd h (by simp)
  | some k =>
    have hk := ho k rfl
    constructor
    · intro h
      have : nI k = nI r := h
      rw [eqN hk hr] at this
      rw [this]
    · intro h; rw [h]; rfl
theorem oE_m1 {o : Option Nat} (ho : ∀ k, o = some k → k < 2 ^ 31) : (oE o = -1) ↔ o = none := by
  cases o with
  | none => exact ⟨fun _ => rfl, fun _ => rfl⟩
  | some k =>
    constructor
    · intro h; exact absurd h (m1N (ho k rfl))
    · intro h; exact absurd h (by simp)
theorem spread_c {P x y r : Nat} {I : WI} {F : WF} {g : Nat → Int32} {D : Nat → Option Nat} (hP : P ≤ 8) (hx : x < P) (hy : y < P) (hr : r < 100) (hg : ∀ z, z < P → g z = oE (D z)) (hD : ∀ z k, D z = some k → k ≤ r + 1) : ∃ g', f_X9_spread_31 (nI x) (nI y) (nI r) I (uF F 169 g) = some (uF F 169 g') ∧ ∀ z, z < P → g' z = oE (sp D x y r z) := by
  rw [nf_f_X9_spread_31, ixN (by omega) (by omega), ixN (by omega) (by omega), ixN (by omega) (by omega), nI_clamp (by omega), nI_clamp (by omega), uF_same, bnd_eq, uF_uF, hg x hx, hg y hy, nI_add]
  have o1 := oE_eq (o := D x) (r := r) (by omega) (fun k hk => by have := hD x k hk; omega)
  have o2 := oE_m1 (o := D y) (fun k hk => by have := hD y k hk; omega)
  unfold sp
  by_cases q1 : D x = some r
  · rw [if_pos (o1.mpr q1)]
    by_cases q2 : D y = none
    · rw [if_pos (o2.mpr q2), if_pos ⟨q1, q2⟩]
      refine ⟨_, rfl, fun z hz => ?_⟩
      by_cases e : z = y
      · subst e; rw [upd_same, uD_same]; rfl
      · rw [upd_ne e, uD_ne _ _ e, hg z hz]
    · rw [if_neg (fun h => q2 (o2.mp h)), if_neg (fun h => q2 h.2)]
      exact ⟨g, rfl, hg⟩
  · rw [if_neg (fun h => q1 (o1.mp h)), if_neg (fun h => q1 h.1)]
    exact ⟨g, rfl, hg⟩
theorem round_c {P B Kp Jm e r : Nat} {I : WI} {F K : WF} (hT : InvT P B Kp Jm I F K) (set : Int32) (hr : r < 100) (c : WF → Option WF) : ∀ m b n g D, b + m = B → m < n → (∀ z, z < P → g z = oE (D z)) → BR P B e (eaF F) (ebF F) (inS set) D r b → ∃ g' D', L_X9_measure_31_49 c set (nI r) I n (nI b) (uF F 169 g) = c (uF F 169 g') ∧ (∀ z, z < P → g' z = oE (D' z)) ∧ BF P B e (eaF F) (ebF F) (inS set) D' (r + 1) := by
  have hs := T_sz hT
  intro m
  induction m with
  | zero =>
    intro b n g D h1 h2 hg hD
    obtain ⟨n, rfl⟩ : ∃ z, n = z + 1 := ⟨n - 1, by omega⟩
    have : b = B := by omega
    subst this
    refine ⟨g, D, ?_, hg, BR_BF hD⟩
    rw [nf_L_X9_measure_31_49, hT.1.2.1, if_pos (by rw [leN (by omega) (by omega)]; omega)]
  | succ m ih =>
    intro b n g D h1 h2 hg hD
    obtain ⟨n, rfl⟩ : ∃ z, n = z + 1 := ⟨n - 1, by omega⟩
    obtain ⟨e1, e2, l1, l2, -⟩ := ends_F hT (b := b) (by omega)
    rw [nf_L_X9_measure_31_49, hT.1.2.1, if_neg (by rw [leN (by omega) (by omega)]; omega)]
    by_cases hS : inS set b
    · obtain ⟨g1, a1, a2⟩ := spread_c (I := I) (F := F) hs.1 l1 l2 hr hg (fun z k hz => (hD.2.2.2.1 z k hz).2)
      have hD1 := (BR_sp hD (b0 := b) (by omega) hS (Or.inl ⟨rfl, rfl⟩) l2).1
      obtain ⟨g2, b1, b2⟩ := spread_c (I := I) (F := F) hs.1 l2 l1 hr a2 (fun z k hz => (hD1.2.2.2.1 z k hz).2)
      obtain ⟨g3, D3, c1, c2, c3⟩ := ih (b + 1) n g2 _ (by omega) (by omega) b2 (BR_step hD (by omega) hS l1 l2)
      refine ⟨g3, D3, ?_, c2, c3⟩
      rw [isIn_yes hS, ob_some]
      simp (disch := omega) only [bnd_eq, if_neg (show ¬ nI 1 = nI 0 by decide), ixN, nI_clamp, uF_ne, e1, e2, a1, ob_some, b1, nI_add]
      exact c1
    · obtain ⟨g3, D3, c1, c2, c3⟩ := ih (b + 1) n g D (by omega) (by omega) hg (BR_skip hD hS)
      refine ⟨g3, D3, ?_, c2, c3⟩
      rw [isIn_no hS, ob_some]
      simp only [bnd_eq, if_true, nI_add]
      exact c1
theorem rounds_c {P B Kp Jm e : Nat} {I : WI} {F K : WF} (hT : InvT P B Kp Jm I F K) (set : Int32) (c : WF → Option WF) : ∀ m r n g D, r + m = P → m < n → (∀ z, z < P → g z = oE (D z)) → BF P B e (eaF F) (ebF F) (inS set) D r → ∃ g' D', L_X9_measure_31_35 c set I n (nI r) (uF F 169 g) = c (uF F 169 g') ∧ (∀ z, z < P → g' z = oE (D' z)) ∧ BF P B e (eaF F) (ebF F) (inS set) D' P := by
  have hs := T_sz hT
  intro m
  induction m with
  | zero =>
    intro r n g D h1 h2 hg hD
    obtain ⟨n, rfl⟩ : ∃ z, n = z + 1 := ⟨n - 1, by omega⟩
    have : r = P := by omega
    subst this
    refine ⟨g, D, ?_, hg, hD⟩
    rw [nf_L_X9_measure_31_35, hT.1.1, if_pos (by rw [leN (by omega) (by omega)]; omega)]
  | succ m ih =>
    intro r n g D h1 h2 hg hD
    obtain ⟨n, rfl⟩ : ∃ z, n = z + 1 := ⟨n - 1, by omega⟩
    obtain ⟨g1, D1, a1, a2, a3⟩ := round_c hT set (r := r) (by omega) (fun F_187 => bnd (nI r + (nI 1)) fun x3_188 => L_X9_measure_31_35 c set I n x3_188 F_187) B 0 FU g D (by omega) (by rw [FU_big]; omega) hg (BF_BR hD)
    obtain ⟨g2, D2, b1, b2, b3⟩ := ih (r + 1) n g1 D1 (by omega) (by omega) a2 a3
    refine ⟨g2, D2, ?_, b2, b3⟩
    rw [nf_L_X9_measure_31_35, hT.1.1, if_neg (by rw [leN (by omega) (by omega)]; omega), bnd_eq, a1, bnd_eq, nI_add]
    exact b1
theorem init_c {P B Kp Jm : Nat} {I : WI} {F K : WF} (hT : InvT P B Kp Jm I F K) (x1 x2 : Int32) (c : WF → Option WF) : ∀ m x n g, x + m = P → m < n → (∀ z, z < x → g z = -1) → ∃ g', L_X9_measure_31_2 c x1 x2 I n (nI x) (uF F 169 g) = c (uF F 169 g') ∧ (∀ z, z < P → g' z = -1) := by
  have hs := T_sz hT
  intro m
  induction m with
  | zero =>
    intro x n g h1 h2 hg
    obtain ⟨n, rfl⟩ : ∃ z, n = z + 1 := ⟨n - 1, by omega⟩
    refine ⟨g, ?_, fun z hz => hg z (by omega)⟩
    rw [nf_L_X9_measure_31_2, hT.1.1, if_pos (by rw [leN (by omega) (by omega)]; omega)]
  | succ m ih =>
    intro x n g h1 h2 hg
    obtain ⟨n, rfl⟩ : ∃ z, n = z + 1 := ⟨n - 1, by omega⟩
    obtain ⟨g', a1, a2⟩ := ih (x + 1) n (upd g x (-1)) (by omega) (by omega) (fun z hz => by
      by_cases q : z = x
      · subst q; rw [upd_same]
      · rw [upd_ne q]; exact hg z (by omega))
    refine ⟨g', ?_, a2⟩
    rw [nf_L_X9_measure_31_2, hT.1.1, if_neg (by rw [leN (by omega) (by omega)]; omega), ixN (by omega) (by omega), nI_clamp (by omega), bnd_eq, bnd_eq, uF_same, uF_uF, nI_add]
    exact a1
theorem measure_c {P B Kp Jm e : Nat} {I : WI} {F K : WF} (hT : InvT P B Kp Jm I F K) (set : Int32) (he : e < P) : ∃ g D, f_X9_measure_31 (nI e) set I F = some (uF F 169 g) ∧ (∀ z, z < P → g z = oE (D z)) ∧ DI P B e (eaF F) (ebF F) (inS set) D := by
  have hs := T_sz hT
  obtain ⟨g1, a1, a2⟩ := init_c hT (nI e) set (fun F_176 => ixG (nI e) 8 (bnd (uF F_176 169 (upd (F_176 169) (nI e).toNatClampNeg (nI 0))) fun F_177 => bnd (nI 0) fun x3_178 => L_X9_measure_31_35 (fun F_189 => some F_189) set I FU x3_178 F_177)) P 0 FU (F 169) (by omega) (by rw [FU_big]; omega) (fun z hz => absurd hz (by omega))
  rw [uF_id] at a1
  obtain ⟨g2, D2, b1, b2, b3⟩ := rounds_c (e := e) hT set (fun F_189 => some F_189) P 0 FU (upd g1 e (nI 0)) (uD (fun _ => none) e (some 0)) (by omega) (by rw [FU_big]; omega) (fun z hz => by
    by_cases q : z = e
    · subst q; rw [upd_same, uD_same]; rfl
    · rw [upd_ne q, uD_ne _ _ q]; exact a2 z hz) (BF_0 he)
  refine ⟨g2, D2, ?_, b2, BF_DI b3⟩
  rw [nf_f_X9_measure_31, bnd_eq, a1, ixN (by omega) (by omega), nI_clamp (by omega), bnd_eq, bnd_eq, uF_same, uF_uF]
  exact b1
