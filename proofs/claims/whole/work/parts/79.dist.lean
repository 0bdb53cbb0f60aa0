/-! pure layer: distances on both sides; what stays when the scratch rows change -/
def oN : Option Nat → Nat
  | none => 99
  | some k => k
theorem farsI_m {J : WI} {K : WF} {e : Nat} (he : e < 8) (x2 : Int32) (c : WF → Option WF) : ∀ m x n G, x + m = 8 → m < n → (∀ z, z < x → G z = nI (if z = e then 0 else 99)) → ∃ G', L_X11_fars_2 c (nI e) x2 J n (nI x) (uF K 11 G) = c (uF K 11 G') ∧ ∀ z, z < 8 → G' z = nI (if z = e then 0 else 99) := by
  intro m
  induction m with
  | zero =>
    intro x n G h1 h2 hG
    obtain ⟨n, rfl⟩ : ∃ z, n = z + 1 := ⟨n - 1, by omega⟩
    refine ⟨G, ?_, fun z hz => hG z (by omega)⟩
    rw [nf_L_X11_fars_2, if_pos (by rw [leN (by omega) (by omega)]; omega)]
  | succ m ih =>
    intro x n G h1 h2 hG
    obtain ⟨n, rfl⟩ : ∃ z, n = z + 1 := ⟨n - 1, by omega⟩
    have e1 : (if nI x = nI e then nI 0 else nI 99) = nI (if x = e then 0 else 99) := by
      by_cases q : x = e
      · rw [if_pos (by rw [q]), if_pos q]
      · rw [if_neg (by rw [eqN (by omega) (by omega)]; exact q), if_neg q]
    obtain ⟨G', a1, a2⟩ := ih (x + 1) n (upd G x (nI (if x = e then 0 else 99))) (by omega) (by omega) (fun z hz => by
      by_cases q : z = x
      · subst q; rw [upd_same]
      · rw [upd_ne q]; exact hG z (by omega))
    refine ⟨G', ?_, a2⟩
    rw [nf_L_X11_fars_2, if_neg (by rw [leN (by omega) (by omega)]; omega), jn_ite, ixN (by omega) (by omega), nI_clamp (by omega), bnd_eq, bnd_eq, uF_same, uF_uF, nI_add, e1]
    exact a1
theorem farsR_m {P B Kp Jm e : Nat} {I : WI} {F K : WF} {J : WI} (hT : InvT P B Kp Jm I F K) (set : Int32) {D : Nat → Option Nat} (hD : DI P B e (eaF F) (ebF F) (inS set) D) (c : WF → Option WF) : ∀ m t n G w, t + m = 8 → m < n → (∀ z, z < P → G z = nI (w z)) → so D w → pr D w t → ∃ G' w', L_X11_fars_33 c set J n (nI t) (uF K 11 G) = c (uF K 11 G') ∧ (∀ z, z < P → G' z = nI (w' z)) ∧ so D w' ∧ pr D w' 8 := by
  have hs := T_sz hT
  intro m
  induction m with
  | zero =>
    intro t n G w h1 h2 hG hw hp
    obtain ⟨n, rfl⟩ : ∃ z, n = z + 1 := ⟨n - 1, by omega⟩
    have : t = 8 := by omega
    subst this
    refine ⟨G, w, ?_, hG, hw, hp⟩
    rw [nf_L_X11_fars_33, if_pos (by rw [leN (by omega) (by omega)]; omega)]
  | succ m ih =>
    intro t n G w h1 h2 hG hw hp
    obtain ⟨n, rfl⟩ : ∃ z, n = z + 1 := ⟨n - 1, by omega⟩
    obtain ⟨G1, w1, a1, a2, a3, a4⟩ := relax_m (J := J) hT set (t := t) hD (fun F_1241 => bnd (nI t + (nI 1)) fun x3_1242 => L_X11_fars_33 c set J n x3_1242 F_1241) B 0 FU G w (by omega) (by rw [FU_big]; omega) hG hw hp (fun b' z y hb' => absurd hb' (by omega))
    obtain ⟨G2, w2, b1, b2, b3, b4⟩ := ih (t + 1) n G1 w1 (by omega) (by omega) a2 a3 a4
    refine ⟨G2, w2, ?_, b2, b3, b4⟩
    rw [nf_L_X11_fars_33, if_neg (by rw [leN (by omega) (by omega)]; omega), bnd_eq, a1, bnd_eq, nI_add]
    exact b1
theorem fars_m {P B Kp Jm e : Nat} {I : WI} {F K : WF} (J : WI) (hT : InvT P B Kp Jm I F K) (set : Int32) (he : e < P) {D : Nat → Option Nat} (hD : DI P B e (eaF F) (ebF F) (inS set) D) : ∃ G, f_X11_fars (nI e) set J K = some (uF K 11 G) ∧ ∀ z, z < P → G z = nI (oN (D z)) := by
  have hs := T_sz hT
  obtain ⟨G1, a1, a2⟩ := farsI_m (J := J) (K := K) (e := e) (by omega) set (fun F_1226 => bnd (nI 0) fun x3_1227 => L_X11_fars_33 (fun F_1243 => some F_1243) set J FU x3_1227 F_1226) 8 0 FU (K 11) (by omega) (by rw [FU_big]; omega) (fun z hz => absurd hz (by omega))
  obtain ⟨G2, w2, b1, b2, b3, b4⟩ := farsR_m (J := J) hT set hD (fun F_1243 => some F_1243) 8 0 FU G1 (fun z => if z = e then 0 else 99) (by omega) (by rw [FU_big]; omega) (fun z hz => a2 z (by omega)) (fun z => by
    by_cases q : z = e
    · simp only [if_pos q]; exact ⟨by omega, fun _ => ⟨0, by rw [q]; exact hD.1, Nat.le_refl _⟩⟩
    · simp only [if_neg q]; exact ⟨Nat.le_refl _, fun h => absurd h (by omega)⟩) (fun z k hz hk => by
    have : k = 0 := by omega
    subst this
    have := hD.2.1 z hz
    simp only [if_pos this]
    exact Nat.le_refl _)
  refine ⟨G2, ?_, fun z hz => ?_⟩
  · rw [uF_id] at a1
    rw [nf_f_X11_fars, bnd_eq, a1, bnd_eq]
    exact b1
  · rw [b2 z hz]
    congr 1
    obtain ⟨h1, h2⟩ := b3 z
    cases hDz : D z with
    | none =>
      show w2 z = 99
      by_cases q : w2 z < 99
      · obtain ⟨k, k1, -⟩ := h2 q
        rw [hDz] at k1
        exact absurd k1 (by simp)
      · omega
    | some k =>
      show w2 z = k
      have k8 := (hD.2.2.2.1 z k hDz).2
      have l1 := b4 z k hDz (by omega)
      obtain ⟨k', k1, k2⟩ := h2 (by omega)
      rw [hDz] at k1
      have := Option.some.inj k1
      omega
theorem InvT_fr {P B Kp Jm : Nat} {I I' : WI} {F F' K K' : WF} (hT : InvT P B Kp Jm I F K) (eI : ∀ n, 48 ≤ n → n ≤ 51 → I' n = I n) (eF : ∀ a, 161 ≤ a → a ≤ 168 → F' a = F a) (eK : K' 2 = K 2) : InvT P B Kp Jm I' F' K' := by
  refine ⟨⟨(eI 48 (by omega) (by omega)).trans hT.1.1, (eI 49 (by omega) (by omega)).trans hT.1.2.1, (eI 50 (by omega) (by omega)).trans hT.1.2.2.1, (eI 51 (by omega) (by omega)).trans hT.1.2.2.2⟩, ?_⟩
  rw [eF 161 (by omega) (by omega), eF 162 (by omega) (by omega), eF 163 (by omega) (by omega), eF 164 (by omega) (by omega), eF 165 (by omega) (by omega), eF 166 (by omega) (by omega), eF 167 (by omega) (by omega), eF 168 (by omega) (by omega), eK]
  exact hT.2
theorem InvT_sc {P B Kp Jm : Nat} {I : WI} {F K : WF} (hT : InvT P B Kp Jm I F K) (g G : Nat → Int32) : InvT P B Kp Jm I (uF F 169 g) (uF K 11 G) := InvT_fr hT (fun _ _ _ => rfl) (fun a h1 h2 => uF_ne _ _ (by omega)) (uF_ne _ _ (by omega))
theorem eaF_sc (F : WF) (g : Nat → Int32) : eaF (uF F 169 g) = eaF F := by
  funext b
  unfold eaF
  rw [uF_ne _ _ (by omega)]
theorem ebF_sc (F : WF) (g : Nat → Int32) : ebF (uF F 169 g) = ebF F := by
  funext b
  unfold ebF
  rw [uF_ne _ _ (by omega)]
theorem dist {P B Kp Jm e : Nat} {I : WI} {F K : WF} (J : WI) (hT : InvT P B Kp Jm I F K) (set : Int32) (he : e < P) (g0 G0 : Nat → Int32) : ∃ g G D, f_X9_measure_31 (nI e) set I (uF F 169 g0) = some (uF F 169 g) ∧ f_X11_fars (nI e) set J (uF K 11 G0) = some (uF K 11 G) ∧ (∀ z, z < P → g z = oE (D z)) ∧ (∀ z, z < P → G z = nI (oN (D z))) ∧ DI P B e (eaF F) (ebF F) (inS set) D := by
  have hT2 := InvT_sc hT g0 G0
  obtain ⟨g, D, a1, a2, a3⟩ := measure_c hT2 set he
  obtain ⟨G, b1, b2⟩ := fars_m J hT2 set he a3
  rw [eaF_sc, ebF_sc] at a3
  rw [uF_uF] at a1 b1
  exact ⟨g, G, D, a1, b1, a2, b2, a3⟩
theorem dist0 {P B Kp Jm e : Nat} {I : WI} {F K : WF} (J : WI) (hT : InvT P B Kp Jm I F K) (set : Int32) (he : e < P) : ∃ g G D, f_X9_measure_31 (nI e) set I F = some (uF F 169 g) ∧ f_X11_fars (nI e) set J K = some (uF K 11 G) ∧ (∀ z, z < P → g z = oE (D z)) ∧ (∀ z, z < P → G z = nI (oN (D z))) ∧ DI P B e (eaF F) (ebF F) (inS set) D := by
  obtain ⟨g, G, D, h⟩ := dist J hT set he (F 169) (K 11)
  rw [uF_id, uF_id] at h
  exact ⟨g, G, D, h⟩
/-- the class's fewest, the model's isWay, by who can be reached -/
theorem fewest_c {P B Kp Jm x e : Nat} {I : WI} {F K : WF} (hT : InvT P B Kp Jm I F K) (set : Int32) (hx : x < P) (he : e < P) (g0 : Nat → Int32) : ∃ g r, f_X9_fewest_31 (nI x) (nI e) set I (uF F 169 g0) = some (r, uF F 169 g) ∧ (r = -1 ↔ ¬ Rc B (eaF F) (ebF F) (inS set) x e) := by
  have hs := T_sz hT
  obtain ⟨g, G, D, a1, -, a3, -, a5⟩ := dist (fun _ => 0) hT set he g0 (K 11)
  refine ⟨g, g x, ?_, ?_⟩
  · rw [nf_f_X9_fewest_31, a1, ob_some, ixN (by omega) (by omega), nI_clamp (by omega), uF_same]
  · rw [a3 x hx, oE_m1 (fun k hk => by have := (a5.2.2.2.1 x k hk).2; omega)]
    have h := DI_Rc a5 x
    constructor
    · intro q r
      obtain ⟨k, hk⟩ := h.mpr (Rc_sym r)
      rw [q] at hk
      exact absurd hk (by simp)
    · intro r
      cases hDx : D x with
      | none => rfl
      | some k => exact absurd (Rc_sym (h.mp ⟨k, hDx⟩)) r
theorem isWay_m {P B Kp Jm x y : Nat} {I : WI} {F K : WF} (J : WI) (hT : InvT P B Kp Jm I F K) (set : Int32) (hx : x < P) (hy : y < P) (G0 : Nat → Int32) : ∃ G r, f_X11_isWay (nI x) (nI y) set J (uF K 11 G0) = some (r, uF K 11 G) ∧ ((r = nI 0 ∧ ¬ Rc B (eaF F) (ebF F) (inS set) x y) ∨ (r = nI 1 ∧ Rc B (eaF F) (ebF F) (inS set) x y)) := by
  have hs := T_sz hT
  obtain ⟨g, G, D, -, a2, -, a4, a5⟩ := dist J hT set hx (F 169) G0
  have h := DI_Rc a5 y
  rw [nf_f_X11_isWay, a2, ob_some, ixN (by omega) (by omega), nI_clamp (by omega), uF_same, a4 y hy]
  cases hDy : D y with
  | none =>
    refine ⟨G, nI 0, ?_, Or.inl ⟨rfl, fun r => ?_⟩⟩
    · rw [if_pos (show nI 99 ≤ nI (oN none) by decide)]
    · obtain ⟨k, hk⟩ := h.mpr r
      rw [hDy] at hk
      exact absurd hk (by simp)
  | some k =>
    have hk := (a5.2.2.2.1 y k hDy).2
    refine ⟨G, nI 1, ?_, Or.inr ⟨rfl, h.mp ⟨k, hDy⟩⟩⟩
    rw [if_neg (show ¬ nI 99 ≤ nI (oN (some k)) by rw [oN, leN (by omega) (by omega)]; omega)]
theorem InvP_scr {P B Kp Jm : Nat} {I I' : WI} {F F' : WF} {J J' : WI} {K K' : WF} (h : InvP P B Kp Jm I F J K) (eI : ∀ n, ¬ (52 ≤ n ∧ n ≤ 56) → I' n = I n) (eF : ∀ a, ¬ (169 ≤ a ∧ a ≤ 173) → F' a = F a) (eJ : ∀ n, ¬ n = 0 → J' n = J n) (eK : ∀ a, ¬ (11 ≤ a ∧ a ≤ 15) → K' a = K a) : InvP P B Kp Jm I' F' J' K' := by
  obtain ⟨hT, hN, hse, hX, hf, hSe, hB, hP, hM⟩ := h
  have hs := T_sz hT
  refine ⟨InvT_fr hT (fun n _ _ => eI n (by omega)) (fun a _ _ => eF a (by omega)) (eK 2 (by omega)), ?_, ?_, ?_, ?_, ?_, ?_, ?_, ?_⟩
  · unfold InvN at hN ⊢
    rw [eI 0 (by omega), eI 1 (by omega), eF 0 (by omega), eF 1 (by omega), eF 2 (by omega), eF 3 (by omega), eF 4 (by omega), eF 5 (by omega), eF 6 (by omega), eF 7 (by omega), eK 3 (by omega)]
    exact hN
  · rw [eI 47 (by omega), eK 3 (by omega)]; exact hse
  · rw [eI 38 (by omega), eJ 1 (by omega), eF 160 (by omega), eK 0 (by omega)]; exact hX
  · rw [eI 40 (by omega), eJ 5 (by omega)]; exact hf
  · rw [eI 57 (by omega), eI 58 (by omega), eI 59 (by omega), eJ 7 (by omega), eK 7 (by omega), eK 8 (by omega)]; exact hSe
  · rw [eI 60 (by omega), eJ 8 (by omega), eF 174 (by omega), eF 175 (by omega), eK 9 (by omega), eK 10 (by omega)]; exact hB
  · rw [eJ 6 (by omega), eK 6 (by omega)]
    exact PA_fr (I := I) (F := F) (fun n a b => eI n (by omega)) (eI 61 (by omega)) (eI 62 (by omega)) (fun a b _ => eF a (by omega)) hs.2.2.1 hs.2.2.2 hP
  · rw [eK 5 (by omega), eK 4 (by omega)]
    exact IM_fr (I := I) (F := F) (fun n a b => eI n (by omega)) (fun n a b => eI n (by omega)) (fun a b _ => eF a (by omega)) hs.2.2.1 hs.2.2.2 hM
theorem InvP_sc {P B Kp Jm : Nat} {I : WI} {F : WF} {J : WI} {K : WF} (h : InvP P B Kp Jm I F J K) (g G : Nat → Int32) (x : Int32) : InvP P B Kp Jm I (uF F 169 g) (upd J 0 x) (uF K 11 G) := InvP_scr h (fun _ _ => rfl) (fun a ha => uF_ne _ _ (by omega)) (fun n hn => upd_ne hn) (fun a ha => uF_ne _ _ (by omega))
