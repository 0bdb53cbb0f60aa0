/-! pure layer: what told asks -/
def cnt (p : Nat → Bool) : Nat → Nat
  | 0 => 0
  | n + 1 => cnt p n + (if p n then 1 else 0)
theorem cnt_congr {p q : Nat → Bool} : ∀ n, (∀ b, b < n → p b = q b) → cnt p n = cnt q n := by
  intro n
  induction n with
  | zero => intro _; rfl
  | succ n ih => intro h; rw [cnt, cnt, ih (fun b hb => h b (by omega)), h n (by omega)]
theorem cnt_one {p q : Nat → Bool} {b0 : Nat} (h1 : p b0 = false) (h2 : q b0 = true) : ∀ n, b0 < n → (∀ b, b < n → b ≠ b0 → q b = p b) → cnt q n = cnt p n + 1 := by
  intro n
  induction n with
  | zero => intro h; omega
  | succ n ih =>
    intro h h3
    rw [cnt, cnt]
    by_cases e : b0 = n
    · subst e
      rw [h1, h2, cnt_congr b0 (fun b hb => h3 b (by omega) (by omega))]
      simp
    · rw [ih (by omega) (fun b hb hn => h3 b (by omega) hn), h3 n (by omega) (fun q => e q.symm)]
      omega
theorem cnt_le (p : Nat → Bool) : ∀ n, cnt p n ≤ n := by
  intro n
  induction n with
  | zero => exact Nat.le_refl _
  | succ n ih => rw [cnt]; split <;> omega
theorem cnt_no {p : Nat → Bool} : ∀ n, (∀ b, b < n → p b = false) → cnt p n = 0 := by
  intro n
  induction n with
  | zero => intro _; rfl
  | succ n ih => intro h; rw [cnt, ih (fun b hb => h b (by omega)), h n (by omega)]; rfl
theorem orZ (x : Int32) : x ||| nI 0 = x := or0 x
theorem m1sub (m : Nat) : nI m + (-1 : Int32) = nI m - nI 1 := by
  rw [Int32.sub_eq_add_neg]; rfl
section Told
variable {P B Kp Jm : Nat} {I : WI} {F K : WF} {J : WI}
theorem kept_c (hT : InvT P B Kp Jm I F K) (kc : Int32 → Option Int32) : ∀ m k n, k + m = Kp → m < n → L_X1_keptBridges_12_4 kc I F n (nI (cnt (fun k => !decide (F 1 k = -1)) k)) (nI k) = kc (nI (cnt (fun k => !decide (F 1 k = -1)) Kp)) := by
  have hs := T_sz hT
  intro m
  induction m with
  | zero =>
    intro k n h1 h2
    obtain ⟨n, rfl⟩ : ∃ z, n = z + 1 := ⟨n - 1, by omega⟩
    have : k = Kp := by omega
    subst this
    rw [nf_L_X1_keptBridges_12_4, hT.1.2.2.1, if_pos (by rw [leN (by omega) (by omega)]; omega)]
  | succ m ih =>
    intro k n h1 h2
    obtain ⟨n, rfl⟩ : ∃ z, n = z + 1 := ⟨n - 1, by omega⟩
    have ih' := ih (k + 1) n (by omega) (by omega)
    rw [nf_L_X1_keptBridges_12_4, hT.1.2.2.1, if_neg (by rw [leN (by omega) (by omega)]; omega), ixN (by omega) (by omega), nI_clamp (by omega)]
    simp only [bnd_eq, nI_add]
    by_cases q : F 1 k = -1
    · rw [if_pos q]
      rw [cnt] at ih'
      simp only [q, decide_true, Bool.not_true, Bool.false_eq_true, if_false, Nat.add_zero] at ih'
      exact ih'
    · rw [if_neg q]
      rw [cnt] at ih'
      simp only [q, decide_false, Bool.not_false, if_true] at ih'
      exact ih'
theorem manned_m (hT : InvT P B Kp Jm I F K) (hN : InvN P B Kp Jm I F K) (km : Int32 → Option Int32) : ∀ m b n, b + m = B → m < n → L_X11_manned_4 km J K n (nI (cnt (fun b => (kAt (F 1) (nI b) Kp 0).isSome) b)) (nI b) = km (nI (cnt (fun b => (kAt (F 1) (nI b) Kp 0).isSome) B)) := by
  have hs := T_sz hT
  intro m
  induction m with
  | zero =>
    intro b n h1 h2
    obtain ⟨n, rfl⟩ : ∃ z, n = z + 1 := ⟨n - 1, by omega⟩
    have : b = B := by omega
    subst this
    rw [nf_L_X11_manned_4, hT.2.2.1.2.1, if_pos (by rw [leN (by omega) (by omega)]; omega)]
  | succ m ih =>
    intro b n h1 h2
    obtain ⟨n, rfl⟩ : ∃ z, n = z + 1 := ⟨n - 1, by omega⟩
    have ih' := ih (b + 1) n (by omega) (by omega)
    rw [nf_L_X11_manned_4, hT.2.2.1.2.1, if_neg (by rw [leN (by omega) (by omega)]; omega), kpM hT hN (by omega), ob_some]
    simp only [bnd_eq, nI_add]
    rw [cnt] at ih'
    cases q : kAt (F 1) (nI b) Kp 0 with
    | none =>
      rw [kOf, if_pos rfl]
      simp only [q, Option.isSome_none, Bool.false_eq_true, if_false] at ih'
      exact ih'
    | some k =>
      have hk := (kAt_some q).1
      rw [kOf, if_neg (m1N (by omega))]
      simp only [q, Option.isSome_some, if_true] at ih'
      exact ih'
theorem isS_iff {p : Nat → Int32} {x : Int32} {m : Nat} : (kAt p x m 0).isSome = true ↔ ∃ k, k < m ∧ p k = x := by
  cases q : kAt p x m 0 with
  | none =>
    constructor
    · intro h; exact absurd h (by simp)
    · rintro ⟨k, hk, e⟩; exact absurd e (kAt_none q k hk)
  | some k =>
    have h := kAt_some q
    constructor
    · intro _; exact ⟨k, h.1, h.2⟩
    · intro _; rfl
theorem isS_no {p : Nat → Int32} {x : Int32} {m : Nat} (h : ¬ ∃ k, k < m ∧ p k = x) : (kAt p x m 0).isSome = false := by
  cases q : (kAt p x m 0).isSome with
  | false => rfl
  | true => exact absurd (isS_iff.mp q) h
theorem kept_man {po : Nat → Int32} (h1 : ∀ k, k < Kp → po k = -1 ∨ ∃ b, b < B ∧ po k = nI b) (h2 : ∀ k q, k < Kp → q < Kp → po k = po q → ¬ po k = -1 → k = q) (hB : B ≤ 9) : ∀ m, m ≤ Kp → cnt (fun k => !decide (po k = -1)) m = cnt (fun b => (kAt po (nI b) m 0).isSome) B := by
  intro m
  induction m with
  | zero => intro _; rw [cnt_no B (fun b _ => isS_no (fun ⟨k, hk, _⟩ => by omega))]; rfl
  | succ m ih =>
    intro hm
    rw [cnt, ih (by omega)]
    rcases h1 m (by omega) with e | ⟨b0, hb0, e⟩
    · rw [cnt_congr (p := fun b => (kAt po (nI b) (m + 1) 0).isSome) (q := fun b => (kAt po (nI b) m 0).isSome) B (fun b hb => ?_)]
      · simp [e]
      · have : (∃ k, k < m + 1 ∧ po k = nI b) ↔ ∃ k, k < m ∧ po k = nI b := by
          constructor
          · rintro ⟨k, hk, ek⟩
            by_cases q : k = m
            · subst q; rw [e] at ek; exact absurd ek.symm (m1N (by omega))
            · exact ⟨k, by omega, ek⟩
          · rintro ⟨k, hk, ek⟩; exact ⟨k, by omega, ek⟩
        by_cases q : ∃ k, k < m ∧ po k = nI b
        · show (kAt po (nI b) (m + 1) 0).isSome = (kAt po (nI b) m 0).isSome
          rw [isS_iff.mpr q, isS_iff.mpr (this.mpr q)]
        · show (kAt po (nI b) (m + 1) 0).isSome = (kAt po (nI b) m 0).isSome
          rw [isS_no q, isS_no (fun h => q (this.mp h))]
    · have hne : ¬ po m = -1 := by rw [e]; exact m1N (by omega)
      rw [cnt_one (p := fun b => (kAt po (nI b) m 0).isSome) (q := fun b => (kAt po (nI b) (m + 1) 0).isSome) (b0 := b0) (isS_no (fun ⟨k, hk, ek⟩ => by have := h2 m k (by omega) (by omega) (e.trans ek.symm) hne; omega)) (isS_iff.mpr ⟨m, by omega, e⟩) B hb0 (fun b hb hbn => ?_)]
      · simp [hne]
      · have : (∃ k, k < m + 1 ∧ po k = nI b) ↔ ∃ k, k < m ∧ po k = nI b := by
          constructor
          · rintro ⟨k, hk, ek⟩
            by_cases q : k = m
            · subst q; rw [e, eqN (by omega) (by omega)] at ek; exact absurd ek.symm hbn
            · exact ⟨k, by omega, ek⟩
          · rintro ⟨k, hk, ek⟩; exact ⟨k, by omega, ek⟩
        by_cases q : ∃ k, k < m ∧ po k = nI b
        · show (kAt po (nI b) (m + 1) 0).isSome = (kAt po (nI b) m 0).isSome
          rw [isS_iff.mpr q, isS_iff.mpr (this.mpr q)]
        · show (kAt po (nI b) (m + 1) 0).isSome = (kAt po (nI b) m 0).isSome
          rw [isS_no q, isS_no (fun h => q (this.mp h))]
theorem trust_l (hT : InvT P B Kp Jm I F K) (hN : InvN P B Kp Jm I F K) (kc km : Int32 → Option Int32) : ∀ m j n n' acc, j + m = Jm → m < n → m < n' → ∃ acc', L_X1_trusted_12_4 kc I F n acc (nI j) = kc acc' ∧ L_X11_trusted_4 km J K n' acc (nI j) = km acc' := by
  have hs := T_sz hT
  intro m
  induction m with
  | zero =>
    intro j n n' acc h1 h2 h3
    obtain ⟨n, rfl⟩ : ∃ z, n = z + 1 := ⟨n - 1, by omega⟩
    obtain ⟨n', rfl⟩ : ∃ z, n' = z + 1 := ⟨n' - 1, by omega⟩
    refine ⟨acc, ?_, ?_⟩
    · rw [nf_L_X1_trusted_12_4, hT.1.2.2.2, if_pos (by rw [leN (by omega) (by omega)]; omega)]
    · rw [nf_L_X11_trusted_4, hT.2.2.1.2.2.2, if_pos (by rw [leN (by omega) (by omega)]; omega)]
  | succ m ih =>
    intro j n n' acc h1 h2 h3
    obtain ⟨n, rfl⟩ : ∃ z, n = z + 1 := ⟨n - 1, by omega⟩
    obtain ⟨n', rfl⟩ : ∃ z, n' = z + 1 := ⟨n' - 1, by omega⟩
    obtain ⟨-, -, -, -, -, -, e1, e2⟩ := hN.2.2.2.2.2.1 j (by omega)
    rw [nf_L_X1_trusted_12_4, hT.1.2.2.2, if_neg (by rw [leN (by omega) (by omega)]; omega), nf_L_X11_trusted_4, hT.2.2.1.2.2.2, if_neg (by rw [leN (by omega) (by omega)]; omega)]
    simp (disch := omega) only [nI_add, ixN, nI_clamp, bnd_eq, e1, e2]
    by_cases q : F 5 j ≤ F 6 j
    · simp only [if_pos q, orZ]
      exact ih (j + 1) n n' acc (by omega) (by omega) (by omega)
    · simp only [if_neg q]
      exact ih (j + 1) n n' _ (by omega) (by omega) (by omega)
def mnF (d : Nat → Nat) (j : Nat) (o : Option Nat) : Prop := match o with
  | none => j = 0
  | some r => r < j ∧ (∀ i, i < j → d r ≤ d i) ∧ (∀ i, i < r → d r < d i)
def mnB (d : Nat → Nat) (j N : Nat) (o : Option Nat) : Prop := match o with
  | none => j = N
  | some r => j ≤ r ∧ r < N ∧ (∀ i, j ≤ i → i < N → d r ≤ d i) ∧ (∀ i, j ≤ i → i < r → d r < d i)
theorem mn_eq {d : Nat → Nat} {N : Nat} {o o' : Option Nat} (h1 : mnF d N o) (h2 : mnB d 0 N o') : o = o' := by
  cases o with
  | none =>
    cases o' with
    | none => rfl
    | some r => have a : N = 0 := h1; have b := h2.2.1; omega
  | some r =>
    cases o' with
    | none => have a : 0 = N := h2; have b := h1.1; omega
    | some q =>
      obtain ⟨a1, a2, a3⟩ := h1
      obtain ⟨-, b1, b2, b3⟩ := h2
      have c1 := a2 q b1
      have c2 := b2 r (Nat.zero_le _) a1
      by_cases e : r < q
      · have := b3 r (Nat.zero_le _) e; omega
      · by_cases e2 : q < r
        · have := a3 q e2; omega
        · rw [show r = q by omega]
theorem dry_cl (hT : InvT P B Kp Jm I F K) {d : Nat → Nat} (hd : ∀ j, j < Jm → F 6 j = nI (d j) ∧ d j ≤ 999999) (kc : Int32 → Option Int32) : ∀ m j n o, j + m = Jm → m < n → mnF d j o → ∃ o', L_X1_driest_12_4 kc I F n (kOf o) (nI j) = kc (kOf o') ∧ mnF d Jm o' := by
  have hs := T_sz hT
  intro m
  induction m with
  | zero =>
    intro j n o h1 h2 h3
    obtain ⟨n, rfl⟩ : ∃ z, n = z + 1 := ⟨n - 1, by omega⟩
    have : j = Jm := by omega
    subst this
    refine ⟨o, ?_, h3⟩
    rw [nf_L_X1_driest_12_4, hT.1.2.2.2, if_pos (by rw [leN (by omega) (by omega)]; omega)]
  | succ m ih =>
    intro j n o h1 h2 h3
    obtain ⟨n, rfl⟩ : ∃ z, n = z + 1 := ⟨n - 1, by omega⟩
    rw [nf_L_X1_driest_12_4, hT.1.2.2.2, if_neg (by rw [leN (by omega) (by omega)]; omega)]
    simp only [bnd_eq, nI_add]
    cases o with
    | none =>
      have j0 : j = 0 := h3
      rw [kOf, if_pos rfl]
      exact ih (j + 1) n (some j) (by omega) (by omega) ⟨by omega, fun i hi => by rw [show i = j by omega]; exact Nat.le_refl _, fun i hi => by omega⟩
    | some r =>
      obtain ⟨a1, a2, a3⟩ := h3
      have dj := hd j (by omega)
      have dr := hd r (by omega)
      rw [kOf, if_neg (m1N (by omega)), ixN (by omega) (by omega), ixN (by omega) (by omega), nI_clamp (by omega), nI_clamp (by omega), dj.1, dr.1]
      by_cases q : d r ≤ d j
      · rw [if_pos (by rw [leN (by omega) (by omega)]; exact q)]
        exact ih (j + 1) n (some r) (by omega) (by omega) ⟨by omega, fun i hi => by
          by_cases e : i = j
          · rw [e]; exact q
          · exact a2 i (by omega), a3⟩
      · rw [if_neg (by rw [leN (by omega) (by omega)]; exact q)]
        exact ih (j + 1) n (some j) (by omega) (by omega) ⟨by omega, fun i hi => by
          by_cases e : i = j
          · rw [e]; exact Nat.le_refl _
          · have := a2 i (by omega); omega, fun i hi => by have := a2 i hi; omega⟩
theorem dry_ml (hT : InvT P B Kp Jm I F K) {d : Nat → Nat} (hd : ∀ j, j < Jm → K 3 (18 + j) = nI (d j) ∧ d j ≤ 999999) (km : Int32 → Option Int32) : ∀ m n o, m ≤ Jm → m < n → mnB d m Jm o → ∃ o', L_X11_driest_11 km J K n (kOf o) (nI m - nI 1) = km (kOf o') ∧ mnB d 0 Jm o' := by
  have hs := T_sz hT
  intro m
  induction m with
  | zero =>
    intro n o h1 h2 h3
    obtain ⟨n, rfl⟩ : ∃ z, n = z + 1 := ⟨n - 1, by omega⟩
    refine ⟨o, ?_, h3⟩
    rw [nf_L_X11_driest_11, if_pos (show nI 0 - nI 1 < nI 0 by decide)]
  | succ m ih =>
    intro n o h1 h2 h3
    obtain ⟨n, rfl⟩ : ∃ z, n = z + 1 := ⟨n - 1, by omega⟩
    rw [nf_L_X11_driest_11, subN (by omega), Nat.add_sub_cancel, if_neg (show ¬ nI m < nI 0 from posN (by omega)), m1sub]
    simp only [bnd_eq]
    cases o with
    | none =>
      have j0 : m + 1 = Jm := h3
      rw [kOf, if_pos rfl]
      exact ih n (some m) (by omega) (by omega) ⟨Nat.le_refl _, by omega, fun i h4 h5 => by rw [show i = m by omega]; exact Nat.le_refl _, fun i h4 h5 => by omega⟩
    | some r =>
      obtain ⟨a0, a1, a2, a3⟩ := h3
      have dj := hd m (by omega)
      have dr := hd r (by omega)
      rw [kOf, if_neg (m1N (by omega))]
      simp (disch := omega) only [nI_add, ixN, nI_clamp, dj.1, dr.1, ltN]
      by_cases q : d r < d m
      · rw [if_pos q]
        exact ih n (some r) (by omega) (by omega) ⟨by omega, a1, fun i h4 h5 => by
          by_cases e : i = m
          · rw [e]; omega
          · exact a2 i (by omega) h5, fun i h4 h5 => by
          by_cases e : i = m
          · rw [e]; exact q
          · exact a3 i (by omega) h5⟩
      · rw [if_neg q]
        exact ih n (some m) (by omega) (by omega) ⟨Nat.le_refl _, by omega, fun i h4 h5 => by
          by_cases e : i = m
          · rw [e]; exact Nat.le_refl _
          · have := a2 i (by omega) h5; omega, fun i h4 h5 => by omega⟩
theorem bottles_l (hT : InvT P B Kp Jm I F K) (kc km : Int32 → WF → Option (Int32 × WF)) : ∀ m b n n' acc g G, b + m = B → m < n → m < n' → ∃ acc' g' G', L_X9_bottles_31_4 kc I n acc (nI b) (uF F 169 g) = kc acc' (uF F 169 g') ∧ L_X11_bottles_4 km J n' acc (nI b) (uF K 11 G) = km acc' (uF K 11 G') := by
  have hs := T_sz hT
  intro m
  induction m with
  | zero =>
    intro b n n' acc g G h1 h2 h3
    obtain ⟨n, rfl⟩ : ∃ z, n = z + 1 := ⟨n - 1, by omega⟩
    obtain ⟨n', rfl⟩ : ∃ z, n' = z + 1 := ⟨n' - 1, by omega⟩
    refine ⟨acc, g, G, ?_, ?_⟩
    · rw [nf_L_X9_bottles_31_4, hT.1.2.1, if_pos (by rw [leN (by omega) (by omega)]; omega)]
    · rw [nf_L_X11_bottles_4, uF_ne _ _ (show (2 : Nat) ≠ 11 by omega), hT.2.2.1.2.1, if_pos (by rw [leN (by omega) (by omega)]; omega)]
  | succ m ih =>
    intro b n n' acc g G h1 h2 h3
    obtain ⟨n, rfl⟩ : ∃ z, n = z + 1 := ⟨n - 1, by omega⟩
    obtain ⟨n', rfl⟩ : ∃ z, n' = z + 1 := ⟨n' - 1, by omega⟩
    obtain ⟨e1, e2, l1, l2, e3, e4, -⟩ := ends_F hT (b := b) (by omega)
    obtain ⟨g1, r1, c1, c2⟩ := fewest_c hT (((nI 1 <<< (nI B &&& nI 31)) - nI 1) &&& ((nI 1 <<< (nI b &&& nI 31)) ^^^ (-1 : Int32))) l1 l2 g
    obtain ⟨G1, r2, d1, d2⟩ := isWay_m J hT (((nI 1 <<< (nI B &&& nI 31)) - nI 1) &&& ((nI 1 <<< (nI b &&& nI 31)) ^^^ (-1 : Int32))) l1 l2 G
    rw [nf_L_X9_bottles_31_4, hT.1.2.1, if_neg (by rw [leN (by omega) (by omega)]; omega), nf_f_X7_allBridges_13, ob_some, hT.1.2.1, bnd_eq, ixN (by omega) (by omega), ixN (by omega) (by omega), nI_clamp (by omega), uF_ne _ _ (show (161 : Nat) ≠ 169 by omega), uF_ne _ _ (show (162 : Nat) ≠ 169 by omega), e1, e2, c1, ob_some]
    rw [nf_L_X11_bottles_4, nf_f_X11_allBridges, uF_ne _ _ (show (2 : Nat) ≠ 11 by omega), hT.2.2.1.2.1, if_neg (by rw [leN (by omega) (by omega)]; omega), ob_some]
    simp (disch := omega) only [nI_add, ixN, nI_clamp, e3, e4]
    rw [d1, ob_some]
    simp only [bnd_eq]
    rcases d2 with ⟨rfl, d3⟩ | ⟨rfl, d3⟩
    · rw [if_pos (c2.mpr d3), if_pos rfl]
      exact ih (b + 1) n n' _ g1 G1 (by omega) (by omega) (by omega)
    · rw [if_neg (fun h => c2.mp h d3), if_neg (show ¬ nI 1 = nI 0 by decide), orZ]
      exact ih (b + 1) n n' _ g1 G1 (by omega) (by omega) (by omega)
theorem far_in {D : Nat → Option Nat} {g G : Nat → Int32} (hT : InvT P B Kp Jm I F K) (hg : ∀ z, z < P → g z = oE (D z)) (hG : ∀ z, z < P → G z = nI (oN (D z))) (hD : ∀ x k, D x = some k → k < P) (x2 x2' : Int32) (kc km : Int32 → Option (Int32 × WF)) : ∀ m x n n' a, x + m = P → m < n → m < n' → a ≤ 8 → ∃ a', a' ≤ 8 ∧ L_X9_farthest_31_29 kc x2 I (uF F 169 g) n (nI a) (nI x) = kc (nI a') ∧ L_X11_farthest_25 km x2' J (uF K 11 G) n' (nI a) (nI x) = km (nI a') := by
  have hs := T_sz hT
  intro m
  induction m with
  | zero =>
    intro x n n' a h1 h2 h3 h4
    obtain ⟨n, rfl⟩ : ∃ z, n = z + 1 := ⟨n - 1, by omega⟩
    obtain ⟨n', rfl⟩ : ∃ z, n' = z + 1 := ⟨n' - 1, by omega⟩
    refine ⟨a, h4, ?_, ?_⟩
    · rw [nf_L_X9_farthest_31_29, hT.1.1, if_pos (by rw [leN (by omega) (by omega)]; omega)]
    · rw [nf_L_X11_farthest_25, uF_ne _ _ (show (2 : Nat) ≠ 11 by omega), hT.2.2.1.1, if_pos (by rw [leN (by omega) (by omega)]; omega)]
  | succ m ih =>
    intro x n n' a h1 h2 h3 h4
    obtain ⟨n, rfl⟩ : ∃ z, n = z + 1 := ⟨n - 1, by omega⟩
    obtain ⟨n', rfl⟩ : ∃ z, n' = z + 1 := ⟨n' - 1, by omega⟩
    rw [nf_L_X9_farthest_31_29, hT.1.1, if_neg (by rw [leN (by omega) (by omega)]; omega), ixN (by omega) (by omega), nI_clamp (by omega), uF_same, hg x (by omega)]
    rw [nf_L_X11_farthest_25, uF_ne _ _ (show (2 : Nat) ≠ 11 by omega), hT.2.2.1.1, if_neg (show ¬ nI P ≤ nI x by rw [leN (by omega) (by omega)]; omega), ixN (by omega) (by omega), nI_clamp (by omega), uF_same, hG x (by omega)]
    simp only [bnd_eq, nI_add]
    cases hDx : D x with
    | none =>
      rw [if_neg (show ¬ nI a < oE none from fun h => posN (a := a) (by omega) (Int32.lt_trans h (by decide))), if_pos (show nI 99 ≤ nI (oN none) by decide)]
      exact ih (x + 1) n n' a (by omega) (by omega) (by omega) h4
    | some k =>
      have hk := hD x k hDx
      rw [oE, oN, if_neg (show ¬ nI 99 ≤ nI k by rw [leN (by omega) (by omega)]; omega), ixN (by omega) (by omega), ixN (by omega) (by omega)]
      by_cases q : a < k
      · rw [if_pos (show nI a < nI k by rw [ltN (by omega) (by omega)]; exact q), if_neg (show ¬ nI k ≤ nI a by rw [leN (by omega) (by omega)]; omega)]
        exact ih (x + 1) n n' k (by omega) (by omega) (by omega) (by omega)
      · rw [if_neg (show ¬ nI a < nI k by rw [ltN (by omega) (by omega)]; exact q), if_pos (show nI k ≤ nI a by rw [leN (by omega) (by omega)]; omega)]
        exact ih (x + 1) n n' a (by omega) (by omega) (by omega) h4
theorem far_out (hT : InvT P B Kp Jm I F K) (kc km : Int32 → WF → Option (Int32 × WF)) : ∀ m x n n' a g G, x + m = P → m < n → m < n' → a ≤ 8 → ∃ a' g' G', L_X9_farthest_31_4 kc I n (nI a) (nI x) (uF F 169 g) = kc (nI a') (uF F 169 g') ∧ L_X11_farthest_4 km J n' (nI a) (nI x) (uF K 11 G) = km (nI a') (uF K 11 G') := by
  have hs := T_sz hT
  intro m
  induction m with
  | zero =>
    intro x n n' a g G h1 h2 h3 h4
    obtain ⟨n, rfl⟩ : ∃ z, n = z + 1 := ⟨n - 1, by omega⟩
    obtain ⟨n', rfl⟩ : ∃ z, n' = z + 1 := ⟨n' - 1, by omega⟩
    refine ⟨a, g, G, ?_, ?_⟩
    · rw [nf_L_X9_farthest_31_4, hT.1.1, if_pos (by rw [leN (by omega) (by omega)]; omega)]
    · rw [nf_L_X11_farthest_4, uF_ne _ _ (show (2 : Nat) ≠ 11 by omega), hT.2.2.1.1, if_pos (by rw [leN (by omega) (by omega)]; omega)]
  | succ m ih =>
    intro x n n' a g G h1 h2 h3 h4
    obtain ⟨n, rfl⟩ : ∃ z, n = z + 1 := ⟨n - 1, by omega⟩
    obtain ⟨n', rfl⟩ : ∃ z, n' = z + 1 := ⟨n' - 1, by omega⟩
    obtain ⟨g1, G1, D, m1, m2, hg, hG, hD⟩ := dist J hT ((nI 1 <<< (nI B &&& nI 31)) - nI 1) (e := x) (by omega) g G
    obtain ⟨a1, ha1, i1, i2⟩ := far_in (J := J) hT hg hG (fun x k hk => (hD.2.2.2.1 x k hk).2) (nI x) (nI x) (fun x1_207 => bnd (nI x + (nI 1)) fun x2_208 => L_X9_farthest_31_4 kc I n x1_207 x2_208 (uF F 169 g1)) (fun x1_1251 => bnd (nI x + (nI 1)) fun x2_1252 => L_X11_farthest_4 km J n' x1_1251 x2_1252 (uF K 11 G1)) P 0 FU FU a (by omega) (by rw [FU_big]; omega) (by rw [FU_big]; omega) h4
    obtain ⟨a2, g2, G2, j1, j2⟩ := ih (x + 1) n n' a1 g1 G1 (by omega) (by omega) (by omega) ha1
    refine ⟨a2, g2, G2, ?_, ?_⟩
    · rw [nf_L_X9_farthest_31_4, hT.1.1, if_neg (by rw [leN (by omega) (by omega)]; omega), nf_f_X7_allBridges_13, ob_some, hT.1.2.1, m1, ob_some, bnd_eq, i1, bnd_eq, nI_add]
      exact j1
    · rw [nf_L_X11_farthest_4, nf_f_X11_allBridges, uF_ne _ _ (show (2 : Nat) ≠ 11 by omega), hT.2.2.1.1, if_neg (by rw [leN (by omega) (by omega)]; omega), ob_some, hT.2.2.1.2.1, m2, ob_some, bnd_eq, i2, bnd_eq, nI_add]
      exact j2
end Told
theorem step_told : ∀ (I : WI) (F : WF) (J : WI) (K : WF) (x1 : Int32), Inv I F J K → ∃ (a : Int32 × WF) (b : Int32 × WI × WF), f_X10_told x1 I F = some a ∧ f_X11_told x1 J K = some b ∧ a.1 = b.1 ∧ Inv I a.2 b.2.1 b.2.2 := fun I F J K x1 h => by
  have h0 := h
  obtain ⟨P, B, Kp, Jm, hA⟩ := h
  have hT : InvT P B Kp Jm I F K := hA.1
  have hN : InvN P B Kp Jm I F K := hA.2.1
  have hs := T_sz hT
  have fin : ∀ g G, Inv I (uF F 169 g) (upd J 0 (nI 0)) (uF K 11 G) := fun g G => ⟨P, B, Kp, Jm, InvP_sc hA g G _⟩
  have un : ∀ n, ¬ n = 0 → upd J 0 (nI 0) n = J n := fun n hn => upd_ne hn
  rw [nf_f_X10_told, nf_f_X11_told]
  by_cases h1 : inR x1 15
  · obtain ⟨q, hq, rfl⟩ := h1
    rw [bnd_eq, in_in (by omega) (by omega) (by omega), ob_some, if_neg (show ¬ nI 1 = nI 0 by decide)]
    rcases (show q = 0 ∨ q = 1 ∨ q = 2 ∨ q = 3 ∨ q = 4 ∨ q = 5 ∨ q = 6 ∨ q = 7 ∨ q = 8 ∨ q = 9 ∨ q = 10 ∨ q = 11 ∨ q = 12 ∨ q = 13 ∨ q = 14 by omega) with rfl | rfl | rfl | rfl | rfl | rfl | rfl | rfl | rfl | rfl | rfl | rfl | rfl | rfl | rfl
    · simp (disch := omega) only [leN, eqN, if_true, if_false, ixN, nI_clamp, Nat.reduceLeDiff, Nat.reduceEqDiff]
      exact ⟨_, _, rfl, rfl, hT.1.1.trans hT.2.2.1.1.symm, Inv_J0 h0⟩
    · simp (disch := omega) only [leN, eqN, if_true, if_false, ixN, nI_clamp, Nat.reduceLeDiff, Nat.reduceEqDiff]
      exact ⟨_, _, rfl, rfl, hT.1.2.1.trans hT.2.2.1.2.1.symm, Inv_J0 h0⟩
    · simp (disch := omega) only [leN, eqN, if_true, if_false, ixN, nI_clamp, Nat.reduceLeDiff, Nat.reduceEqDiff]
      exact ⟨_, _, rfl, rfl, hT.1.2.2.1.trans hT.2.2.1.2.2.1.symm, Inv_J0 h0⟩
    · simp (disch := omega) only [leN, eqN, if_true, if_false, ixN, nI_clamp, Nat.reduceLeDiff, Nat.reduceEqDiff]
      exact ⟨_, _, rfl, rfl, hT.1.2.2.2.trans hT.2.2.1.2.2.2.symm, Inv_J0 h0⟩
    · simp (disch := omega) only [leN, eqN, if_true, if_false, Nat.reduceLeDiff, Nat.reduceEqDiff]
      obtain ⟨n, -, t1, t2, -⟩ := hA.2.2.2.1
      exact ⟨_, _, rfl, rfl, t1.trans t2.symm, Inv_J0 h0⟩
    · simp (disch := omega) only [leN, eqN, if_true, if_false, Nat.reduceLeDiff, Nat.reduceEqDiff]
      exact ⟨_, _, rfl, rfl, hN.2.1.symm, Inv_J0 h0⟩
    · simp (disch := omega) only [leN, eqN, if_true, if_false, Nat.reduceLeDiff, Nat.reduceEqDiff]
      have e1 : f_X1_keptBridges_12 I F = some (nI (cnt (fun k => !decide (F 1 k = -1)) Kp)) := by
        rw [nf_f_X1_keptBridges_12, bnd_eq, bnd_eq]
        exact kept_c hT (fun x => some x) Kp 0 FU (by omega) (by rw [FU_big]; omega)
      have e2 : f_X11_manned (upd J 0 (nI 0)) K = some (nI (cnt (fun b => (kAt (F 1) (nI b) Kp 0).isSome) B)) := by
        rw [nf_f_X11_manned, bnd_eq, bnd_eq]
        exact manned_m hT hN (fun x => some x) B 0 FU (by omega) (by rw [FU_big]; omega)
      rw [e1, e2, ob_some, ob_some]
      refine ⟨_, _, rfl, rfl, ?_, Inv_J0 h0⟩
      show nI _ = nI _
      rw [kept_man (fun k hk => (hN.2.2.2.1 k hk).2.1) hN.2.2.2.2.1 hs.2.1 Kp (Nat.le_refl _)]
    · simp (disch := omega) only [leN, eqN, if_true, if_false, Nat.reduceLeDiff, Nat.reduceEqDiff]
      obtain ⟨a, g, G, b1, b2⟩ := bottles_l (J := upd J 0 (nI 0)) hT (fun x1_196 F_197 => some (x1_196, F_197)) (fun x1_1265 F_1266 => some (x1_1265, F_1266)) B 0 FU FU (nI 0) (F 169) (K 11) (by omega) (by rw [FU_big]; omega) (by rw [FU_big]; omega)
      rw [uF_id] at b1 b2
      rw [nf_f_X9_bottles_31, nf_f_X11_bottles, bnd_eq, bnd_eq, bnd_eq, bnd_eq, b1, b2, ob_some, ob_some]
      exact ⟨_, _, rfl, rfl, rfl, fin g G⟩
    · simp (disch := omega) only [leN, eqN, if_true, if_false, Nat.reduceLeDiff, Nat.reduceEqDiff]
      obtain ⟨a, g, G, b1, b2⟩ := far_out (J := upd J 0 (nI 0)) hT (fun x1_209 F_210 => some (x1_209, F_210)) (fun x1_1253 F_1254 => some (x1_1253, F_1254)) P 0 FU FU 0 (F 169) (K 11) (by omega) (by rw [FU_big]; omega) (by rw [FU_big]; omega) (by omega)
      rw [uF_id] at b1 b2
      rw [nf_f_X9_farthest_31, nf_f_X11_farthest, bnd_eq, bnd_eq, bnd_eq, bnd_eq, b1, b2, ob_some, ob_some]
      exact ⟨_, _, rfl, rfl, rfl, fin g G⟩
    · simp (disch := omega) only [leN, eqN, if_true, if_false, Nat.reduceLeDiff, Nat.reduceEqDiff]
      obtain ⟨a, b1, b2⟩ := trust_l (J := upd J 0 (nI 0)) hT hN (fun x1_219 => some x1_219) (fun x1_1216 => some x1_1216) Jm 0 FU FU (nI 0) (by omega) (by rw [FU_big]; omega) (by rw [FU_big]; omega)
      rw [nf_f_X1_trusted_12, nf_f_X11_trusted, bnd_eq, bnd_eq, bnd_eq, bnd_eq, b1, b2, ob_some, ob_some]
      exact ⟨_, _, rfl, rfl, rfl, Inv_J0 h0⟩
    · simp (disch := omega) only [leN, eqN, if_true, if_false, Nat.reduceLeDiff, Nat.reduceEqDiff]
      have hd : ∀ j, j < Jm → F 6 j = nI ((F 6 j).toNatClampNeg) ∧ (F 6 j).toNatClampNeg ≤ 999999 := fun j hj => by
        obtain ⟨-, -, -, ⟨o, ho, eo⟩, -⟩ := hN.2.2.2.2.2.1 j hj
        rw [eo, nI_clamp (by omega)]
        exact ⟨rfl, ho⟩
      obtain ⟨o1, c1, c2⟩ := dry_cl (d := fun j => (F 6 j).toNatClampNeg) hT hd (fun x1_229 => some x1_229) Jm 0 FU none (by omega) (by rw [FU_big]; omega) rfl
      obtain ⟨o2, d1, d2⟩ := dry_ml (J := upd J 0 (nI 0)) (d := fun j => (F 6 j).toNatClampNeg) hT (fun j hj => ⟨((hN.2.2.2.2.2.1 j hj).2.2.2.2.2.2.2).trans (hd j hj).1, (hd j hj).2⟩) (fun x1_1208 => some x1_1208) Jm FU none (Nat.le_refl _) (by rw [FU_big]; omega) rfl
      have oe := mn_eq c2 d2
      subst oe
      rw [nf_f_X1_driest_12, nf_f_X11_driest, bnd_eq, bnd_eq, bnd_eq, bnd_eq, hT.2.2.1.2.2.2]
      rw [kOf] at c1 d1
      rw [c1, d1, ob_some, ob_some]
      exact ⟨_, _, rfl, rfl, rfl, Inv_J0 h0⟩
    · simp (disch := omega) only [leN, eqN, if_true, if_false, Nat.reduceLeDiff, Nat.reduceEqDiff]
      exact ⟨_, _, rfl, rfl, hN.2.2.1.symm, Inv_J0 h0⟩
    · simp (disch := omega) only [leN, eqN, if_true, if_false, Nat.reduceLeDiff, Nat.reduceEqDiff]
      obtain ⟨c, a, b, -, -, -, -, t1, t2, -⟩ := hA.2.2.2.2.2.1
      exact ⟨_, _, rfl, rfl, t1.trans t2.symm, Inv_J0 h0⟩
    · simp (disch := omega) only [leN, eqN, if_true, if_false, Nat.reduceLeDiff, Nat.reduceEqDiff]
      obtain ⟨z, -, t1, t2, -⟩ := hA.2.2.2.2.2.2.1
      exact ⟨_, _, rfl, rfl, t1.trans t2.symm, Inv_J0 h0⟩
    · simp (disch := omega) only [leN, eqN, if_true, if_false, Nat.reduceLeDiff, Nat.reduceEqDiff]
      obtain ⟨z, nx, -, -, t1, -, t2, -⟩ := hA.2.2.2.2.2.2.2.1
      exact ⟨_, _, rfl, rfl, t1.trans t2.symm, Inv_J0 h0⟩
  · refine ⟨(-1000000002, F), (-1000000002, upd J 0 (nI 0), K), ?_, ?_, rfl, Inv_J0 h0⟩
    · rw [if_neg (nin h1 0 (by omega)), if_neg (nin h1 1 (by omega)), if_neg (nin h1 2 (by omega)), if_neg (nin h1 3 (by omega)), if_neg (nin h1 4 (by omega)), if_neg (nin h1 5 (by omega)), if_neg (nin h1 6 (by omega)), if_neg (nin h1 7 (by omega)), if_neg (nin h1 8 (by omega)), if_neg (nin h1 9 (by omega)), if_neg (nin h1 10 (by omega)), if_neg (nin h1 11 (by omega)), if_neg (nin h1 12 (by omega)), if_neg (nin h1 13 (by omega)), if_neg (nin h1 14 (by omega))]
    · rw [bnd_eq, in_out (x := x1) (a := 0) (b := 14) (by omega) (fun j _ hj => nin h1 j (by omega)) (by omega), ob_some, if_pos rfl]
