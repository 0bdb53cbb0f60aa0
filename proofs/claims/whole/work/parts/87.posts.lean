/-! pure layer: posts, the model's side -/
abbrev tI (I : WI) (F : WF) : Nat → Int := fun k => (tmF I F k).toInt
abbrev fI (I : WI) (F : WF) (j : Nat) : Nat → Int := fun e => (flF I F j e).toInt
def cmS (s : Nat) : Nat → Bool := fun k => !s.testBit k
theorem cmS_or (s k : Nat) : cmS (s ||| 2 ^ k) = wo (cmS s) k := by
  funext i
  unfold cmS wo
  rw [or_bit, Bool.not_or, decide_eq_decide.mpr (show k = i ↔ i = k from ⟨Eq.symm, Eq.symm⟩)]
theorem powN : ∀ B, B < 10 → nI 1 <<< (nI B &&& nI 31) = nI (2 ^ B) := by decide
theorem hv_B {t f : Nat → Int} {g : Nat → Nat} {Kp B : Nat} (hg : srt f g B) (fr : Nat → Bool) : hvG t f g Kp B B fr = 0 := by
  have : ∀ i, i ≤ B → grd t f g Kp B fr i = 0 := by
    intro i
    induction i with
    | zero => intro _; rfl
    | succ i ih =>
      intro hi
      have := hg.1 i (by omega)
      rw [grd, decide_eq_false (show ¬ B ≤ g i by omega), Bool.false_and, if_neg (by simp), ih (by omega)]
  exact this B (Nat.le_refl _)
def PKx (t f : Nat → Int) (g : Nat → Nat) (Kp B b : Nat) (fr : Nat → Bool) (k a : Nat) : Prop := a ≤ 10 ∧ hvG t f g Kp B (b + 1) fr ≤ a ∧ (∀ i, i < k → fr i = true → t i ≤ f b → hvG t f g Kp B (b + 1) (wo fr i) + 1 ≤ a) ∧ (a = hvG t f g Kp B (b + 1) fr ∨ ∃ i, i < k ∧ fr i = true ∧ t i ≤ f b ∧ a = hvG t f g Kp B (b + 1) (wo fr i) + 1)
theorem PK_end {t f : Nat → Int} {g : Nat → Nat} {Kp B b : Nat} {fr : Nat → Bool} {a : Nat} (hg : srt f g B) (hb : b < B) (h : PKx t f g Kp B b fr Kp a) : a = hvG t f g Kp B b fr := by
  obtain ⟨-, h1, h2, h3⟩ := h
  have u : a ≤ hvG t f g Kp B b fr := by
    rcases h3 with e | ⟨i, i1, i2, i3, e⟩
    · rw [e]; exact dp_1 hg b fr
    · have := dp_2 (t := t) hg hb i1 i2 i3
      omega
  have l : hvG t f g Kp B b fr ≤ a := by
    rcases dp_3 (t := t) (Kp := Kp) hg hb fr with e | ⟨k, k1, k2, k3, e⟩
    · rw [e]; exact h1
    · rw [e]; exact h2 k k1 k2 k3
  omega
section Posts
variable {P B Kp Jm : Nat} {I : WI} {F K : WF} {J : WI} {j : Nat} {g : Nat → Nat}
theorem InvN_12 (hN : InvN P B Kp Jm I F K) (M : Nat → Int32) : InvN P B Kp Jm I F (uF K 12 M) := by
  unfold InvN at hN ⊢
  rw [uF_ne _ _ (by omega)]
  exact hN
theorem can_m (hT : InvT P B Kp Jm I F K) (hN : InvN P B Kp Jm I F K) (hj : j < Jm) {b k : Nat} (hb : b < B) (hk : k < Kp) (M : Nat → Int32) : f_X11_canKeep (nI j) (nI b) (nI k) J (uF K 12 M) = some (if tI I F k ≤ fI I F j b then nI 1 else nI 0) := by
  have hT2 : InvT P B Kp Jm I F (uF K 12 M) := InvT_fr hT (fun _ _ _ => rfl) (fun _ _ _ => rfl) (uF_ne _ _ (by omega))
  rw [nf_f_X11_canKeep, tmM hT2 (InvN_12 hN M) hk, ob_some, flM hT2 (InvN_12 hN M) hj hb, ob_some]
  by_cases q : tI I F k ≤ fI I F j b
  · rw [if_pos q, if_neg (fun h => by have := Int32.lt_iff_toInt_lt.mp h; have q' : (tmF I F k).toInt ≤ (flF I F j b).toInt := q; omega)]
  · rw [if_neg q, if_pos (Int32.lt_iff_toInt_lt.mpr (by have q' : ¬ (tmF I F k).toInt ≤ (flF I F j b).toInt := q; omega))]
theorem gp_k (hT : InvT P B Kp Jm I F K) (hN : InvN P B Kp Jm I F K) (hj : j < Jm) {b s : Nat} (hb : b < B) (hs2 : s < 2 ^ Kp) {M : Nat → Int32} (hM : ∀ s', s' < 2 ^ Kp → M (512 * (b + 1) + s') = nI (hvG (tI I F) (fI I F j) g Kp B (b + 1) (cmS s'))) (x2 : Int32) : ∀ m k n a, k + m = Kp → m < n → PKx (tI I F) (fI I F j) g Kp B b (cmS s) k a → ∃ a', PKx (tI I F) (fI I F j) g Kp B b (cmS s) Kp a' ∧ ∀ kc, L_X11_givesPosts_63 kc (nI j) x2 (nI b) (nI s) J (uF K 12 M) n (nI a) (nI k) = kc (nI a') := by
  have hs := T_sz hT
  have hp := powB Kp (by omega)
  have z1 : ¬ nI 1 = nI 0 := by decide
  have hhv : ∀ b fr, hvG (tI I F) (fI I F j) g Kp B b fr ≤ 9 := fun b fr => Nat.le_trans (grd_le b fr B) hs.2.1
  intro m
  induction m with
  | zero =>
    intro k n a h1 h2 h3
    obtain ⟨n, rfl⟩ : ∃ z, n = z + 1 := ⟨n - 1, by omega⟩
    have : k = Kp := by omega
    subst this
    refine ⟨a, h3, fun kc => ?_⟩
    rw [nf_L_X11_givesPosts_63, uF_ne _ _ (show (2 : Nat) ≠ 12 by omega), hT.2.2.1.2.2.1, if_pos (by rw [leN (by omega) (by omega)]; omega)]
  | succ m ih =>
    intro k n a h1 h2 h3
    obtain ⟨n, rfl⟩ : ∃ z, n = z + 1 := ⟨n - 1, by omega⟩
    obtain ⟨p1, p2, p3, p4⟩ := h3
    have st : ∀ kc : Int32 → Option WF, L_X11_givesPosts_63 kc (nI j) x2 (nI b) (nI s) J (uF K 12 M) (n + 1) (nI a) (nI k) = (Option.bind (f_X11_has (nI s) (nI k)) fun c_1534 => if c_1534 = (nI 0) then (Option.bind (f_X11_canKeep (nI j) (nI b) (nI k) J (uF K 12 M)) fun c_1540 => if c_1540 = (nI 0) then (L_X11_givesPosts_63 kc (nI j) x2 (nI b) (nI s) J (uF K 12 M) n (nI a) (nI (k + 1))) else (ixG (((nI 512) * (nI (b + 1))) + (nI s ||| (nI 1 <<< (nI k &&& nI 31)))) 5120 (if (nI 1) + (M (((nI 512) * (nI (b + 1))) + (nI s ||| (nI 1 <<< (nI k &&& nI 31)))).toNatClampNeg) ≤ nI a then (L_X11_givesPosts_63 kc (nI j) x2 (nI b) (nI s) J (uF K 12 M) n (nI a) (nI (k + 1))) else (L_X11_givesPosts_63 kc (nI j) x2 (nI b) (nI s) J (uF K 12 M) n ((nI 1) + (M (((nI 512) * (nI (b + 1))) + (nI s ||| (nI 1 <<< (nI k &&& nI 31)))).toNatClampNeg)) (nI (k + 1)))))) else (L_X11_givesPosts_63 kc (nI j) x2 (nI b) (nI s) J (uF K 12 M) n (nI a) (nI (k + 1)))) := fun kc => by
      rw [nf_L_X11_givesPosts_63, uF_ne _ _ (show (2 : Nat) ≠ 12 by omega), hT.2.2.1.2.2.1, if_neg (show ¬ nI Kp ≤ nI k by rw [leN (by omega) (by omega)]; omega), hT.2.2.1.2.1, if_neg (show ¬ nI B ≤ nI b by rw [leN (by omega) (by omega)]; omega), uF_same]
      simp only [bnd_eq, nI_add]
    cases hk : s.testBit k with
    | true =>
      have hf : cmS s k = false := by unfold cmS; rw [hk]; rfl
      obtain ⟨a', q1, q2⟩ := ih (k + 1) n a (by omega) (by omega) ⟨p1, p2, fun i hi i2 i3 => by
        by_cases e : i = k
        · rw [e, hf] at i2; exact absurd i2 (by simp)
        · exact p3 i (by omega) i2 i3, by
        rcases p4 with e | ⟨i, i1, i2⟩
        · exact Or.inl e
        · exact Or.inr ⟨i, by omega, i2⟩⟩
      refine ⟨a', q1, fun kc => ?_⟩
      rw [st, has_yes ((inS_nat (by omega) (by omega)).mpr hk), ob_some, if_neg z1]
      exact q2 kc
    | false =>
      have hf : cmS s k = true := by unfold cmS; rw [hk]; rfl
      have hno : f_X11_has (nI s) (nI k) = some (nI 0) := has_no (fun h => by rw [(inS_nat (by omega) (by omega)).mp h] at hk; exact absurd hk (by simp))
      by_cases q : tI I F k ≤ fI I F j b
      · have hor : s ||| 2 ^ k < 2 ^ Kp := Nat.or_lt_two_pow hs2 (Nat.pow_lt_pow_right (by omega) (by omega))
        have e9 := hhv (b + 1) (wo (cmS s) k)
        have ei : nI 512 * nI (b + 1) + (nI s ||| (nI 1 <<< (nI k &&& nI 31))) = nI (512 * (b + 1) + (s ||| 2 ^ k)) := by
          rw [setb (by omega), pk_mul, nI_add]
        have hMk : nI 1 + M (512 * (b + 1) + (s ||| 2 ^ k)) = nI (hvG (tI I F) (fI I F j) g Kp B (b + 1) (wo (cmS s) k) + 1) := by
          rw [hM _ hor, cmS_or, nI_add, Nat.add_comm]
        by_cases q3 : hvG (tI I F) (fI I F j) g Kp B (b + 1) (wo (cmS s) k) + 1 ≤ a
        · obtain ⟨a', r1, r2⟩ := ih (k + 1) n a (by omega) (by omega) ⟨p1, p2, fun i hi i2 i3 => by
            by_cases e : i = k
            · rw [e]; exact q3
            · exact p3 i (by omega) i2 i3, by
            rcases p4 with e | ⟨i, i1, i2⟩
            · exact Or.inl e
            · exact Or.inr ⟨i, by omega, i2⟩⟩
          refine ⟨a', r1, fun kc => ?_⟩
          rw [st, hno, ob_some, if_pos rfl, can_m hT hN hj hb (by omega), ob_some, if_pos q, if_neg z1, ei, ixN (by omega) (by omega), nI_clamp (by omega), hMk, if_pos (by rw [leN (by omega) (by omega)]; exact q3)]
          exact r2 kc
        · obtain ⟨a', r1, r2⟩ := ih (k + 1) n (hvG (tI I F) (fI I F j) g Kp B (b + 1) (wo (cmS s) k) + 1) (by omega) (by omega) ⟨by omega, by omega, fun i hi i2 i3 => by
            by_cases e : i = k
            · rw [e]; exact Nat.le_refl _
            · have := p3 i (by omega) i2 i3; omega, Or.inr ⟨k, by omega, hf, q, rfl⟩⟩
          refine ⟨a', r1, fun kc => ?_⟩
          rw [st, hno, ob_some, if_pos rfl, can_m hT hN hj hb (by omega), ob_some, if_pos q, if_neg z1, ei, ixN (by omega) (by omega), nI_clamp (by omega), hMk, if_neg (by rw [leN (by omega) (by omega)]; exact q3)]
          exact r2 kc
      · obtain ⟨a', r1, r2⟩ := ih (k + 1) n a (by omega) (by omega) ⟨p1, p2, fun i hi i2 i3 => by
          by_cases e : i = k
          · rw [e] at i3; exact absurd i3 q
          · exact p3 i (by omega) i2 i3, by
          rcases p4 with e | ⟨i, i1, i2⟩
          · exact Or.inl e
          · exact Or.inr ⟨i, by omega, i2⟩⟩
        refine ⟨a', r1, fun kc => ?_⟩
        rw [st, hno, ob_some, if_pos rfl, can_m hT hN hj hb (by omega), ob_some, if_neg q, if_pos rfl]
        exact r2 kc
theorem gp_s (hT : InvT P B Kp Jm I F K) (hN : InvN P B Kp Jm I F K) (hj : j < Jm) (hg : srt (fI I F j) g B) {b : Nat} (hb : b ≤ B) : ∀ m s n M, s + m = 2 ^ Kp → m < n → (b < B → ∀ s', s' < 2 ^ Kp → M (512 * (b + 1) + s') = nI (hvG (tI I F) (fI I F j) g Kp B (b + 1) (cmS s'))) → (∀ s', s' < s → M (512 * b + s') = nI (hvG (tI I F) (fI I F j) g Kp B b (cmS s'))) → ∃ M', (∀ s', s' < 2 ^ Kp → M' (512 * b + s') = nI (hvG (tI I F) (fI I F j) g Kp B b (cmS s'))) ∧ (∀ i, 512 * (b + 1) ≤ i → M' i = M i) ∧ ∀ kc, L_X11_givesPosts_23 kc (nI j) (nI (2 ^ Kp)) (nI b) J n (nI s) (uF K 12 M) = kc (uF K 12 M') := by
  have hs := T_sz hT
  have hp := powB Kp (by omega)
  have hhv : ∀ b fr, hvG (tI I F) (fI I F j) g Kp B b fr ≤ 9 := fun b fr => Nat.le_trans (grd_le b fr B) hs.2.1
  intro m
  induction m with
  | zero =>
    intro s n M h1 h2 h3 h4
    obtain ⟨n, rfl⟩ : ∃ z, n = z + 1 := ⟨n - 1, by omega⟩
    refine ⟨M, fun s' hs' => h4 s' (by omega), fun _ _ => rfl, fun kc => ?_⟩
    rw [nf_L_X11_givesPosts_23, if_pos (by rw [leN (by omega) (by omega)]; omega)]
  | succ m ih =>
    intro s n M h1 h2 h3 h4
    obtain ⟨n, rfl⟩ : ∃ z, n = z + 1 := ⟨n - 1, by omega⟩
    obtain ⟨M', c1, c2, c3⟩ := ih (s + 1) n (upd M (512 * b + s) (nI (hvG (tI I F) (fI I F j) g Kp B b (cmS s)))) (by omega) (by omega) (fun hbB s' hs' => by rw [upd_ne (by omega)]; exact h3 hbB s' hs') (fun s' hs' => by
      by_cases e : s' = s
      · subst e; rw [upd_same]
      · rw [upd_ne (by omega)]; exact h4 s' (by omega))
    refine ⟨M', c1, fun i hi => by rw [c2 i hi, upd_ne (by omega)], fun kc => ?_⟩
    have ei : nI 512 * nI b + nI s = nI (512 * b + s) := by rw [pk_mul, nI_add]
    rw [nf_L_X11_givesPosts_23, if_neg (show ¬ nI (2 ^ Kp) ≤ nI s by rw [leN (by omega) (by omega)]; omega), uF_ne _ _ (show (2 : Nat) ≠ 12 by omega), hT.2.2.1.2.1, ei, nI_clamp (by omega), uF_same]
    simp only [bnd_eq, uF_uF, nI_add]
    by_cases e : b = B
    · rw [if_pos (by rw [e])]
      obtain ⟨f, ef⟩ : ∃ f, FU = f + 1 := ⟨FU - 1, by rw [FU_big]⟩
      rw [ef, nf_L_X11_givesPosts_63, uF_ne _ _ (show (2 : Nat) ≠ 12 by omega), hT.2.2.1.2.1, if_pos (show nI B ≤ nI b by rw [leN (by omega) (by omega)]; omega), ite_self, ixN (by omega) (by omega)]
      have hz : hvG (tI I F) (fI I F j) g Kp B b (cmS s) = 0 := by rw [e]; exact hv_B hg _
      rw [hz] at c3
      exact c3 kc
    · rw [if_neg (show ¬ nI b = nI B by rw [eqN (by omega) (by omega)]; exact e), pk_mul, nI_add, ixN (by omega) (by omega), nI_clamp (by omega), h3 (by omega) s (by omega)]
      have e9 := hhv (b + 1) (cmS s)
      obtain ⟨a', d1, d2⟩ := gp_k (J := J) hT hN hj (b := b) (s := s) (by omega) (by omega) (h3 (by omega)) (nI (2 ^ Kp)) Kp 0 FU (hvG (tI I F) (fI I F j) g Kp B (b + 1) (cmS s)) (by omega) (by rw [FU_big]; omega) ⟨by omega, Nat.le_refl _, fun i hi => by omega, Or.inl rfl⟩
      rw [d2, ixN (by omega) (by omega), PK_end hg (by omega) d1]
      exact c3 kc
theorem gp_b (hT : InvT P B Kp Jm I F K) (hN : InvN P B Kp Jm I F K) (hj : j < Jm) (hg : srt (fI I F j) g B) (kc : WF → Option WF) : ∀ m n M, m ≤ B + 1 → m < n → (∀ b, m ≤ b → b ≤ B → ∀ s', s' < 2 ^ Kp → M (512 * b + s') = nI (hvG (tI I F) (fI I F j) g Kp B b (cmS s'))) → ∃ M', (∀ b, b ≤ B → ∀ s', s' < 2 ^ Kp → M' (512 * b + s') = nI (hvG (tI I F) (fI I F j) g Kp B b (cmS s'))) ∧ L_X11_givesPosts_16 kc (nI j) (nI (2 ^ Kp)) J n (nI m - nI 1) (uF K 12 M) = kc (uF K 12 M') := by
  have hs := T_sz hT
  have hp := powB Kp (by omega)
  intro m
  induction m with
  | zero =>
    intro n M h1 h2 h3
    obtain ⟨n, rfl⟩ : ∃ z, n = z + 1 := ⟨n - 1, by omega⟩
    refine ⟨M, fun b hb => h3 b (Nat.zero_le _) hb, ?_⟩
    rw [nf_L_X11_givesPosts_16, if_pos (show nI 0 - nI 1 < nI 0 by decide)]
  | succ m ih =>
    intro n M h1 h2 h3
    obtain ⟨n, rfl⟩ : ∃ z, n = z + 1 := ⟨n - 1, by omega⟩
    obtain ⟨M1, a1, a2, a3⟩ := gp_s (J := J) hT hN hj hg (b := m) (by omega) (2 ^ Kp) 0 FU M (by omega) (by rw [FU_big]; omega) (fun hb s' hs' => h3 (m + 1) (Nat.le_refl _) (by omega) s' hs') (fun s' hs' => by omega)
    obtain ⟨M2, b1, b2⟩ := ih n M1 (by omega) (by omega) (fun b hb1 hb2 s' hs' => by
      by_cases e : b = m
      · subst e; exact a1 s' hs'
      · rw [a2 _ (by omega)]; exact h3 b (by omega) hb2 s' hs')
    refine ⟨M2, b1, ?_⟩
    rw [nf_L_X11_givesPosts_16, subN (by omega), Nat.add_sub_cancel, if_neg (show ¬ nI m < nI 0 from posN (by omega)), bnd_eq, a3, bnd_eq, m1sub]
    exact b2
theorem gives_m (hT : InvT P B Kp Jm I F K) (hN : InvN P B Kp Jm I F K) (hj : j < Jm) (hg : srt (fI I F j) g B) : ∃ M, f_X11_givesPosts (nI j) J K = some (uF K 12 M) ∧ ∀ b, b ≤ B → ∀ s', s' < 2 ^ Kp → M (512 * b + s') = nI (hvG (tI I F) (fI I F j) g Kp B b (cmS s')) := by
  have hs := T_sz hT
  obtain ⟨M, a1, a2⟩ := gp_b (J := J) hT hN hj hg (fun F_1550 => some F_1550) (B + 1) FU (K 12) (Nat.le_refl _) (by rw [FU_big]; omega) (fun b hb1 hb2 => by omega)
  refine ⟨M, ?_, a1⟩
  rw [uF_id, subN (by omega), Nat.add_sub_cancel] at a2
  rw [nf_f_X11_givesPosts, hT.2.2.1.2.2.1, powN Kp (by omega), bnd_eq, hT.2.2.1.2.1, bnd_eq]
  exact a2
theorem ps_k (hT : InvT P B Kp Jm I F K) (hN : InvN P B Kp Jm I F K) (hj : j < Jm) {M : Nat → Int32} (hM : ∀ b, b ≤ B → ∀ s', s' < 2 ^ Kp → M (512 * b + s') = nI (hvG (tI I F) (fI I F j) g Kp B b (cmS s'))) {e s : Nat} (he : e < B) (hs2 : s < 2 ^ Kp) {fr : Nat → Bool} (hfr : ∀ k, k < Kp → fr k = cmS s k) (x2 : Int32) (kc : Int32 → Option (Int32 × WI × WF)) : ∀ m n o, m ≤ Kp → m < n → o = fstK (gdK (tI I F) (fI I F j) g Kp B e fr) (Kp - m) m → L_X11_posts_73 kc (nI j) x2 (nI s) (nI e) J (uF K 12 M) n (kOf o) (nI m - nI 1) = kc (kOf (fstK (gdK (tI I F) (fI I F j) g Kp B e fr) Kp 0)) := by
  have hs := T_sz hT
  have hp := powB Kp (by omega)
  have z1 : ¬ nI 1 = nI 0 := by decide
  have hhv : ∀ b fr, hvG (tI I F) (fI I F j) g Kp B b fr ≤ 9 := fun b fr => Nat.le_trans (grd_le b fr B) hs.2.1
  intro m
  induction m with
  | zero =>
    intro n o h1 h2 h3
    obtain ⟨n, rfl⟩ : ∃ z, n = z + 1 := ⟨n - 1, by omega⟩
    rw [nf_L_X11_posts_73, if_pos (show nI 0 - nI 1 < nI 0 by decide), h3]
    rfl
  | succ m ih =>
    intro n o h1 h2 h3
    obtain ⟨n, rfl⟩ : ∃ z, n = z + 1 := ⟨n - 1, by omega⟩
    have er : fstK (gdK (tI I F) (fI I F j) g Kp B e fr) (Kp - m) m = if gdK (tI I F) (fI I F j) g Kp B e fr m then some m else o := by
      rw [h3, show Kp - m = (Kp - (m + 1)) + 1 by omega, fstK]
    have ihN := fun hgd : gdK (tI I F) (fI I F j) g Kp B e fr m = false => ih n o (by omega) (by omega) (by rw [er, hgd]; rfl)
    have ihY := fun hgd : gdK (tI I F) (fI I F j) g Kp B e fr m = true => ih n (some m) (by omega) (by omega) (by rw [er, hgd]; rfl)
    rw [nf_L_X11_posts_73, subN (by omega), Nat.add_sub_cancel, if_neg (show ¬ nI m < nI 0 from posN (by omega)), m1sub, uF_same]
    simp only [bnd_eq, nI_add, if_true, if_neg z1]
    cases hk : s.testBit m with
    | true =>
      have hgd : gdK (tI I F) (fI I F j) g Kp B e fr m = false := by
        unfold gdK
        rw [hfr m (by omega)]
        unfold cmS
        rw [hk]; rfl
      rw [has_yes ((inS_nat (by omega) (by omega)).mpr hk), ob_some, if_neg z1]
      exact ihN hgd
    | false =>
      rw [has_no (fun h => by rw [(inS_nat (by omega) (by omega)).mp h] at hk; exact absurd hk (by simp)), ob_some, if_pos rfl, can_m hT hN hj he (by omega), ob_some]
      by_cases q : tI I F m ≤ fI I F j e
      · rw [if_pos q, if_neg z1]
        have hor : s ||| 2 ^ m < 2 ^ Kp := Nat.or_lt_two_pow hs2 (Nat.pow_lt_pow_right (by omega) (by omega))
        have ei : nI 512 * nI (e + 1) + (nI s ||| (nI 1 <<< (nI m &&& nI 31))) = nI (512 * (e + 1) + (s ||| 2 ^ m)) := by
          rw [setb (by omega), pk_mul, nI_add]
        have ej : nI 512 * nI e + nI s = nI (512 * e + s) := by rw [pk_mul, nI_add]
        have hw : hvG (tI I F) (fI I F j) g Kp B (e + 1) (cmS (s ||| 2 ^ m)) = hvG (tI I F) (fI I F j) g Kp B (e + 1) (wo fr m) := by
          rw [cmS_or]
          exact (hv_congr (wo_congr hfr m) (e + 1)).symm
        have hw2 : hvG (tI I F) (fI I F j) g Kp B e (cmS s) = hvG (tI I F) (fI I F j) g Kp B e fr := (hv_congr hfr e).symm
        have e9 := hhv (e + 1) (wo fr m)
        have e8 := hhv e fr
        rw [ei, ej, ixN (by omega) (by omega), ixN (by omega) (by omega), nI_clamp (by omega), nI_clamp (by omega), hM (e + 1) (by omega) _ hor, hM e (by omega) _ hs2, hw, hw2, nI_add]
        by_cases q2 : hvG (tI I F) (fI I F j) g Kp B e fr = hvG (tI I F) (fI I F j) g Kp B (e + 1) (wo fr m) + 1
        · have hgd : gdK (tI I F) (fI I F j) g Kp B e fr m = true := by
            unfold gdK
            rw [hfr m (by omega)]
            unfold cmS
            rw [hk, decide_eq_true q, decide_eq_true q2]; rfl
          rw [if_pos (by rw [q2, Nat.add_comm])]
          exact ihY hgd
        · have hgd : gdK (tI I F) (fI I F j) g Kp B e fr m = false := by
            unfold gdK
            rw [decide_eq_false q2, Bool.and_false]
          rw [if_neg (by rw [eqN (by omega) (by omega)]; omega)]
          exact ihN hgd
      · have hgd : gdK (tI I F) (fI I F j) g Kp B e fr m = false := by
          unfold gdK
          rw [decide_eq_false q, Bool.and_false, Bool.false_and]
        rw [if_neg q, if_pos rfl]
        exact ihN hgd
theorem ps_e (hT : InvT P B Kp Jm I F K) (hN : InvN P B Kp Jm I F K) (hj : j < Jm) {M : Nat → Int32} (hM : ∀ b, b ≤ B → ∀ s', s' < 2 ^ Kp → M (512 * b + s') = nI (hvG (tI I F) (fI I F j) g Kp B b (cmS s'))) {b : Nat} (hb : b < B) (kc : Int32 → Option (Int32 × WI × WF)) : ∀ m e n s its, e + m = b + 1 → m < n → s < 2 ^ Kp → (∀ k, k < Kp → frs (tI I F) (fI I F j) g Kp B e k = cmS s k) → L_X11_posts_54 kc (nI j) (nI b) J (uF K 12 M) n (nI s) its (nI e) = kc (if m = 0 then its else kOf (lgK (tI I F) (fI I F j) g Kp B b (frs (tI I F) (fI I F j) g Kp B b))) := by
  have hs := T_sz hT
  have hp := powB Kp (by omega)
  intro m
  induction m with
  | zero =>
    intro e n s its h1 h2 h3 h4
    obtain ⟨n, rfl⟩ : ∃ z, n = z + 1 := ⟨n - 1, by omega⟩
    rw [nf_L_X11_posts_54, if_pos (by rw [ltN (by omega) (by omega)]; omega), if_pos rfl]
  | succ m ih =>
    intro e n s its h1 h2 h3 h4
    obtain ⟨n, rfl⟩ : ∃ z, n = z + 1 := ⟨n - 1, by omega⟩
    rw [nf_L_X11_posts_54, if_neg (show ¬ nI b < nI e by rw [ltN (by omega) (by omega)]; omega), bnd_eq, bnd_eq, uF_ne _ _ (show (2 : Nat) ≠ 12 by omega), hT.2.2.1.2.2.1, if_neg (show ¬ m + 1 = 0 by omega)]
    refine (ps_k hT hN hj hM (e := e) (by omega) h3 h4 (nI b) _ Kp FU none (Nat.le_refl _) (by rw [FU_big]; omega) (by rw [Nat.sub_self]; rfl)).trans ?_
    show (bnd _ _ : Option (Int32 × WI × WF)) = _
    rw [show fstK (gdK (tI I F) (fI I F j) g Kp B e (frs (tI I F) (fI I F j) g Kp B e)) Kp 0 = lgK (tI I F) (fI I F j) g Kp B e (frs (tI I F) (fI I F j) g Kp B e) from rfl]
    simp only [bnd_eq, nI_add]
    cases o : lgK (tI I F) (fI I F j) g Kp B e (frs (tI I F) (fI I F j) g Kp B e) with
    | none =>
      have e1 : frs (tI I F) (fI I F j) g Kp B (e + 1) = frs (tI I F) (fI I F j) g Kp B e := by
        rw [frs, o]; rfl
      rw [if_pos (show kOf none = -1 from rfl), orZ, ih (e + 1) n s (kOf none) (by omega) (by omega) h3 (by rw [e1]; exact h4)]
      by_cases m0 : m = 0
      · have : e = b := by omega
        subst this
        rw [if_pos m0, o]
      · rw [if_neg m0]
    | some k =>
      obtain ⟨k1, k2, k3, k4⟩ := lg_some o
      have e1 : frs (tI I F) (fI I F j) g Kp B (e + 1) = wo (frs (tI I F) (fI I F j) g Kp B e) k := by
        rw [frs, o]; rfl
      rw [if_neg (show ¬ kOf (some k) = -1 from m1N (by omega)), show kOf (some k) = nI k from rfl, setb (by omega), ih (e + 1) n (s ||| 2 ^ k) (nI k) (by omega) (by omega) (Nat.or_lt_two_pow h3 (Nat.pow_lt_pow_right (by omega) k1)) (fun i hi => by rw [e1, cmS_or]; exact wo_congr h4 k i hi)]
      by_cases m0 : m = 0
      · have : e = b := by omega
        subst this
        rw [if_pos m0, o]
        rfl
      · rw [if_neg m0]
end Posts
theorem step_posts : ∀ (I : WI) (F : WF) (J : WI) (K : WF) (x1 : Int32) (x2 : Int32), Inv I F J K → ∃ (a : Int32 × WI × WF) (b : Int32 × WI × WF), f_X10_posts x1 x2 I F = some a ∧ f_X11_posts x1 x2 J K = some b ∧ a.1 = b.1 ∧ Inv a.2.1 a.2.2 b.2.1 b.2.2 := fun I F J K x1 x2 h => by
  have h0 := h
  obtain ⟨P, B, Kp, Jm, hA⟩ := h
  have hT : InvT P B Kp Jm I F K := hA.1
  have hN : InvN P B Kp Jm I F K := hA.2.1
  have hs := T_sz hT
  have z1 : ¬ nI 1 = nI 0 := by decide
  have hp := powB Kp (by omega)
  by_cases h1 : inR x1 Jm
  · obtain ⟨j, hj, rfl⟩ := h1
    rw [nf_f_X10_posts, hasJ_in hT hj, ob_some, if_neg z1, nf_f_X11_posts]
    simp only [bnd_eq]
    rw [isJ_in hT hj, ob_some, if_neg z1]
    obtain ⟨g, ch, fl, tm, bf, hg, c1, c2⟩ := choose_c hT hj
    obtain ⟨M, m1, m2⟩ := gives_m (J := upd J 0 (nI 0)) (g := g) hT hN hj hg
    have fin : ∀ x, Inv (upd I 56 x) (WP F ch fl tm bf) (upd J 0 (nI 0)) (uF K 12 M) := fun x => ⟨P, B, Kp, Jm, InvP_scr hA (fun n hn => upd_ne (by omega)) (fun a ha => WP_ne _ _ _ _ _ (by omega)) (fun n hn => upd_ne hn) (fun a ha => uF_ne _ _ (by omega))⟩
    rw [c1, m1, ob_some, ob_some]
    dsimp only
    by_cases h2 : x2 = -1
    · rw [if_pos h2, if_pos h2, if_pos h2, if_pos h2]
      refine ⟨_, _, rfl, rfl, ?_, fin _⟩
      have e' : M 0 = nI (hvG (tI I F) (fI I F j) g Kp B 0 (cmS 0)) := m2 0 (Nat.zero_le _) 0 (by omega)
      have hM0 : M 0 = nI (hvG (tI I F) (fI I F j) g Kp B 0 (fun _ => true)) := by
        rw [e', hv_congr (fr := cmS 0) (fr' := fun _ => true) (fun k _ => by
          show (!(0 : Nat).testBit k) = true
          rw [Nat.zero_testBit]; rfl) 0]
      show upd I 56 (nI (hvG (tI I F) (fI I F j) g Kp B 0 (fun _ => true))) 56 = uF K 12 M 12 0
      rw [uF_same, hM0]
      exact upd_same
    · rw [if_neg h2, if_neg h2, if_neg h2, if_neg h2]
      by_cases h3 : inR x2 B
      · obtain ⟨b, hb, rfl⟩ := h3
        rw [hasB_in hT hb, ob_some, if_neg z1, isB_in hT hb, ob_some, if_neg z1, ixN (by omega) (by omega), nI_clamp (by omega), WP_170, c2 b hb]
        rw [show L_X11_posts_54 (fun x4_1573 => some (x4_1573, upd J 0 (nI 0), uF K 12 M)) (nI j) (nI b) (upd J 0 (nI 0)) (uF K 12 M) FU (nI 0) (-1) (nI 0) = _ from ps_e hT hN hj m2 hb (fun x4_1573 => some (x4_1573, upd J 0 (nI 0), uF K 12 M)) (b + 1) 0 FU 0 (-1) (by omega) (by rw [FU_big]; omega) (by omega) (fun k hk => by
          show true = !(0 : Nat).testBit k
          rw [Nat.zero_testBit]; rfl)]
        exact ⟨_, _, rfl, rfl, rfl, fin _⟩
      · rw [hasB_out hT h3, ob_some, if_pos rfl, isB_out hT h3, ob_some, if_pos rfl]
        exact ⟨_, _, rfl, rfl, rfl, Inv_J0 h0⟩
  · refine ⟨(-1000000001, I, F), (-1000000001, upd J 0 (nI 0), K), ?_, ?_, rfl, Inv_J0 h0⟩
    · rw [nf_f_X10_posts, hasJ_out hT h1, ob_some, if_pos rfl]
    · rw [nf_f_X11_posts, bnd_eq, isJ_out hT h1, ob_some, if_pos rfl]
