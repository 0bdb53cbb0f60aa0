/-! pure layer: pays, tires -/
theorem lgc {a b : Nat} (ha : a < 2 ^ 63) (hb : b < 2 ^ 63) : (lg_cmp (lN a) (lN b) ≤ nI 0) = (a ≤ b) := by
  rw [lg_cmp]
  by_cases h1 : b < a
  · rw [if_pos ((pk_lLT hb ha).mpr h1)]
    exact propext ⟨fun h => absurd h (by decide), fun h => absurd h (by omega)⟩
  · rw [if_neg (fun h => h1 ((pk_lLT hb ha).mp h))]
    by_cases h2 : a = b
    · rw [if_pos (by rw [h2])]
      exact propext ⟨fun _ => by omega, fun _ => by decide⟩
    · rw [if_neg (fun h => h2 ((pk_lEQ ha hb).mp h))]
      exact propext ⟨fun _ => by omega, fun _ => by decide⟩
abbrev payN (q v n : Nat) : Nat := n * v * chN q n
theorem payN_lt {q v n : Nat} (hq : q ≤ 100) (hv : v ≤ 99) (hn : n ≤ 60) : payN q v n < 2 ^ 63 := by
  have h1 := chN_le hq n
  have h2 : n * v ≤ 60 * 99 := Nat.mul_le_mul hn hv
  exact Nat.lt_of_le_of_lt (Nat.mul_le_mul h2 h1) (by decide)
def bstN (pay : Nat → Nat) : Nat → Nat → Nat → Nat
  | 0, _, b => b
  | m + 1, n, b => bstN pay m (n + 1) (if pay n ≤ pay b then b else n)
theorem pays_c {q v : Nat} (hq : q ≤ 100) (hv : v ≤ 99) (c : Int32 → Option Int32) : ∀ m i b n, i + m = 30 → m < n → b ≤ 30 → L_X10_pays_37 c (nI v) (nI q) n (nI b) (lN (payN q v b)) (nI (chN q i)) (nI (i + 1)) = c (nI (bstN (payN q v) m (i + 1) b)) := by
  intro m
  induction m with
  | zero =>
    intro i b n h1 h2 h3
    obtain ⟨n, rfl⟩ : ∃ z, n = z + 1 := ⟨n - 1, by omega⟩
    rw [nf_L_X10_pays_37, if_pos (by rw [ltN (by omega) (by omega)]; omega)]
    rfl
  | succ m ih =>
    intro i b n h1 h2 h3
    obtain ⟨n, rfl⟩ : ∃ z, n = z + 1 := ⟨n - 1, by omega⟩
    have hl := payN_lt (n := i + 1) hq hv (by omega)
    have hl2 := payN_lt (n := b) hq hv (by omega)
    rw [nf_L_X10_pays_37, if_neg (by rw [ltN (by omega) (by omega)]; omega), partOf_eq (chN_le hq i) hq, ob_some]
    have hc : chN q i * q / 100 = chN q (i + 1) := rfl
    have hcl := chN_le hq (i + 1)
    simp only [bnd_eq, hc]
    rw [nI_l (by omega), nI_l (by omega), nI_l (by omega), lN_mul, lN_mul, nI_add]
    rw [bstN]
    by_cases h : payN q v (i + 1) ≤ payN q v b
    · rw [if_pos (by rw [lgc hl hl2]; exact h), if_pos h]
      exact ih (i + 1) b n (by omega) (by omega) h3
    · rw [if_neg (by rw [lgc hl hl2]; exact h), if_neg h]
      exact ih (i + 1) (i + 1) n (by omega) (by omega) (by omega)
theorem pays_m {J : WI} {K : WF} {q v : Nat} (hq : q ≤ 100) (hv : v ≤ 99) (c : Int32 → Option (Int32 × WI)) : ∀ m i b n, i + m = 30 → m < n → b ≤ 30 → L_X11_pays_33 c (nI v) (nI q) J K n (nI b) (nI (i + 1)) = c (nI (bstN (payN q v) m (i + 1) b)) := by
  intro m
  induction m with
  | zero =>
    intro i b n h1 h2 h3
    obtain ⟨n, rfl⟩ : ∃ z, n = z + 1 := ⟨n - 1, by omega⟩
    rw [nf_L_X11_pays_33, if_pos (by rw [ltN (by omega) (by omega)]; omega)]
    rfl
  | succ m ih =>
    intro i b n h1 h2 h3
    obtain ⟨n, rfl⟩ : ∃ z, n = z + 1 := ⟨n - 1, by omega⟩
    have hl := payN_lt (n := i + 1) hq hv (by omega)
    have hl2 := payN_lt (n := b) hq hv (by omega)
    rw [nf_L_X11_pays_33, if_neg (by rw [ltN (by omega) (by omega)]; omega), chance_eq hq (by omega), chance_eq hq (by omega), ob_some, ob_some]
    simp only [bnd_eq]
    rw [nI_l (by omega), nI_l (by omega), nI_l (by omega), lN_mul, lN_mul, lN_mul, lN_mul, nI_add, bstN]
    by_cases h : payN q v (i + 1) ≤ payN q v b
    · rw [if_pos (by rw [lgc hl hl2]; exact h), if_pos h]
      exact ih (i + 1) b n (by omega) (by omega) h3
    · rw [if_neg (by rw [lgc hl hl2]; exact h), if_neg h]
      exact ih (i + 1) (i + 1) n (by omega) (by omega) (by omega)
theorem pays_cc {q v : Nat} (hq : q ≤ 100) (v1 : 1 ≤ v) (v2 : v ≤ 99) : f_X10_pays (nI v) (nI q) = some (nI (bstN (payN q v) 30 1 0)) := by
  have e := pays_c (q := q) (v := v) hq v2 (fun x => some x) 30 0 0 FU (by omega) (by rw [FU_big]; omega) (by omega)
  have e0 : lN (payN q v 0) = 0 := by rw [payN, Nat.zero_mul, Nat.zero_mul]; rfl
  rw [e0, show chN q 0 = 1000000000 from rfl, Nat.zero_add] at e
  rw [nf_f_X10_pays]
  simp (disch := omega) only [bnd_eq, ltN, leN, show ¬ v < 1 by omega, show ¬ 99 < v by omega, show ¬ q < 0 by omega, show q ≤ 100 by omega, if_true, if_false, e]
theorem pays_mm {J : WI} {K : WF} {q v : Nat} (hq : q ≤ 100) (v1 : 1 ≤ v) (v2 : v ≤ 99) : f_X11_pays (nI v) (nI q) J K = some (nI (bstN (payN q v) 30 1 0), upd J 0 (nI 0)) := by
  have e := pays_m (J := upd J 0 (nI 0)) (K := K) (q := q) (v := v) hq v2 (fun x => some (x, upd J 0 (nI 0))) 30 0 0 FU (by omega) (by rw [FU_big]; omega) (by omega)
  rw [Nat.zero_add] at e
  rw [nf_f_X11_pays]
  simp (disch := omega) only [bnd_eq, in_in, ob_some, eqN, Nat.one_ne_zero, if_false, e]
theorem step_pays : ∀ (I : WI) (F : WF) (J : WI) (K : WF) (x1 : Int32) (x2 : Int32), Inv I F J K → ∃ (a : Int32) (b : Int32 × WI), f_X10_pays x1 x2 = some a ∧ f_X11_pays x1 x2 J K = some b ∧ a = b.1 ∧ Inv I F b.2 K := fun I F J K x1 x2 h => by
  rw [nf_f_X10_pays, nf_f_X11_pays]
  by_cases h1 : ∃ v, 1 ≤ v ∧ v ≤ 99 ∧ x1 = nI v
  · obtain ⟨v, v1, v2, rfl⟩ := h1
    by_cases h2 : inR x2 101
    · obtain ⟨q, hq, rfl⟩ := h2
      refine ⟨nI (bstN (payN q v) 30 1 0), (nI (bstN (payN q v) 30 1 0), upd J 0 (nI 0)), ?_, ?_, rfl, Inv_J0 h⟩
      · rw [← nf_f_X10_pays]; exact pays_cc (by omega) v1 v2
      · rw [← nf_f_X11_pays]; exact pays_mm (by omega) v1 v2
    · refine ⟨-1000000002, (-1000000002, upd J 0 (nI 0)), ?_, ?_, rfl, Inv_J0 h⟩
      · simp (disch := omega) only [bnd_eq, ltN, leN, show ¬ v < 1 by omega, show ¬ 99 < v by omega, if_false]
        rcases out_ifs (by omega) h2 with h3 | h3
        · rw [if_pos h3]
        · by_cases h4 : x2 < nI 0
          · rw [if_pos h4]
          · rw [if_neg h4, if_neg (Int32.not_le.mpr h3)]
      · simp (disch := omega) [bnd_eq, in_in, ob_some, eqN, in_out (x := x2) (a := 0) (b := 100) (by omega) (fun j _ hj => nin h2 j (by omega)) (by omega)]
  · have h3 : x1 < nI 1 ∨ nI 99 < x1 := by
      rcases pk_ix x1 (n := 100) (by omega) with h2 | h2 | ⟨j, hj, e⟩
      · exact Or.inl (Int32.lt_trans h2 (by decide))
      · exact Or.inr (Int32.lt_of_lt_of_le (by decide) h2)
      · by_cases hj0 : j = 0
        · subst hj0; exact Or.inl (by rw [e]; decide)
        · exact absurd ⟨j, by omega, by omega, e⟩ h1
    refine ⟨-1000000002, (-1000000002, upd J 0 (nI 0)), ?_, ?_, rfl, Inv_J0 h⟩
    · rcases h3 with h3 | h3
      · rw [if_pos h3]
      · by_cases h4 : x1 < nI 1
        · rw [if_pos h4]
        · rw [if_neg h4, if_pos h3]
    · simp (disch := omega) [bnd_eq, ob_some, eqN, in_out (x := x1) (a := 1) (b := 99) (by omega) (fun j j1 j2 e => h1 ⟨j, j1, j2, e⟩) (by omega)]
def trN (tooSlow : Nat → Prop) [DecidablePred tooSlow] (t0 : Nat) : Nat → Nat → Int32
  | 0, _ => -1
  | m + 1, t => if tooSlow t then nI (t - t0) else trN tooSlow t0 m (t + 1)
theorem step_tires : ∀ (I : WI) (F : WF) (J : WI) (K : WF) (x1 : Int32) (x2 : Int32), Inv I F J K → ∃ (a : Int32) (b : Int32 × WI), f_X10_tires x1 x2 I F = some a ∧ f_X11_tires x1 x2 J K = some b ∧ a = b.1 ∧ Inv I F b.2 K := fun I F J K x1 x2 h => by
  have h0 := h
  obtain ⟨P, B, Kp, Jm, hT, hN, -⟩ := h
  have hs := T_sz hT
  rw [nf_f_X10_tires, nf_f_X11_tires]
  by_cases h1 : inR x1 Jm
  · obtain ⟨j, hj, rfl⟩ := h1
    by_cases h2 : inR x2 B
    · obtain ⟨b, hb, rfl⟩ := h2
      cases hk : kAt (F 1) (nI b) Kp 0 with
      | none =>
        refine ⟨-1000000003, (-1000000003, upd J 0 (nI 0)), ?_, ?_, rfl, Inv_J0 h0⟩ <;> simp (disch := omega) [bnd_eq, ob_some, eqN, hasJ_in hT hj, isJ_in hT hj, hasB_in hT hb, isB_in hT hb, kpC hT, kpM hT hN, hk, kOf]
      | some k =>
        have hk2 := (kAt_some hk).1
        obtain ⟨-, -, ⟨t0, ht0, et⟩, e1, -, e3⟩ := hN.2.2.2.1 k hk2
        have e4 := (hT.2.2.2.2.1 k hk2).2.2.1
        have hc : ∀ m t n, t + m = 100 → m < n → t0 ≤ t → L_X10_tires_64 (some (-1)) (nI k) (flF I F j b) I F n (nI t) = some (trN (fun t => ¬ tmv (F 165 k) (F 0 k) (I 0) (nI t) ≤ flF I F j b) t0 m t) := by
          intro m
          induction m with
          | zero =>
            intro t n q1 q2 q3
            obtain ⟨n, rfl⟩ : ∃ z, n = z + 1 := ⟨n - 1, by omega⟩
            rw [nf_L_X10_tires_64, if_pos (by rw [ltN (by omega) (by omega)]; omega)]
            rfl
          | succ m ih =>
            intro t n q1 q2 q3
            obtain ⟨n, rfl⟩ : ∃ z, n = z + 1 := ⟨n - 1, by omega⟩
            rw [nf_L_X10_tires_64, if_neg (by rw [ltN (by omega) (by omega)]; omega), timeIf_c (by omega), ob_some, trN]
            simp (disch := omega) only [bnd_eq, ixN, nI_clamp, nI_add, et, subN]
            by_cases hw : tmv (F 165 k) (F 0 k) (I 0) (nI t) ≤ flF I F j b
            · rw [if_pos hw, if_neg (fun q => q hw)]
              exact ih (t + 1) n (by omega) (by omega) (by omega)
            · rw [if_neg hw, if_pos hw]
        have hm : ∀ m t n, t + m = 100 → m < n → t0 ≤ t → L_X11_tires_41 (some (-1, upd J 0 (nI 0))) (nI j) (nI b) (nI k) (upd J 0 (nI 0)) K n (nI (t - t0)) = some (trN (fun t => ¬ tmv (F 165 k) (F 0 k) (I 0) (nI t) ≤ flF I F j b) t0 m t, upd J 0 (nI 0)) := by
          intro m
          induction m with
          | zero =>
            intro t n q1 q2 q3
            obtain ⟨n, rfl⟩ : ∃ z, n = z + 1 := ⟨n - 1, by omega⟩
            rw [nf_L_X11_tires_41]
            simp (disch := omega) only [nI_add, ixN, nI_clamp, e3, et]
            rw [if_pos (by rw [ltN (by omega) (by omega)]; omega)]
            rfl
          | succ m ih =>
            intro t n q1 q2 q3
            obtain ⟨n, rfl⟩ : ∃ z, n = z + 1 := ⟨n - 1, by omega⟩
            rw [nf_L_X11_tires_41]
            simp (disch := omega) only [nI_add, ixN, nI_clamp, e3, et, bnd_eq]
            rw [if_neg (by rw [ltN (by omega) (by omega)]; omega), timeBy_m (by omega), ob_some, flM hT hN hj hb, ob_some, trN, e4, e1, hN.2.1, show t0 + (t - t0) = t by omega]
            by_cases hw : tmv (F 165 k) (F 0 k) (I 0) (nI t) ≤ flF I F j b
            · rw [if_pos hw, if_neg (fun q => q hw), show t - t0 + 1 = t + 1 - t0 by omega]
              exact ih (t + 1) n (by omega) (by omega) (by omega)
            · rw [if_neg hw, if_pos hw]
        refine ⟨trN (fun t => ¬ tmv (F 165 k) (F 0 k) (I 0) (nI t) ≤ flF I F j b) t0 (100 - t0) t0, (trN (fun t => ¬ tmv (F 165 k) (F 0 k) (I 0) (nI t) ≤ flF I F j b) t0 (100 - t0) t0, upd J 0 (nI 0)), ?_, ?_, rfl, Inv_J0 h0⟩
        · simp (disch := omega) only [bnd_eq, ob_some, eqN, hasJ_in hT hj, hasB_in hT hb, kpC hT, hk, kOf, m1N, flC hT hj hb, ixN, nI_clamp, et, Nat.one_ne_zero, if_false]
          exact hc (100 - t0) t0 FU (by omega) (by rw [FU_big]; omega) (by omega)
        · simp (disch := omega) only [bnd_eq, ob_some, eqN, isJ_in hT hj, isB_in hT hb, kpM hT hN, hk, kOf, m1N, Nat.one_ne_zero, if_false]
          have := hm (100 - t0) t0 FU (by omega) (by rw [FU_big]; omega) (by omega)
          rw [Nat.sub_self] at this
          exact this
    · refine ⟨-1000000001, (-1000000001, upd J 0 (nI 0)), ?_, ?_, rfl, Inv_J0 h0⟩ <;> simp (disch := omega) [bnd_eq, ob_some, eqN, hasJ_in hT hj, isJ_in hT hj, hasB_out hT h2, isB_out hT h2]
  · refine ⟨-1000000001, (-1000000001, upd J 0 (nI 0)), ?_, ?_, rfl, Inv_J0 h0⟩
    · simp [hasJ_out hT h1, ob_some]
    · simp [bnd_eq, isJ_out hT h1, ob_some]
