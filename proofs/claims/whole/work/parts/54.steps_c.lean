/-! pure layer: judge, roll, tires, exact, pays -/
def jdN (wrong : Nat → Prop) [DecidablePred wrong] : Nat → Nat → Int32
  | 0, _ => -1
  | m + 1, i => if wrong i then nI i else jdN wrong m (i + 1)
theorem step_judge : ∀ (I : WI) (F : WF) (J : WI) (K : WF), Inv I F J K → ∃ (a : Int32) (b : Int32 × WI), f_X10_judge  I F = some a ∧ f_X11_judge  J K = some b ∧ a = b.1 ∧ Inv I F b.2 K := fun I F J K h => by
  have h0 := h
  obtain ⟨P, B, Kp, Jm, hT, hN, hS, hX, hf, hSe, hB, hP, hI⟩ := h
  have hs := T_sz hT
  obtain ⟨z, z1, z2, z3, z4⟩ := hB
  have hc : ∀ m i n, i + m = z → m < n → L_X0_firstWrong_39_22_2 (some (-1)) I F n (nI i) = some (jdN (fun i => ¬ F 3 (F 174 i).toNatClampNeg = F 175 i) m i) := by
    intro m
    induction m with
    | zero =>
      intro i n h1 h2
      obtain ⟨n, rfl⟩ : ∃ q, n = q + 1 := ⟨n - 1, by omega⟩
      rw [nf_L_X0_firstWrong_39_22_2, z2, if_pos (by rw [leN (by omega) (by omega)]; omega)]
      rfl
    | succ m ih =>
      intro i n h1 h2
      obtain ⟨n, rfl⟩ : ∃ q, n = q + 1 := ⟨n - 1, by omega⟩
      obtain ⟨⟨j, hj, ej⟩, -⟩ := z4 i (by omega)
      rw [nf_L_X0_firstWrong_39_22_2, z2, if_neg (by rw [leN (by omega) (by omega)]; omega), jdN]
      simp (disch := omega) only [ixN, nI_clamp, bnd_eq, nI_add, ej]
      by_cases hw : F 3 j = F 175 i
      · rw [if_pos hw, if_neg (fun q => q hw)]
        exact ih (i + 1) n (by omega) (by omega)
      · rw [if_neg hw, if_pos hw]
  have hm : ∀ m i n, i + m = z → m < n → L_X11_judge_7 (some (-1, upd J 0 (nI 0))) (upd J 0 (nI 0)) K n (nI i) = some (jdN (fun i => ¬ F 3 (F 174 i).toNatClampNeg = F 175 i) m i, upd J 0 (nI 0)) := by
    intro m
    induction m with
    | zero =>
      intro i n h1 h2
      obtain ⟨n, rfl⟩ : ∃ q, n = q + 1 := ⟨n - 1, by omega⟩
      rw [nf_L_X11_judge_7, show upd J 0 (nI 0) 8 = nI z from z3, if_pos (by rw [leN (by omega) (by omega)]; omega)]
      rfl
    | succ m ih =>
      intro i n h1 h2
      obtain ⟨n, rfl⟩ : ∃ q, n = q + 1 := ⟨n - 1, by omega⟩
      obtain ⟨⟨j, hj, ej⟩, -, e1, e2⟩ := z4 i (by omega)
      have e3 := (hN.2.2.2.2.2.1 j hj).2.2.2.2.1
      rw [nf_L_X11_judge_7, show upd J 0 (nI 0) 8 = nI z from z3, if_neg (by rw [leN (by omega) (by omega)]; omega), jdN]
      simp (disch := omega) only [ixN, nI_clamp, bnd_eq, nI_add, e1, e2, ej, Nat.zero_add, e3]
      by_cases hw : F 3 j = F 175 i
      · rw [if_pos hw, if_neg (fun q => q hw)]
        exact ih (i + 1) n (by omega) (by omega)
      · rw [if_neg hw, if_pos hw]
  refine ⟨jdN (fun i => ¬ F 3 (F 174 i).toNatClampNeg = F 175 i) z 0, (jdN (fun i => ¬ F 3 (F 174 i).toNatClampNeg = F 175 i) z 0, upd J 0 (nI 0)), ?_, ?_, rfl, Inv_J0 h0⟩
  · rw [nf_f_X10_judge, nf_f_X0_firstWrong_39_22, bnd_eq, hc z 0 FU (by omega) (by rw [FU_big]; omega)]; rfl
  · rw [nf_f_X11_judge, bnd_eq, bnd_eq]
    exact hm z 0 FU (by omega) (by rw [FU_big]; omega)
theorem sh8 : (nI 8 &&& nI 31) = nI 8 := by decide
theorem sh5 : (nI 5 &&& nI 31) = nI 5 := by decide
theorem sh1 : (nI 1 &&& nI 31) = nI 1 := by decide
theorem shr8 {n : Nat} (h : n < 2 ^ 31) : nI n >>> nI 8 = nI (n / 256) := pk_shrN h (nI 8) 8 (by decide)
theorem shr5 {n : Nat} (h : n < 2 ^ 31) : nI n >>> nI 5 = nI (n / 32) := pk_shrN h (nI 5) 5 (by decide)
theorem shr1 {n : Nat} (h : n < 2 ^ 31) : nI n >>> nI 1 = nI (n / 2) := pk_shrN h (nI 1) 1 (by decide)
theorem and7 {n : Nat} (h : n < 2 ^ 31) : nI n &&& nI 7 = nI (n % 8) := pk_andN (by omega) 3 (by decide)
theorem and15 {n : Nat} (h : n < 2 ^ 31) : nI n &&& nI 15 = nI (n % 16) := pk_andN (by omega) 4 (by decide)
theorem and1 {n : Nat} (h : n < 2 ^ 31) : nI n &&& nI 1 = nI (n % 2) := pk_andN (by omega) 1 (by decide)
theorem step_roll : ∀ (I : WI) (F : WF) (J : WI) (K : WF) (x1 : Int32) (x2 : Int32), Inv I F J K → ∃ (a : Int32) (b : Int32 × WI), f_X10_roll x1 x2 I F = some a ∧ f_X11_roll x1 x2 J K = some b ∧ a = b.1 ∧ Inv I F b.2 K := fun I F J K x1 x2 h => by
  have h0 := h
  obtain ⟨P, B, Kp, Jm, hT, hN, -⟩ := h
  obtain ⟨-, -, hv, -, -, -, r, hr, er, hro⟩ := hN
  rw [er] at hv
  rw [nf_f_X10_roll, nf_f_X11_roll]
  by_cases h2 : inR x2 4
  · obtain ⟨q, hq, rfl⟩ := h2
    by_cases h1 : inR x1 r
    · obtain ⟨i, hi, rfl⟩ := h1
      obtain ⟨hh, jj, bb, cc, b1, b2, b3, b4, e0, e1, e2, e3, e4⟩ := hro i hi
      have hin : f_X11_in (nI i) (nI 0) (nI r - nI 1) = some (nI 1) := by rw [subN (by omega)]; exact in_in (by omega) (by omega) (by omega)
      rcases c4 hq with rfl | rfl | rfl | rfl
      · refine ⟨nI hh, (nI hh, upd J 0 (nI 0)), ?_, ?_, rfl, Inv_J0 h0⟩
        · simp (disch := omega) [ob_some, bnd_eq, ltN, leN, eqN, nf_f_X6_rollEntry_22, er, hi, ixN, nI_clamp, e0, sh8, shr8]
          congr 1; omega
        · simp (disch := omega) [ob_some, bnd_eq, in_in, eqN, hv, hin, pk_mul, nI_add, ixN, nI_clamp, e1]
      · refine ⟨nI jj, (nI jj, upd J 0 (nI 0)), ?_, ?_, rfl, Inv_J0 h0⟩
        · simp (disch := omega) [ob_some, bnd_eq, ltN, leN, eqN, nf_f_X6_rollEntry_22, er, hi, ixN, nI_clamp, e0, sh5, shr5, and7]
          congr 1; omega
        · simp (disch := omega) [ob_some, bnd_eq, in_in, eqN, hv, hin, pk_mul, nI_add, ixN, nI_clamp]
          rw [show 53 + 4 * i + 1 = 54 + 4 * i by omega, e2]
      · refine ⟨nI bb, (nI bb, upd J 0 (nI 0)), ?_, ?_, rfl, Inv_J0 h0⟩
        · simp (disch := omega) [ob_some, bnd_eq, ltN, leN, eqN, nf_f_X6_rollEntry_22, er, hi, ixN, nI_clamp, e0, sh1, shr1, and15]
          congr 1; omega
        · simp (disch := omega) [ob_some, bnd_eq, in_in, eqN, hv, hin, pk_mul, nI_add, ixN, nI_clamp]
          rw [show 53 + 4 * i + 2 = 55 + 4 * i by omega, e3]
      · refine ⟨nI cc, (nI cc, upd J 0 (nI 0)), ?_, ?_, rfl, Inv_J0 h0⟩
        · simp (disch := omega) [ob_some, bnd_eq, ltN, leN, eqN, nf_f_X6_rollEntry_22, er, hi, ixN, nI_clamp, e0, and1]
          congr 1; omega
        · simp (disch := omega) [ob_some, bnd_eq, in_in, eqN, hv, hin, pk_mul, nI_add, ixN, nI_clamp]
          rw [show 53 + 4 * i + 3 = 56 + 4 * i by omega, e4]
    · refine ⟨-1, (-1, upd J 0 (nI 0)), ?_, ?_, rfl, Inv_J0 h0⟩
      · have e : f_X6_rollEntry_22 x1 (nI q) I F = some (-1) := by
          rw [nf_f_X6_rollEntry_22, er]
          rcases inR_out (by omega) h1 with h2 | h2
          · rw [if_pos (show x1 < nI 0 from h2)]
          · by_cases h3 : x1 < nI 0
            · rw [if_pos h3]
            · rw [if_neg h3, if_neg (Int32.not_lt.mpr h2)]
        simp (disch := omega) [ltN, leN, e, ob_some, show q ≤ 3 by omega]
      · have e : (Option.bind (f_X11_in x1 (nI 0) (nI r - nI 1)) fun c => bzG c (some c)) = some (nI 0) := is_out (by omega) h1
        obtain ⟨c, hc1, hc2⟩ := Option.bind_eq_some_iff.mp e
        have hc3 := (bzG_e hc2).2
        cases hc3
        simp (disch := omega) [ob_some, bnd_eq, in_in, eqN, hv, hc1]
  · refine ⟨-1000000002, (-1000000002, upd J 0 (nI 0)), ?_, ?_, rfl, Inv_J0 h0⟩
    · rcases inR_out (by decide) h2 with h3 | h3
      · rw [if_pos (show x2 < nI 0 from h3)]
      · by_cases h4 : x2 < nI 0
        · rw [if_pos h4]
        · rw [if_neg h4, if_neg (fun h5 => absurd (Int32.le_trans h3 h5) (by decide))]
    · simp (disch := omega) [bnd_eq, ob_some, eqN, in_out (x := x2) (a := 0) (b := 3) (by omega) (fun j _ hj => nin h2 j (by omega)) (by omega)]
/-- odds -/
def chN (q : Nat) : Nat → Nat
  | 0 => 1000000000
  | n + 1 => chN q n * q / 100
theorem chN_le {q : Nat} (hq : q ≤ 100) : ∀ n, chN q n ≤ 1000000000 := by
  intro n
  induction n with
  | zero => exact Nat.le_refl _
  | succ n ih =>
    rw [chN]
    have : chN q n * q ≤ 1000000000 * 100 := Nat.mul_le_mul ih hq
    omega
theorem l64_100 : (100 : Int64) = lN 100 := rfl
theorem l64_b : (1000000000 : Int64) = lN 1000000000 := rfl
theorem mul_lt {a b : Nat} (ha : a ≤ 1000000000) (hb : b ≤ 100) : a * b < 2 ^ 63 := Nat.lt_of_le_of_lt (Nat.mul_le_mul ha hb) (by decide)
theorem partOf_eq {o q : Nat} (ho : o ≤ 1000000000) (hq : q ≤ 100) : f_X10_partOf (nI o) (nI q) = some (nI (o * q / 100)) := by
  rw [nf_f_X10_partOf, nI_l (by omega), nI_l (by omega), lN_mul, l64_100, pk_lDiv (mul_lt ho hq) (by omega) (by omega), lN_i]
theorem chance_m {x q : Nat} (hq : q ≤ 100) (hx : x ≤ 60) (c : Int64 → Option Int64) : ∀ m i n, i + m = x → m < n → L_X11_chanceOf_7 c (nI x) (nI q) n (lN (chN q i)) (nI i) = c (lN (chN q x)) := by
  intro m
  induction m with
  | zero =>
    intro i n h1 h2
    obtain ⟨n, rfl⟩ : ∃ z, n = z + 1 := ⟨n - 1, by omega⟩
    have : i = x := by omega
    subst this
    rw [nf_L_X11_chanceOf_7, if_pos (by rw [leN (by omega) (by omega)]; omega)]
  | succ m ih =>
    intro i n h1 h2
    obtain ⟨n, rfl⟩ : ∃ z, n = z + 1 := ⟨n - 1, by omega⟩
    have hl := chN_le hq i
    rw [nf_L_X11_chanceOf_7, if_neg (by rw [leN (by omega) (by omega)]; omega), bnd_eq, bnd_eq, nI_l (by omega), lN_mul, l64_100, pk_lDiv (mul_lt hl hq) (by omega) (by omega), nI_add]
    exact ih (i + 1) n (by omega) (by omega)
theorem chance_eq {x q : Nat} (hq : q ≤ 100) (hx : x ≤ 60) : f_X11_chanceOf (nI x) (nI q) = some (lN (chN q x)) := by
  rw [nf_f_X11_chanceOf, bnd_eq, bnd_eq, l64_b]
  exact chance_m hq hx _ x 0 FU (by omega) (by rw [FU_big]; omega)
theorem exact_c {x q : Nat} (hq : q ≤ 100) (hx : x ≤ 60) (c : Int32 → Option Int32) : ∀ m i n, i + m = x → m < n → L_X10_exact_30 c (nI x) (nI q) n (nI (chN q i)) (nI i) = c (nI (chN q x)) := by
  intro m
  induction m with
  | zero =>
    intro i n h1 h2
    obtain ⟨n, rfl⟩ : ∃ z, n = z + 1 := ⟨n - 1, by omega⟩
    have : i = x := by omega
    subst this
    rw [nf_L_X10_exact_30, if_pos (by rw [leN (by omega) (by omega)]; omega)]
  | succ m ih =>
    intro i n h1 h2
    obtain ⟨n, rfl⟩ : ∃ z, n = z + 1 := ⟨n - 1, by omega⟩
    rw [nf_L_X10_exact_30, if_neg (by rw [leN (by omega) (by omega)]; omega), partOf_eq (chN_le hq i) hq, ob_some, bnd_eq, bnd_eq, nI_add]
    exact ih (i + 1) n (by omega) (by omega)
theorem out_ifs {x : Int32} {n : Nat} (hn : n + 1 < 2 ^ 31) (h : ¬ inR x (n + 1)) : x < nI 0 ∨ nI n < x := by
  rcases inR_out hn h with h1 | h1
  · exact Or.inl h1
  · exact Or.inr (Int32.lt_of_lt_of_le ((nI_ltI (by omega) (by omega)).mpr (Nat.lt_succ_self n)) h1)
theorem step_exact : ∀ (I : WI) (F : WF) (J : WI) (K : WF) (x1 : Int32) (x2 : Int32), Inv I F J K → ∃ (a : Int32) (b : Int32 × WI), f_X10_exact x1 x2 = some a ∧ f_X11_exact x1 x2 J K = some b ∧ a = b.1 ∧ Inv I F b.2 K := fun I F J K x1 x2 h => by
  rw [nf_f_X10_exact, nf_f_X11_exact]
  by_cases h1 : inR x1 61
  · obtain ⟨x, hx, rfl⟩ := h1
    by_cases h2 : inR x2 101
    · obtain ⟨q, hq, rfl⟩ := h2
      refine ⟨nI (chN q x), (nI (chN q x), upd J 0 (nI 0)), ?_, ?_, rfl, Inv_J0 h⟩
      · have e := exact_c (x := x) (q := q) (by omega) (by omega) (fun x => some x) x 0 FU (by omega) (by rw [FU_big]; omega)
        simp (disch := omega) only [bnd_eq, ltN, leN, show ¬ x < 0 by omega, show ¬ 60 < x by omega, show ¬ q < 0 by omega, show q ≤ 100 by omega, if_true, if_false]
        exact e
      · simp (disch := omega) [bnd_eq, in_in, ob_some, eqN, chance_eq, lN_i]
    · refine ⟨-1000000002, (-1000000002, upd J 0 (nI 0)), ?_, ?_, rfl, Inv_J0 h⟩
      · simp (disch := omega) only [bnd_eq, ltN, leN, show ¬ x < 0 by omega, show ¬ 60 < x by omega, if_false]
        rcases out_ifs (by omega) h2 with h3 | h3
        · rw [if_pos h3]
        · by_cases h4 : x2 < nI 0
          · rw [if_pos h4]
          · rw [if_neg h4, if_neg (Int32.not_le.mpr h3)]
      · simp (disch := omega) [bnd_eq, in_in, ob_some, eqN, in_out (x := x2) (a := 0) (b := 100) (by omega) (fun j _ hj => nin h2 j (by omega)) (by omega)]
  · refine ⟨-1000000002, (-1000000002, upd J 0 (nI 0)), ?_, ?_, rfl, Inv_J0 h⟩
    · rcases out_ifs (by omega) h1 with h3 | h3
      · rw [if_pos h3]
      · by_cases h4 : x1 < nI 0
        · rw [if_pos h4]
        · rw [if_neg h4, if_pos h3]
    · simp (disch := omega) [bnd_eq, ob_some, eqN, in_out (x := x1) (a := 0) (b := 60) (by omega) (fun j _ hj => nin h1 j (by omega)) (by omega)]
