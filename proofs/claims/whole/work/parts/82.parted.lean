/-! pure layer: parted -/
theorem allN : ∀ B, B < 10 → (nI 1 <<< (nI B &&& nI 31)) - nI 1 = nI (2 ^ B - 1) := by decide
theorem powB : ∀ B, B < 10 → 2 ^ B ≤ 512 ∧ 1 ≤ 2 ^ B := by decide
def pop (s : Nat) : Nat := cnt (fun k => s.testBit k) 9
theorem pop_all : ∀ B, B < 10 → pop (2 ^ B - 1) = B := by decide
set_option maxRecDepth 100000 in
theorem pop_lt : ∀ B, B < 10 → ∀ u, u < 2 ^ B - 1 → pop u < B := by decide +kernel
set_option maxRecDepth 100000 in
theorem bitc : ∀ s, s < 512 → f_J6_bitCount_0f7a4 (nI s) = some (nI (pop s)) := by decide +kernel
theorem ones_l {s : Nat} (hs : s < 512) (kc : Int32 → Option Int32) : ∀ m k n, k + m = 9 → m < n → L_X11_ones_4 kc (nI s) n (nI (cnt (fun k => s.testBit k) k)) (nI k) = kc (nI (pop s)) := by
  intro m
  induction m with
  | zero =>
    intro k n h1 h2
    obtain ⟨n, rfl⟩ : ∃ z, n = z + 1 := ⟨n - 1, by omega⟩
    have : k = 9 := by omega
    subst this
    rw [nf_L_X11_ones_4, if_pos (by rw [leN (by omega) (by omega)]; omega), pop]
  | succ m ih =>
    intro k n h1 h2
    obtain ⟨n, rfl⟩ : ∃ z, n = z + 1 := ⟨n - 1, by omega⟩
    have ih' := ih (k + 1) n (by omega) (by omega)
    have e : (nI s >>> (nI k &&& nI 31)) &&& nI 1 = nI (if s.testBit k then 1 else 0) := by
      rw [m31 (by omega), shrN (by omega) (by omega), andN, Nat.and_one_is_mod, Nat.testBit_eq_decide_div_mod_eq]
      by_cases q : s / 2 ^ k % 2 = 1
      · simp [q]
      · have : s / 2 ^ k % 2 = 0 := by omega
        simp [this]
    rw [nf_L_X11_ones_4, if_neg (by rw [leN (by omega) (by omega)]; omega), bnd_eq, bnd_eq, e, nI_add, nI_add]
    rw [cnt] at ih'
    exact ih'
theorem ones_m {s : Nat} (hs : s < 512) : f_X11_ones (nI s) = some (nI (pop s)) := by
  rw [nf_f_X11_ones, bnd_eq, bnd_eq]
  exact ones_l hs (fun x => some x) 9 0 FU (by omega) (by rw [FU_big]; omega)
theorem andnot (a b : Nat) : nI a &&& (nI b ^^^ (-1 : Int32)) = nI (a ^^^ (a &&& b)) := by
  apply Int32.toBitVec_inj.mp
  show BitVec.ofNat 32 a &&& (BitVec.ofNat 32 b ^^^ (-1 : Int32).toBitVec) = BitVec.ofNat 32 (a ^^^ (a &&& b))
  rw [show (-1 : Int32).toBitVec = BitVec.allOnes 32 by decide]
  apply BitVec.eq_of_getLsbD_eq
  intro i hi
  simp only [BitVec.getLsbD_and, BitVec.getLsbD_xor, BitVec.getLsbD_ofNat, BitVec.getLsbD_allOnes, Nat.testBit_xor, Nat.testBit_and, hi, decide_true, Bool.true_and]
  cases a.testBit i <;> cases b.testBit i <;> rfl
def cutS (B A : Nat) (F : WF) (x y t : Nat) : Prop := ¬ Rc B (eaF F) (ebF F) (inS (nI A &&& (nI t ^^^ (-1 : Int32)))) x y
theorem Rc_none {B : Nat} {ea eb : Nat → Nat} {S : Nat → Prop} {x y : Nat} (h : ∀ b, b < B → ¬ S b) (hr : Rc B ea eb S x y) : y = x := by
  obtain ⟨k, hk⟩ := hr
  cases k with
  | zero => exact hk
  | succ k => obtain ⟨z, b, -, h2, h3, -⟩ := hk; exact absurd h3 (h b h2)
theorem in0 : ∀ b, b < 9 → ¬ inS (nI 0) b := by unfold inS; decide
theorem cut_all {B A : Nat} {F : WF} {x y : Nat} (hB : B ≤ 9) (hxy : x ≠ y) : cutS B A F x y A := by
  intro h
  refine hxy (Rc_none (fun b hb => ?_) h).symm
  rw [andnot, Nat.and_self, Nat.xor_self]
  exact in0 b (by omega)
section Parted
variable {P B Kp Jm : Nat} {I : WI} {F K : WF} {J : WI}
theorem part_in {A x y sz : Nat} (hT : InvT P B Kp Jm I F K) (hx : x < P) (hy : y < P) (hA : A < 512) (hsz : sz ≤ 9) (kc : WF → Option (Int32 × WF)) : ∀ m s n g, s + m = A → m < n → (∃ g', L_X9_fewestParting_31_26 kc (nI x) (nI y) (nI A) (nI sz) I n (nI s) (uF F 169 g) = kc (uF F 169 g') ∧ ∀ t, s ≤ t → t < A → pop t = sz → ¬ cutS B A F x y t) ∨ (∃ t g', s ≤ t ∧ t < A ∧ pop t = sz ∧ cutS B A F x y t ∧ (∀ u, s ≤ u → u < t → pop u = sz → ¬ cutS B A F x y u) ∧ L_X9_fewestParting_31_26 kc (nI x) (nI y) (nI A) (nI sz) I n (nI s) (uF F 169 g) = some (nI t, uF F 169 g')) := by
  have hs := T_sz hT
  intro m
  induction m with
  | zero =>
    intro s n g h1 h2
    obtain ⟨n, rfl⟩ : ∃ z, n = z + 1 := ⟨n - 1, by omega⟩
    left
    refine ⟨g, ?_, fun t h3 h4 => by omega⟩
    rw [nf_L_X9_fewestParting_31_26, if_pos (by rw [leN (by omega) (by omega)]; omega)]
  | succ m ih =>
    intro s n g h1 h2
    obtain ⟨n, rfl⟩ : ∃ z, n = z + 1 := ⟨n - 1, by omega⟩
    have hp : pop s ≤ 9 := cnt_le _ 9
    rw [nf_L_X9_fewestParting_31_26, if_neg (by rw [leN (by omega) (by omega)]; omega), bitc s (by omega), ob_some]
    simp only [bnd_eq, nI_add]
    by_cases q : pop s = sz
    · rw [if_pos (by rw [q])]
      obtain ⟨g1, r, c1, c2⟩ := fewest_c hT (nI A &&& (nI s ^^^ (-1 : Int32))) hx hy g
      rw [c1, ob_some]
      by_cases hR : cutS B A F x y s
      · right
        refine ⟨s, g1, Nat.le_refl _, by omega, q, hR, fun u h3 h4 => by omega, ?_⟩
        rw [if_pos (c2.mpr hR)]
      · rw [if_neg (fun h => hR (c2.mp h))]
        rcases ih (s + 1) n g1 (by omega) (by omega) with ⟨g2, a1, a2⟩ | ⟨t, g2, a1, a2, a3, a4, a5, a6⟩
        · left
          refine ⟨g2, a1, fun t h3 h4 h5 => ?_⟩
          by_cases e : t = s
          · rw [e]; exact hR
          · exact a2 t (by omega) h4 h5
        · right
          refine ⟨t, g2, by omega, a2, a3, a4, fun u h3 h4 h5 => ?_, a6⟩
          by_cases e : u = s
          · rw [e]; exact hR
          · exact a5 u (by omega) h4 h5
    · rw [if_neg (by rw [eqN (by omega) (by omega)]; exact q)]
      rcases ih (s + 1) n g (by omega) (by omega) with ⟨g2, a1, a2⟩ | ⟨t, g2, a1, a2, a3, a4, a5, a6⟩
      · left
        refine ⟨g2, a1, fun t h3 h4 h5 => ?_⟩
        by_cases e : t = s
        · rw [e] at h5; exact absurd h5 q
        · exact a2 t (by omega) h4 h5
      · right
        refine ⟨t, g2, by omega, a2, a3, a4, fun u h3 h4 h5 => ?_, a6⟩
        by_cases e : u = s
        · rw [e] at h5; exact absurd h5 q
        · exact a5 u (by omega) h4 h5
theorem part_out {A x y : Nat} (hT : InvT P B Kp Jm I F K) (hx : x < P) (hy : y < P) (hA : A < 512) (kc : WF → Option (Int32 × WF)) : ∀ m sz n g, sz + m = B → m < n → (∃ g', L_X9_fewestParting_31_11 kc (nI x) (nI y) (nI A) I n (nI sz) (uF F 169 g) = kc (uF F 169 g') ∧ ∀ t, t < A → sz ≤ pop t → pop t < B → ¬ cutS B A F x y t) ∨ (∃ t g', t < A ∧ sz ≤ pop t ∧ cutS B A F x y t ∧ (∀ u, u < A → sz ≤ pop u → pop u < pop t → ¬ cutS B A F x y u) ∧ (∀ u, u < t → pop u = pop t → ¬ cutS B A F x y u) ∧ L_X9_fewestParting_31_11 kc (nI x) (nI y) (nI A) I n (nI sz) (uF F 169 g) = some (nI t, uF F 169 g')) := by
  have hs := T_sz hT
  intro m
  induction m with
  | zero =>
    intro sz n g h1 h2
    obtain ⟨n, rfl⟩ : ∃ z, n = z + 1 := ⟨n - 1, by omega⟩
    left
    refine ⟨g, ?_, fun t h3 h4 => by omega⟩
    rw [nf_L_X9_fewestParting_31_11, hT.1.2.1, if_pos (by rw [leN (by omega) (by omega)]; omega)]
  | succ m ih =>
    intro sz n g h1 h2
    obtain ⟨n, rfl⟩ : ∃ z, n = z + 1 := ⟨n - 1, by omega⟩
    rw [nf_L_X9_fewestParting_31_11, hT.1.2.1, if_neg (by rw [leN (by omega) (by omega)]; omega), bnd_eq]
    rcases part_in hT hx hy hA (sz := sz) (by omega) (fun F_945 => bnd (nI sz + (nI 1)) fun x4_946 => L_X9_fewestParting_31_11 kc (nI x) (nI y) (nI A) I n x4_946 F_945) A 0 FU g (by omega) (by rw [FU_big]; omega) with ⟨g1, a1, a2⟩ | ⟨t, g1, a1, a2, a3, a4, a5, a6⟩
    · rw [a1, bnd_eq, nI_add]
      rcases ih (sz + 1) n g1 (by omega) (by omega) with ⟨g2, b1, b2⟩ | ⟨t, g2, b1, b2, b3, b4, b5, b6⟩
      · left
        refine ⟨g2, b1, fun t h3 h4 h5 => ?_⟩
        by_cases e : pop t = sz
        · exact a2 t (Nat.zero_le _) h3 e
        · exact b2 t h3 (by omega) h5
      · right
        refine ⟨t, g2, b1, by omega, b3, fun u h3 h4 h5 => ?_, b5, b6⟩
        by_cases e : pop u = sz
        · exact a2 u (Nat.zero_le _) h3 e
        · exact b4 u h3 (by omega) h5
    · right
      refine ⟨t, g1, a2, by omega, a4, fun u h3 h4 h5 => by omega, fun u h3 h4 => a5 u (Nat.zero_le _) h3 (by omega), a6⟩
def bestS (B A : Nat) (F : WF) (x y c : Nat) : Prop := c ≤ A ∧ cutS B A F x y c ∧ ∀ u, u ≤ A → cutS B A F x y u → pop c < pop u ∨ (pop c = pop u ∧ c ≤ u)
theorem best_eq {A x y c c' : Nat} (h1 : bestS B A F x y c) (h2 : bestS B A F x y c') : c = c' := by
  have a := h1.2.2 c' h2.1 h2.2.1
  have b := h2.2.2 c h1.1 h1.2.1
  omega
theorem parted_c {x y : Nat} (hT : InvT P B Kp Jm I F K) (hx : x < P) (hy : y < P) (hxy : x ≠ y) : ∃ c g, f_X9_fewestParting_31 (nI x) (nI y) I F = some (nI c, uF F 169 g) ∧ bestS B (2 ^ B - 1) F x y c := by
  have hs := T_sz hT
  have hp := powB B (by omega)
  have ha := pop_all B (by omega)
  rw [nf_f_X9_fewestParting_31, nf_f_X7_allBridges_13, ob_some, hT.1.2.1, allN B (by omega), bnd_eq, bnd_eq]
  rcases part_out hT hx hy (A := 2 ^ B - 1) (by omega) (fun F_947 => some (nI (2 ^ B - 1), F_947)) B 0 FU (F 169) (by omega) (by rw [FU_big]; omega) with ⟨g, a1, a2⟩ | ⟨t, g, a1, a2, a3, a4, a5, a6⟩
  · rw [uF_id] at a1
    refine ⟨2 ^ B - 1, g, a1, Nat.le_refl _, cut_all hs.2.1 hxy, fun u h1 h2 => ?_⟩
    by_cases e : u = 2 ^ B - 1
    · right; rw [e]; exact ⟨rfl, Nat.le_refl _⟩
    · have := pop_lt B (by omega) u (by omega)
      exact absurd h2 (a2 u (by omega) (Nat.zero_le _) this)
  · rw [uF_id] at a6
    refine ⟨t, g, a6, by omega, a3, fun u h1 h2 => ?_⟩
    have pt := pop_lt B (by omega) t a1
    by_cases e : u = 2 ^ B - 1
    · left; rw [e, ha]; exact pt
    · by_cases q1 : pop u < pop t
      · exact absurd h2 (a4 u (by omega) (Nat.zero_le _) q1)
      · by_cases q2 : pop u = pop t
        · right
          refine ⟨q2.symm, ?_⟩
          by_cases q3 : u < t
          · exact absurd h2 (a5 u q3 q2)
          · omega
        · left; omega
theorem parted_l {A x y : Nat} (hT : InvT P B Kp Jm I F K) (hx : x < P) (hy : y < P) (hA : A = 2 ^ B - 1) (km : Int32 → WF → Option (Int32 × WI × WF)) : ∀ m n its G, m ≤ A + 1 → m < n → its ≤ A → cutS B A F x y its → (∀ u, m ≤ u → u ≤ A → cutS B A F x y u → pop its < pop u ∨ (pop its = pop u ∧ its ≤ u)) → ∃ c G', L_X11_parted_40 km (nI x) (nI y) J n (nI its) (nI m - nI 1) (uF K 11 G) = km (nI c) (uF K 11 G') ∧ bestS B A F x y c := by
  have hs := T_sz hT
  have hp := powB B (by omega)
  intro m
  induction m with
  | zero =>
    intro n its G h1 h2 h3 h4 h5
    obtain ⟨n, rfl⟩ : ∃ z, n = z + 1 := ⟨n - 1, by omega⟩
    refine ⟨its, G, ?_, h3, h4, fun u => h5 u (Nat.zero_le _)⟩
    rw [nf_L_X11_parted_40, if_pos (show nI 0 - nI 1 < nI 0 by decide)]
  | succ m ih =>
    intro n its G h1 h2 h3 h4 h5
    obtain ⟨n, rfl⟩ : ∃ z, n = z + 1 := ⟨n - 1, by omega⟩
    have p1 : pop m ≤ 9 := cnt_le _ 9
    have p2 : pop its ≤ 9 := cnt_le _ 9
    rw [nf_L_X11_parted_40, subN (by omega), Nat.add_sub_cancel, if_neg (show ¬ nI m < nI 0 from posN (by omega)), ones_m (by omega), ob_some, ones_m (by omega), ob_some, m1sub, nf_f_X11_allBridges, uF_ne _ _ (show (2 : Nat) ≠ 11 by omega), hT.2.2.1.2.1, allN B (by omega), ← hA]
    simp only [bnd_eq, ob_some]
    by_cases q : pop its < pop m
    · rw [if_pos (by rw [ltN (by omega) (by omega)]; exact q)]
      refine ih n its G (by omega) (by omega) h3 h4 (fun u h6 h7 h8 => ?_)
      by_cases e : u = m
      · left; rw [e]; exact q
      · exact h5 u (by omega) h7 h8
    · rw [if_neg (by rw [ltN (by omega) (by omega)]; exact q)]
      obtain ⟨G1, r, c1, c2⟩ := isWay_m J hT (nI A &&& (nI m ^^^ (-1 : Int32))) hx hy G
      rw [c1, ob_some]
      rcases c2 with ⟨rfl, c3⟩ | ⟨rfl, c3⟩
      · rw [if_pos rfl]
        refine ih n m G1 (by omega) (by omega) (by omega) c3 (fun u h6 h7 h8 => ?_)
        by_cases e : u = m
        · right; rw [e]; exact ⟨rfl, Nat.le_refl _⟩
        · have := h5 u (by omega) h7 h8
          omega
      · rw [if_neg (show ¬ nI 1 = nI 0 by decide)]
        refine ih n its G1 (by omega) (by omega) h3 h4 (fun u h6 h7 h8 => ?_)
        by_cases e : u = m
        · rw [e] at h8; exact absurd c3 h8
        · exact h5 u (by omega) h7 h8
end Parted
theorem step_parted : ∀ (I : WI) (F : WF) (J : WI) (K : WF) (x1 : Int32) (x2 : Int32), Inv I F J K → ∃ (a : Int32 × WF) (b : Int32 × WI × WF), f_X10_parted x1 x2 I F = some a ∧ f_X11_parted x1 x2 J K = some b ∧ a.1 = b.1 ∧ Inv I a.2 b.2.1 b.2.2 := fun I F J K x1 x2 h => by
  have h0 := h
  obtain ⟨P, B, Kp, Jm, hA⟩ := h
  have hT : InvT P B Kp Jm I F K := hA.1
  have hs := T_sz hT
  have z1 : ¬ nI 1 = nI 0 := by decide
  have hpw := powB B (by omega)
  have fin : ∀ g G, Inv I (uF F 169 g) (upd J 0 (nI 0)) (uF K 11 G) := fun g G => ⟨P, B, Kp, Jm, InvP_sc hA g G _⟩
  by_cases h1 : inR x1 P
  · obtain ⟨x, hx, rfl⟩ := h1
    by_cases h2 : inR x2 P
    · obtain ⟨y, hy, rfl⟩ := h2
      rw [nf_f_X10_parted, hasP_in hT hx, ob_some, if_neg z1, hasP_in hT hy, ob_some, if_neg z1]
      rw [nf_f_X11_parted, bnd_eq, isP_in hT hx, ob_some, if_neg z1, isP_in hT hy, ob_some, if_neg z1]
      by_cases e : x = y
      · rw [if_pos (by rw [e]), if_pos (by rw [e])]
        exact ⟨_, _, rfl, rfl, rfl, Inv_J0 h0⟩
      · rw [if_neg (by rw [eqN (by omega) (by omega)]; exact e), if_neg (by rw [eqN (by omega) (by omega)]; exact e)]
        obtain ⟨c, g, c1, c2⟩ := parted_c hT hx hy e
        obtain ⟨c', G, d1, d2⟩ := parted_l (J := upd J 0 (nI 0)) hT hx hy rfl (fun x3_1607 F_1608 => some (x3_1607, upd J 0 (nI 0), F_1608)) (2 ^ B - 1 + 1) FU (2 ^ B - 1) (K 11) (Nat.le_refl _) (by rw [FU_big]; omega) (Nat.le_refl _) (cut_all hs.2.1 e) (fun u h3 h4 => by omega)
        rw [uF_id, subN (by omega), Nat.add_sub_cancel] at d1
        have ec := best_eq c2 d2
        subst ec
        rw [c1, ob_some, nf_f_X11_allBridges, hT.2.2.1.2.1, allN B (by omega), ob_some, bnd_eq, ob_some, bnd_eq, d1]
        exact ⟨_, _, rfl, rfl, rfl, fin g G⟩
    · refine ⟨(-1000000001, F), (-1000000001, upd J 0 (nI 0), K), ?_, ?_, rfl, Inv_J0 h0⟩
      · rw [nf_f_X10_parted, hasP_in hT hx, ob_some, if_neg z1, hasP_out hT h2, ob_some, if_pos rfl]
      · rw [nf_f_X11_parted, bnd_eq, isP_in hT hx, ob_some, if_neg z1, isP_out hT h2, ob_some, if_pos rfl]
  · refine ⟨(-1000000001, F), (-1000000001, upd J 0 (nI 0), K), ?_, ?_, rfl, Inv_J0 h0⟩
    · rw [nf_f_X10_parted, hasP_out hT h1, ob_some, if_pos rfl]
    · rw [nf_f_X11_parted, bnd_eq, isP_out hT h1, ob_some, if_pos rfl]
