/-! pure layer: keepers, flights, what is dared -/
def kAt (p : Nat → Int32) (x : Int32) : Nat → Nat → Option Nat
  | 0, _ => none
  | m + 1, k => if p k = x then some k else kAt p x m (k + 1)
def kOf : Option Nat → Int32
  | none => -1
  | some k => nI k
theorem kAt_class {I : WI} {F : WF} {Kp : Nat} (hK : I 50 = nI Kp) (hKp : Kp ≤ 9) (x : Int32) (k0 : Option Int32) : ∀ (m k n : Nat), k + m = Kp → m < n → L_X1_keeperAt_12_2 k0 x I F n (nI k) = match kAt (F 1) x m k with | none => k0 | some q => some (nI q) := by
  intro m
  induction m with
  | zero =>
    intro k n hk hn
    obtain ⟨n, rfl⟩ : ∃ z, n = z + 1 := ⟨n - 1, by omega⟩
    rw [L_X1_keeperAt_12_2, hK, if_pos (by rw [leN (by omega) (by omega)]; omega)]
    rfl
  | succ m ih =>
    intro k n hk hn
    obtain ⟨n, rfl⟩ : ∃ z, n = z + 1 := ⟨n - 1, by omega⟩
    rw [L_X1_keeperAt_12_2, hK, if_neg (by rw [leN (by omega) (by omega)]; omega), ixN (by omega) (by decide), nI_clamp (by omega)]
    by_cases h : F 1 k = x
    · rw [if_pos h, kAt, if_pos h]
    · rw [if_neg h, kAt, if_neg h, bnd_eq, show nI k + (1 : Int32) = nI (k + 1) from nI_1 k]
      exact ih (k + 1) n (by omega) (by omega)
theorem keeperAt_c {I : WI} {F : WF} {Kp : Nat} (hK : I 50 = nI Kp) (hKp : Kp ≤ 9) (x : Int32) : f_X1_keeperAt_12 x I F = some (kOf (kAt (F 1) x Kp 0)) := by
  rw [f_X1_keeperAt_12, bnd_eq, l_0, kAt_class hK hKp x _ Kp 0 FU (by omega) (by rw [FU_big]; omega)]
  cases kAt (F 1) x Kp 0 <;> rfl
theorem kAt_spec (p : Nat → Int32) (x : Int32) : ∀ (m k : Nat), match kAt p x m k with | none => ∀ q, k ≤ q → q < k + m → ¬ p q = x | some q => k ≤ q ∧ q < k + m ∧ p q = x := by
  intro m
  induction m with
  | zero => intro k; simp only [kAt]; intro q h1 h2; omega
  | succ m ih =>
    intro k
    simp only [kAt]
    by_cases h : p k = x
    · rw [if_pos h]; exact ⟨Nat.le_refl _, by omega, h⟩
    · rw [if_neg h]
      have := ih (k + 1)
      cases hh : kAt p x m (k + 1) with
      | none => rw [hh] at this; intro q h1 h2; rcases Nat.eq_or_lt_of_le h1 with rfl | h3; exact h; exact this q h3 (by omega)
      | some q => rw [hh] at this; exact ⟨by omega, by omega, this.2.2⟩
theorem kAt_some {p : Nat → Int32} {x : Int32} {m q : Nat} (h : kAt p x m 0 = some q) : q < m ∧ p q = x := by
  have := kAt_spec p x m 0
  rw [h] at this
  exact ⟨by omega, this.2.2⟩
theorem kAt_none {p : Nat → Int32} {x : Int32} {m : Nat} (h : kAt p x m 0 = none) : ∀ q, q < m → ¬ p q = x := by
  have := kAt_spec p x m 0
  rw [h] at this
  exact fun q hq => this q (Nat.zero_le _) (by omega)
/-- the model's keeperAt: the last one; with one keeper at most it is the first -/
def lim (o : Option Nat) (k : Nat) : Option Nat := match o with
  | none => none
  | some q => if q < k then some q else none
theorem kAt_model {J : WI} {K : WF} {Kp : Nat} (hK : K 2 2 = nI Kp) (hKp : Kp ≤ 9) (p : Nat → Int32) (hp : ∀ k, k < Kp → K 3 (24 + k) = p k) (x : Int32) (c : Int32 → Option Int32) (o : Option Nat) (ho : ∀ k, k < Kp → (p k = x ↔ o = some k)) : ∀ (m k n : Nat) (its : Int32), k + m = Kp → m < n → its = kOf (lim o k) → L_X11_keeperAt_4 c x J K n its (nI k) = c (kOf (lim o Kp)) := by
  intro m
  induction m with
  | zero =>
    intro k n its hk hn hi
    obtain ⟨n, rfl⟩ : ∃ z, n = z + 1 := ⟨n - 1, by omega⟩
    rw [L_X11_keeperAt_4, hK, if_pos (by rw [leN (by omega) (by omega)]; omega), hi]
    have : k = Kp := by omega
    subst this
    rfl
  | succ m ih =>
    intro k n its hk hn hi
    obtain ⟨n, rfl⟩ : ∃ z, n = z + 1 := ⟨n - 1, by omega⟩
    rw [L_X11_keeperAt_4, hK, if_neg (by rw [leN (by omega) (by omega)]; omega), l_24, nI_add, ixN (by omega) (by decide), nI_clamp (by omega), hp k (by omega)]
    simp only [bnd_eq]
    by_cases h : p k = x
    · rw [if_pos h, show nI k + (1 : Int32) = nI (k + 1) from nI_1 k]
      refine ih (k + 1) n _ (by omega) (by omega) ?_
      rw [(ho k (by omega)).mp h]
      simp [kOf, lim]
    · rw [if_neg h, show nI k + (1 : Int32) = nI (k + 1) from nI_1 k]
      refine ih (k + 1) n _ (by omega) (by omega) ?_
      rw [hi]
      cases o with
      | none => rfl
      | some q =>
        have hq : q ≠ k := fun e => h ((ho k (by omega)).mpr (by rw [e]))
        by_cases h1 : q < k
        · simp [lim, h1, show q < k + 1 by omega]
        · simp [lim, h1, show ¬ q < k + 1 by omega]
theorem keeperAt_m {J : WI} {K : WF} {Kp : Nat} (hK : K 2 2 = nI Kp) (hKp : Kp ≤ 9) (p : Nat → Int32) (hp : ∀ k, k < Kp → K 3 (24 + k) = p k) (hu : ∀ k q, k < Kp → q < Kp → p k = p q → ¬ p k = -1 → k = q) {b : Nat} (hb : b < 2 ^ 31) : f_X11_keeperAt (nI b) J K = some (kOf (kAt p (nI b) Kp 0)) := by
  rw [f_X11_keeperAt, bnd_eq, bnd_eq, l_0, kAt_model hK hKp p hp (nI b) _ (kAt p (nI b) Kp 0) ?_ Kp 0 FU (-1) (by omega) (by rw [FU_big]; omega) ?_]
  · cases h : kAt p (nI b) Kp 0 with
    | none => rfl
    | some q =>
      have := kAt_some h
      simp [lim, this.1]
  · intro k hk
    constructor
    · intro e
      cases h : kAt p (nI b) Kp 0 with
      | none => exact absurd e (kAt_none h k hk)
      | some q =>
        have h2 := kAt_some h
        rw [hu k q hk h2.1 (e.trans h2.2.symm) (by rw [e]; exact m1N hb)]
    · intro e
      exact (kAt_some e).2
  · cases kAt p (nI b) Kp 0 <;> simp [lim, kOf]
def inR (x : Int32) (n : Nat) : Prop := ∃ j, j < n ∧ x = nI j
theorem nin {x : Int32} {n : Nat} (h : ¬ inR x n) (k : Nat) (hk : k < n) : ¬ x = nI k := fun e => h ⟨k, hk, e⟩
theorem inR_out {x : Int32} {n : Nat} (hn : n < 2 ^ 31) (h : ¬ inR x n) : x < 0 ∨ nI n ≤ x := by
  rcases pk_ix x hn with h1 | h1 | h1
  · exact Or.inl h1
  · exact Or.inr h1
  · exact absurd h1 h
theorem has_in {j n : Nat} (hj : j < n) (hn : n < 2 ^ 31) : (if nI j < nI 0 then some (nI 0) else (if nI n ≤ nI j then some (nI 0) else some (nI 1))) = some (nI 1) := by
  rw [if_neg (show ¬ nI j < nI 0 from posN (by omega)), if_neg (by rw [leN (by omega) (by omega)]; omega)]
theorem has_out {x : Int32} {n : Nat} (hn : n < 2 ^ 31) (h : ¬ inR x n) : (if x < nI 0 then some (nI 0) else (if nI n ≤ x then some (nI 0) else some (nI 1))) = some (nI 0) := by
  rcases inR_out hn h with h1 | h1
  · rw [if_pos (show x < nI 0 from h1)]
  · by_cases h2 : x < nI 0
    · rw [if_pos h2]
    · rw [if_neg h2, if_pos h1]
theorem in_in {j a b : Nat} (h1 : a ≤ j) (h2 : j ≤ b) (hb : b < 2 ^ 31) : f_X11_in (nI j) (nI a) (nI b) = some (nI 1) := by
  rw [nf_f_X11_in, if_neg (by rw [ltN (by omega) (by omega)]; omega), if_neg (by rw [ltN (by omega) (by omega)]; omega)]
theorem in_out {x : Int32} {a b : Nat} (hb : b + 1 < 2 ^ 31) (h : ∀ j, a ≤ j → j ≤ b → ¬ x = nI j) (hab : a ≤ b + 1) : f_X11_in x (nI a) (nI b) = some (nI 0) := by
  rw [nf_f_X11_in]
  by_cases h1 : x < nI a
  · rw [if_pos h1]
  · rw [if_neg h1, if_pos]
    rcases pk_ix x hb with h2 | h2 | ⟨j, hj, rfl⟩
    · exact absurd (Int32.lt_of_lt_of_le h2 (nI_pos' (by omega))) h1
    · exact Int32.lt_of_lt_of_le ((nI_ltI (by omega) (by omega)).mpr (Nat.lt_succ_self b)) h2
    · rw [ltN (by omega) (by omega)] at h1
      exact absurd rfl (h j (by omega) (by omega))
theorem is_in {j n : Nat} (hj : j < n) (hn : n < 2 ^ 31) : (Option.bind (f_X11_in (nI j) (nI 0) (nI n - nI 1)) fun c => bzG c (some c)) = some (nI 1) := by
  rw [subN (by omega), in_in (by omega) (by omega) (by omega)]
  rfl
theorem is_out {x : Int32} {n : Nat} (hn : n < 2 ^ 30) (h : ¬ inR x n) : (Option.bind (f_X11_in x (nI 0) (nI n - nI 1)) fun c => bzG c (some c)) = some (nI 0) := by
  rcases Nat.eq_zero_or_pos n with h0 | h0
  · subst h0
    rw [nf_f_X11_in]
    rcases inR_out (by decide) h with h1 | h1
    · rw [if_pos (show x < nI 0 from h1)]; rfl
    · rw [if_neg (show ¬ x < nI 0 from Int32.not_lt.mpr h1), if_pos (Int32.lt_of_lt_of_le (show nI 0 - nI 1 < nI 0 by decide) h1)]; rfl
  · rw [subN (by omega), in_out (by omega) (fun j _ h2 => nin h j (by omega)) (by omega)]
    rfl
/-- a keeper's time, a jumper's flight -/
def tmv (kind need hours tired : Int32) : Int32 := if kind = (1 : Int32) then need + (hours - hours / (2 : Int32) * (2 : Int32)) * (2 : Int32) else if kind = (2 : Int32) then need + tired else if kind = (3 : Int32) then need + tired / (3 : Int32) else need
def flv (kind air doubt hours : Int32) : Int32 := if kind = (1 : Int32) then (if (0 : Int32) < air - doubt then air - doubt else 0) else if kind = (2 : Int32) then (if (0 : Int32) < air - doubt / (2 : Int32) - (hours - hours / (2 : Int32) * (2 : Int32)) then air - doubt / (2 : Int32) - (hours - hours / (2 : Int32) * (2 : Int32)) else 0) else if kind = (3 : Int32) then air / (2 : Int32) else air
theorem timeIf_c {I : WI} {F : WF} {k : Nat} (hk : k < 9) (t : Int32) : f_X1_timeIfTired_12 (nI k) t I F = some (tmv (F 165 k) (F 0 k) (I 0) t) := by
  rw [f_X1_timeIfTired_12, ixN hk (by decide), nI_clamp (by omega), bnd_eq, ixN hk (by decide), tmv]
  split
  · rfl
  · split
    · rfl
    · split <;> rfl
theorem timeOf_c {I : WI} {F : WF} {k : Nat} (hk : k < 9) : f_X1_timeOf_12 (nI k) I F = some (tmv (F 165 k) (F 0 k) (I 0) (F 2 k)) := by
  rw [f_X1_timeOf_12, ixN hk (by decide), nI_clamp (by omega), timeIf_c hk]
  rfl
theorem timeBy_m {J : WI} {K : WF} {k : Nat} (hk : k < 9) (t : Int32) : f_X11_timeBy (nI k) t J K = some (tmv (K 2 (40 + k)) (K 3 (42 + k)) (K 3 51) t) := by
  rw [f_X11_timeBy]
  simp (disch := omega) only [bnd_eq, l_40, l_42, nI_add, ixN, nI_clamp]
  rw [tmv]
  split
  · rfl
  · split
    · rfl
    · split
      · rfl
      · rw [Int32.add_zero]
theorem timeOf_m {J : WI} {K : WF} {k : Nat} (hk : k < 9) : f_X11_timeOf (nI k) J K = some (tmv (K 2 (40 + k)) (K 3 (42 + k)) (K 3 51) (K 3 (33 + k))) := by
  rw [f_X11_timeOf, l_33, nI_add, ixN (by omega) (by decide), nI_clamp (by omega), timeBy_m hk]
  rfl
theorem flight_c {I : WI} {F : WF} {j b : Nat} (hj : j < 6) (hb : b < 9) : f_X1_flightOver_12 (nI j) (nI b) I F = some (flv (F 167 j) (F 163 b) (F 4 j) (I 0)) := by
  rw [f_X1_flightOver_12]
  simp (disch := omega) only [bnd_eq, ixN, nI_clamp]
  rw [flv]
  split
  · rfl
  · split
    · rfl
    · split <;> rfl
theorem max0 (z : Int32) : (if 0 ≤ z then some z else some (0 : Int32)) = some (if (0 : Int32) < z then z else 0) := by
  by_cases h : (0 : Int32) < z
  · rw [if_pos h, if_pos (Int32.le_of_lt h)]
  · rw [if_neg h]
    by_cases h2 : 0 ≤ z
    · rw [if_pos h2, Int32.le_antisymm (Int32.not_lt.mp h) h2]
    · rw [if_neg h2]
theorem flight_m {J : WI} {K : WF} {j b q a : Nat} (hj : j < 6) (hb : b < 9) (hq : q ≤ 3) (hk : K 2 (58 + j) = nI q) (ha : K 2 (22 + b) = nI a) (ha2 : a < 2 ^ 30) : f_X11_flightOf (nI j) (nI b) J K = some (flv (K 2 (58 + j)) (K 2 (22 + b)) (K 3 (6 + j)) (K 3 51)) := by
  rw [f_X11_flightOf]
  simp (disch := omega) only [bnd_eq, l_58, l_22, l_6, nI_add, max0, ixN, nI_clamp]
  rw [flv, hk, ha]
  have e : ∀ x : Nat, x ≤ 3 → (nI q = nI x) = (q = x) := fun x hx => eqN (by omega) (by omega)
  simp only [show (1 : Int32) = nI 1 from rfl, show (2 : Int32) = nI 2 from rfl, show (3 : Int32) = nI 3 from rfl, show (0 : Int32) = nI 0 from rfl, e 1 (by omega), e 2 (by omega), e 3 (by omega), e 0 (by omega)]
  have e0 : (if nI 0 < nI a then nI a else nI 0) = nI a := by
    split
    · rfl
    · next h => rw [ltN (by omega) (by omega)] at h; rw [show a = 0 by omega]
  have e2 : (if nI 0 < nI a / nI 2 then nI a / nI 2 else nI 0) = nI a / nI 2 := by
    rw [divN (by omega) (by omega) (by omega)]
    split
    · rfl
    · next h => rw [ltN (by omega) (by omega)] at h; rw [show a / 2 = 0 by omega]
  rcases (show q = 0 ∨ q = 1 ∨ q = 2 ∨ q = 3 by omega) with rfl | rfl | rfl | rfl
  · simp [e0]
  · simp
  · simp
  · simp [e2]
/-- comesOver, dares: both sides -/
def cmv (p : Nat → Int32) (Kp : Nat) (tm : Nat → Int32) (fl : Nat → Int32) (b : Nat) : Int32 := match kAt p (nI b) Kp 0 with
  | none => 0
  | some k => if fl b < tm k then 0 else 1
def drv (cm : Nat → Int32) : Nat → Nat → Int32 → Int32
  | 0, _, acc => acc
  | m + 1, b, acc => drv cm m (b + 1) (if cm b = 0 then acc else acc ||| ((1 : Int32) <<< (nI b &&& 31)))
theorem or0 (x : Int32) : x ||| (0 : Int32) = x := by
  apply Int32.toBitVec_inj.mp
  simp
theorem dares_c {I : WI} {F : WF} {B : Nat} (hB : I 49 = nI B) (hB9 : B ≤ 9) (x : Int32) (cm : Nat → Int32) (hc : ∀ b, b < B → f_X1_comesOver_12 x (nI b) I F = some (cm b)) (k0 : Int32 → Option Int32) : ∀ (m b n : Nat) (acc : Int32), b + m = B → m < n → L_X1_dares_12_4 k0 x I F n acc (nI b) = k0 (drv cm m b acc) := by
  intro m
  induction m with
  | zero =>
    intro b n acc hb hn
    obtain ⟨n, rfl⟩ : ∃ z, n = z + 1 := ⟨n - 1, by omega⟩
    rw [L_X1_dares_12_4, hB, if_pos (by rw [leN (by omega) (by omega)]; omega)]
    rfl
  | succ m ih =>
    intro b n acc hb hn
    obtain ⟨n, rfl⟩ : ∃ z, n = z + 1 := ⟨n - 1, by omega⟩
    rw [L_X1_dares_12_4, hB, if_neg (by rw [leN (by omega) (by omega)]; omega), hc b (by omega), ob_some]
    simp only [bnd_eq]
    rw [show nI b + (1 : Int32) = nI (b + 1) from nI_1 b, drv]
    split
    · exact ih (b + 1) n _ (by omega) (by omega)
    · exact ih (b + 1) n _ (by omega) (by omega)
theorem dares_m {J : WI} {K : WF} {B : Nat} (hB : K 2 1 = nI B) (hB9 : B ≤ 9) (x : Int32) (cm : Nat → Int32) (hc : ∀ b, b < B → f_X11_comes x (nI b) J K = some (cm b)) (k0 : Int32 → Option Int32) : ∀ (m b n : Nat) (acc : Int32), b + m = B → m < n → L_X11_daresOf_4 k0 x J K n acc (nI b) = k0 (drv cm m b acc) := by
  intro m
  induction m with
  | zero =>
    intro b n acc hb hn
    obtain ⟨n, rfl⟩ : ∃ z, n = z + 1 := ⟨n - 1, by omega⟩
    rw [L_X11_daresOf_4, hB, if_pos (by rw [leN (by omega) (by omega)]; omega)]
    rfl
  | succ m ih =>
    intro b n acc hb hn
    obtain ⟨n, rfl⟩ : ∃ z, n = z + 1 := ⟨n - 1, by omega⟩
    rw [L_X11_daresOf_4, hB, if_neg (by rw [leN (by omega) (by omega)]; omega), hc b (by omega), ob_some]
    simp only [bnd_eq]
    rw [show nI b + (1 : Int32) = nI (b + 1) from nI_1 b, drv, or0]
    split
    · exact ih (b + 1) n _ (by omega) (by omega)
    · exact ih (b + 1) n _ (by omega) (by omega)
