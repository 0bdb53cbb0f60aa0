/-! pure layer: bits, the roll book -/
theorem orN (a b : Nat) : nI a ||| nI b = nI (a ||| b) := by
  apply Int32.toBitVec_inj.mp
  show BitVec.ofNat 32 a ||| BitVec.ofNat 32 b = BitVec.ofNat 32 (a ||| b)
  exact BitVec.ofNat_or.symm
theorem andN (a b : Nat) : nI a &&& nI b = nI (a &&& b) := by
  apply Int32.toBitVec_inj.mp
  show BitVec.ofNat 32 a &&& BitVec.ofNat 32 b = BitVec.ofNat 32 (a &&& b)
  exact BitVec.ofNat_and.symm
theorem m31 {k : Nat} (h : k < 32) : nI k &&& nI 31 = nI k := by
  rw [pk_andN (by omega) 5 (by decide), Nat.mod_eq_of_lt (by omega)]
theorem smN {k : Nat} (h : k < 32) : ((nI k).toBitVec.smod 32).toNat = k := by
  have : ∀ k, k < 32 → ((nI k).toBitVec.smod 32).toNat = k := by decide
  exact this k h
theorem shlN {n k : Nat} (hk : k < 32) (h : n * 2 ^ k < 2 ^ 32) : nI n <<< nI k = nI (n * 2 ^ k) := pk_shlN (nI k) k (smN hk) h
theorem shrN {n k : Nat} (hk : k < 32) (h : n < 2 ^ 31) : nI n >>> nI k = nI (n / 2 ^ k) := pk_shrN h (nI k) k (smN hk)
theorem or_lo {a b k : Nat} (h : b < 2 ^ k) : (a * 2 ^ k) ||| b = a * 2 ^ k + b := by
  rw [Nat.mul_comm, Nat.two_pow_add_eq_or_of_lt h]
theorem packN {h j b c : Nat} (hh : h ≤ 9060) (hj : j < 6) (hb : b < 9) (hc : c < 2) : (((nI h <<< (nI 8 &&& nI 31)) ||| (nI j <<< (nI 5 &&& nI 31))) ||| (nI b <<< (nI 1 &&& nI 31))) ||| nI c = nI (h * 256 + j * 32 + b * 2 + c) := by
  rw [m31 (by omega), m31 (by omega), m31 (by omega), shlN (by omega) (by omega), shlN (by omega) (by omega), shlN (by omega) (by omega), orN, or_lo (by omega), orN, show h * 2 ^ 8 + j * 2 ^ 5 = (h * 8 + j) * 2 ^ 5 by omega, or_lo (by omega), orN, show (h * 8 + j) * 2 ^ 5 + b * 2 ^ 1 = ((h * 8 + j) * 16 + b) * 2 ^ 1 by omega, or_lo (by omega)]
/-- rows shifted: the roll book of the class, of the model -/
def shC (r : Nat → Int32) (i : Nat) : Nat → Int32 := fun t => if i < t ∧ t < 20 then r (t - 1) else r t
def shM (v : Nat → Int32) (e : Nat) : Nat → Int32 := fun t => if 53 + e < t ∧ t < 133 then v (t - 4) else v t
theorem shC_s (r : Nat → Int32) {i : Nat} (h : i + 1 < 20) : upd (shC r (i + 1)) (i + 1) (shC r (i + 1) i) = shC r i := by
  funext t
  by_cases e : t = i + 1
  · subst e
    rw [upd_same, shC, shC, if_neg (by omega), if_pos (by omega)]
    rfl
  · rw [upd_ne e, shC, shC]
    by_cases e2 : i + 1 < t ∧ t < 20
    · rw [if_pos e2, if_pos (by omega)]
    · rw [if_neg e2, if_neg (by omega)]
theorem shM_s (v : Nat → Int32) {e : Nat} (h3 : 3 ≤ e) (h : e + 1 < 80) : upd (shM v (e + 1)) (53 + (e + 1)) (shM v (e + 1) (53 + (e + 1) - 4)) = shM v e := by
  funext t
  by_cases q : t = 53 + (e + 1)
  · subst q
    rw [upd_same, shM, shM, if_neg (by omega), if_pos (by omega)]
  · rw [upd_ne q, shM, shM]
    by_cases e2 : 53 + (e + 1) < t ∧ t < 133
    · rw [if_pos e2, if_pos (by omega)]
    · rw [if_neg e2, if_neg (by omega)]
theorem m1add {a : Nat} (h : 1 ≤ a) : nI a + (-1 : Int32) = nI (a - 1) := by
  obtain ⟨b, rfl⟩ : ∃ b, a = b + 1 := ⟨a - 1, by omega⟩
  rw [show nI (b + 1) = nI b + 1 from nI_succ b, Int32.add_assoc, show (1 : Int32) + -1 = 0 by decide, Int32.add_zero, Nat.add_sub_cancel]
theorem enter_l {I : WI} {F : WF} (k : WF → Option (WI × WF)) (x1 x2 x3 : Int32) : ∀ m n, m < 20 → m < n → L_X6_enter_22_4 k x1 x2 x3 I n (nI m) (uF F 7 (shC (F 7) m)) = k (uF F 7 (shC (F 7) 0)) := by
  intro m
  induction m with
  | zero =>
    intro n h1 h2
    obtain ⟨n, rfl⟩ : ∃ z, n = z + 1 := ⟨n - 1, by omega⟩
    rw [nf_L_X6_enter_22_4, if_pos (by rw [leN (by omega) (by omega)]; omega)]
  | succ m ih =>
    intro n h1 h2
    obtain ⟨n, rfl⟩ : ∃ z, n = z + 1 := ⟨n - 1, by omega⟩
    rw [nf_L_X6_enter_22_4, if_neg (by rw [leN (by omega) (by omega)]; omega), m1add (by omega), subN (by omega)]
    simp (disch := omega) only [bnd_eq, ixN, nI_clamp, uF_uF, uF_same, Nat.add_sub_cancel]
    rw [shC_s _ h1]
    exact ih n (by omega) (by omega)
theorem roll_l {J : WI} {K : WF} (k : WF → Option (Int32 × WF)) (x1 x2 x4 x5 : Int32) : ∀ m n, m < 77 → m < n → L_X11_leaps_31 k x1 x2 x4 x5 J n (nI (m + 3)) (uF K 3 (shM (K 3) (m + 3))) = k (uF K 3 (shM (K 3) 3)) := by
  intro m
  induction m with
  | zero =>
    intro n h1 h2
    obtain ⟨n, rfl⟩ : ∃ z, n = z + 1 := ⟨n - 1, by omega⟩
    rw [nf_L_X11_leaps_31, if_pos (by rw [leN (by omega) (by omega)]; omega)]
  | succ m ih =>
    intro n h1 h2
    obtain ⟨n, rfl⟩ : ∃ z, n = z + 1 := ⟨n - 1, by omega⟩
    rw [nf_L_X11_leaps_31, if_neg (by rw [leN (by omega) (by omega)]; omega), m1add (by omega), nI_add, subN (by omega)]
    simp (disch := omega) only [bnd_eq, ixN, nI_clamp, uF_uF, uF_same]
    rw [show m + 1 + 3 = (m + 3) + 1 by omega, shM_s _ (by omega) (by omega)]
    exact ih n (by omega) (by omega)
theorem shC_end (r : Nat → Int32) : shC r 19 = r := by
  funext t
  rw [shC, if_neg (by omega)]
theorem shM_end (r : Nat → Int32) : shM r 79 = r := by
  funext t
  rw [shM, if_neg (by omega)]
def enR (r : Nat → Int32) (e : Nat) : Nat → Int32 := upd (shC r 0) 0 (nI e)
def enM (v : Nat → Int32) (h : Int32) (j b c rs : Nat) : Nat → Int32 := upd (upd (upd (upd (upd (shM v 3) 53 h) 54 (nI j)) 55 (nI b)) 56 (nI c)) 52 (nI rs)
theorem min20 {r : Nat} (h : r ≤ 20) : (if nI 20 < nI r + nI 1 then nI 20 else nI r + nI 1) = nI (if r < 20 then r + 1 else 20) := by
  rw [nI_add]
  by_cases q : r < 20
  · rw [if_neg (by rw [ltN (by omega) (by omega)]; omega), if_pos q]
  · rw [if_pos (by rw [ltN (by omega) (by omega)]; omega), if_neg q]
theorem enter_c {I : WI} {F : WF} {hh j b c r : Nat} (e0 : I 0 = nI hh) (hh9 : hh ≤ 9060) (e1 : I 1 = nI r) (hr : r ≤ 20) (hj : j < 6) (hb : b < 9) (hc : c < 2) : f_X6_enter_22 (nI j) (nI b) (nI c) I F = some (upd I 1 (nI (if r < 20 then r + 1 else 20)), uF F 7 (enR (F 7) (hh * 256 + j * 32 + b * 2 + c))) := by
  have e := enter_l (I := I) (F := F) (fun F_535 => bnd (fun (s_537 : Int32) => bnd (uF F_535 7 (upd (F_535 7) 0 (((((I 0) <<< ((nI 8) &&& nI 31)) ||| (nI j <<< ((nI 5) &&& nI 31))) ||| (nI b <<< ((nI 1) &&& nI 31))) ||| s_537))) fun F_538 => bnd (upd I 1 (if (nI 20) < ((I 1) + (nI 1)) then (nI 20) else ((I 1) + (nI 1)))) fun I_539 => some (I_539, F_538)) fun j60_536 => if nI c = (nI 0) then (j60_536 (nI 0)) else (j60_536 (nI 1))) (nI j) (nI b) (nI c) 19 FU (by omega) (by rw [FU_big]; omega)
  rw [shC_end, uF_id] at e
  rw [nf_f_X6_enter_22, bnd_eq, e]
  simp only [bnd_eq]
  rw [e0, e1, min20 hr, uF_same]
  have e2 : (if nI c = nI 0 then nI 0 else nI 1) = nI c := by
    rcases c2 hc with rfl | rfl
    · rfl
    · rfl
  rcases c2 hc with rfl | rfl
  · rw [if_pos rfl, packN hh9 hj hb hc, uF_uF]; rfl
  · rw [if_neg (by decide), packN hh9 hj hb hc, uF_uF]; rfl
theorem SR_roll {P B Kp Jm hh j b c r : Nat} {h rs : Int32} {ne po ti pl db ov dr ro v : Nat → Int32} (hk9 : Kp ≤ 9) (hj6 : Jm ≤ 6) (eh : h = nI hh) (hh9 : hh ≤ 9060) (er : rs = nI r) (hr : r ≤ 20) (hj : j < 6) (hb : b < 9) (hc : c < 2) (hs : SR P B Kp Jm h rs ne po ti pl db ov dr ro v) : SR P B Kp Jm h (nI (if r < 20 then r + 1 else 20)) ne po ti pl db ov dr (enR ro (hh * 256 + j * 32 + b * 2 + c)) (enM v h j b c (if r < 20 then r + 1 else 20)) := by
  obtain ⟨h1, h2, h3, h4, h5, h6, r', hr', h7, h8⟩ := hs
  have lo : ∀ t, t < 52 → enM v h j b c (if r < 20 then r + 1 else 20) t = v t := fun t ht => by
    rw [enM, upd_ne (by omega), upd_ne (by omega), upd_ne (by omega), upd_ne (by omega), upd_ne (by omega), shM, if_neg (by omega)]
  have err : r' = r := by
    have := h7.symm.trans er
    rw [eqN (by omega) (by omega)] at this
    exact this
  subst err
  refine ⟨h1, ?_, ?_, ?_, h5, ?_, (if r' < 20 then r' + 1 else 20), ?_, rfl, ?_⟩
  · rw [lo _ (by omega)]; exact h2
  · rw [enM, upd_same]
  · intro k hk
    rw [lo _ (by omega), lo _ (by omega), lo _ (by omega)]
    exact h4 k hk
  · intro q hq
    rw [lo _ (by omega), lo _ (by omega), lo _ (by omega), lo _ (by omega)]
    exact h6 q hq
  · split <;> omega
  · intro i hi
    by_cases hz : i = 0
    · subst hz
      refine ⟨hh, j, b, c, hh9, hj, hb, hc, ?_, ?_, ?_, ?_, ?_⟩
      · rw [enR, upd_same]
      · rw [enM, upd_ne (by omega), upd_ne (by omega), upd_ne (by omega), upd_ne (by omega), show 53 + 4 * 0 = 53 from rfl, upd_same, eh]
      · rw [enM, upd_ne (by omega), upd_ne (by omega), upd_ne (by omega), show 54 + 4 * 0 = 54 from rfl, upd_same]
      · rw [enM, upd_ne (by omega), upd_ne (by omega), show 55 + 4 * 0 = 55 from rfl, upd_same]
      · rw [enM, upd_ne (by omega), show 56 + 4 * 0 = 56 from rfl, upd_same]
    · have hi20 : i < 20 := by
        by_cases q : r' < 20
        · rw [if_pos q] at hi; omega
        · rw [if_neg q] at hi; omega
      have hir : i - 1 < r' := by
        by_cases q : r' < 20
        · rw [if_pos q] at hi; omega
        · rw [if_neg q] at hi; omega
      have hi' : ∀ t, 56 < t → t < 133 → enM v h j b c (if r' < 20 then r' + 1 else 20) t = v (t - 4) := fun t ht ht2 => by
        rw [enM, upd_ne (by omega), upd_ne (by omega), upd_ne (by omega), upd_ne (by omega), upd_ne (by omega), shM, if_pos (by omega)]
      obtain ⟨a1, a2, a3, a4, g1, g2, g3, g4, g5, g6, g7, g8, g9⟩ := h8 (i - 1) hir
      refine ⟨a1, a2, a3, a4, g1, g2, g3, g4, ?_, ?_, ?_, ?_, ?_⟩
      · rw [enR, upd_ne hz, shC, if_pos (by omega)]; exact g5
      · rw [hi' _ (by omega) (by omega), show 53 + 4 * i - 4 = 53 + 4 * (i - 1) by omega]; exact g6
      · rw [hi' _ (by omega) (by omega), show 54 + 4 * i - 4 = 54 + 4 * (i - 1) by omega]; exact g7
      · rw [hi' _ (by omega) (by omega), show 55 + 4 * i - 4 = 55 + 4 * (i - 1) by omega]; exact g8
      · rw [hi' _ (by omega) (by omega), show 56 + 4 * i - 4 = 56 + 4 * (i - 1) by omega]; exact g9
