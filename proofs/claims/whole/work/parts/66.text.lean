/-! pure layer: the text, letter by letter -/
theorem upd_upd (f : Nat → Int32) (k : Nat) (x y : Int32) : upd (upd f k x) k y = upd f k y := by
  funext t
  by_cases e : t = k
  · subst e; rw [upd_same, upd_same]
  · rw [upd_ne e, upd_ne e, upd_ne e]
theorem upd_id {f : Nat → Int32} {k : Nat} {x : Int32} (h : f k = x) : upd f k x = f := by
  funext t
  by_cases e : t = k
  · subst e; rw [upd_same, h]
  · rw [upd_ne e]
def skN (le : Nat → Int32) : Nat → Nat → Nat
  | 0, p => p
  | m + 1, p => if le p = nI 32 then skN le m (p + 1) else p
theorem skN_le (le : Nat → Int32) : ∀ m p, p ≤ skN le m p ∧ skN le m p ≤ p + m := by
  intro m
  induction m with
  | zero => intro p; exact ⟨Nat.le_refl _, Nat.le_refl _⟩
  | succ m ih =>
    intro p
    rw [skN]
    split
    · have := ih (p + 1); omega
    · omega
theorem skip_cl {n : Nat} (hn : n ≤ 240) {F : WF} (c : WI → Option WI) : ∀ m p k I, I 38 = nI n → I 41 = nI p → p + m = n → m < k → L_X8_skipBlanks_1_0 c F k I = c (upd I 41 (nI (skN (F 160) m p))) := by
  intro m
  induction m with
  | zero =>
    intro p k I h1 h2 h3 h4
    obtain ⟨k, rfl⟩ : ∃ z, k = z + 1 := ⟨k - 1, by omega⟩
    rw [nf_L_X8_skipBlanks_1_0, h1, h2, if_pos (by rw [leN (by omega) (by omega)]; omega), skN, upd_id h2]
  | succ m ih =>
    intro p k I h1 h2 h3 h4
    obtain ⟨k, rfl⟩ : ∃ z, k = z + 1 := ⟨k - 1, by omega⟩
    rw [nf_L_X8_skipBlanks_1_0, h1, h2, if_neg (by rw [leN (by omega) (by omega)]; omega), ixN (by omega) (by omega), nI_clamp (by omega), skN]
    by_cases q : F 160 p = nI 32
    · rw [if_pos q, if_pos q, bnd_eq, nI_add, ih (p + 1) k _ (by rw [upd_ne (by omega)]; exact h1) upd_same (by omega) (by omega), upd_upd]
    · rw [if_neg q, if_neg q, upd_id h2]
theorem skip_c {n p : Nat} (hn : n ≤ 240) {I : WI} {F : WF} (h1 : I 38 = nI n) (h2 : I 41 = nI p) (hp : p ≤ n) : f_X8_skipBlanks_1 I F = some (upd I 41 (nI (skN (F 160) (n - p) p))) := by
  have e : f_X8_skipBlanks_1 I F = L_X8_skipBlanks_1_0 (fun I_14 => some I_14) F (FU + 1) I := by rw [nf_f_X8_skipBlanks_1, nf_L_X8_skipBlanks_1_0]
  rw [e, skip_cl hn _ (n - p) p (FU + 1) I h1 h2 (by omega) (by rw [FU_big]; omega)]
theorem letter_in {n p : Nat} (hn : n ≤ 240) {J : WI} {K : WF} (h1 : J 1 = nI n) (hp : p < n) : f_X11_letterAt (nI p) J K = some (K 0 p) := by
  rw [nf_f_X11_letterAt, h1, if_neg (by rw [leN (by omega) (by omega)]; omega), ixN (by omega) (by omega), nI_clamp (by omega)]
theorem letter_out {n p : Nat} (hn : n ≤ 240) {J : WI} {K : WF} (h1 : J 1 = nI n) (hp : n ≤ p) (hp2 : p < 2 ^ 30) : f_X11_letterAt (nI p) J K = some (-1) := by
  rw [nf_f_X11_letterAt, h1, if_pos (by rw [leN (by omega) (by omega)]; omega)]
theorem skip_ml {n : Nat} (hn : n ≤ 240) {K : WF} {le : Nat → Int32} (hl : ∀ i, i < n → K 0 i = le i) (c : WI → Option WI) : ∀ m p k J, J 1 = nI n → J 2 = nI p → p + m = n → m < k → L_X11_blanks_0 c K k J = c (upd J 2 (nI (skN le m p))) := by
  intro m
  induction m with
  | zero =>
    intro p k I h1 h2 h3 h4
    obtain ⟨k, rfl⟩ : ∃ z, k = z + 1 := ⟨k - 1, by omega⟩
    rw [nf_L_X11_blanks_0, h2, letter_out hn h1 (by omega) (by omega), ob_some, if_neg (by decide), skN, upd_id h2]
  | succ m ih =>
    intro p k I h1 h2 h3 h4
    obtain ⟨k, rfl⟩ : ∃ z, k = z + 1 := ⟨k - 1, by omega⟩
    rw [nf_L_X11_blanks_0, h2, letter_in hn h1 (by omega), ob_some, hl p (by omega), skN]
    by_cases q : le p = nI 32
    · rw [if_pos q, if_pos q, bnd_eq, nI_add, ih (p + 1) k _ (by rw [upd_ne (by omega)]; exact h1) upd_same (by omega) (by omega), upd_upd]
    · rw [if_neg q, if_neg q, upd_id h2]
theorem skip_m {n p : Nat} (hn : n ≤ 240) {J : WI} {K : WF} {le : Nat → Int32} (hl : ∀ i, i < n → K 0 i = le i) (h1 : J 1 = nI n) (h2 : J 2 = nI p) (hp : p ≤ n) : f_X11_blanks J K = some (upd J 2 (nI (skN le (n - p) p))) := by
  have e : f_X11_blanks J K = L_X11_blanks_0 (fun I_14 => some I_14) K (FU + 1) J := by rw [nf_f_X11_blanks, nf_L_X11_blanks_0]
  rw [e, skip_ml hn hl _ (n - p) p (FU + 1) J h1 h2 (by omega) (by rw [FU_big]; omega)]
theorem skip_mo {n p : Nat} (hn : n ≤ 240) {J : WI} {K : WF} (h1 : J 1 = nI n) (h2 : J 2 = nI p) (hp : n ≤ p) (hp2 : p < 2 ^ 30) : f_X11_blanks J K = some J := by
  rw [nf_f_X11_blanks, h2, letter_out hn h1 hp hp2, ob_some, if_neg (by decide)]
/-- figures -/
theorem fig_or (c : Int32) : (∃ q, q ≤ 9 ∧ c = nI (48 + q)) ∨ (f_X8_isFigure c = some (nI 0) ∧ f_X11_in c (nI 48) (nI 57) = some (nI 0)) := by
  rw [nf_f_X8_isFigure, nf_f_X11_in]
  by_cases h1 : c < nI 48
  · right; rw [if_pos h1]; exact ⟨rfl, rfl⟩
  · rw [if_neg h1]
    by_cases h2 : nI 57 < c
    · right; rw [if_pos h2]; exact ⟨rfl, rfl⟩
    · left
      obtain ⟨j, hj, rfl⟩ := nI_of2 (x := c) (M := nI 57) (n := 57) (by decide) (fun q3 => h1 (Int32.lt_trans q3 (by decide))) (Int32.not_lt.mp h2)
      rw [ltN (by omega) (by omega)] at h1
      exact ⟨j - 48, by omega, by rw [show 48 + (j - 48) = j by omega]⟩
theorem fig_in {q : Nat} (h : q ≤ 9) : f_X8_isFigure (nI (48 + q)) = some (nI 1) := by
  rw [nf_f_X8_isFigure, if_neg (by rw [ltN (by omega) (by omega)]; omega), if_neg (by rw [ltN (by omega) (by omega)]; omega)]
def nb (d v : Nat) : Prop := (d ≤ 0 → v ≤ 0) ∧ (d ≤ 1 → v ≤ 9) ∧ (d ≤ 2 → v ≤ 99) ∧ (d ≤ 3 → v ≤ 999)
theorem num_both {n b : Nat} (hn : n ≤ 240) {F K : WF} (hl : ∀ i, i < n → K 0 i = F 160 i) (x1 x2 : Int32) (c c' : Int32 → WI → Option (Int32 × WI)) : ∀ m p k k' x y I J, I 38 = nI n → I 41 = nI p → I 42 = nI b → J 1 = nI n → J 2 = nI p → b ≤ p → p + m = n → m < k → m < k' → (p - b ≤ 3 → ∃ v, nb (p - b) v ∧ x = nI v ∧ y = nI v) → ∃ x' y' e, p ≤ e ∧ e ≤ n ∧ L_X8_readNumber_1_23 c x1 x2 F k x I = c x' (upd I 41 (nI e)) ∧ L_X11_due_23 c' x1 x2 K k' y J = c' y' (upd J 2 (nI e)) ∧ (e - b ≤ 3 → ∃ v, v ≤ 999 ∧ x' = nI v ∧ y' = nI v) := by
  intro m
  induction m with
  | zero =>
    intro p k k' x y I J h1 h2 h3 g1 g2 hb hp hk hk' hv
    obtain ⟨k, rfl⟩ : ∃ z, k = z + 1 := ⟨k - 1, by omega⟩
    obtain ⟨k', rfl⟩ : ∃ z, k' = z + 1 := ⟨k' - 1, by omega⟩
    refine ⟨x, y, p, Nat.le_refl _, by omega, ?_, ?_, fun hd => ?_⟩
    · rw [nf_L_X8_readNumber_1_23, h1, h2, if_pos (by rw [leN (by omega) (by omega)]; omega), upd_id h2]
    · rw [nf_L_X11_due_23, g2, letter_out hn g1 (by omega) (by omega), ob_some, show f_X11_in (-1) (nI 48) (nI 57) = some (nI 0) by decide, ob_some, if_pos rfl, upd_id g2]
    · obtain ⟨v, q1, q2, q3⟩ := hv hd
      exact ⟨v, q1.2.2.2 hd, q2, q3⟩
  | succ m ih =>
    intro p k k' x y I J h1 h2 h3 g1 g2 hb hp hk hk' hv
    obtain ⟨k, rfl⟩ : ∃ z, k = z + 1 := ⟨k - 1, by omega⟩
    obtain ⟨k', rfl⟩ : ∃ z, k' = z + 1 := ⟨k' - 1, by omega⟩
    have hlp := hl p (by omega)
    rcases fig_or (F 160 p) with ⟨q, hq, eq⟩ | ⟨f1, f2⟩
    · -- a figure
      have hx : ∃ x2', (if nI 3 ≤ nI (p - b) then x else x * nI 10 + nI (48 + q) - nI 48) = x2' := ⟨_, rfl⟩
      have hy : ∃ y2', (if y ≤ nI 9999 then nI 10 * y + nI (48 + q) - nI 48 else y) = y2' := ⟨_, rfl⟩
      obtain ⟨xx, hx⟩ := hx
      obtain ⟨yy, hy⟩ := hy
      have hv' : (p + 1) - b ≤ 3 → ∃ v, nb ((p + 1) - b) v ∧ xx = nI v ∧ yy = nI v := by
        intro hd
        obtain ⟨v, q1, q2, q3⟩ := hv (by omega)
        have q4 : v ≤ 999 := q1.2.2.2 (by omega)
        refine ⟨v * 10 + q, ?_, ?_, ?_⟩
        · unfold nb at q1 ⊢; omega
        · rw [← hx, if_neg (by rw [leN (by omega) (by omega)]; omega), q2, pk_mul, nI_add, subN (by omega)]; congr 1; omega
        · rw [← hy, q3, if_pos (by rw [leN (by omega) (by omega)]; omega), pk_mul, nI_add, subN (by omega)]; congr 1; omega
      obtain ⟨x', y', e, a1, a2, a3, a4, a5⟩ := ih (p + 1) k k' xx yy (upd I 41 (nI (p + 1))) (upd J 2 (nI (p + 1))) (by rw [upd_ne (by omega)]; exact h1) upd_same (by rw [upd_ne (by omega)]; exact h3) (by rw [upd_ne (by omega)]; exact g1) upd_same (by omega) (by omega) (by omega) (by omega) hv'
      refine ⟨x', y', e, by omega, a2, ?_, ?_, a5⟩
      · rw [nf_L_X8_readNumber_1_23, h1, h2, h3, if_neg (by rw [leN (by omega) (by omega)]; omega), ixN (by omega) (by omega), nI_clamp (by omega), eq, fig_in hq, ob_some, if_neg (show ¬ nI 1 = nI 0 by decide)]
        simp only [bnd_eq]
        rw [ixN (by omega) (by omega), subN (by omega), nI_add]
        rw [upd_upd] at a3
        rw [← a3, ← hx]
        split <;> rfl
      · rw [nf_L_X11_due_23, g2, letter_in hn g1 (by omega), ob_some, hlp, eq, in_in (by omega) (by omega) (by omega), ob_some, if_neg (show ¬ nI 1 = nI 0 by decide)]
        simp only [bnd_eq, ob_some]
        rw [nI_add]
        rw [upd_upd] at a4
        rw [← a4, ← hy]
        split <;> rfl
    · refine ⟨x, y, p, Nat.le_refl _, by omega, ?_, ?_, fun hd => ?_⟩
      · rw [nf_L_X8_readNumber_1_23, h1, h2, if_neg (by rw [leN (by omega) (by omega)]; omega), ixN (by omega) (by omega), nI_clamp (by omega), f1, ob_some, if_pos rfl, upd_id h2]
      · rw [nf_L_X11_due_23, g2, letter_in hn g1 (by omega), ob_some, hlp, f2, ob_some, if_pos rfl, upd_id g2]
      · obtain ⟨v, q1, q2, q3⟩ := hv hd
        exact ⟨v, q1.2.2.2 hd, q2, q3⟩
