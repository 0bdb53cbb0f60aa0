/-! pure layer: safest -/
theorem inS_nat {v y : Nat} (hv : v < 2 ^ 31) (hy : y < 32) : inS (nI v) y ↔ v.testBit y = true := by
  unfold inS
  rw [m31 hy, shrN hy hv, andN, Nat.and_one_is_mod, Nat.testBit_eq_decide_div_mod_eq, eqN (by omega) (by omega), decide_eq_true_eq]
theorem pow_lt8 {y : Nat} (hy : y < 8) : 2 ^ y < 2 ^ 8 := Nat.pow_lt_pow_right (by omega) hy
theorem bitN {y : Nat} (hy : y < 9) : nI 1 <<< (nI y &&& nI 31) = nI (2 ^ y) := by
  have : ∀ y, y < 9 → nI 1 <<< (nI y &&& nI 31) = nI (2 ^ y) := by decide
  exact this y hy
theorem setb {v y : Nat} (hy : y < 9) : nI v ||| (nI 1 <<< (nI y &&& nI 31)) = nI (v ||| 2 ^ y) := by rw [bitN hy, orN]
theorem or_lt8 {v y : Nat} (hv : v < 256) (hy : y < 8) : v ||| 2 ^ y < 256 := Nat.or_lt_two_pow (n := 8) hv (pow_lt8 hy)
theorem or_bit (v y i : Nat) : (v ||| 2 ^ y).testBit i = (v.testBit i || decide (y = i)) := by rw [Nat.testBit_or, Nat.testBit_two_pow]
theorem clr_set {v y : Nat} (h : v.testBit y = false) : (v ||| 2 ^ y) ^^^ ((v ||| 2 ^ y) &&& 2 ^ y) = v := by
  apply Nat.eq_of_testBit_eq
  intro i
  rw [Nat.testBit_xor, Nat.testBit_and, or_bit, Nat.testBit_two_pow]
  by_cases e : y = i
  · subst e; rw [h]; simp
  · simp [e]
/-- places not yet met -/
def unM (P v : Nat) : Nat := cnt (fun y => !v.testBit y) P
theorem un_step {P v y : Nat} (hy : y < P) (h : v.testBit y = false) : unM P v = unM P (v ||| 2 ^ y) + 1 := by
  unfold unM
  refine cnt_one (b0 := y) ?_ ?_ P hy (fun i hi hn => ?_)
  · show (!(v ||| 2 ^ y).testBit y) = false
    rw [or_bit]; simp
  · show (!v.testBit y) = true
    rw [h]; rfl
  · show (!v.testBit i) = !(v ||| 2 ^ y).testBit i
    rw [or_bit, decide_eq_false (fun e => hn e.symm), Bool.or_false]
theorem cnt_true : ∀ n, cnt (fun _ => true) n = n := by
  intro n
  induction n with
  | zero => rfl
  | succ n ih => rw [cnt, ih]; rfl
theorem un_0 {P p : Nat} (hp : p < P) : unM P (2 ^ p) + 1 = P := by
  have := cnt_one (p := fun y => !(2 ^ p).testBit y) (q := fun _ => true) (b0 := p) (by
    show (!(2 ^ p).testBit p) = false
    rw [Nat.testBit_two_pow]; simp) rfl P hp (fun i hi hn => by
    show true = !(2 ^ p).testBit i
    rw [Nat.testBit_two_pow, decide_eq_false (fun e => hn e.symm)]; rfl)
  rw [cnt_true] at this
  unfold unM
  omega
def otF (F : WF) (b x : Nat) : Option Nat := if eaF F b = x then some (ebF F b) else if ebF F b = x then some (eaF F b) else none
def nxF (F : WF) (set : Int32) (b x v : Nat) : Option Nat := match otF F b x with
  | none => none
  | some y => if decide (((set >>> (nI b &&& nI 31)) &&& nI 1) = nI 1) && !v.testBit y then some y else none
def cuF (F : WF) (o : Int32) (b : Nat) : Int32 := ((o.toInt64 * (nI 100 - F 164 b).toInt64) / (100 : Int64)).toInt32
def lpW (rec : Nat → Nat → Int32 → Int32 → Int32 × Int32 → Int32 × Int32) (F : WF) (set : Int32) (x v : Nat) (o f : Int32) : Nat → Nat → Int32 × Int32 → Int32 × Int32
  | 0, _, st => st
  | m + 1, b, st => lpW rec F set x v o f m (b + 1) (match nxF F set b x v with
    | none => st
    | some y => rec y (v ||| 2 ^ y) (cuF F o b) (if f = -1 then nI b else f) st)
def wkW (F : WF) (set : Int32) (B goal : Nat) : Nat → Nat → Nat → Int32 → Int32 → Int32 × Int32 → Int32 × Int32
  | 0, _, _, _, _, st => st
  | d + 1, x, v, o, f, st => if x = goal then (if o ≤ st.1 then st else (o, f)) else lpW (wkW F set B goal d) F set x v o f B 0 st
theorem nx_none {F : WF} {set : Int32} {b x v : Nat} (h : otF F b x = none) : nxF F set b x v = none := by
  unfold nxF
  rw [h]
theorem nx_some {F : WF} {set : Int32} {b x v y : Nat} (h : otF F b x = some y) : nxF F set b x v = if decide (((set >>> (nI b &&& nI 31)) &&& nI 1) = nI 1) && !v.testBit y then some y else none := by
  unfold nxF
  rw [h]
theorem nx_y {F : WF} {set : Int32} {b x v y : Nat} (h : otF F b x = some y) (hS : inS set b) (hv : v.testBit y = false) : nxF F set b x v = some y := by
  have : decide (((set >>> (nI b &&& nI 31)) &&& nI 1) = nI 1) = true := decide_eq_true hS
  rw [nx_some h, this, hv]; rfl
theorem nx_nS {F : WF} {set : Int32} {b x v : Nat} (hS : ¬ inS set b) : nxF F set b x v = none := by
  have : decide (((set >>> (nI b &&& nI 31)) &&& nI 1) = nI 1) = false := decide_eq_false hS
  cases h : otF F b x with
  | none => exact nx_none h
  | some y => rw [nx_some h, this]; rfl
theorem nx_v {F : WF} {set : Int32} {b x v y : Nat} (h : otF F b x = some y) (hv : v.testBit y = true) : nxF F set b x v = none := by
  rw [nx_some h, hv]
  simp
theorem ot_spec {P B Kp Jm : Nat} {I : WI} {F K : WF} (hT : InvT P B Kp Jm I F K) (J : WI) {b x : Nat} (hb : b < B) (hx : x < P) : (∃ y, otF F b x = some y ∧ y < P ∧ f_X7_touches_13 (nI b) (nI x) I F = some (nI 1) ∧ f_X7_beyond_13 (nI b) (nI x) I F = some (nI y) ∧ f_X11_beyond (nI b) (nI x) J K = some (nI y)) ∨ (otF F b x = none ∧ f_X7_touches_13 (nI b) (nI x) I F = some (nI 0) ∧ f_X11_beyond (nI b) (nI x) J K = some (-1)) := by
  have hs := T_sz hT
  obtain ⟨e1, e2, l1, l2, -, -, hne⟩ := ends_F hT hb
  rcases beyond_both hT (J := J) hb hx with ⟨y, hy, t1, t2, t3, t4⟩ | ⟨t1, t3, n1, n2⟩
  · left
    refine ⟨y, ?_, hy, t1, t2, t3⟩
    unfold otF
    rcases t4 with ⟨q1, q2⟩ | ⟨q1, q2⟩
    · rw [e1, eqN (by omega) (by omega)] at q1
      rw [e2, eqN (by omega) (by omega)] at q2
      rw [if_pos q1, q2]
    · rw [e2, eqN (by omega) (by omega)] at q1
      rw [e1, eqN (by omega) (by omega)] at q2
      rw [if_neg (by omega), if_pos q1, q2]
  · right
    refine ⟨?_, t1, t3⟩
    rw [e1, eqN (by omega) (by omega)] at n1
    rw [e2, eqN (by omega) (by omega)] at n2
    unfold otF
    rw [if_neg n1, if_neg n2]
/-- the class's walk -/
def WS (I : WI) (st : Int32 × Int32) : WI := upd (upd I 52 st.1) 53 st.2
theorem WS_52 (I : WI) (st : Int32 × Int32) : WS I st 52 = st.1 := by
  unfold WS
  rw [upd_ne (by omega), upd_same]
theorem WS_53 (I : WI) (st : Int32 × Int32) : WS I st 53 = st.2 := by
  unfold WS
  rw [upd_same]
theorem WS_ne (I : WI) (st : Int32 × Int32) {n : Nat} (h1 : n ≠ 52) (h2 : n ≠ 53) : WS I st n = I n := by
  unfold WS
  rw [upd_ne h2, upd_ne h1]
theorem WS_up (I : WI) (st : Int32 × Int32) (a b : Int32) : upd (upd (WS I st) 52 a) 53 b = WS I (a, b) := by
  funext t
  by_cases h2 : t = 53
  · subst h2; rw [upd_same, WS_53]
  · rw [upd_ne h2]
    by_cases h1 : t = 52
    · subst h1; rw [upd_same, WS_52]
    · rw [upd_ne h1, WS_ne _ _ h1 h2, WS_ne _ _ h1 h2]
section Safest
variable {P B Kp Jm : Nat} {I : WI} {F K : WF} {J : WI} {set : Int32} {goal : Nat}
theorem walk_l (hT : InvT P B Kp Jm I F K) (h55 : I 55 = set) {d x v D : Nat} {o f : Int32} (hx : x < P) (hv : v < 256) (hD : D < 8) (rec : Int32 → Int32 → Int32 → Int32 → Int32 → WI → WF → Option WI) (hr : ∀ y o' f' st, y < P → v.testBit y = false → rec (nI y) (nI (v ||| 2 ^ y)) o' f' (nI (D + 1)) (WS I st) F = some (WS I (wkW F set B goal d y (v ||| 2 ^ y) o' f' st))) (kc : WI → Option WI) : ∀ m b n st, b + m = B → m < n → L_X9_walk_31_37 rec kc (nI x) (nI v) o f (nI D) F n (nI b) (WS I st) = kc (WS I (lpW (wkW F set B goal d) F set x v o f m b st)) := by
  have hs := T_sz hT
  have z1 : ¬ nI 1 = nI 0 := by decide
  intro m
  induction m with
  | zero =>
    intro b n st h1 h2
    obtain ⟨n, rfl⟩ : ∃ z, n = z + 1 := ⟨n - 1, by omega⟩
    rw [nf_L_X9_walk_31_37, WS_ne _ _ (by omega) (by omega), hT.1.2.1, if_pos (by rw [leN (by omega) (by omega)]; omega), lpW]
  | succ m ih =>
    intro b n st h1 h2
    obtain ⟨n, rfl⟩ : ∃ z, n = z + 1 := ⟨n - 1, by omega⟩
    have hT2 : InvT P B Kp Jm (WS I st) F K := InvT_fr hT (fun n _ _ => WS_ne _ _ (by omega) (by omega)) (fun _ _ _ => rfl) rfl
    have ih' := fun st => ih (b + 1) n st (by omega) (by omega)
    rw [nf_L_X9_walk_31_37, WS_ne _ _ (show (49 : Nat) ≠ 52 by omega) (by omega), hT.1.2.1, if_neg (by rw [leN (by omega) (by omega)]; omega), if_neg (show ¬ nI 8 ≤ nI D by rw [leN (by omega) (by omega)]; omega), WS_ne _ _ (show (55 : Nat) ≠ 52 by omega) (by omega), h55, lpW]
    simp only [bnd_eq]
    by_cases hS : inS set b
    · rw [isIn_yes hS, ob_some, if_neg z1]
      rcases ot_spec hT2 (fun _ => 0) (b := b) (x := x) (by omega) hx with ⟨y, q, hy, t1, t2, -⟩ | ⟨q, t1, -⟩
      · rw [t1, ob_some, if_neg z1, t2, ob_some]
        by_cases hvy : v.testBit y = true
        · rw [isIn_yes ((inS_nat (by omega) (by omega)).mpr hvy), ob_some, if_neg z1, nx_v q hvy, nI_add]
          exact ih' st
        · have hvy2 : v.testBit y = false := by simpa using hvy
          rw [isIn_no (fun h => hvy ((inS_nat (by omega) (by omega)).mp h)), ob_some, if_pos rfl, nx_y q hS hvy2, ixN (by omega) (by omega), nI_clamp (by omega), nf_f_X10_partOf, ob_some, setb (by omega), nI_add, nI_add]
          by_cases hf : f = -1
          · rw [if_pos hf, if_pos hf, hr y _ _ st hy hvy2, ob_some]
            exact ih' _
          · rw [if_neg hf, if_neg hf, hr y _ _ st hy hvy2, ob_some]
            exact ih' _
      · rw [t1, ob_some, if_pos rfl, nx_none q, nI_add]
        exact ih' st
    · rw [isIn_no hS, ob_some, if_pos rfl, nx_nS hS, nI_add]
      exact ih' st
theorem walk_c (hT : InvT P B Kp Jm I F K) (h54 : I 54 = nI goal) (h55 : I 55 = set) (hg : goal < P) : ∀ d n x v D o f st, unM P v ≤ d → unM P v + D + 1 = P → d < n → x < P → v < 256 → f_X9_walk_31 n (nI x) (nI v) o f (nI D) (WS I st) F = some (WS I (wkW F set B goal (d + 1) x v o f st)) := by
  have hs := T_sz hT
  intro d
  induction d with
  | zero =>
    intro n x v D o f st h1 h2 h3 hx hv
    obtain ⟨n, rfl⟩ : ∃ z, n = z + 1 := ⟨n - 1, by omega⟩
    rw [nf_f_X9_walk_31, bnd_eq, WS_ne _ _ (show (54 : Nat) ≠ 52 by omega) (by omega), h54, wkW, bnd_eq, bnd_eq, bnd_eq, WS_52, WS_up]
    by_cases e : x = goal
    · rw [if_pos (by rw [e]), if_pos e]
      by_cases q : o ≤ st.1
      · rw [if_pos q, if_pos q]
      · rw [if_neg q, if_neg q]
    · rw [if_neg (by rw [eqN (by omega) (by omega)]; exact e), if_neg e]
      exact walk_l hT h55 hx hv (by omega) _ (fun y o' f' st hy hvy => by have := un_step hy hvy; omega) (fun I => some I) B 0 FU st (by omega) (by rw [FU_big]; omega)
  | succ d ih =>
    intro n x v D o f st h1 h2 h3 hx hv
    obtain ⟨n, rfl⟩ : ∃ z, n = z + 1 := ⟨n - 1, by omega⟩
    rw [nf_f_X9_walk_31, bnd_eq, WS_ne _ _ (show (54 : Nat) ≠ 52 by omega) (by omega), h54, wkW, bnd_eq, bnd_eq, bnd_eq, WS_52, WS_up]
    by_cases e : x = goal
    · rw [if_pos (by rw [e]), if_pos e]
      by_cases q : o ≤ st.1
      · rw [if_pos q, if_pos q]
      · rw [if_neg q, if_neg q]
    · rw [if_neg (by rw [eqN (by omega) (by omega)]; exact e), if_neg e]
      exact walk_l hT h55 hx hv (by omega) _ (fun y o' f' st hy hvy => by
        have := un_step hy hvy
        exact ih n y (v ||| 2 ^ y) (D + 1) o' f' st (by omega) (by omega) (by omega) hy (or_lt8 hv (by omega))) (fun I => some I) B 0 FU st (by omega) (by rw [FU_big]; omega)
end Safest
