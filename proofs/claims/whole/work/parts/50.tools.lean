/-! pure layer: tools -/
theorem ixN {α : Type} {a n : Nat} {f : Option α} (h : a < n) (hn : n < 2 ^ 31) : ixG (nI a) n f = f := by
  unfold ixG
  rw [if_neg]
  exact vp_in_nI h hn
theorem m1N {a : Nat} (h : a < 2 ^ 31) : ¬ nI a = -1 := fun e => by
  have e2 := congrArg Int32.toInt e
  rw [nI_toInt h] at e2
  have e3 : (-1 : Int32).toInt = -1 := by decide
  omega
theorem posN {a : Nat} (h : a < 2 ^ 31) : ¬ nI a < 0 := nI_pos h
theorem bnd_eq {α β : Type} (a : α) (f : α → β) : bnd a f = f a := Eq.trans (Eq.refl (f a)) (Eq.refl (f a))
theorem ob_some {α β : Type} (a : α) (f : α → Option β) : Option.bind (some a) f = f a := Eq.trans (Eq.refl (f a)) (Eq.refl (f a))
theorem uF_same (F : WF) (a : Nat) (g : Nat → Int32) : uF F a g a = g := by simp [uF]
theorem uF_ne (F : WF) {a b : Nat} (g : Nat → Int32) (h : b ≠ a) : uF F a g b = F b := by simp [uF, h]
theorem upd_same {f : Nat → Int32} {k : Nat} {x : Int32} : upd f k x k = x := pk_us
theorem upd_ne {f : Nat → Int32} {k j : Nat} {x : Int32} (h : j ≠ k) : upd f k x j = f j := pk_un h
theorem leN {a b : Nat} (ha : a < 2 ^ 31) (hb : b < 2 ^ 31) : (nI a ≤ nI b) = (a ≤ b) := propext (nI_leI ha hb)
theorem ltN {a b : Nat} (ha : a < 2 ^ 31) (hb : b < 2 ^ 31) : (nI a < nI b) = (a < b) := propext (nI_ltI ha hb)
theorem eqN {a b : Nat} (ha : a < 2 ^ 31) (hb : b < 2 ^ 31) : (nI a = nI b) = (a = b) := propext (nI_eq ha hb)
theorem subN {a b : Nat} (h : b ≤ a) : nI a - nI b = nI (a - b) := pk_sub h
theorem divN {a d : Nat} (ha : a < 2 ^ 31) (h0 : 0 < d) (hd : d < 2 ^ 31) : nI a / nI d = nI (a / d) := pk_div ha h0 hd
theorem remN {a d : Nat} (ha : a < 2 ^ 31) (h0 : 0 < d) (hd : d < 2 ^ 31) : nI a - nI a / nI d * nI d = nI (a % d) := pk_rem ha h0 hd
theorem l_0 : (0 : Int32) = nI 0 := rfl
theorem l_1 : (1 : Int32) = nI 1 := rfl
theorem l_2 : (2 : Int32) = nI 2 := rfl
theorem l_3 : (3 : Int32) = nI 3 := rfl
theorem l_4 : (4 : Int32) = nI 4 := rfl
theorem l_5 : (5 : Int32) = nI 5 := rfl
theorem l_6 : (6 : Int32) = nI 6 := rfl
theorem l_7 : (7 : Int32) = nI 7 := rfl
theorem l_8 : (8 : Int32) = nI 8 := rfl
theorem l_9 : (9 : Int32) = nI 9 := rfl
theorem l_10 : (10 : Int32) = nI 10 := rfl
theorem l_12 : (12 : Int32) = nI 12 := rfl
theorem l_13 : (13 : Int32) = nI 13 := rfl
theorem l_14 : (14 : Int32) = nI 14 := rfl
theorem l_15 : (15 : Int32) = nI 15 := rfl
theorem l_16 : (16 : Int32) = nI 16 := rfl
theorem l_18 : (18 : Int32) = nI 18 := rfl
theorem l_20 : (20 : Int32) = nI 20 := rfl
theorem l_22 : (22 : Int32) = nI 22 := rfl
theorem l_24 : (24 : Int32) = nI 24 := rfl
theorem l_28 : (28 : Int32) = nI 28 := rfl
theorem l_30 : (30 : Int32) = nI 30 := rfl
theorem l_31 : (31 : Int32) = nI 31 := rfl
theorem l_33 : (33 : Int32) = nI 33 := rfl
theorem l_40 : (40 : Int32) = nI 40 := rfl
theorem l_42 : (42 : Int32) = nI 42 := rfl
theorem l_48 : (48 : Int32) = nI 48 := rfl
theorem l_49 : (49 : Int32) = nI 49 := rfl
theorem l_51 : (51 : Int32) = nI 51 := rfl
theorem l_52 : (52 : Int32) = nI 52 := rfl
theorem l_53 : (53 : Int32) = nI 53 := rfl
theorem l_57 : (57 : Int32) = nI 57 := rfl
theorem l_58 : (58 : Int32) = nI 58 := rfl
theorem l_59 : (59 : Int32) = nI 59 := rfl
theorem l_60 : (60 : Int32) = nI 60 := rfl
theorem l_63 : (63 : Int32) = nI 63 := rfl
theorem l_64 : (64 : Int32) = nI 64 := rfl
theorem l_70 : (70 : Int32) = nI 70 := rfl
theorem l_79 : (79 : Int32) = nI 79 := rfl
theorem l_80 : (80 : Int32) = nI 80 := rfl
theorem l_98 : (98 : Int32) = nI 98 := rfl
theorem l_99 : (99 : Int32) = nI 99 := rfl
theorem l_100 : (100 : Int32) = nI 100 := rfl
theorem l_106 : (106 : Int32) = nI 106 := rfl
theorem l_107 : (107 : Int32) = nI 107 := rfl
theorem l_110 : (110 : Int32) = nI 110 := rfl
theorem l_133 : (133 : Int32) = nI 133 := rfl
theorem l_134 : (134 : Int32) = nI 134 := rfl
theorem l_240 : (240 : Int32) = nI 240 := rfl
theorem l_255 : (255 : Int32) = nI 255 := rfl
theorem l_268 : (268 : Int32) = nI 268 := rfl
theorem l_512 : (512 : Int32) = nI 512 := rfl
theorem l_999999 : (999999 : Int32) = nI 999999 := rfl
theorem l_9000 : (9000 : Int32) = nI 9000 := rfl
theorem l_9999 : (9999 : Int32) = nI 9999 := rfl
theorem l_65536 : (65536 : Int32) = nI 65536 := rfl
theorem l_1000000000 : (1000000000 : Int32) = nI 1000000000 := rfl
/-- a town told: sizes, the class's arrays, the model's row -/
def TR (P B Kp Jm : Nat) (eA eB ai ja kk tn jk tp : Nat → Int32) (u : Nat → Int32) : Prop :=
  (P ≤ 8 ∧ B ≤ 9 ∧ Kp ≤ 9 ∧ Jm ≤ 6 ∧ (P = 0 → B = 0 ∧ Kp = 0 ∧ Jm = 0)) ∧ (u 0 = nI P ∧ u 1 = nI B ∧ u 2 = nI Kp ∧ u 3 = nI Jm) ∧
  (∀ b, b < B → (∃ x y, x < P ∧ y < P ∧ x ≠ y ∧ eA b = nI x ∧ eB b = nI y) ∧ (∃ q, 2 ≤ q ∧ q ≤ 40 ∧ ai b = nI q) ∧ (∃ q, q ≤ 99 ∧ ja b = nI q) ∧ u (4 + b) = eA b ∧ u (13 + b) = eB b ∧ u (22 + b) = ai b ∧ u (31 + b) = ja b) ∧
  (∀ k, k < Kp → (∃ q, q ≤ 3 ∧ kk k = nI q) ∧ (∃ q, 1 ≤ q ∧ q ≤ 40 ∧ tn k = nI q) ∧ u (40 + k) = kk k ∧ u (49 + k) = tn k) ∧
  (∀ j, j < Jm → (∃ q, q ≤ 3 ∧ jk j = nI q) ∧ (∃ x, x < P ∧ tp j = nI x) ∧ u (58 + j) = jk j ∧ u (64 + j) = tp j)
/-- a state: the class's two ints and eight arrays, the model's row -/
def SR (P B Kp Jm : Nat) (h rs : Int32) (ne po ti pl db ov dr ro : Nat → Int32) (v : Nat → Int32) : Prop :=
  (∃ n, n ≤ 9060 ∧ h = nI n) ∧ v 51 = h ∧ v 52 = rs ∧
  (∀ k, k < Kp → (∃ n, 1 ≤ n ∧ n ≤ 40 ∧ ne k = nI n) ∧ (po k = -1 ∨ ∃ b, b < B ∧ po k = nI b) ∧ (∃ t, t ≤ 99 ∧ ti k = nI t) ∧ v (42 + k) = ne k ∧ v (24 + k) = po k ∧ v (33 + k) = ti k) ∧
  (∀ k q, k < Kp → q < Kp → po k = po q → ¬ po k = -1 → k = q) ∧
  (∀ j, j < Jm → (∃ x, x < P ∧ pl j = nI x) ∧ (∃ d, d ≤ 30 ∧ db j = nI d) ∧ (∃ o, o ≤ 999999 ∧ ov j = nI o) ∧ (∃ o, o ≤ 999999 ∧ dr j = nI o) ∧ v j = pl j ∧ v (6 + j) = db j ∧ v (12 + j) = ov j ∧ v (18 + j) = dr j) ∧
  (∃ r, r ≤ 20 ∧ rs = nI r ∧ ∀ i, i < r → ∃ hh jj bb cc, hh ≤ 9060 ∧ jj < 6 ∧ bb < 9 ∧ cc < 2 ∧ ro i = nI (hh * 256 + jj * 32 + bb * 2 + cc) ∧ v (53 + 4 * i) = nI hh ∧ v (54 + 4 * i) = nI jj ∧ v (55 + 4 * i) = nI bb ∧ v (56 + 4 * i) = nI cc)
/-- state number q of the class (0 now, 1 + i the past's, 17 + i the images') against a row of the model -/
def SRq (P B Kp Jm : Nat) (I : WI) (F : WF) (q : Nat) (v : Nat → Int32) : Prop :=
  SR P B Kp Jm (I (2 * q)) (I (2 * q + 1)) (F (8 * q)) (F (8 * q + 1)) (F (8 * q + 2)) (F (8 * q + 3)) (F (8 * q + 4)) (F (8 * q + 5)) (F (8 * q + 6)) (F (8 * q + 7)) v
def TX (len lenM : Int32) (le leM : Nat → Int32) : Prop := ∃ n, n ≤ 240 ∧ len = nI n ∧ lenM = nI n ∧ ∀ i, i < n → le i = leM i
def asSeen (c : Nat) (fl ov : Nat → Int32) (r : Nat) : Prop := ∀ k, k < c → ((nI r ≤ fl k) ↔ ov k = 1)
def SE (cnt lo hi cntM : Int32) (fl ov : Nat → Int32) : Prop := ∃ c a b, c ≤ 6 ∧ 1 ≤ a ∧ a ≤ 41 ∧ b ≤ 40 ∧ cnt = nI c ∧ cntM = nI c ∧ lo = nI a ∧ hi = nI b ∧ (∀ k, k < c → (∃ f, f ≤ 40 ∧ fl k = nI f) ∧ (ov k = 0 ∨ ov k = 1)) ∧ ∀ r, 1 ≤ r → r ≤ 40 → (asSeen c fl ov r ↔ a ≤ r ∧ r ≤ b)
def BK (P Jm : Nat) (sz szM : Int32) (bj bp mj mp : Nat → Int32) : Prop := ∃ z, z ≤ 15 ∧ sz = nI z ∧ szM = nI z ∧ ∀ i, i < z → (∃ j, j < Jm ∧ bj i = nI j) ∧ (∃ x, x < P ∧ bp i = nI x) ∧ mj i = bj i ∧ mp i = bp i
def PA (P B Kp Jm : Nat) (I : WI) (F : WF) (um : Int32) (un : Nat → Int32) : Prop := ∃ z nx, z ≤ 16 ∧ nx < 16 ∧ I 61 = nI z ∧ I 62 = nI nx ∧ um = nI z ∧ ∀ i, i < z → SRq P B Kp Jm I F (1 + (nx + 16 - z + i) % 16) (fun t => un (134 * i + t))
def IM (P B Kp Jm : Nat) (I : WI) (F : WF) (ik ke : Nat → Int32) : Prop := ∀ i, i < 2 → (I (63 + 2 * i) = 0 ∨ I (63 + 2 * i) = 1) ∧ ik i = I (63 + 2 * i) ∧ (I (63 + 2 * i) = 1 → I (64 + 2 * i) = ke (134 * i + 133) ∧ ¬ I (64 + 2 * i) < 0 ∧ SRq P B Kp Jm I F (17 + i) (fun t => ke (134 * i + t)))
def SIZ (P B Kp Jm : Nat) (I : WI) : Prop := I 48 = nI P ∧ I 49 = nI B ∧ I 50 = nI Kp ∧ I 51 = nI Jm
def InvT (P B Kp Jm : Nat) (I : WI) (F : WF) (K : WF) : Prop := SIZ P B Kp Jm I ∧ TR P B Kp Jm (F 161) (F 162) (F 163) (F 164) (F 165) (F 166) (F 167) (F 168) (K 2)
def InvN (P B Kp Jm : Nat) (I : WI) (F : WF) (K : WF) : Prop := SR P B Kp Jm (I 0) (I 1) (F 0) (F 1) (F 2) (F 3) (F 4) (F 5) (F 6) (F 7) (K 3)
def Inv (I : WI) (F : WF) (J : WI) (K : WF) : Prop := ∃ P B Kp Jm, InvT P B Kp Jm I F K ∧ InvN P B Kp Jm I F K ∧ (I 47 = K 3 133 ∧ ¬ I 47 < 0) ∧ TX (I 38) (J 1) (F 160) (K 0) ∧ I 40 = J 5 ∧ SE (I 57) (I 58) (I 59) (J 7) (K 7) (K 8) ∧ BK P Jm (I 60) (J 8) (F 174) (F 175) (K 9) (K 10) ∧ PA P B Kp Jm I F (J 6) (K 6) ∧ IM P B Kp Jm I F (K 5) (K 4)
