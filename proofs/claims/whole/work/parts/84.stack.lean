/-! pure layer: safest, the model's stack -/
def WK (K : WF) (sp sn sd : Nat → Int32) : WF := uF (uF (uF K 13 sp) 14 sn) 15 sd
theorem WK_13 (K : WF) (sp sn sd : Nat → Int32) : WK K sp sn sd 13 = sp := by
  unfold WK
  rw [uF_ne _ _ (by omega), uF_ne _ _ (by omega), uF_same]
theorem WK_14 (K : WF) (sp sn sd : Nat → Int32) : WK K sp sn sd 14 = sn := by
  unfold WK
  rw [uF_ne _ _ (by omega), uF_same]
theorem WK_15 (K : WF) (sp sn sd : Nat → Int32) : WK K sp sn sd 15 = sd := by
  unfold WK
  rw [uF_same]
theorem WK_ne (K : WF) (sp sn sd : Nat → Int32) {a : Nat} (h3 : a ≠ 13) (h4 : a ≠ 14) (h5 : a ≠ 15) : WK K sp sn sd a = K a := by
  unfold WK
  rw [uF_ne _ _ h5, uF_ne _ _ h4, uF_ne _ _ h3]
theorem WK_2 (K : WF) (sp sn sd : Nat → Int32) : WK K sp sn sd 2 = K 2 := WK_ne K sp sn sd (by omega) (by omega) (by omega)
theorem uWK_13 (K : WF) (sp sn sd s : Nat → Int32) : uF (WK K sp sn sd) 13 s = WK K s sn sd := by
  funext a
  by_cases h3 : a = 13
  · subst h3; rw [uF_same, WK_13]
  · rw [uF_ne _ _ h3]
    by_cases h4 : a = 14
    · subst h4; rw [WK_14, WK_14]
    · by_cases h5 : a = 15
      · subst h5; rw [WK_15, WK_15]
      · rw [WK_ne _ _ _ _ h3 h4 h5, WK_ne _ _ _ _ h3 h4 h5]
theorem uWK_14 (K : WF) (sp sn sd s : Nat → Int32) : uF (WK K sp sn sd) 14 s = WK K sp s sd := by
  funext a
  by_cases h3 : a = 14
  · subst h3; rw [uF_same, WK_14]
  · rw [uF_ne _ _ h3]
    by_cases h4 : a = 13
    · subst h4; rw [WK_13, WK_13]
    · by_cases h5 : a = 15
      · subst h5; rw [WK_15, WK_15]
      · rw [WK_ne _ _ _ _ h4 h3 h5, WK_ne _ _ _ _ h4 h3 h5]
theorem uWK_15 (K : WF) (sp sn sd s : Nat → Int32) : uF (WK K sp sn sd) 15 s = WK K sp sn s := by
  funext a
  by_cases h3 : a = 15
  · subst h3; rw [uF_same, WK_15]
  · rw [uF_ne _ _ h3]
    by_cases h4 : a = 13
    · subst h4; rw [WK_13, WK_13]
    · by_cases h5 : a = 14
      · subst h5; rw [WK_14, WK_14]
      · rw [WK_ne _ _ _ _ h4 h5 h3, WK_ne _ _ _ _ h4 h5 h3]
theorem nx_inv {F : WF} {set : Int32} {b x v y : Nat} (h : nxF F set b x v = some y) : otF F b x = some y ∧ inS set b ∧ v.testBit y = false := by
  cases q : otF F b x with
  | none => rw [nx_none q] at h; exact absurd h (by simp)
  | some z =>
    rw [nx_some q] at h
    by_cases hS : inS set b
    · have e : decide (((set >>> (nI b &&& nI 31)) &&& nI 1) = nI 1) = true := decide_eq_true hS
      cases hv : v.testBit z with
      | true => rw [e, hv] at h; exact absurd h (by simp)
      | false =>
        rw [e, hv] at h
        have : z = y := by simpa using h
        subst this
        exact ⟨rfl, hS, hv⟩
    · have e : decide (((set >>> (nI b &&& nI 31)) &&& nI 1) = nI 1) = false := decide_eq_false hS
      rw [e] at h
      exact absurd h (by simp)
def EW : Nat → Nat
  | 0 => 1
  | d + 1 => 9 * (1 + EW d) + 1
theorem EW_lt : ∀ d, d < 8 → EW d < 20000000 := by decide
theorem EW_1 : ∀ d, 1 ≤ EW d := by
  intro d
  cases d with
  | zero => exact Nat.le_refl _
  | succ d => rw [EW]; omega
section Stack
variable {P B Kp Jm : Nat} {I : WI} {F K : WF} {J : WI} {set x3 : Int32} {goal : Nat} {km : Int32 → Int32 → WF → Option (Int32 × WI × WF)}
theorem st_pop (hT : InvT P B Kp Jm I F K) {n D x v : Nat} {a f : Int32} {sp sn sd : Nat → Int32} (hD : D < 9) (hx : x < 9) (hsp : sp D = nI x) (h : sn D = nI B ∨ x = goal) : L_X11_safest_116 km (nI goal) x3 set J (n + 1) a f (nI v) (nI D) (WK K sp sn sd) = L_X11_safest_116 km (nI goal) x3 set J n a f (nI (v ^^^ (v &&& 2 ^ x))) (nI D - nI 1) (WK K sp sn sd) := by
  rw [nf_L_X11_safest_116, if_neg (show ¬ nI D < nI 0 from posN (by omega)), ixN (by omega) (by omega), nI_clamp (by omega), WK_13, WK_14, WK_2, hT.2.2.1.2.1, bnd_eq, bnd_eq, bnd_eq, hsp, ixN (by omega) (by omega), bnd_eq, bnd_eq, bitN hx, andnot, m1sub]
  by_cases q : sn D = nI B
  · rw [if_pos q]
  · rcases h with h | h
    · exact absurd h q
    · rw [if_neg q, ixN (by omega) (by omega), if_pos (by rw [h])]
theorem st_skip (hT : InvT P B Kp Jm I F K) {n D b x v : Nat} {a f : Int32} {sp sn sd : Nat → Int32} (hb : b < B) (hD : D < 9) (hx : x < P) (hxg : x ≠ goal) (hg : goal < P) (hv : v < 256) (hsp : sp D = nI x) (hsn : sn D = nI b) (hn : nxF F set b x v = none) : L_X11_safest_116 km (nI goal) x3 set J (n + 1) a f (nI v) (nI D) (WK K sp sn sd) = L_X11_safest_116 km (nI goal) x3 set J n a f (nI v) (nI D) (WK K sp (upd sn D (nI (b + 1))) sd) := by
  have hs := T_sz hT
  have z1 : ¬ nI 1 = nI 0 := by decide
  have hT2 : InvT P B Kp Jm I F (WK K sp (upd sn D (nI (b + 1))) sd) := InvT_fr hT (fun _ _ _ => rfl) (fun _ _ _ => rfl) (WK_2 _ _ _ _)
  rw [nf_L_X11_safest_116, if_neg (show ¬ nI D < nI 0 from posN (by omega)), ixN (by omega) (by omega), nI_clamp (by omega), WK_13, WK_14, WK_2, hT.2.2.1.2.1, hsn, bnd_eq, bnd_eq, bnd_eq, hsp, if_neg (show ¬ nI b = nI B by rw [eqN (by omega) (by omega)]; omega), ixN (by omega) (by omega), if_neg (show ¬ nI x = nI goal by rw [eqN (by omega) (by omega)]; exact hxg), ixN (by omega) (by omega), ixN (by omega) (by omega), bnd_eq, uWK_14, show nI b + nI 1 = nI (b + 1) from nI_1 b, ixN (by omega) (by omega), WK_13, hsp]
  rcases ot_spec hT2 J hb hx with ⟨y, q, hy, -, -, t3⟩ | ⟨q, -, t3⟩
  · rw [t3, ob_some, bnd_eq]
    by_cases hS : inS set b
    · have hvy : v.testBit y = true := by
        cases e : v.testBit y with
        | true => rfl
        | false => rw [nx_y q hS e] at hn; exact absurd hn (by simp)
      rw [has_yes hS, ob_some, if_neg z1, if_neg (m1N (by omega)), has_yes ((inS_nat (by omega) (by omega)).mpr hvy), ob_some, if_neg z1]
    · rw [has_no hS, ob_some, if_pos rfl]
  · rw [t3, ob_some, bnd_eq]
    by_cases hS : inS set b
    · rw [has_yes hS, ob_some, if_neg z1, if_pos rfl]
    · rw [has_no hS, ob_some, if_pos rfl]
theorem st_push (hT : InvT P B Kp Jm I F K) {n D b x v y : Nat} {st : Int32 × Int32} {sp sn sd : Nat → Int32} (hb : b < B) (hD : D + 1 < 9) (hx : x < P) (hxg : x ≠ goal) (hg : goal < P) (hv : v < 256) (hsp : sp D = nI x) (hsn : sn D = nI b) (hn : nxF F set b x v = some y) {st' : Int32 × Int32} (hst : st' = if y = goal then (if cuF F (sd D) b ≤ st.1 then st else (cuF F (sd D) b, upd (upd sn D (nI (b + 1))) (D + 1) (nI 0) 0 - nI 1)) else st) : L_X11_safest_116 km (nI goal) x3 set J (n + 1) st.1 st.2 (nI v) (nI D) (WK K sp sn sd) = L_X11_safest_116 km (nI goal) x3 set J n st'.1 st'.2 (nI (v ||| 2 ^ y)) (nI (D + 1)) (WK K (upd sp (D + 1) (nI y)) (upd (upd sn D (nI (b + 1))) (D + 1) (nI 0)) (upd sd (D + 1) (cuF F (sd D) b))) := by
  have hs := T_sz hT
  have z1 : ¬ nI 1 = nI 0 := by decide
  have hT2 : InvT P B Kp Jm I F (WK K sp (upd sn D (nI (b + 1))) sd) := InvT_fr hT (fun _ _ _ => rfl) (fun _ _ _ => rfl) (WK_2 _ _ _ _)
  obtain ⟨q0, hS, hvy⟩ := nx_inv hn
  have eja : K 2 (31 + b) = F 164 b := (hT.2.2.2.1 b hb).2.2.2.2.2.2
  rw [nf_L_X11_safest_116, if_neg (show ¬ nI D < nI 0 from posN (by omega)), ixN (by omega) (by omega), nI_clamp (by omega), WK_13, WK_14, WK_2, hT.2.2.1.2.1, hsn, bnd_eq, bnd_eq, bnd_eq, hsp, if_neg (show ¬ nI b = nI B by rw [eqN (by omega) (by omega)]; omega), ixN (by omega) (by omega), if_neg (show ¬ nI x = nI goal by rw [eqN (by omega) (by omega)]; exact hxg), ixN (by omega) (by omega), ixN (by omega) (by omega), bnd_eq, uWK_14, show nI b + nI 1 = nI (b + 1) from nI_1 b, ixN (by omega) (by omega), WK_13, hsp]
  rcases ot_spec hT2 J hb hx with ⟨z, q, hy, -, -, t3⟩ | ⟨q, -, t3⟩
  · have ezy : z = y := by rw [q0] at q; exact (Option.some.inj q).symm
    subst ezy
    rw [t3, ob_some, bnd_eq, has_yes hS, ob_some, if_neg z1, if_neg (m1N (by omega)), has_no (fun h => by rw [(inS_nat (by omega) (by omega)).mp h] at hvy; exact absurd hvy (by simp)), ob_some, if_pos rfl]
    simp (disch := omega) only [bnd_eq, nI_add, ixN, nI_clamp, WK_13, WK_14, WK_15, WK_2, uWK_13, uWK_14, uWK_15, setb, eja, upd_same]
    rw [hst]
    by_cases e : z = goal
    · rw [if_pos (show nI z = nI goal by rw [e]), if_pos e]
      by_cases q2 : cuF F (sd D) b ≤ st.1
      · rw [if_pos q2]
        exact if_pos q2
      · rw [if_neg q2]
        exact if_neg q2
    · rw [if_neg (show ¬ nI z = nI goal by rw [eqN (by omega) (by omega)]; exact e), if_neg e]
      rfl
  · rw [q0] at q
    exact absurd q (by simp)
theorem stack_l (hT : InvT P B Kp Jm I F K) (hg : goal < P) {d x v D E : Nat} {f o : Int32} (hd : unM P v ≤ d) (hP : unM P v + D + 1 = P) (hx : x < P) (hxg : x ≠ goal) (hv : v < 256) (hE : 1 ≤ E) (hch : ∀ y f' st sp sn sd, y < P → y ≠ goal → v.testBit y = false → sp (D + 1) = nI y → sn (D + 1) = nI 0 → f' = sn 0 - nI 1 → ¬ f' = -1 → ∃ c sp' sn' sd', c ≤ E ∧ (∀ i, i < D + 1 → sp' i = sp i ∧ sn' i = sn i ∧ sd' i = sd i) ∧ ∀ n, L_X11_safest_116 km (nI goal) x3 set J (n + c) st.1 st.2 (nI (v ||| 2 ^ y)) (nI (D + 1)) (WK K sp sn sd) = L_X11_safest_116 km (nI goal) x3 set J n (wkW F set B goal d y (v ||| 2 ^ y) (sd (D + 1)) f' st).1 (wkW F set B goal d y (v ||| 2 ^ y) (sd (D + 1)) f' st).2 (nI v) (nI D) (WK K sp' sn' sd')) : ∀ m b st sp sn sd, b + m = B → sp D = nI x → sn D = nI b → sd D = o → ((D = 0 ∧ f = -1) ∨ (1 ≤ D ∧ f = sn 0 - nI 1 ∧ ¬ f = -1)) → ∃ c sp' sn' sd', c ≤ m * (1 + E) + 1 ∧ (∀ i, i < D → sp' i = sp i ∧ sn' i = sn i ∧ sd' i = sd i) ∧ ∀ n, L_X11_safest_116 km (nI goal) x3 set J (n + c) st.1 st.2 (nI v) (nI D) (WK K sp sn sd) = L_X11_safest_116 km (nI goal) x3 set J n (lpW (wkW F set B goal d) F set x v o f m b st).1 (lpW (wkW F set B goal d) F set x v o f m b st).2 (nI (v ^^^ (v &&& 2 ^ x))) (nI D - nI 1) (WK K sp' sn' sd') := by
  have hs := T_sz hT
  intro m
  induction m with
  | zero =>
    intro b st sp sn sd h1 h2 h3 h4 h5
    refine ⟨1, sp, sn, sd, by omega, fun i _ => ⟨rfl, rfl, rfl⟩, fun n => ?_⟩
    rw [st_pop hT (by omega) (by omega) h2 (Or.inl (by rw [h3]; congr 1)), lpW]
  | succ m ih =>
    intro b st sp sn sd h1 h2 h3 h4 h5
    have em : (m + 1) * (1 + E) = m * (1 + E) + (1 + E) := Nat.succ_mul m (1 + E)
    have h5' : ∀ sn' : Nat → Int32, (1 ≤ D → sn' 0 = sn 0) → ((D = 0 ∧ f = -1) ∨ (1 ≤ D ∧ f = sn' 0 - nI 1 ∧ ¬ f = -1)) := fun sn' hs' => by
      rcases h5 with h5 | ⟨a1, a2, a3⟩
      · exact Or.inl h5
      · exact Or.inr ⟨a1, by rw [hs' a1]; exact a2, a3⟩
    cases hn : nxF F set b x v with
    | none =>
      obtain ⟨c, sp', sn', sd', c1, c2, c3⟩ := ih (b + 1) st sp (upd sn D (nI (b + 1))) sd (by omega) h2 upd_same h4 (h5' _ (fun hD => upd_ne (by omega)))
      refine ⟨c + 1, sp', sn', sd', by omega, fun i hi => ?_, fun n => ?_⟩
      · obtain ⟨d1, d2, d3⟩ := c2 i hi
        exact ⟨d1, by rw [d2, upd_ne (by omega)], d3⟩
      · rw [show n + (c + 1) = (n + c) + 1 by omega, st_skip hT (by omega) (by omega) hx hxg hg hv h2 h3 hn, c3 n, lpW, hn]
    | some y =>
      obtain ⟨q0, hS, hvy⟩ := nx_inv hn
      have hy : y < P := by
        rcases ot_spec hT J (b := b) (x := x) (by omega) hx with ⟨z, q, hz, -⟩ | ⟨q, -⟩
        · rw [q0] at q; rw [Option.some.inj q]; exact hz
        · rw [q0] at q; exact absurd q (by simp)
      have hu := un_step hy hvy
      have hf' : (if f = -1 then nI b else f) = upd (upd sn D (nI (b + 1))) (D + 1) (nI 0) 0 - nI 1 := by
        rw [upd_ne (by omega)]
        rcases h5 with ⟨a1, a2⟩ | ⟨a1, a2, a3⟩
        · subst a1
          rw [if_pos a2, upd_same, subN (by omega), Nat.add_sub_cancel]
        · rw [if_neg a3, upd_ne (by omega), a2]
      have hf2 : ¬ (if f = -1 then nI b else f) = -1 := by
        rcases h5 with ⟨a1, a2⟩ | ⟨a1, a2, a3⟩
        · rw [if_pos a2]; exact m1N (by omega)
        · rw [if_neg a3]; exact a3
      by_cases e : y = goal
      · obtain ⟨d, rfl⟩ : ∃ z, d = z + 1 := ⟨d - 1, by omega⟩
        obtain ⟨c, sp', sn', sd', c1, c2, c3⟩ := ih (b + 1) (wkW F set B goal (d + 1) y (v ||| 2 ^ y) (cuF F o b) (if f = -1 then nI b else f) st) (upd sp (D + 1) (nI y)) (upd (upd sn D (nI (b + 1))) (D + 1) (nI 0)) (upd sd (D + 1) (cuF F o b)) (by omega) (by rw [upd_ne (by omega)]; exact h2) (by rw [upd_ne (by omega), upd_same]) (by rw [upd_ne (by omega)]; exact h4) (h5' _ (fun hD => by rw [upd_ne (by omega), upd_ne (by omega)]))
        refine ⟨c + 1 + 1, sp', sn', sd', by omega, fun i hi => ?_, fun n => ?_⟩
        · obtain ⟨d1, d2, d3⟩ := c2 i hi
          exact ⟨by rw [d1, upd_ne (by omega)], by rw [d2, upd_ne (by omega), upd_ne (by omega)], by rw [d3, upd_ne (by omega)]⟩
        · rw [show n + (c + 1 + 1) = (n + c + 1) + 1 by omega, st_push hT (by omega) (by omega) hx hxg hg hv h2 h3 hn (st' := wkW F set B goal (d + 1) y (v ||| 2 ^ y) (cuF F o b) (if f = -1 then nI b else f) st) (by rw [wkW, if_pos e, if_pos e, h4, hf']), st_pop hT (by omega) (by omega) upd_same (Or.inr e), clr_set hvy, subN (by omega), Nat.add_sub_cancel, h4, c3 n, lpW, hn]
      · obtain ⟨c1, sp1, sn1, sd1, k1, k2, k3⟩ := hch y (if f = -1 then nI b else f) st (upd sp (D + 1) (nI y)) (upd (upd sn D (nI (b + 1))) (D + 1) (nI 0)) (upd sd (D + 1) (cuF F o b)) hy e hvy upd_same upd_same hf' hf2
        rw [upd_same] at k3
        obtain ⟨b1, b2, b3⟩ := k2 D (by omega)
        obtain ⟨c, sp', sn', sd', c2, c3, c4⟩ := ih (b + 1) (wkW F set B goal d y (v ||| 2 ^ y) (cuF F o b) (if f = -1 then nI b else f) st) sp1 sn1 sd1 (by omega) (by rw [b1, upd_ne (by omega)]; exact h2) (by rw [b2, upd_ne (by omega), upd_same]) (by rw [b3, upd_ne (by omega)]; exact h4) (h5' _ (fun hD => by rw [(k2 0 (by omega)).2.1, upd_ne (by omega), upd_ne (by omega)]))
        refine ⟨c + c1 + 1, sp', sn', sd', by omega, fun i hi => ?_, fun n => ?_⟩
        · obtain ⟨d1, d2, d3⟩ := c3 i hi
          obtain ⟨e1, e2, e3⟩ := k2 i (by omega)
          exact ⟨by rw [d1, e1, upd_ne (by omega)], by rw [d2, e2, upd_ne (by omega), upd_ne (by omega)], by rw [d3, e3, upd_ne (by omega)]⟩
        · rw [show n + (c + c1 + 1) = (n + c + c1) + 1 by omega, st_push hT (by omega) (by omega) hx hxg hg hv h2 h3 hn (st' := st) (by rw [if_neg e]), h4, k3 (n + c), c4 n, lpW, hn]
theorem stack_m (hT : InvT P B Kp Jm I F K) (hg : goal < P) : ∀ d x v D f o, unM P v ≤ d → unM P v + D + 1 = P → x < P → x ≠ goal → v < 256 → ∀ m b st sp sn sd, b + m = B → sp D = nI x → sn D = nI b → sd D = o → ((D = 0 ∧ f = -1) ∨ (1 ≤ D ∧ f = sn 0 - nI 1 ∧ ¬ f = -1)) → ∃ c sp' sn' sd', c ≤ m * (1 + EW d) + 1 ∧ (∀ i, i < D → sp' i = sp i ∧ sn' i = sn i ∧ sd' i = sd i) ∧ ∀ n, L_X11_safest_116 km (nI goal) x3 set J (n + c) st.1 st.2 (nI v) (nI D) (WK K sp sn sd) = L_X11_safest_116 km (nI goal) x3 set J n (lpW (wkW F set B goal d) F set x v o f m b st).1 (lpW (wkW F set B goal d) F set x v o f m b st).2 (nI (v ^^^ (v &&& 2 ^ x))) (nI D - nI 1) (WK K sp' sn' sd') := by
  have hs := T_sz hT
  intro d
  induction d with
  | zero =>
    intro x v D f o h1 h2 hx hxg hv
    exact stack_l hT hg h1 h2 hx hxg hv (EW_1 0) (fun y f' st sp sn sd hy hyg hvy => by have := un_step hy hvy; omega)
  | succ d ih =>
    intro x v D f o h1 h2 hx hxg hv
    refine stack_l hT hg h1 h2 hx hxg hv (EW_1 (d + 1)) (fun y f' st sp sn sd hy hyg hvy q1 q2 q3 q4 => ?_)
    have hu := un_step hy hvy
    obtain ⟨c, sp', sn', sd', c1, c2, c3⟩ := ih y (v ||| 2 ^ y) (D + 1) f' (sd (D + 1)) (by omega) (by omega) hy hyg (or_lt8 hv (by omega)) B 0 st sp sn sd (by omega) q1 q2 rfl (Or.inr ⟨by omega, q3, q4⟩)
    have hB9 : B * (1 + EW d) ≤ 9 * (1 + EW d) := Nat.mul_le_mul_right _ hs.2.1
    refine ⟨c, sp', sn', sd', by rw [EW]; omega, c2, fun n => ?_⟩
    rw [c3 n, clr_set hvy, subN (by omega), Nat.add_sub_cancel, wkW, if_neg hyg]
end Stack
theorem step_safest : ∀ (I : WI) (F : WF) (J : WI) (K : WF) (x1 : Int32) (x2 : Int32) (x3 : Int32), Inv I F J K → ∃ (a : Int32 × WI) (b : Int32 × WI × WF), f_X10_safest x1 x2 x3 I F = some a ∧ f_X11_safest x1 x2 x3 J K = some b ∧ a.1 = b.1 ∧ Inv a.2 F b.2.1 b.2.2 := fun I F J K x1 x2 x3 h => by
  have h0 := h
  obtain ⟨P, B, Kp, Jm, hA⟩ := h
  have hT : InvT P B Kp Jm I F K := hA.1
  have hN : InvN P B Kp Jm I F K := hA.2.1
  have hs := T_sz hT
  have z1 : ¬ nI 1 = nI 0 := by decide
  by_cases h1 : inR x1 Jm
  · obtain ⟨j, hj, rfl⟩ := h1
    by_cases h2 : inR x2 P
    · obtain ⟨x, hx, rfl⟩ := h2
      by_cases h3 : inR x3 2
      · obtain ⟨w, hw, rfl⟩ := h3
        obtain ⟨⟨p, hp, ep⟩, -, -, -, ep2, -⟩ := hN.2.2.2.2.2.1 j hj
        rw [ep] at ep2
        have hu := un_0 hp
        have hp8 : 2 ^ p < 256 := pow_lt8 (by omega)
        obtain ⟨set, eset⟩ : ∃ s, s = drv (cmF I F Kp j) B 0 0 := ⟨_, rfl⟩
        obtain ⟨I2, eI2⟩ : ∃ i, i = upd (upd I 54 (nI x)) 55 set := ⟨_, rfl⟩
        have hT2 : InvT P B Kp Jm I2 F K := InvT_fr hT (fun n _ _ => by rw [eI2, upd_ne (by omega), upd_ne (by omega)]) (fun _ _ _ => rfl) rfl
        obtain ⟨S, eS⟩ : ∃ s, s = wkW F set B x (unM P (2 ^ p) + 1) p (2 ^ p) (nI 1000000000) (-1) (-1, -1) := ⟨_, rfl⟩
        have hwalk : f_X9_walk_31 10 (nI p) (nI (2 ^ p)) (nI 1000000000) (-1) (nI 0) (WS I2 (-1, -1)) F = some (WS I2 S) := by
          rw [eS]
          exact walk_c hT2 (by rw [eI2, upd_ne (by omega), upd_same]) (by rw [eI2, upd_same]) hx (unM P (2 ^ p)) 10 p (2 ^ p) 0 _ _ _ (Nat.le_refl _) (by omega) (by omega) hp hp8
        have fin : ∀ sp sn sd, Inv (WS I2 S) F (upd J 0 (nI 0)) (WK K sp sn sd) := fun sp sn sd => ⟨P, B, Kp, Jm, InvP_scr hA (fun n hn => by rw [WS_ne _ _ (by omega) (by omega), eI2, upd_ne (by omega), upd_ne (by omega)]) (fun _ _ => rfl) (fun n hn => upd_ne hn) (fun a ha => WK_ne _ _ _ _ (by omega) (by omega) (by omega))⟩
        have fin0 : Inv (WS I2 S) F (upd J 0 (nI 0)) K := ⟨P, B, Kp, Jm, InvP_scr hA (fun n hn => by rw [WS_ne _ _ (by omega) (by omega), eI2, upd_ne (by omega), upd_ne (by omega)]) (fun _ _ => rfl) (fun n hn => upd_ne hn) (fun _ _ => rfl)⟩
        have hc : f_X10_safest (nI j) (nI x) (nI w) I F = if nI w = nI 0 then some (S.1, WS I2 S) else some (S.2, WS I2 S) := by
          rw [nf_f_X10_safest, hasJ_in hT hj, ob_some, if_neg z1, hasP_in hT hx, ob_some, if_neg z1, if_neg (show ¬ nI w < nI 0 by rw [ltN (by omega) (by omega)]; omega), if_pos (show nI w ≤ nI 1 by rw [leN (by omega) (by omega)]; omega), ixN (by omega) (by omega), daC hT hj, ob_some, nI_clamp (by omega), ep, nf_f_X9_findSafest_31, ← eset]
          simp only [bnd_eq]
          rw [bitN (by omega), ← eI2]
          show Option.bind (Option.bind (f_X9_walk_31 10 (nI p) (nI (2 ^ p)) (nI 1000000000) (-1) (nI 0) (WS I2 (-1, -1)) F) fun c_859 => some c_859) _ = _
          rw [hwalk, ob_some, ob_some, WS_52, WS_53]
        have hm : f_X11_safest (nI j) (nI x) (nI w) J K = if nI p = nI x then (if nI w = nI 0 then some (nI 1000000000, upd J 0 (nI 0), K) else some (-1, upd J 0 (nI 0), K)) else L_X11_safest_116 (fun x5_1521 x6_1522 F_1523 => if nI w = (nI 0) then (some (x5_1521, upd J 0 (nI 0), F_1523)) else (some (x6_1522, upd J 0 (nI 0), F_1523))) (nI x) (nI w) set (upd J 0 (nI 0)) FU (-1) (-1) (nI (2 ^ p)) (nI 0) (WK K (upd (K 13) 0 (nI p)) (upd (K 14) 0 (nI 0)) (upd (K 15) 0 (nI 1000000000))) := by
          have ej : nI 0 + nI j = nI j := by rw [nI_add, Nat.zero_add]
          rw [nf_f_X11_safest, bnd_eq, isJ_in hT hj, ob_some, if_neg z1, isP_in hT hx, ob_some, if_neg z1, in_in (by omega) (by omega) (by omega), ob_some, if_neg z1, ej, ixN (by omega) (by omega), nI_clamp (by omega), ep2, daM hT hN hj, ob_some, ← eset]
          simp (disch := omega) only [bnd_eq, ixN]
          rw [bitN (by omega)]
          rfl
        rw [hc, hm]
        by_cases e : p = x
        · have eS2 : S = (nI 1000000000, -1) := by
            rw [eS, wkW, if_pos e, if_neg (show ¬ nI 1000000000 ≤ ((-1, -1) : Int32 × Int32).1 by decide)]
          rw [if_pos (show nI p = nI x by rw [e])]
          by_cases hw0 : nI w = nI 0
          · rw [if_pos hw0, if_pos hw0]
            exact ⟨_, _, rfl, rfl, by rw [eS2], fin0⟩
          · rw [if_neg hw0, if_neg hw0]
            exact ⟨_, _, rfl, rfl, by rw [eS2], fin0⟩
        · rw [if_neg (show ¬ nI p = nI x by rw [eqN (by omega) (by omega)]; exact e)]
          obtain ⟨c, sp, sn, sd, c1, -, c3⟩ := stack_m (J := upd J 0 (nI 0)) (x3 := nI w) (set := set) (km := fun x5_1521 x6_1522 F_1523 => if nI w = (nI 0) then (some (x5_1521, upd J 0 (nI 0), F_1523)) else (some (x6_1522, upd J 0 (nI 0), F_1523))) hT hx (unM P (2 ^ p)) p (2 ^ p) 0 (-1) (nI 1000000000) (Nat.le_refl _) (by omega) hp e hp8 B 0 (-1, -1) (upd (K 13) 0 (nI p)) (upd (K 14) 0 (nI 0)) (upd (K 15) 0 (nI 1000000000)) (by omega) upd_same upd_same upd_same (Or.inl ⟨rfl, rfl⟩)
          have eS2 : S = lpW (wkW F set B x (unM P (2 ^ p))) F set p (2 ^ p) (nI 1000000000) (-1) B 0 (-1, -1) := by
            rw [eS, wkW, if_neg e]
          rw [← eS2] at c3
          have hE := EW_lt (unM P (2 ^ p)) (by omega)
          have hB9 : B * (1 + EW (unM P (2 ^ p))) ≤ 9 * (1 + EW (unM P (2 ^ p))) := Nat.mul_le_mul_right _ hs.2.1
          obtain ⟨f, ef⟩ : ∃ f, FU = (f + 1) + c := ⟨FU - c - 1, by rw [FU_big]; omega⟩
          have c4 := c3 (f + 1)
          rw [← ef, nf_L_X11_safest_116, if_pos (show nI 0 - nI 1 < nI 0 by decide)] at c4
          rw [show L_X11_safest_116 _ (nI x) (nI w) set (upd J 0 (nI 0)) FU (-1) (-1) (nI (2 ^ p)) (nI 0) _ = _ from c4]
          by_cases hw0 : nI w = nI 0
          · rw [if_pos hw0, if_pos hw0]
            exact ⟨_, _, rfl, rfl, rfl, fin sp sn sd⟩
          · rw [if_neg hw0, if_neg hw0]
            exact ⟨_, _, rfl, rfl, rfl, fin sp sn sd⟩
      · refine ⟨(-1000000002, I), (-1000000002, upd J 0 (nI 0), K), ?_, ?_, rfl, Inv_J0 h0⟩
        · rw [nf_f_X10_safest, hasJ_in hT hj, ob_some, if_neg z1, hasP_in hT hx, ob_some, if_neg z1]
          rcases inR_out (by omega) h3 with q | q
          · rw [if_pos (show x3 < nI 0 from q)]
          · by_cases q2 : x3 < nI 0
            · rw [if_pos q2]
            · rw [if_neg q2, if_neg (show ¬ x3 ≤ nI 1 from fun q3 => absurd (Int32.le_trans q q3) (by decide))]
        · rw [nf_f_X11_safest, bnd_eq, isJ_in hT hj, ob_some, if_neg z1, isP_in hT hx, ob_some, if_neg z1, in_out (x := x3) (a := 0) (b := 1) (by omega) (fun j _ hj => nin h3 j (by omega)) (by omega), ob_some, if_pos rfl]
    · refine ⟨(-1000000001, I), (-1000000001, upd J 0 (nI 0), K), ?_, ?_, rfl, Inv_J0 h0⟩
      · rw [nf_f_X10_safest, hasJ_in hT hj, ob_some, if_neg z1, hasP_out hT h2, ob_some, if_pos rfl]
      · rw [nf_f_X11_safest, bnd_eq, isJ_in hT hj, ob_some, if_neg z1, isP_out hT h2, ob_some, if_pos rfl]
  · refine ⟨(-1000000001, I), (-1000000001, upd J 0 (nI 0), K), ?_, ?_, rfl, Inv_J0 h0⟩
    · rw [nf_f_X10_safest, hasJ_out hT h1, ob_some, if_pos rfl]
    · rw [nf_f_X11_safest, bnd_eq, isJ_out hT h1, ob_some, if_pos rfl]
