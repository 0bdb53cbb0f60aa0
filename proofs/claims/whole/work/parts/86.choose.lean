/-! pure layer: posts, the class's side -/
def WP (F : WF) (ch fl tm bf : Nat → Int32) : WF := fun a => if a = 170 then ch else if a = 171 then fl else if a = 172 then tm else if a = 173 then bf else F a
theorem WP_170 (F : WF) (ch fl tm bf : Nat → Int32) : WP F ch fl tm bf 170 = ch := rfl
theorem WP_171 (F : WF) (ch fl tm bf : Nat → Int32) : WP F ch fl tm bf 171 = fl := rfl
theorem WP_172 (F : WF) (ch fl tm bf : Nat → Int32) : WP F ch fl tm bf 172 = tm := rfl
theorem WP_173 (F : WF) (ch fl tm bf : Nat → Int32) : WP F ch fl tm bf 173 = bf := rfl
theorem WP_ne (F : WF) (ch fl tm bf : Nat → Int32) {a : Nat} (h : ¬ (170 ≤ a ∧ a ≤ 173)) : WP F ch fl tm bf a = F a := by
  unfold WP
  rw [if_neg (by omega), if_neg (by omega), if_neg (by omega), if_neg (by omega)]
theorem uWP_170 (F : WF) (ch fl tm bf s : Nat → Int32) : uF (WP F ch fl tm bf) 170 s = WP F s fl tm bf := by
  funext a
  by_cases h : a = 170
  · subst h; rw [uF_same, WP_170]
  · rw [uF_ne _ _ h]; unfold WP; rw [if_neg h, if_neg h]
theorem uWP_171 (F : WF) (ch fl tm bf s : Nat → Int32) : uF (WP F ch fl tm bf) 171 s = WP F ch s tm bf := by
  funext a
  by_cases h : a = 171
  · subst h; rw [uF_same, WP_171]
  · rw [uF_ne _ _ h]; unfold WP; rw [if_neg h, if_neg h]
theorem uWP_172 (F : WF) (ch fl tm bf s : Nat → Int32) : uF (WP F ch fl tm bf) 172 s = WP F ch fl s bf := by
  funext a
  by_cases h : a = 172
  · subst h; rw [uF_same, WP_172]
  · rw [uF_ne _ _ h]; unfold WP; rw [if_neg h, if_neg h]
theorem uWP_173 (F : WF) (ch fl tm bf s : Nat → Int32) : uF (WP F ch fl tm bf) 173 s = WP F ch fl tm s := by
  funext a
  by_cases h : a = 173
  · subst h; rw [uF_same, WP_173]
  · rw [uF_ne _ _ h]; unfold WP; rw [if_neg h, if_neg h]
theorem WP_id (F : WF) : WP F (F 170) (F 171) (F 172) (F 173) = F := by
  funext a
  by_cases h0 : a = 170
  · subst h0; rfl
  · by_cases h1 : a = 171
    · subst h1; rfl
    · by_cases h2 : a = 172
      · subst h2; rfl
      · by_cases h3 : a = 173
        · subst h3; rfl
        · exact WP_ne _ _ _ _ _ (by omega)
theorem tmF_WP (I : WI) (F : WF) (ch fl tm bf : Nat → Int32) (k : Nat) : tmF I (WP F ch fl tm bf) k = tmF I F k := rfl
theorem flF_WP (I : WI) (F : WF) (ch fl tm bf : Nat → Int32) (j b : Nat) : flF I (WP F ch fl tm bf) j b = flF I F j b := rfl
def insG (g : Nat → Nat) (x i l : Nat) : Nat := if l < i then g l else if l = i then x else g (l - 1)
theorem ins_lt {g : Nat → Nat} {x i l : Nat} (h : l < i) : insG g x i l = g l := if_pos h
theorem ins_eq {g : Nat → Nat} {x i : Nat} : insG g x i i = x := by
  unfold insG
  rw [if_neg (by omega), if_pos rfl]
theorem ins_gt {g : Nat → Nat} {x i l : Nat} (h : i < l) : insG g x i l = g (l - 1) := by
  unfold insG
  rw [if_neg (by omega), if_neg (by omega)]
theorem cnt_ins (p : Nat → Bool) (g : Nat → Nat) (x : Nat) : ∀ n i, i ≤ n → cnt (fun l => p (insG g x i l)) (n + 1) = cnt (fun l => p (g l)) n + (if p x then 1 else 0) := by
  intro n
  induction n with
  | zero =>
    intro i hi
    have : i = 0 := by omega
    subst this
    show cnt (fun l => p (insG g x 0 l)) 0 + (if p (insG g x 0 0) then 1 else 0) = cnt (fun l => p (g l)) 0 + _
    rw [ins_eq]
    rfl
  | succ n ih =>
    intro i hi
    by_cases e : i = n + 1
    · subst e
      rw [cnt]
      show cnt (fun l => p (insG g x (n + 1) l)) (n + 1) + (if p (insG g x (n + 1) (n + 1)) then 1 else 0) = _
      rw [ins_eq, cnt_congr (n + 1) (fun l hl => by
        show p (insG g x (n + 1) l) = p (g l)
        rw [ins_lt hl])]
    · rw [cnt]
      show cnt (fun l => p (insG g x i l)) (n + 1) + (if p (insG g x i (n + 1)) then 1 else 0) = _
      rw [ih i (by omega), ins_gt (by omega), Nat.add_sub_cancel, cnt]
      omega
theorem srt_ins {f : Nat → Int} {g : Nat → Nat} {b i : Nat} (hg : srt f g b) (hi : i ≤ b) (h1 : ∀ l, i ≤ l → l < b → f b < f (g l)) (h2 : i = 0 ∨ f (g (i - 1)) ≤ f b) : srt f (insG g b i) (b + 1) := by
  obtain ⟨a1, a2, a3⟩ := hg
  refine ⟨fun l hl => ?_, fun k l hkl hl => ?_, fun p => ?_⟩
  · by_cases q : l < i
    · rw [ins_lt q]; have := a1 l (by omega); omega
    · by_cases q2 : l = i
      · subst q2; rw [ins_eq]; omega
      · rw [ins_gt (by omega)]; have := a1 (l - 1) (by omega); omega
  · by_cases q : k < i
    · rw [ins_lt q]
      by_cases r : l < i
      · rw [ins_lt r]; exact a2 k l hkl (by omega)
      · by_cases r2 : l = i
        · subst r2
          rw [ins_eq]
          rcases h2 with e | e
          · omega
          · exact Int.le_trans (a2 k (l - 1) (by omega) (by omega)) e
        · rw [ins_gt (by omega)]; exact a2 k (l - 1) (by omega) (by omega)
    · by_cases q2 : k = i
      · subst q2
        rw [ins_eq]
        by_cases r2 : l = k
        · subst r2; rw [ins_eq]; exact Int.le_refl _
        · rw [ins_gt (by omega)]; have := h1 (l - 1) (by omega) (by omega); omega
      · rw [ins_gt (by omega), ins_gt (by omega)]; exact a2 (k - 1) (l - 1) (by omega) (by omega)
  · rw [cnt_ins p g b b i hi, a3 p, cnt]
section Choose
variable {P B Kp Jm : Nat} {I : WI} {F K : WF}
theorem prep_t (hT : InvT P B Kp Jm I F K) (x1 : Int32) (kc : WF → Option WF) (ch fl bf : Nat → Int32) : ∀ m k n tm, k + m = Kp → m < n → (∀ i, i < k → tm i = tmF I F i) → ∃ tm', L_X4_prepare_33_2 kc x1 I n (nI k) (WP F ch fl tm bf) = kc (WP F ch fl tm' bf) ∧ ∀ i, i < Kp → tm' i = tmF I F i := by
  have hs := T_sz hT
  intro m
  induction m with
  | zero =>
    intro k n tm h1 h2 h3
    obtain ⟨n, rfl⟩ : ∃ z, n = z + 1 := ⟨n - 1, by omega⟩
    refine ⟨tm, ?_, fun i hi => h3 i (by omega)⟩
    rw [nf_L_X4_prepare_33_2, hT.1.2.2.1, if_pos (by rw [leN (by omega) (by omega)]; omega)]
  | succ m ih =>
    intro k n tm h1 h2 h3
    obtain ⟨n, rfl⟩ : ∃ z, n = z + 1 := ⟨n - 1, by omega⟩
    have hT2 : InvT P B Kp Jm I (WP F ch fl tm bf) K := InvT_fr hT (fun _ _ _ => rfl) (fun a h1 h2 => WP_ne _ _ _ _ _ (by omega)) rfl
    obtain ⟨tm', a1, a2⟩ := ih (k + 1) n (upd tm k (tmF I F k)) (by omega) (by omega) (fun i hi => by
      by_cases e : i = k
      · subst e; rw [upd_same]
      · rw [upd_ne e]; exact h3 i (by omega))
    refine ⟨tm', ?_, a2⟩
    rw [nf_L_X4_prepare_33_2, hT.1.2.2.1, if_neg (by rw [leN (by omega) (by omega)]; omega), tmC hT2 (by omega), ob_some, tmF_WP, ixN (by omega) (by omega), nI_clamp (by omega), bnd_eq, bnd_eq, WP_172, uWP_172, nI_add]
    exact a1
theorem prep_i {j b : Nat} {f : Nat → Int} {g : Nat → Nat} (hb : b < 9) (hgl : ∀ l, l < b → g l < b) (ch fl tm : Nat → Int32) (hfl : ∀ e, e ≤ b → (fl e).toInt = f e) (x1 : Int32) (kc : Int32 → WF → Option WF) : ∀ i n bf, i ≤ b → i < n → (∀ l, l < i → bf l = nI (g l)) → (∀ l, i < l → l ≤ b → bf l = nI (g (l - 1))) → (∀ l, i ≤ l → l < b → f b < f (g l)) → ∃ i' bf', i' ≤ b ∧ L_X4_prepare_33_69 kc x1 (nI b) I n (nI i) (WP F ch fl tm bf) = kc (nI i') (WP F ch fl tm bf') ∧ (∀ l, l < i' → bf' l = nI (g l)) ∧ (∀ l, i' < l → l ≤ b → bf' l = nI (g (l - 1))) ∧ (∀ l, i' ≤ l → l < b → f b < f (g l)) ∧ (i' = 0 ∨ f (g (i' - 1)) ≤ f b) := by
  intro i
  induction i with
  | zero =>
    intro n bf h1 h2 h3 h4 h5
    obtain ⟨n, rfl⟩ : ∃ z, n = z + 1 := ⟨n - 1, by omega⟩
    refine ⟨0, bf, h1, ?_, h3, h4, h5, Or.inl rfl⟩
    rw [nf_L_X4_prepare_33_69, if_pos (show nI 0 ≤ nI 0 by decide)]
  | succ i ih =>
    intro n bf h1 h2 h3 h4 h5
    obtain ⟨n, rfl⟩ : ∃ z, n = z + 1 := ⟨n - 1, by omega⟩
    have hgi := hgl i (by omega)
    rw [nf_L_X4_prepare_33_69, if_neg (show ¬ nI (i + 1) ≤ nI 0 by rw [leN (by omega) (by omega)]; omega), subN (by omega), Nat.add_sub_cancel, ixN (by omega) (by omega), nI_clamp (by omega), WP_173, h3 i (by omega), ixN (by omega) (by omega), ixN (by omega) (by omega), nI_clamp (by omega), nI_clamp (by omega), WP_171]
    by_cases q : f (g i) ≤ f b
    · rw [if_pos (show fl (g i) ≤ fl b from Int32.le_iff_toInt_le.mpr (by rw [hfl _ (by omega), hfl _ (by omega)]; exact q))]
      exact ⟨i + 1, bf, h1, rfl, h3, h4, h5, Or.inr (by rw [Nat.add_sub_cancel]; exact q)⟩
    · rw [if_neg (show ¬ fl (g i) ≤ fl b from fun h => q (by have := Int32.le_iff_toInt_le.mp h; rw [hfl _ (by omega), hfl _ (by omega)] at this; exact this)), ixN (by omega) (by omega), ixN (by omega) (by omega), bnd_eq, bnd_eq, nI_clamp (by omega), uWP_173, m1add (by omega), Nat.add_sub_cancel]
      exact ih n (upd bf (i + 1) (nI (g i))) (by omega) (by omega) (fun l hl => by rw [upd_ne (by omega)]; exact h3 l (by omega)) (fun l hl hl2 => by
        by_cases e : l = i + 1
        · subst e; rw [upd_same, Nat.add_sub_cancel]
        · rw [upd_ne e]; exact h4 l (by omega) hl2) (fun l hl hl2 => by
        by_cases e : l = i
        · subst e; omega
        · exact h5 l (by omega) hl2)
theorem prep_f (hT : InvT P B Kp Jm I F K) {j : Nat} (hj : j < Jm) (kc : WF → Option WF) (ch tm : Nat → Int32) : ∀ m b n fl bf g, b + m = B → m < n → (∀ e, e < b → fl e = flF I F j e) → (∀ l, l < b → bf l = nI (g l)) → srt (fun e => (flF I F j e).toInt) g b → ∃ fl' bf' g', L_X4_prepare_33_38 kc (nI j) I n (nI b) (WP F ch fl tm bf) = kc (WP F ch fl' tm bf') ∧ (∀ e, e < B → fl' e = flF I F j e) ∧ (∀ l, l < B → bf' l = nI (g' l)) ∧ srt (fun e => (flF I F j e).toInt) g' B := by
  have hs := T_sz hT
  intro m
  induction m with
  | zero =>
    intro b n fl bf g h1 h2 h3 h4 h5
    obtain ⟨n, rfl⟩ : ∃ z, n = z + 1 := ⟨n - 1, by omega⟩
    have : b = B := by omega
    subst this
    refine ⟨fl, bf, g, ?_, h3, h4, h5⟩
    rw [nf_L_X4_prepare_33_38, hT.1.2.1, if_pos (by rw [leN (by omega) (by omega)]; omega)]
  | succ m ih =>
    intro b n fl bf g h1 h2 h3 h4 h5
    obtain ⟨n, rfl⟩ : ∃ z, n = z + 1 := ⟨n - 1, by omega⟩
    have hT2 : InvT P B Kp Jm I (WP F ch fl tm bf) K := InvT_fr hT (fun _ _ _ => rfl) (fun a h1 h2 => WP_ne _ _ _ _ _ (by omega)) rfl
    have hfl1 : ∀ e, e < b + 1 → upd fl b (flF I F j b) e = flF I F j e := fun e he => by
      by_cases q : e = b
      · subst q; rw [upd_same]
      · rw [upd_ne q]; exact h3 e (by omega)
    obtain ⟨i', bf', c1, c2, c3, c4, c5, c6⟩ := prep_i (I := I) (F := F) (j := j) (b := b) (f := fun e => (flF I F j e).toInt) (g := g) (by omega) h5.1 ch (upd fl b (flF I F j b)) tm (fun e he => by rw [hfl1 e (by omega)]) (nI j) (fun x3_874 F_875 => ixG x3_874 9 (bnd (uF F_875 173 (upd (F_875 173) x3_874.toNatClampNeg (nI b))) fun F_876 => bnd (nI b + (nI 1)) fun x2_877 => L_X4_prepare_33_38 kc (nI j) I n x2_877 F_876)) b FU bf (Nat.le_refl _) (by rw [FU_big]; omega) h4 (fun l a1 a2 => by omega) (fun l a1 a2 => by omega)
    obtain ⟨fl', bf2, g', d1, d2, d3, d4⟩ := ih (b + 1) n (upd fl b (flF I F j b)) (upd bf' i' (nI b)) (insG g b i') (by omega) (by omega) hfl1 (fun l hl => by
      by_cases q : l < i'
      · rw [upd_ne (by omega), ins_lt q]; exact c3 l q
      · by_cases q2 : l = i'
        · subst q2; rw [upd_same, ins_eq]
        · rw [upd_ne q2, ins_gt (by omega)]; exact c4 l (by omega) (by omega)) (srt_ins h5 c1 c5 c6)
    refine ⟨fl', bf2, g', ?_, d2, d3, d4⟩
    rw [nf_L_X4_prepare_33_38, hT.1.2.1, if_neg (by rw [leN (by omega) (by omega)]; omega), flC hT2 hj (by omega), ob_some, flF_WP, ixN (by omega) (by omega), nI_clamp (by omega), bnd_eq, WP_171, uWP_171, bnd_eq, c2, ixN (by omega) (by omega), nI_clamp (by omega), bnd_eq, bnd_eq, WP_173, uWP_173, nI_add]
    exact d1
theorem prep_c (hT : InvT P B Kp Jm I F K) {j : Nat} (hj : j < Jm) : ∃ fl tm bf g, f_X4_prepare_33 (nI j) I F = some (WP F (F 170) fl tm bf) ∧ (∀ k, k < Kp → tm k = tmF I F k) ∧ (∀ e, e < B → fl e = flF I F j e) ∧ (∀ l, l < B → bf l = nI (g l)) ∧ srt (fun e => (flF I F j e).toInt) g B := by
  have hs := T_sz hT
  obtain ⟨tm, a1, a2⟩ := prep_t hT (nI j) (fun F_867 => bnd (nI 0) fun x2_868 => L_X4_prepare_33_38 (fun F_878 => some F_878) (nI j) I FU x2_868 F_867) (F 170) (F 171) (F 173) Kp 0 FU (F 172) (by omega) (by rw [FU_big]; omega) (fun i hi => by omega)
  obtain ⟨fl, bf, g, b1, b2, b3, b4⟩ := prep_f hT hj (fun F_878 => some F_878) (F 170) tm B 0 FU (F 171) (F 173) (fun _ => 0) (by omega) (by rw [FU_big]; omega) (fun e he => by omega) (fun e he => by omega) ⟨fun i hi => by omega, fun i k _ hk => by omega, fun p => rfl⟩
  refine ⟨fl, tm, bf, g, ?_, a2, b2, b3, b4⟩
  rw [WP_id] at a1
  rw [nf_f_X4_prepare_33, bnd_eq, a1, bnd_eq]
  exact b1
end Choose
section Choose2
variable {B Kp : Nat} {I : WI} {F : WF} {t f : Nat → Int} {g : Nat → Nat} {ch fl tm bf : Nat → Int32}
theorem qe_c (h50 : I 50 = nI Kp) (hK : Kp ≤ 9) (htm : ∀ k, k < Kp → (tm k).toInt = t k) {v : Nat} (hv : v < 512) {fr : Nat → Bool} (hfr : ∀ k, k < Kp → fr k = v.testBit k) (x1 : Int32) : f_X4_quickEnough_33 x1 (nI v) I (WP F ch fl tm bf) = some (nI (qeT t Kp fr x1.toInt)) := by
  have lp : ∀ m k n, k + m = Kp → m < n → L_X4_quickEnough_33_5 (fun x3_893 => some x3_893) x1 (nI v) I (WP F ch fl tm bf) n (nI (cnt (fun k => fr k && decide (t k ≤ x1.toInt)) k)) (nI k) = some (nI (cnt (fun k => fr k && decide (t k ≤ x1.toInt)) Kp)) := by
    intro m
    induction m with
    | zero =>
      intro k n h1 h2
      obtain ⟨n, rfl⟩ : ∃ z, n = z + 1 := ⟨n - 1, by omega⟩
      have : k = Kp := by omega
      subst this
      rw [nf_L_X4_quickEnough_33_5, h50, if_pos (by rw [leN (by omega) (by omega)]; omega)]
    | succ m ih =>
      intro k n h1 h2
      obtain ⟨n, rfl⟩ : ∃ z, n = z + 1 := ⟨n - 1, by omega⟩
      have ih' := ih (k + 1) n (by omega) (by omega)
      rw [nf_L_X4_quickEnough_33_5, h50, if_neg (by rw [leN (by omega) (by omega)]; omega), bnd_eq, WP_172, nI_clamp (by omega)]
      simp only [bnd_eq, nI_add]
      rw [cnt] at ih'
      cases hk : v.testBit k with
      | true =>
        rw [if_pos (show ((nI v >>> (nI k &&& nI 31)) &&& nI 1) = nI 1 from (inS_nat (by omega) (by omega)).mpr hk), ixN (by omega) (by omega)]
        by_cases q : t k ≤ x1.toInt
        · rw [if_neg (show ¬ x1 < tm k from fun h => by have := Int32.lt_iff_toInt_lt.mp h; rw [htm k (by omega)] at this; omega)]
          simp only [hfr k (by omega), hk, decide_eq_true q, Bool.and_self, if_true] at ih'
          exact ih'
        · rw [if_pos (show x1 < tm k from Int32.lt_iff_toInt_lt.mpr (by rw [htm k (by omega)]; omega))]
          simp only [decide_eq_false q, Bool.and_false, Bool.false_eq_true, if_false, Nat.add_zero] at ih'
          exact ih'
      | false =>
        rw [if_neg (show ¬ ((nI v >>> (nI k &&& nI 31)) &&& nI 1) = nI 1 from fun h => by rw [(inS_nat (by omega) (by omega)).mp h] at hk; exact absurd hk (by simp))]
        simp only [hfr k (by omega), hk, Bool.false_and, Bool.false_eq_true, if_false, Nat.add_zero] at ih'
        exact ih'
  rw [nf_f_X4_quickEnough_33, bnd_eq, bnd_eq]
  exact lp Kp 0 FU (by omega) (by rw [FU_big]; omega)
theorem mf_c (h49 : I 49 = nI B) (h50 : I 50 = nI Kp) (hB : B ≤ 9) (hK : Kp ≤ 9) (htm : ∀ k, k < Kp → (tm k).toInt = t k) (hfl : ∀ e, e < B → (fl e).toInt = f e) (hbf : ∀ l, l < B → bf l = nI (g l)) (hg : ∀ l, l < B → g l < B) {v : Nat} (hv : v < 512) {fr : Nat → Bool} (hfr : ∀ k, k < Kp → fr k = v.testBit k) {b : Nat} (hb : b ≤ 9) : f_X4_mostFrom_33 (nI b) (nI v) I (WP F ch fl tm bf) = some (nI (hvG t f g Kp B b fr)) := by
  have lp : ∀ m i n, i + m = B → m < n → L_X4_mostFrom_33_5 (fun x3_896 => some x3_896) (nI b) (nI v) I (WP F ch fl tm bf) n (nI (grd t f g Kp b fr i)) (nI i) = some (nI (grd t f g Kp b fr B)) := by
    intro m
    induction m with
    | zero =>
      intro i n h1 h2
      obtain ⟨n, rfl⟩ : ∃ z, n = z + 1 := ⟨n - 1, by omega⟩
      have : i = B := by omega
      subst this
      rw [nf_L_X4_mostFrom_33_5, h49, if_pos (by rw [leN (by omega) (by omega)]; omega)]
    | succ m ih =>
      intro i n h1 h2
      obtain ⟨n, rfl⟩ : ∃ z, n = z + 1 := ⟨n - 1, by omega⟩
      have ih' := ih (i + 1) n (by omega) (by omega)
      have hgi := hg i (by omega)
      have hle := grd_le (t := t) (f := f) (g := g) (Kp := Kp) b fr i
      have hq : qeT t Kp fr (f (g i)) ≤ 9 := Nat.le_trans (cnt_le _ Kp) hK
      rw [nf_L_X4_mostFrom_33_5, h49, if_neg (by rw [leN (by omega) (by omega)]; omega), ixN (by omega) (by omega), nI_clamp (by omega), WP_173, hbf i (by omega), bnd_eq]
      simp only [bnd_eq, nI_add]
      rw [ixN (by omega) (by omega), nI_clamp (by omega), WP_171, qe_c h50 hK htm hv hfr, hfl (g i) hgi, ob_some]
      rw [grd] at ih'
      by_cases q : b ≤ g i
      · rw [if_neg (show ¬ nI (g i) < nI b by rw [ltN (by omega) (by omega)]; omega)]
        by_cases q2 : grd t f g Kp b fr i < qeT t Kp fr (f (g i))
        · rw [if_neg (show ¬ nI (qeT t Kp fr (f (g i))) ≤ nI (grd t f g Kp b fr i) by rw [leN (by omega) (by omega)]; omega)]
          rw [decide_eq_true q, decide_eq_true q2, Bool.and_self, if_pos rfl] at ih'
          exact ih'
        · rw [if_pos (show nI (qeT t Kp fr (f (g i))) ≤ nI (grd t f g Kp b fr i) by rw [leN (by omega) (by omega)]; omega)]
          rw [decide_eq_false q2, Bool.and_false, if_neg (by simp)] at ih'
          exact ih'
      · rw [if_pos (show nI (g i) < nI b by rw [ltN (by omega) (by omega)]; omega)]
        rw [decide_eq_false q, Bool.false_and, if_neg (by simp)] at ih'
        exact ih'
  rw [nf_f_X4_mostFrom_33, bnd_eq, bnd_eq]
  exact lp B 0 FU (by omega) (by rw [FU_big]; omega)
theorem clrb (v k i : Nat) : (v ^^^ (v &&& 2 ^ k)).testBit i = (v.testBit i && !decide (i = k)) := by
  rw [Nat.testBit_xor, Nat.testBit_and, Nat.testBit_two_pow]
  by_cases e : k = i
  · subst e; simp
  · rw [decide_eq_false e, decide_eq_false (fun h => e h.symm)]; simp
theorem clr_lt {v k : Nat} (hv : v < 512) (hk : k < 9) : v ^^^ (v &&& 2 ^ k) < 512 := Nat.xor_lt_two_pow (n := 9) hv (Nat.and_lt_two_pow v (Nat.pow_lt_pow_right (by omega) hk))
theorem lf_c (h49 : I 49 = nI B) (h50 : I 50 = nI Kp) (hB : B ≤ 9) (hK : Kp ≤ 9) (htm : ∀ k, k < Kp → (tm k).toInt = t k) (hfl : ∀ e, e < B → (fl e).toInt = f e) (hbf : ∀ l, l < B → bf l = nI (g l)) (hg : ∀ l, l < B → g l < B) {v : Nat} (hv : v < 512) {fr : Nat → Bool} (hfr : ∀ k, k < Kp → fr k = v.testBit k) {b : Nat} (hb : b < B) : f_X4_leastFor_33 (nI b) (nI v) (nI (hvG t f g Kp B b fr)) I (WP F ch fl tm bf) = some (kOf (lgK t f g Kp B b fr)) := by
  have hhv : ∀ b fr, hvG t f g Kp B b fr ≤ 9 := fun b fr => Nat.le_trans (grd_le b fr B) hB
  have lp : ∀ m k n, k + m = Kp → m < n → L_X4_leastFor_33_3 (some (-1 : Int32)) (nI b) (nI v) (nI (hvG t f g Kp B b fr)) I (WP F ch fl tm bf) n (nI k) = some (kOf (fstK (gdK t f g Kp B b fr) m k)) := by
    intro m
    induction m with
    | zero =>
      intro k n h1 h2
      obtain ⟨n, rfl⟩ : ∃ z, n = z + 1 := ⟨n - 1, by omega⟩
      rw [nf_L_X4_leastFor_33_3, h50, if_pos (by rw [leN (by omega) (by omega)]; omega)]
      rfl
    | succ m ih =>
      intro k n h1 h2
      obtain ⟨n, rfl⟩ : ∃ z, n = z + 1 := ⟨n - 1, by omega⟩
      have ih' := ih (k + 1) n (by omega) (by omega)
      have z1 : ¬ nI 1 = nI 0 := by decide
      have mf := mf_c (F := F) (ch := ch) h49 h50 hB hK htm hfl hbf hg (clr_lt hv (show k < 9 by omega)) (fr := wo fr k) (fun i hi => by
        rw [clrb]
        unfold wo
        rw [hfr i hi]) (show b + 1 ≤ 9 by omega)
      have e1 := hhv b fr
      have e2 := hhv (b + 1) (wo fr k)
      rw [nf_L_X4_leastFor_33_3, h50, if_neg (by rw [leN (by omega) (by omega)]; omega), WP_171, WP_172, nI_clamp (by omega), nI_clamp (by omega), bitN (show k < 9 by omega), andnot]
      simp only [bnd_eq, nI_add, if_true, if_neg z1]
      rw [mf, ob_some, fstK]
      cases hk : v.testBit k with
      | true =>
        rw [if_pos (show ((nI v >>> (nI k &&& nI 31)) &&& nI 1) = nI 1 from (inS_nat (by omega) (by omega)).mpr hk), ixN (by omega) (by omega), ixN (by omega) (by omega)]
        by_cases q : t k ≤ f b
        · rw [if_neg (show ¬ fl b < tm k from fun h => by have := Int32.lt_iff_toInt_lt.mp h; rw [htm k (by omega), hfl b hb] at this; omega)]
          by_cases q2 : hvG t f g Kp B b fr = hvG t f g Kp B (b + 1) (wo fr k) + 1
          · have gd : gdK t f g Kp B b fr k = true := by
              unfold gdK
              rw [hfr k (by omega), hk, decide_eq_true q, decide_eq_true q2]; rfl
            rw [if_pos (show nI (hvG t f g Kp B (b + 1) (wo fr k)) = nI (hvG t f g Kp B b fr) - nI 1 by rw [q2, subN (by omega), Nat.add_sub_cancel]), gd, if_pos rfl]
            rfl
          · have gd : gdK t f g Kp B b fr k = false := by
              unfold gdK
              rw [decide_eq_false q2, Bool.and_false]
            rw [if_neg (show ¬ nI (hvG t f g Kp B (b + 1) (wo fr k)) = nI (hvG t f g Kp B b fr) - nI 1 from fun h => by
              by_cases z : hvG t f g Kp B b fr = 0
              · rw [z] at h; exact absurd h (m1N (by omega))
              · rw [subN (by omega), eqN (by omega) (by omega)] at h; omega), gd, if_neg (by simp)]
            exact ih'
        · have gd : gdK t f g Kp B b fr k = false := by
            unfold gdK
            rw [decide_eq_false q, Bool.and_false, Bool.false_and]
          rw [if_pos (show fl b < tm k from Int32.lt_iff_toInt_lt.mpr (by rw [htm k (by omega), hfl b hb]; omega)), gd, if_neg (by simp)]
          exact ih'
      | false =>
        have gd : gdK t f g Kp B b fr k = false := by
          unfold gdK
          rw [hfr k (by omega), hk, Bool.false_and, Bool.false_and]
        rw [if_neg (show ¬ ((nI v >>> (nI k &&& nI 31)) &&& nI 1) = nI 1 from fun h => by rw [(inS_nat (by omega) (by omega)).mp h] at hk; exact absurd hk (by simp)), gd, if_neg (by simp)]
        exact ih'
  rw [nf_f_X4_leastFor_33, bnd_eq]
  exact lp Kp 0 FU (by omega) (by rw [FU_big]; omega)
theorem ch_l (h49 : I 49 = nI B) (h50 : I 50 = nI Kp) (hB : B ≤ 9) (hK : Kp ≤ 9) (htm : ∀ k, k < Kp → (tm k).toInt = t k) (hfl : ∀ e, e < B → (fl e).toInt = f e) (hbf : ∀ l, l < B → bf l = nI (g l)) (hg : srt f g B) (kc : WF → Option (WI × WF)) : ∀ m b n v ch, b + m = B → m < n → v < 512 → (∀ k, k < Kp → frs t f g Kp B b k = v.testBit k) → (∀ e, e < b → ch e = kOf (lgK t f g Kp B e (frs t f g Kp B e))) → ∃ ch', L_X4_choose_33_38 kc I n (nI v) (nI (hvG t f g Kp B b (frs t f g Kp B b))) (nI b) (WP F ch fl tm bf) = kc (WP F ch' fl tm bf) ∧ ∀ e, e < B → ch' e = kOf (lgK t f g Kp B e (frs t f g Kp B e)) := by
  intro m
  induction m with
  | zero =>
    intro b n v ch h1 h2 h3 h4 h5
    obtain ⟨n, rfl⟩ : ∃ z, n = z + 1 := ⟨n - 1, by omega⟩
    refine ⟨ch, ?_, fun e he => h5 e (by omega)⟩
    rw [nf_L_X4_choose_33_38, h49, if_pos (by rw [leN (by omega) (by omega)]; omega)]
  | succ m ih =>
    intro b n v ch h1 h2 h3 h4 h5
    obtain ⟨n, rfl⟩ : ∃ z, n = z + 1 := ⟨n - 1, by omega⟩
    have lf := lf_c (F := F) (ch := ch) h49 h50 hB hK htm hfl hbf hg.1 h3 h4 (b := b) (by omega)
    have hhv : hvG t f g Kp B b (frs t f g Kp B b) ≤ 9 := Nat.le_trans (grd_le b _ B) hB
    have h5' : ∀ e, e < b + 1 → upd ch b (kOf (lgK t f g Kp B b (frs t f g Kp B b))) e = kOf (lgK t f g Kp B e (frs t f g Kp B e)) := fun e he => by
      by_cases q : e = b
      · subst q; rw [upd_same]
      · rw [upd_ne q]; exact h5 e (by omega)
    rw [nf_L_X4_choose_33_38, h49, if_neg (by rw [leN (by omega) (by omega)]; omega), lf, ob_some, ixN (by omega) (by omega), nI_clamp (by omega), bnd_eq, WP_170, uWP_170, ixN (by omega) (by omega), WP_170, upd_same, bnd_eq]
    cases o : lgK t f g Kp B b (frs t f g Kp B b) with
    | none =>
      rw [o] at h5'
      have e1 : frs t f g Kp B (b + 1) = frs t f g Kp B b := by
        rw [frs, o]; rfl
      have := ih (b + 1) n v (upd ch b (kOf none)) (by omega) (by omega) h3 (by rw [e1]; exact h4) h5'
      rw [e1, lg_none hg (by omega) o] at this
      rw [kOf, if_pos rfl]
      simp only [bnd_eq, nI_add]
      exact this
    | some k =>
      rw [o] at h5'
      obtain ⟨k1, k2, k3, k4⟩ := lg_some o
      have e1 : frs t f g Kp B (b + 1) = wo (frs t f g Kp B b) k := by
        rw [frs, o]; rfl
      have := ih (b + 1) n (v ^^^ (v &&& 2 ^ k)) (upd ch b (kOf (some k))) (by omega) (by omega) (clr_lt h3 (by omega)) (fun i hi => by
        rw [e1, clrb]
        unfold wo
        rw [h4 i hi]) h5'
      rw [e1] at this
      rw [kOf, if_neg (m1N (by omega)), ixN (by omega) (by omega), bnd_eq, bnd_eq, bitN (show k < 9 by omega), andnot, k4, m1add (by omega), Nat.add_sub_cancel]
      simp only [bnd_eq, nI_add]
      exact this
end Choose2
theorem choose_c {P B Kp Jm : Nat} {I : WI} {F K : WF} (hT : InvT P B Kp Jm I F K) {j : Nat} (hj : j < Jm) : ∃ g ch fl tm bf, srt (fun e => (flF I F j e).toInt) g B ∧ f_X4_choose_33 (nI j) I F = some (upd I 56 (nI (hvG (fun k => (tmF I F k).toInt) (fun e => (flF I F j e).toInt) g Kp B 0 (fun _ => true))), WP F ch fl tm bf) ∧ ∀ e, e < B → ch e = kOf (lgK (fun k => (tmF I F k).toInt) (fun e => (flF I F j e).toInt) g Kp B e (frs (fun k => (tmF I F k).toInt) (fun e => (flF I F j e).toInt) g Kp B e)) := by
  have hs := T_sz hT
  obtain ⟨fl, tm, bf, g, a1, a2, a3, a4, a5⟩ := prep_c hT hj
  have hp := powB Kp (by omega)
  have hfr : ∀ k, k < Kp → (fun _ : Nat => true) k = (2 ^ Kp - 1).testBit k := fun k hk => by
    rw [Nat.testBit_two_pow_sub_one, decide_eq_true hk]
  have mf := mf_c (t := fun k => (tmF I F k).toInt) (f := fun e => (flF I F j e).toInt) (g := g) (F := F) (ch := F 170) (tm := tm) (fl := fl) (bf := bf) hT.1.2.1 hT.1.2.2.1 hs.2.1 hs.2.2.1 (fun k hk => by rw [a2 k hk]) (fun e he => by rw [a3 e he]) a4 a5.1 (v := 2 ^ Kp - 1) (by omega) hfr (b := 0) (by omega)
  obtain ⟨I2, eI2⟩ : ∃ i, i = upd I 56 (nI (hvG (fun k => (tmF I F k).toInt) (fun e => (flF I F j e).toInt) g Kp B 0 (fun _ => true))) := ⟨_, rfl⟩
  obtain ⟨ch, c1, c2⟩ := ch_l (I := I2) (F := F) (t := fun k => (tmF I F k).toInt) (f := fun e => (flF I F j e).toInt) (g := g) (tm := tm) (fl := fl) (bf := bf) (by rw [eI2, upd_ne (by omega)]; exact hT.1.2.1) (by rw [eI2, upd_ne (by omega)]; exact hT.1.2.2.1) hs.2.1 hs.2.2.1 (fun k hk => by rw [a2 k hk]) (fun e he => by rw [a3 e he]) a4 a5 (fun F_917 => some (I2, F_917)) B 0 FU (2 ^ Kp - 1) (F 170) (by omega) (by rw [FU_big]; omega) (by omega) hfr (fun e he => by omega)
  refine ⟨g, ch, fl, tm, bf, a5, ?_, c2⟩
  rw [nf_f_X4_choose_33, a1, ob_some, hT.1.2.2.1, allN Kp (by omega), bnd_eq, mf, ob_some, bnd_eq, upd_same, bnd_eq, bnd_eq, ← eI2]
  exact c1
