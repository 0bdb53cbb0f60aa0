/-! pure layer: who may keep which bridge: the greedy count is the best -/
theorem cnt_mono {p q : Nat → Bool} : ∀ n, (∀ b, b < n → p b = true → q b = true) → cnt p n ≤ cnt q n := by
  intro n
  induction n with
  | zero => intro _; exact Nat.le_refl _
  | succ n ih =>
    intro h
    have i1 := ih (fun b hb => h b (by omega))
    have i2 := h n (by omega)
    rw [cnt, cnt]
    cases hp : p n with
    | false => simp only [Bool.false_eq_true, if_false]; split <;> omega
    | true => rw [i2 hp]; omega
section Match
variable (t f : Nat → Int) (g : Nat → Nat) (Kp B : Nat)
def qcT (fr : Nat → Bool) (c : Int) : Nat := cnt (fun k => fr k && decide (t k < c)) Kp
def qeT (fr : Nat → Bool) (fl : Int) : Nat := cnt (fun k => fr k && decide (t k ≤ fl)) Kp
def NcF (b : Nat) (c : Int) : Nat := cnt (fun e => decide (b ≤ e) && decide (c ≤ f e)) B
def isH (b : Nat) (fr : Nat → Bool) (h : Nat) : Prop := (∀ c, h ≤ qcT t Kp fr c + NcF f B b c) ∧ ∃ c, h = qcT t Kp fr c + NcF f B b c
def grd (b : Nat) (fr : Nat → Bool) : Nat → Nat
  | 0 => 0
  | i + 1 => if decide (b ≤ g i) && decide (grd b fr i < qeT t Kp fr (f (g i))) then grd b fr i + 1 else grd b fr i
def hvG (b : Nat) (fr : Nat → Bool) : Nat := grd t f g Kp b fr B
def srt (n : Nat) : Prop := (∀ i, i < n → g i < n) ∧ (∀ i j, i ≤ j → j < n → f (g i) ≤ f (g j)) ∧ ∀ p : Nat → Bool, cnt (fun i => p (g i)) n = cnt p n
variable {t f g Kp B}
theorem qe_qc (fr : Nat → Bool) (fl : Int) : qeT t Kp fr fl = qcT t Kp fr (fl + 1) := by
  unfold qeT qcT
  refine cnt_congr Kp (fun k _ => ?_)
  show (fr k && decide (t k ≤ fl)) = (fr k && decide (t k < fl + 1))
  rw [decide_eq_decide.mpr (show t k ≤ fl ↔ t k < fl + 1 by omega)]
theorem qc_mono (fr : Nat → Bool) {c d : Int} (h : c ≤ d) : qcT t Kp fr c ≤ qcT t Kp fr d := by
  unfold qcT
  refine cnt_mono Kp (fun k _ hk => ?_)
  simp only [Bool.and_eq_true, decide_eq_true_eq] at hk ⊢
  exact ⟨hk.1, by omega⟩
theorem isH_eq {b : Nat} {fr : Nat → Bool} {h h' : Nat} (h1 : isH t f Kp B b fr h) (h2 : isH t f Kp B b fr h') : h = h' := by
  obtain ⟨a1, c, a2⟩ := h1
  obtain ⟨b1, d, b2⟩ := h2
  have := a1 d
  have := b1 c
  omega
theorem grd_le (b : Nat) (fr : Nat → Bool) : ∀ i, grd t f g Kp b fr i ≤ i := by
  intro i
  induction i with
  | zero => exact Nat.le_refl _
  | succ i ih => rw [grd]; split <;> omega
theorem low (t : Nat → Int) : ∀ n : Nat, ∃ c : Int, ∀ k, k < n → c ≤ t k := by
  intro n
  induction n with
  | zero => exact ⟨0, fun k hk => by omega⟩
  | succ n ih =>
    obtain ⟨c, hc⟩ := ih
    by_cases q : c ≤ t n
    · exact ⟨c, fun k hk => by
        by_cases e : k = n
        · rw [e]; exact q
        · exact hc k (by omega)⟩
    · exact ⟨t n, fun k hk => by
        by_cases e : k = n
        · rw [e]; exact Int.le_refl _
        · have := hc k (by omega); omega⟩
theorem grd_H (b : Nat) (fr : Nat → Bool) {n : Nat} (hs : ∀ i j, i ≤ j → j < n → f (g i) ≤ f (g j)) : ∀ i, i ≤ n → (∀ c, grd t f g Kp b fr i ≤ qcT t Kp fr c + cnt (fun j => decide (b ≤ g j) && decide (c ≤ f (g j))) i) ∧ ∃ c, grd t f g Kp b fr i = qcT t Kp fr c + cnt (fun j => decide (b ≤ g j) && decide (c ≤ f (g j))) i := by
  intro i
  induction i with
  | zero =>
    intro _
    obtain ⟨c, hc⟩ := low t Kp
    refine ⟨fun c => Nat.zero_le _, c, ?_⟩
    unfold qcT
    rw [cnt_no Kp (fun k hk => ?_)]
    · rfl
    · show (fr k && decide (t k < c)) = false
      rw [decide_eq_false (by have := hc k hk; omega), Bool.and_false]
  | succ i ih =>
    intro hi
    obtain ⟨u, c, e⟩ := ih (by omega)
    rw [grd]
    by_cases hb : b ≤ g i
    · by_cases q : grd t f g Kp b fr i < qeT t Kp fr (f (g i))
      · rw [decide_eq_true hb, decide_eq_true q, Bool.and_self, if_pos rfl]
        rw [qe_qc] at q
        have hc : ∀ c, c ≤ f (g i) → cnt (fun j => decide (b ≤ g j) && decide (c ≤ f (g j))) (i + 1) = cnt (fun j => decide (b ≤ g j) && decide (c ≤ f (g j))) i + 1 := fun c hc => by
          rw [cnt]
          simp only [decide_eq_true hb, decide_eq_true hc, Bool.and_self, if_true]
        refine ⟨fun c' => ?_, c, ?_⟩
        · by_cases q1 : c' ≤ f (g i)
          · rw [hc c' q1]; have := u c'; omega
          · have := qc_mono (t := t) (Kp := Kp) fr (show f (g i) + 1 ≤ c' by omega)
            omega
        · by_cases q1 : c ≤ f (g i)
          · rw [hc c q1]; omega
          · have m := qc_mono (t := t) (Kp := Kp) fr (show f (g i) + 1 ≤ c by omega)
            rw [cnt_no i (fun j hj => by
              show (decide (b ≤ g j) && decide (c ≤ f (g j))) = false
              rw [decide_eq_false (show ¬ c ≤ f (g j) by have := hs j i (by omega) (by omega); omega), Bool.and_false])] at e
            omega
      · rw [decide_eq_false q, Bool.and_false, if_neg (by simp)]
        rw [qe_qc] at q
        have z : cnt (fun j => decide (b ≤ g j) && decide (f (g i) + 1 ≤ f (g j))) (i + 1) = 0 := cnt_no (i + 1) (fun j hj => by
          show (decide (b ≤ g j) && decide (f (g i) + 1 ≤ f (g j))) = false
          rw [decide_eq_false (show ¬ f (g i) + 1 ≤ f (g j) by have := hs j i (by omega) (by omega); omega), Bool.and_false])
        have up : ∀ c', grd t f g Kp b fr i ≤ qcT t Kp fr c' + cnt (fun j => decide (b ≤ g j) && decide (c' ≤ f (g j))) (i + 1) := fun c' => by
          have := u c'
          rw [cnt]
          omega
        refine ⟨up, f (g i) + 1, ?_⟩
        have := up (f (g i) + 1)
        rw [z] at this ⊢
        omega
    · rw [decide_eq_false hb, Bool.false_and, if_neg (by simp)]
      have e2 : ∀ c, cnt (fun j => decide (b ≤ g j) && decide (c ≤ f (g j))) (i + 1) = cnt (fun j => decide (b ≤ g j) && decide (c ≤ f (g j))) i := fun c => by
        rw [cnt]
        simp only [decide_eq_false hb, Bool.false_and, Bool.false_eq_true, if_false, Nat.add_zero]
      exact ⟨fun c' => by rw [e2]; exact u c', c, by rw [e2]; exact e⟩
theorem hv_H (hg : srt f g B) (b : Nat) (fr : Nat → Bool) : isH t f Kp B b fr (hvG t f g Kp B b fr) := by
  obtain ⟨a1, c, a2⟩ := grd_H (t := t) (Kp := Kp) b fr hg.2.1 B (Nat.le_refl _)
  have e : ∀ c, cnt (fun j => decide (b ≤ g j) && decide (c ≤ f (g j))) B = NcF f B b c := fun c => hg.2.2 (fun e => decide (b ≤ e) && decide (c ≤ f e))
  refine ⟨fun c => ?_, c, ?_⟩
  · rw [← e]; exact a1 c
  · rw [← e]; exact a2
theorem qe_congr {fr fr' : Nat → Bool} (h : ∀ k, k < Kp → fr k = fr' k) (fl : Int) : qeT t Kp fr fl = qeT t Kp fr' fl := by
  unfold qeT
  exact cnt_congr Kp (fun k hk => by
    show (fr k && _) = (fr' k && _)
    rw [h k hk])
theorem grd_congr {fr fr' : Nat → Bool} (h : ∀ k, k < Kp → fr k = fr' k) (b : Nat) : ∀ i, grd t f g Kp b fr i = grd t f g Kp b fr' i := by
  intro i
  induction i with
  | zero => rfl
  | succ i ih => rw [grd, grd, ih, qe_congr h]
theorem hv_congr {fr fr' : Nat → Bool} (h : ∀ k, k < Kp → fr k = fr' k) (b : Nat) : hvG t f g Kp B b fr = hvG t f g Kp B b fr' := grd_congr h b B
def wo (fr : Nat → Bool) (k : Nat) : Nat → Bool := fun i => fr i && !decide (i = k)
theorem Nc_le (b : Nat) (c : Int) : NcF f B (b + 1) c ≤ NcF f B b c := by
  unfold NcF
  refine cnt_mono B (fun e _ h => ?_)
  simp only [Bool.and_eq_true, decide_eq_true_eq] at h ⊢
  exact ⟨by omega, h.2⟩
theorem Nc_anti (b : Nat) {c d : Int} (h : c ≤ d) : NcF f B b d ≤ NcF f B b c := by
  unfold NcF
  refine cnt_mono B (fun e _ h => ?_)
  simp only [Bool.and_eq_true, decide_eq_true_eq] at h ⊢
  exact ⟨h.1, by omega⟩
theorem Nc_in {b : Nat} (hb : b < B) {c : Int} (h : c ≤ f b) : NcF f B b c = NcF f B (b + 1) c + 1 := by
  unfold NcF
  refine cnt_one (b0 := b) ?_ ?_ B hb (fun e _ he => ?_)
  · show (decide (b + 1 ≤ b) && decide (c ≤ f b)) = false
    rw [decide_eq_false (by omega), Bool.false_and]
  · show (decide (b ≤ b) && decide (c ≤ f b)) = true
    rw [decide_eq_true (Nat.le_refl _), decide_eq_true h]; rfl
  · show (decide (b ≤ e) && decide (c ≤ f e)) = (decide (b + 1 ≤ e) && decide (c ≤ f e))
    rw [decide_eq_decide.mpr (show b ≤ e ↔ b + 1 ≤ e by omega)]
theorem Nc_out {b : Nat} {c : Int} (h : f b < c) : NcF f B b c = NcF f B (b + 1) c := by
  unfold NcF
  refine cnt_congr B (fun e _ => ?_)
  show (decide (b ≤ e) && decide (c ≤ f e)) = (decide (b + 1 ≤ e) && decide (c ≤ f e))
  by_cases q : e = b
  · subst q
    rw [decide_eq_false (show ¬ c ≤ f e by omega), Bool.and_false, Bool.and_false]
  · rw [decide_eq_decide.mpr (show b ≤ e ↔ b + 1 ≤ e by omega)]
theorem qc_in {fr : Nat → Bool} {k : Nat} (hk : k < Kp) (h1 : fr k = true) {c : Int} (h : t k < c) : qcT t Kp fr c = qcT t Kp (wo fr k) c + 1 := by
  unfold qcT
  refine cnt_one (b0 := k) ?_ ?_ Kp hk (fun e _ he => ?_)
  · show ((fr k && !decide (k = k)) && decide (t k < c)) = false
    rw [decide_eq_true rfl]; simp
  · show (fr k && decide (t k < c)) = true
    rw [h1, decide_eq_true h]; rfl
  · show (fr e && decide (t e < c)) = ((fr e && !decide (e = k)) && decide (t e < c))
    rw [decide_eq_false he]; simp
theorem qc_wo (fr : Nat → Bool) (k : Nat) (c : Int) : qcT t Kp (wo fr k) c ≤ qcT t Kp fr c := by
  unfold qcT wo
  refine cnt_mono Kp (fun e _ h => ?_)
  simp only [Bool.and_eq_true] at h ⊢
  exact ⟨h.1.1, h.2⟩
theorem qc_out {fr : Nat → Bool} {k : Nat} {c : Int} (h : ¬ t k < c) : qcT t Kp (wo fr k) c = qcT t Kp fr c := by
  unfold qcT
  refine cnt_congr Kp (fun e _ => ?_)
  show ((fr e && !decide (e = k)) && decide (t e < c)) = (fr e && decide (t e < c))
  by_cases q : e = k
  · subst q
    rw [decide_eq_false h, Bool.and_false, Bool.and_false]
  · rw [decide_eq_false q]; simp
theorem argmax (t : Nat → Int) (p : Nat → Prop) (hp : ∀ k, p k ∨ ¬ p k) : ∀ n : Nat, (∀ k, k < n → ¬ p k) ∨ ∃ k, k < n ∧ p k ∧ ∀ i, i < n → p i → t i ≤ t k := by
  intro n
  induction n with
  | zero => left; intro k hk; omega
  | succ n ih =>
    rcases hp n with q | q
    · right
      rcases ih with a | ⟨k, a1, a2, a3⟩
      · exact ⟨n, by omega, q, fun i hi hpi => by
          by_cases e : i = n
          · rw [e]; exact Int.le_refl _
          · exact absurd hpi (a i (by omega))⟩
      · by_cases c : t k ≤ t n
        · exact ⟨n, by omega, q, fun i hi hpi => by
            by_cases e : i = n
            · rw [e]; exact Int.le_refl _
            · exact Int.le_trans (a3 i (by omega) hpi) c⟩
        · exact ⟨k, by omega, a2, fun i hi hpi => by
            by_cases e : i = n
            · rw [e]; omega
            · exact a3 i (by omega) hpi⟩
    · rcases ih with a | ⟨k, a1, a2, a3⟩
      · left
        intro k hk
        by_cases e : k = n
        · rw [e]; exact q
        · exact a k (by omega)
      · right
        exact ⟨k, by omega, a2, fun i hi hpi => by
          by_cases e : i = n
          · rw [e] at hpi; exact absurd hpi q
          · exact a3 i (by omega) hpi⟩
/-- the rows of the table -/
theorem dp_1 (hg : srt f g B) (b : Nat) (fr : Nat → Bool) : hvG t f g Kp B (b + 1) fr ≤ hvG t f g Kp B b fr := by
  obtain ⟨-, c, e⟩ := hv_H (t := t) (Kp := Kp) hg b fr
  have h1 := (hv_H (t := t) (Kp := Kp) hg (b + 1) fr).1 c
  have := Nc_le (f := f) (B := B) b c
  omega
theorem dp_2 (hg : srt f g B) {b k : Nat} (hb : b < B) (hk : k < Kp) {fr : Nat → Bool} (hf : fr k = true) (ht : t k ≤ f b) : 1 + hvG t f g Kp B (b + 1) (wo fr k) ≤ hvG t f g Kp B b fr := by
  obtain ⟨-, c, e⟩ := hv_H (t := t) (Kp := Kp) hg b fr
  have h1 := (hv_H (t := t) (Kp := Kp) hg (b + 1) (wo fr k)).1 c
  by_cases q : t k < c
  · have a := qc_in (t := t) hk hf q
    have := Nc_le (f := f) (B := B) b c
    omega
  · have a := Nc_in (f := f) hb (show c ≤ f b by omega)
    have := qc_wo (t := t) (Kp := Kp) fr k c
    omega
theorem dp_3 (hg : srt f g B) {b : Nat} (hb : b < B) (fr : Nat → Bool) : hvG t f g Kp B b fr = hvG t f g Kp B (b + 1) fr ∨ ∃ k, k < Kp ∧ fr k = true ∧ t k ≤ f b ∧ hvG t f g Kp B b fr = hvG t f g Kp B (b + 1) (wo fr k) + 1 := by
  by_cases q : hvG t f g Kp B b fr = hvG t f g Kp B (b + 1) fr
  · exact Or.inl q
  · right
    obtain ⟨u, -⟩ := hv_H (t := t) (Kp := Kp) hg b fr
    obtain ⟨u1, c1, e1⟩ := hv_H (t := t) (Kp := Kp) hg (b + 1) fr
    have l1 := dp_1 (t := t) (Kp := Kp) hg b fr
    have hc1 : c1 ≤ f b := by
      by_cases r : c1 ≤ f b
      · exact r
      · have a := Nc_out (f := f) (B := B) (show f b < c1 by omega)
        have := u c1
        omega
    have a1 := Nc_in (f := f) hb hc1
    have u2 := u c1
    have hv1 : hvG t f g Kp B b fr = hvG t f g Kp B (b + 1) fr + 1 := by omega
    have u3 := u (f b + 1)
    have a3 := Nc_out (f := f) (B := B) (show f b < f b + 1 by omega)
    rcases argmax t (fun k => fr k = true ∧ t k ≤ f b) (fun k => Classical.em _) Kp with a | ⟨k, hk, ⟨k1, k2⟩, k3⟩
    · exfalso
      have z : qcT t Kp fr (f b + 1) = 0 := by
        unfold qcT
        refine cnt_no Kp (fun k hk => ?_)
        show (fr k && decide (t k < f b + 1)) = false
        cases hf : fr k with
        | false => rfl
        | true => rw [decide_eq_false (fun h => a k hk ⟨hf, by omega⟩)]; rfl
      have := Nc_anti (f := f) (B := B) (b + 1) (show c1 ≤ f b + 1 by omega)
      omega
    · refine ⟨k, hk, k1, k2, ?_⟩
      have l2 := dp_2 (t := t) (g := g) hg hb hk k1 k2
      obtain ⟨-, c2, e2⟩ := hv_H (t := t) (Kp := Kp) hg (b + 1) (wo fr k)
      have l3 : hvG t f g Kp B (b + 1) fr ≤ hvG t f g Kp B (b + 1) (wo fr k) := by
        by_cases r : t k < c2
        · have b1 := qc_in (t := t) hk k1 r
          have b2 := u1 c2
          by_cases r2 : hvG t f g Kp B (b + 1) fr ≤ hvG t f g Kp B (b + 1) (wo fr k)
          · exact r2
          · exfalso
            have hc2 : c2 ≤ f b := by
              by_cases r3 : c2 ≤ f b
              · exact r3
              · have a := Nc_out (f := f) (B := B) (show f b < c2 by omega)
                have := u c2
                omega
            have z : qcT t Kp fr (f b + 1) ≤ qcT t Kp fr c2 := by
              unfold qcT
              refine cnt_mono Kp (fun i hi h => ?_)
              simp only [Bool.and_eq_true, decide_eq_true_eq] at h ⊢
              have := k3 i hi ⟨h.1, by omega⟩
              exact ⟨h.1, by omega⟩
            have := Nc_anti (f := f) (B := B) (b + 1) (show c2 ≤ f b + 1 by omega)
            omega
        · have b1 := qc_out (t := t) (Kp := Kp) (fr := fr) r
          have b2 := u1 c2
          omega
      omega
end Match
/-- the least keeper that may be chosen -/
def fstK (p : Nat → Bool) : Nat → Nat → Option Nat
  | 0, _ => none
  | m + 1, k => if p k then some k else fstK p m (k + 1)
def gdK (t f : Nat → Int) (g : Nat → Nat) (Kp B b : Nat) (fr : Nat → Bool) (k : Nat) : Bool := fr k && decide (t k ≤ f b) && decide (hvG t f g Kp B b fr = hvG t f g Kp B (b + 1) (wo fr k) + 1)
def lgK (t f : Nat → Int) (g : Nat → Nat) (Kp B b : Nat) (fr : Nat → Bool) : Option Nat := fstK (gdK t f g Kp B b fr) Kp 0
def nfr (fr : Nat → Bool) (o : Option Nat) : Nat → Bool := match o with
  | none => fr
  | some k => wo fr k
def frs (t f : Nat → Int) (g : Nat → Nat) (Kp B : Nat) : Nat → Nat → Bool
  | 0 => fun _ => true
  | b + 1 => nfr (frs t f g Kp B b) (lgK t f g Kp B b (frs t f g Kp B b))
theorem fst_spec (p : Nat → Bool) : ∀ m k, match fstK p m k with
    | none => ∀ i, k ≤ i → i < k + m → p i = false
    | some q => k ≤ q ∧ q < k + m ∧ p q = true := by
  intro m
  induction m with
  | zero => intro k; intro i h1 h2; omega
  | succ m ih =>
    intro k
    rw [fstK]
    cases hp : p k with
    | true => simp only [if_true]; exact ⟨Nat.le_refl _, by omega, hp⟩
    | false =>
      simp only [Bool.false_eq_true, if_false]
      have := ih (k + 1)
      cases h : fstK p m (k + 1) with
      | none =>
        rw [h] at this
        intro i h1 h2
        by_cases e : i = k
        · rw [e]; exact hp
        · exact this i (by omega) (by omega)
      | some q =>
        rw [h] at this
        exact ⟨by omega, by omega, this.2.2⟩
theorem fst_congr {p q : Nat → Bool} : ∀ m k, (∀ i, k ≤ i → i < k + m → p i = q i) → fstK p m k = fstK q m k := by
  intro m
  induction m with
  | zero => intro k _; rfl
  | succ m ih => intro k h; rw [fstK, fstK, h k (by omega) (by omega), ih (k + 1) (fun i h1 h2 => h i (by omega) (by omega))]
theorem lg_none {t f : Nat → Int} {g : Nat → Nat} {Kp B b : Nat} {fr : Nat → Bool} (hg : srt f g B) (hb : b < B) (h : lgK t f g Kp B b fr = none) : hvG t f g Kp B (b + 1) fr = hvG t f g Kp B b fr := by
  rcases dp_3 (t := t) (Kp := Kp) hg hb fr with e | ⟨k, hk, k1, k2, k3⟩
  · exact e.symm
  · have := fst_spec (gdK t f g Kp B b fr) Kp 0
    rw [show fstK (gdK t f g Kp B b fr) Kp 0 = none from h] at this
    have := this k (Nat.zero_le _) (by omega)
    unfold gdK at this
    rw [k1, decide_eq_true k2, decide_eq_true k3] at this
    exact absurd this (by simp)
theorem lg_some {t f : Nat → Int} {g : Nat → Nat} {Kp B b k : Nat} {fr : Nat → Bool} (h : lgK t f g Kp B b fr = some k) : k < Kp ∧ fr k = true ∧ t k ≤ f b ∧ hvG t f g Kp B b fr = hvG t f g Kp B (b + 1) (wo fr k) + 1 := by
  have := fst_spec (gdK t f g Kp B b fr) Kp 0
  rw [show fstK (gdK t f g Kp B b fr) Kp 0 = some k from h] at this
  obtain ⟨-, h2, h3⟩ := this
  unfold gdK at h3
  simp only [Bool.and_eq_true, decide_eq_true_eq] at h3
  exact ⟨by omega, h3.1.1, h3.1.2, h3.2⟩
theorem wo_congr {fr fr' : Nat → Bool} {Kp : Nat} (h : ∀ k, k < Kp → fr k = fr' k) (q : Nat) : ∀ k, k < Kp → wo fr q k = wo fr' q k := fun k hk => by
  unfold wo
  rw [h k hk]
theorem lg_congr {t f : Nat → Int} {g : Nat → Nat} {Kp B b : Nat} {fr fr' : Nat → Bool} (h : ∀ k, k < Kp → fr k = fr' k) : lgK t f g Kp B b fr = lgK t f g Kp B b fr' := by
  unfold lgK
  refine fst_congr Kp 0 (fun i _ hi => ?_)
  unfold gdK
  rw [h i (by omega), hv_congr h, hv_congr (wo_congr h i)]
