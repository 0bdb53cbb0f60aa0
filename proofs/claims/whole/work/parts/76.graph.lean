/-! pure layer: distances -/
theorem pigeon : ∀ (P k : Nat) (f : Nat → Nat), (∀ i, i ≤ k → f i < P) → (∀ i j, i ≤ k → j ≤ k → f i = f j → i = j) → k < P := by
  intro P
  induction P with
  | zero => intro k f h1 _; exact absurd (h1 0 (Nat.zero_le _)) (by omega)
  | succ P ih =>
    intro k f h1 h2
    by_cases h : ∃ i, i ≤ k ∧ f i = P
    · obtain ⟨i0, hi0, e0⟩ := h
      by_cases hk : k = 0
      · omega
      · have := ih (k - 1) (fun i => if i < i0 then f i else f (i + 1)) (fun i hi => by
          by_cases q : i < i0
          · simp only [if_pos q]
            have a := h1 i (by omega)
            have b : f i ≠ P := fun e => by have := h2 i i0 (by omega) hi0 (e.trans e0.symm); omega
            omega
          · simp only [if_neg q]
            have a := h1 (i + 1) (by omega)
            have b : f (i + 1) ≠ P := fun e => by have := h2 (i + 1) i0 (by omega) hi0 (e.trans e0.symm); omega
            omega) (fun i j hi hj e => by
          by_cases q : i < i0
          · by_cases q2 : j < i0
            · simp only [if_pos q, if_pos q2] at e; exact h2 i j (by omega) (by omega) e
            · simp only [if_pos q, if_neg q2] at e; have := h2 i (j + 1) (by omega) (by omega) e; omega
          · by_cases q2 : j < i0
            · simp only [if_neg q, if_pos q2] at e; have := h2 (i + 1) j (by omega) (by omega) e; omega
            · simp only [if_neg q, if_neg q2] at e; have := h2 (i + 1) (j + 1) (by omega) (by omega) e; omega)
        omega
    · have := ih k f (fun i hi => by
        have a := h1 i hi
        have b : f i ≠ P := fun e => h ⟨i, hi, e⟩
        omega) h2
      omega
def uD (D : Nat → Option Nat) (y : Nat) (v : Option Nat) : Nat → Option Nat := fun t => if t = y then v else D t
theorem uD_same (D : Nat → Option Nat) (y : Nat) (v : Option Nat) : uD D y v y = v := by rw [uD, if_pos rfl]
theorem uD_ne (D : Nat → Option Nat) {t y : Nat} (v : Option Nat) (h : t ≠ y) : uD D y v t = D t := by rw [uD, if_neg h]
def oE : Option Nat → Int32
  | none => -1
  | some k => nI k
/-- bridge b joins x and y -/
def jo (ea eb : Nat → Nat) (b x y : Nat) : Prop := (ea b = x ∧ eb b = y) ∨ (ea b = y ∧ eb b = x)
theorem jo_sym {ea eb : Nat → Nat} {b x y : Nat} (h : jo ea eb b x y) : jo ea eb b y x := by
  rcases h with h | h
  · exact Or.inr h
  · exact Or.inl h
def co (ea eb : Nat → Nat) (D : Nat → Option Nat) (b k : Nat) : Prop := ∀ x y, jo ea eb b x y → D x = some k → ∃ m, m ≤ k + 1 ∧ D y = some m
/-- what the rounds keep -/
def BF (P B e : Nat) (ea eb : Nat → Nat) (S : Nat → Prop) (D : Nat → Option Nat) (r : Nat) : Prop := D e = some 0 ∧ (∀ x, D x = some 0 → x = e) ∧ (∀ x k, D x = some (k + 1) → ∃ b y, b < B ∧ S b ∧ jo ea eb b x y ∧ D y = some k) ∧ (∀ x k, D x = some k → x < P ∧ k ≤ r) ∧ (∀ b k, b < B → S b → k < r → co ea eb D b k)
def sp (D : Nat → Option Nat) (x y r : Nat) : Nat → Option Nat := if D x = some r ∧ D y = none then uD D y (some (r + 1)) else D
/-- within round r, the bridges below b done -/
def BR (P B e : Nat) (ea eb : Nat → Nat) (S : Nat → Prop) (D : Nat → Option Nat) (r b : Nat) : Prop := D e = some 0 ∧ (∀ x, D x = some 0 → x = e) ∧ (∀ x k, D x = some (k + 1) → ∃ b y, b < B ∧ S b ∧ jo ea eb b x y ∧ D y = some k) ∧ (∀ x k, D x = some k → x < P ∧ k ≤ r + 1) ∧ (∀ b k, b < B → S b → k < r → co ea eb D b k) ∧ (∀ b', b' < b → b' < B → S b' → co ea eb D b' r)
section G
variable {P B e : Nat} {ea eb : Nat → Nat} {S : Nat → Prop}
theorem co_up {D : Nat → Option Nat} {b k r y : Nat} (hy : D y = none) (hk : k ≤ r) (h : co ea eb D b k) : co ea eb (uD D y (some (r + 1))) b k := by
  intro x z hj hx
  by_cases e1 : x = y
  · subst e1
    rw [uD_same] at hx
    have : r + 1 = k := Option.some.inj hx
    omega
  · rw [uD_ne _ _ e1] at hx
    obtain ⟨m, m1, m2⟩ := h x z hj hx
    refine ⟨m, m1, ?_⟩
    rw [uD_ne]
    · exact m2
    · intro e2
      rw [e2, hy] at m2
      exact absurd m2 (by simp)
theorem BR_sp {D : Nat → Option Nat} {r b b0 x y : Nat} (h : BR P B e ea eb S D r b) (hb : b0 < B) (hS : S b0) (hj : jo ea eb b0 x y) (hy : y < P) : BR P B e ea eb S (sp D x y r) r b ∧ (D x = some r → ∃ m, m ≤ r + 1 ∧ sp D x y r y = some m) ∧ (∀ z k, D z = some k → sp D x y r z = some k) ∧ (∀ z, sp D x y r z = some r → D z = some r) := by
  unfold sp
  by_cases q : D x = some r ∧ D y = none
  · rw [if_pos q]
    obtain ⟨h1, h2, h3, h4, h5, h6⟩ := h
    have keep : ∀ z k, D z = some k → uD D y (some (r + 1)) z = some k := fun z k hz => by
      rw [uD_ne]
      · exact hz
      · intro e2; rw [e2, q.2] at hz; exact absurd hz (by simp)
    refine ⟨⟨keep _ _ h1, ?_, ?_, ?_, ?_, ?_⟩, ?_, keep, ?_⟩
    · intro z hz
      by_cases e1 : z = y
      · subst e1; rw [uD_same] at hz; exact absurd (Option.some.inj hz) (by omega)
      · rw [uD_ne _ _ e1] at hz; exact h2 z hz
    · intro z k hz
      by_cases e1 : z = y
      · subst e1
        rw [uD_same] at hz
        have : r + 1 = k + 1 := Option.some.inj hz
        obtain rfl : r = k := by omega
        exact ⟨b0, x, hb, hS, jo_sym hj, keep _ _ q.1⟩
      · rw [uD_ne _ _ e1] at hz
        obtain ⟨b1, w, g1, g2, g3, g4⟩ := h3 z k hz
        exact ⟨b1, w, g1, g2, g3, keep _ _ g4⟩
    · intro z k hz
      by_cases e1 : z = y
      · subst e1
        rw [uD_same] at hz
        have : r + 1 = k := Option.some.inj hz
        exact ⟨hy, by omega⟩
      · rw [uD_ne _ _ e1] at hz; exact h4 z k hz
    · intro b1 k g1 g2 g3
      exact co_up q.2 (by omega) (h5 b1 k g1 g2 g3)
    · intro b1 g0 g1 g2
      exact co_up q.2 (Nat.le_refl _) (h6 b1 g0 g1 g2)
    · intro _; exact ⟨r + 1, Nat.le_refl _, uD_same _ _ _⟩
    · intro z hz
      by_cases e1 : z = y
      · subst e1; rw [uD_same] at hz; exact absurd (Option.some.inj hz) (by omega)
      · rw [uD_ne _ _ e1] at hz; exact hz
  · rw [if_neg q]
    refine ⟨h, fun hx => ?_, fun _ _ hz => hz, fun _ hz => hz⟩
    cases hD : D y with
    | none => exact absurd ⟨hx, hD⟩ q
    | some m => exact ⟨m, (h.2.2.2.1 y m hD).2, rfl⟩
theorem BR_step {D : Nat → Option Nat} {r b : Nat} (h : BR P B e ea eb S D r b) (hb : b < B) (hS : S b) (ha : ea b < P) (hc : eb b < P) : BR P B e ea eb S (sp (sp D (ea b) (eb b) r) (eb b) (ea b) r) r (b + 1) := by
  obtain ⟨h1, g1, k1, b1⟩ := BR_sp h hb hS (x := ea b) (y := eb b) (Or.inl ⟨rfl, rfl⟩) hc
  obtain ⟨h2, g2, k2, b2⟩ := BR_sp h1 hb hS (x := eb b) (y := ea b) (Or.inr ⟨rfl, rfl⟩) ha
  refine ⟨h2.1, h2.2.1, h2.2.2.1, h2.2.2.2.1, h2.2.2.2.2.1, fun b' hb' hB' hS' => ?_⟩
  by_cases e1 : b' = b
  · subst e1
    intro x y hj hx
    rcases hj with ⟨rfl, rfl⟩ | ⟨rfl, rfl⟩
    · have hx1 := b1 _ (b2 _ hx)
      obtain ⟨m, m1, m2⟩ := g1 hx1
      exact ⟨m, m1, k2 _ _ m2⟩
    · have hx1 := b2 _ hx
      exact g2 hx1
  · exact h2.2.2.2.2.2 b' (by omega) hB' hS'
theorem BR_skip {D : Nat → Option Nat} {r b : Nat} (h : BR P B e ea eb S D r b) (hS : ¬ S b) : BR P B e ea eb S D r (b + 1) := by
  refine ⟨h.1, h.2.1, h.2.2.1, h.2.2.2.1, h.2.2.2.2.1, fun b' hb' hB' hS' => ?_⟩
  by_cases e1 : b' = b
  · subst e1; exact absurd hS' hS
  · exact h.2.2.2.2.2 b' (by omega) hB' hS'
theorem BF_BR {D : Nat → Option Nat} {r : Nat} (h : BF P B e ea eb S D r) : BR P B e ea eb S D r 0 := ⟨h.1, h.2.1, h.2.2.1, fun x k hx => ⟨(h.2.2.2.1 x k hx).1, by have := (h.2.2.2.1 x k hx).2; omega⟩, h.2.2.2.2, fun b' hb' => absurd hb' (by omega)⟩
theorem BR_BF {D : Nat → Option Nat} {r : Nat} (h : BR P B e ea eb S D r B) : BF P B e ea eb S D (r + 1) := by
  refine ⟨h.1, h.2.1, h.2.2.1, h.2.2.2.1, fun b k hb hS hk => ?_⟩
  by_cases q : k = r
  · subst q; exact h.2.2.2.2.2 b hb hb hS
  · exact h.2.2.2.2.1 b k hb hS (by omega)
theorem BF_0 (he : e < P) : BF P B e ea eb S (uD (fun _ => none) e (some 0)) 0 := by
  refine ⟨uD_same _ _ _, fun x hx => ?_, fun x k hx => ?_, fun x k hx => ?_, fun b k _ _ hk => absurd hk (by omega)⟩
  · by_cases q : x = e
    · exact q
    · rw [uD_ne _ _ q] at hx; exact absurd hx (by simp)
  · by_cases q : x = e
    · subst q; rw [uD_same] at hx; exact absurd (Option.some.inj hx) (by omega)
    · rw [uD_ne _ _ q] at hx; exact absurd hx (by simp)
  · by_cases q : x = e
    · subst q; rw [uD_same] at hx; have : 0 = k := Option.some.inj hx; exact ⟨he, by omega⟩
    · rw [uD_ne _ _ q] at hx; exact absurd hx (by simp)
/-- distances -/
def DI (P B e : Nat) (ea eb : Nat → Nat) (S : Nat → Prop) (D : Nat → Option Nat) : Prop := D e = some 0 ∧ (∀ x, D x = some 0 → x = e) ∧ (∀ x k, D x = some (k + 1) → ∃ b y, b < B ∧ S b ∧ jo ea eb b x y ∧ D y = some k) ∧ (∀ x k, D x = some k → x < P ∧ k < P) ∧ (∀ b k, b < B → S b → co ea eb D b k)
theorem chain {D : Nat → Option Nat} {r : Nat} (h : BF P B e ea eb S D r) : ∀ k x, D x = some k → ∃ f : Nat → Nat, ∀ i, i ≤ k → D (f i) = some i := by
  intro k
  induction k with
  | zero => intro x hx; exact ⟨fun _ => x, fun i hi => by rw [show i = 0 by omega]; exact hx⟩
  | succ k ih =>
    intro x hx
    obtain ⟨b, y, -, -, -, hy⟩ := h.2.2.1 x k hx
    obtain ⟨f, hf⟩ := ih y hy
    refine ⟨fun i => if i = k + 1 then x else f i, fun i hi => ?_⟩
    by_cases q : i = k + 1
    · simp only [if_pos q]; rw [q]; exact hx
    · simp only [if_neg q]; exact hf i (by omega)
theorem BF_DI {D : Nat → Option Nat} (h : BF P B e ea eb S D P) : DI P B e ea eb S D := by
  have hk : ∀ x k, D x = some k → k < P := by
    intro x k hx
    obtain ⟨f, hf⟩ := chain h k x hx
    refine pigeon P k f (fun i hi => (h.2.2.2.1 _ _ (hf i hi)).1) (fun i j hi hj e1 => ?_)
    have a := hf i hi
    rw [e1, hf j hj] at a
    exact (Option.some.inj a).symm
  refine ⟨h.1, h.2.1, h.2.2.1, fun x k hx => ⟨(h.2.2.2.1 x k hx).1, hk x k hx⟩, fun b k hb hS => ?_⟩
  by_cases q : k < P
  · exact h.2.2.2.2 b k hb hS q
  · intro x y _ hx
    exact absurd (hk x k hx) q
/-- who can be reached, both ways -/
def Rk (B : Nat) (ea eb : Nat → Nat) (S : Nat → Prop) (e : Nat) : Nat → Nat → Prop
  | 0, x => x = e
  | k + 1, x => ∃ y b, Rk B ea eb S e k y ∧ b < B ∧ S b ∧ jo ea eb b y x
def Rc (B : Nat) (ea eb : Nat → Nat) (S : Nat → Prop) (e x : Nat) : Prop := ∃ k, Rk B ea eb S e k x
theorem Rc_trans {x y z : Nat} (h1 : Rc B ea eb S x y) (h2 : Rc B ea eb S y z) : Rc B ea eb S x z := by
  obtain ⟨k, h1⟩ := h1
  obtain ⟨m, h2⟩ := h2
  induction m generalizing z with
  | zero => rw [show z = y from h2]; exact ⟨k, h1⟩
  | succ m ih =>
    obtain ⟨w, b, g1, g2, g3, g4⟩ := h2
    obtain ⟨q, hq⟩ := ih g1
    exact ⟨q + 1, w, b, hq, g2, g3, g4⟩
theorem Rc_sym {x y : Nat} (h : Rc B ea eb S x y) : Rc B ea eb S y x := by
  obtain ⟨k, h⟩ := h
  induction k generalizing y with
  | zero => rw [show y = x from h]; exact ⟨0, rfl⟩
  | succ k ih =>
    obtain ⟨w, b, g1, g2, g3, g4⟩ := h
    exact Rc_trans ⟨1, y, b, rfl, g2, g3, jo_sym g4⟩ (ih g1)
theorem DI_Rc {D : Nat → Option Nat} (h : DI P B e ea eb S D) (x : Nat) : (∃ k, D x = some k) ↔ Rc B ea eb S e x := by
  constructor
  · rintro ⟨k, hk⟩
    induction k generalizing x with
    | zero => rw [h.2.1 x hk]; exact ⟨0, rfl⟩
    | succ k ih =>
      obtain ⟨b, y, hb, hS, hj, hy⟩ := h.2.2.1 x k hk
      obtain ⟨q, hq⟩ := ih y hy
      exact ⟨q + 1, y, b, hq, hb, hS, jo_sym hj⟩
  · rintro ⟨k, hk⟩
    induction k generalizing x with
    | zero => rw [show x = e from hk]; exact ⟨0, h.1⟩
    | succ k ih =>
      obtain ⟨w, b, g1, g2, g3, g4⟩ := hk
      obtain ⟨q, hq⟩ := ih w g1
      obtain ⟨m, -, hm⟩ := h.2.2.2.2 _ q g2 g3 _ _ g4 hq
      exact ⟨m, hm⟩
end G
