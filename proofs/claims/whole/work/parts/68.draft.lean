/-! pure layer: the draft grows -/
section TRup
variable {P B Kp Jm : Nat} {eA eB ai ja kk tn jk tp u : Nat → Int32}
theorem TR_place {v : Nat} (h : TR 0 B Kp Jm eA eB ai ja kk tn jk tp u) (h1 : 2 ≤ v) (h2 : v ≤ 8) : B = 0 ∧ Kp = 0 ∧ Jm = 0 ∧ TR v 0 0 0 eA eB ai ja kk tn jk tp (upd u 0 (nI v)) := by
  obtain ⟨⟨-, -, -, -, h0⟩, ⟨u0, u1, u2, u3⟩, -⟩ := h
  obtain ⟨rfl, rfl, rfl⟩ := h0 rfl
  refine ⟨rfl, rfl, rfl, ⟨h2, by omega, by omega, by omega, fun e => ⟨rfl, rfl, rfl⟩⟩, ⟨upd_same, ?_, ?_, ?_⟩, fun b hb => absurd hb (by omega), fun b hb => absurd hb (by omega), fun b hb => absurd hb (by omega)⟩
  · rw [upd_ne (by omega), u1]
  · rw [upd_ne (by omega), u2]
  · rw [upd_ne (by omega), u3]
theorem TR_bridge {x y a g : Nat} (h : TR P B Kp Jm eA eB ai ja kk tn jk tp u) (hP : ¬ P = 0) (hB : B < 9) (hx : x < P) (hy : y < P) (hxy : x ≠ y) (a1 : 2 ≤ a) (a2 : a ≤ 40) (g2 : g ≤ 99) : TR P (B + 1) Kp Jm (upd eA B (nI x)) (upd eB B (nI y)) (upd ai B (nI a)) (upd ja B (nI g)) kk tn jk tp (upd (upd (upd (upd (upd u (4 + B) (nI x)) (13 + B) (nI y)) (22 + B) (nI a)) (31 + B) (nI g)) 1 (nI (B + 1))) := by
  obtain ⟨⟨s1, s2, s3, s4, -⟩, ⟨u0, u1, u2, u3⟩, hb, hk, hj⟩ := h
  refine ⟨⟨s1, by omega, s3, s4, fun e => absurd e hP⟩, ⟨?_, ?_, ?_, ?_⟩, fun b hb' => ?_, fun k hk' => ?_, fun j hj' => ?_⟩
  · simp (disch := omega) only [upd_ne, u0]
  · rw [upd_same]
  · simp (disch := omega) only [upd_ne, u2]
  · simp (disch := omega) only [upd_ne, u3]
  · by_cases e : b = B
    · subst e
      simp (disch := omega) only [upd_ne, upd_same]
      exact ⟨⟨x, y, hx, hy, hxy, rfl, rfl⟩, ⟨a, a1, a2, rfl⟩, ⟨g, g2, rfl⟩, trivial, trivial, trivial, trivial⟩
    · simp (disch := omega) only [upd_ne]
      exact hb b (by omega)
  · simp (disch := omega) only [upd_ne]
    exact hk k hk'
  · simp (disch := omega) only [upd_ne]
    exact hj j hj'
theorem TR_keeper {a g : Nat} (h : TR P B Kp Jm eA eB ai ja kk tn jk tp u) (hP : ¬ P = 0) (hB : Kp < 9) (a2 : a ≤ 3) (g1 : 1 ≤ g) (g2 : g ≤ 40) : TR P B (Kp + 1) Jm eA eB ai ja (upd kk Kp (nI a)) (upd tn Kp (nI g)) jk tp (upd (upd (upd u (40 + Kp) (nI a)) (49 + Kp) (nI g)) 2 (nI (Kp + 1))) := by
  obtain ⟨⟨s1, s2, s3, s4, -⟩, ⟨u0, u1, u2, u3⟩, hb, hk, hj⟩ := h
  refine ⟨⟨s1, s2, by omega, s4, fun e => absurd e hP⟩, ⟨?_, ?_, ?_, ?_⟩, fun b hb' => ?_, fun k hk' => ?_, fun j hj' => ?_⟩
  · simp (disch := omega) only [upd_ne, u0]
  · simp (disch := omega) only [upd_ne, u1]
  · rw [upd_same]
  · simp (disch := omega) only [upd_ne, u3]
  · simp (disch := omega) only [upd_ne]
    exact hb b hb'
  · by_cases e : k = Kp
    · subst e
      simp (disch := omega) only [upd_ne, upd_same]
      exact ⟨⟨a, a2, rfl⟩, ⟨g, g1, g2, rfl⟩, trivial, trivial⟩
    · simp (disch := omega) only [upd_ne]
      exact hk k (by omega)
  · simp (disch := omega) only [upd_ne]
    exact hj j hj'
theorem TR_jumper {a g : Nat} (h : TR P B Kp Jm eA eB ai ja kk tn jk tp u) (hP : ¬ P = 0) (hB : Jm < 6) (a2 : a ≤ 3) (g2 : g < P) : TR P B Kp (Jm + 1) eA eB ai ja kk tn (upd jk Jm (nI a)) (upd tp Jm (nI g)) (upd (upd (upd u (58 + Jm) (nI a)) (64 + Jm) (nI g)) 3 (nI (Jm + 1))) := by
  obtain ⟨⟨s1, s2, s3, s4, -⟩, ⟨u0, u1, u2, u3⟩, hb, hk, hj⟩ := h
  refine ⟨⟨s1, s2, s3, by omega, fun e => absurd e hP⟩, ⟨?_, ?_, ?_, ?_⟩, fun b hb' => ?_, fun k hk' => ?_, fun j hj' => ?_⟩
  · simp (disch := omega) only [upd_ne, u0]
  · simp (disch := omega) only [upd_ne, u1]
  · simp (disch := omega) only [upd_ne, u2]
  · rw [upd_same]
  · simp (disch := omega) only [upd_ne]
    exact hb b hb'
  · simp (disch := omega) only [upd_ne]
    exact hk k hk'
  · by_cases e : j = Jm
    · subst e
      simp (disch := omega) only [upd_ne, upd_same]
      exact ⟨⟨a, a2, rfl⟩, ⟨g, g2, rfl⟩, trivial, trivial⟩
    · simp (disch := omega) only [upd_ne]
      exact hj j (by omega)
end TRup
/-- joined already -/
def jb (eA eB : Nat → Int32) (X Y : Int32) : Nat → Nat → Prop
  | 0, _ => False
  | m + 1, k => ((eA k = X ∧ eB k = Y) ∨ (eA k = Y ∧ eB k = X)) ∨ jb eA eB X Y m (k + 1)
theorem joined_cl {I : WI} {F : WF} {B : Nat} (hB : I 44 = nI B) (hB9 : B ≤ 9) {X Y : Int32} (hXY : ¬ X = Y) : ∀ m k n, k + m = B → m < n → (jb (F 152) (F 153) X Y m k ∧ L_X7_joined_2_2 (some (nI 0)) X Y I F n (nI k) = some (nI 1)) ∨ (¬ jb (F 152) (F 153) X Y m k ∧ L_X7_joined_2_2 (some (nI 0)) X Y I F n (nI k) = some (nI 0)) := by
  intro m
  induction m with
  | zero =>
    intro k n h1 h2
    obtain ⟨n, rfl⟩ : ∃ z, n = z + 1 := ⟨n - 1, by omega⟩
    right
    refine ⟨fun h => h, ?_⟩
    rw [nf_L_X7_joined_2_2, hB, if_pos (by rw [leN (by omega) (by omega)]; omega)]
  | succ m ih =>
    intro k n h1 h2
    obtain ⟨n, rfl⟩ : ∃ z, n = z + 1 := ⟨n - 1, by omega⟩
    rw [nf_L_X7_joined_2_2, hB, if_neg (by rw [leN (by omega) (by omega)]; omega), nf_f_X7_touches_2, nf_f_X7_beyond_2, jb]
    simp (disch := omega) only [bnd_eq, ixN, nI_clamp, nI_add]
    have hi := ih (k + 1) n (by omega) (by omega)
    by_cases a1 : F 152 k = X
    · rw [if_pos a1, ob_some, if_neg (show ¬ nI 1 = nI 0 by decide), if_pos a1, ob_some]
      by_cases a2 : F 153 k = Y
      · rw [if_pos a2]; exact Or.inl ⟨Or.inl (Or.inl ⟨a1, a2⟩), rfl⟩
      · rw [if_neg a2]
        rcases hi with ⟨q1, q2⟩ | ⟨q1, q2⟩
        · exact Or.inl ⟨Or.inr q1, q2⟩
        · refine Or.inr ⟨fun q => ?_, q2⟩
          rcases q with (⟨-, q⟩ | ⟨q, -⟩) | q
          · exact a2 q
          · exact hXY (a1.symm.trans q)
          · exact q1 q
    · rw [if_neg a1]
      by_cases a2 : F 153 k = X
      · rw [if_pos a2, ob_some, if_neg (show ¬ nI 1 = nI 0 by decide), if_neg a1, ob_some]
        by_cases a3 : F 152 k = Y
        · rw [if_pos a3]; exact Or.inl ⟨Or.inl (Or.inr ⟨a3, a2⟩), rfl⟩
        · rw [if_neg a3]
          rcases hi with ⟨q1, q2⟩ | ⟨q1, q2⟩
          · exact Or.inl ⟨Or.inr q1, q2⟩
          · refine Or.inr ⟨fun q => ?_, q2⟩
            rcases q with (⟨q, -⟩ | ⟨q, -⟩) | q
            · exact a1 q
            · exact a3 q
            · exact q1 q
      · rw [if_neg a2, ob_some, if_pos rfl]
        rcases hi with ⟨q1, q2⟩ | ⟨q1, q2⟩
        · exact Or.inl ⟨Or.inr q1, q2⟩
        · refine Or.inr ⟨fun q => ?_, q2⟩
          rcases q with (⟨q, -⟩ | ⟨-, q⟩) | q
          · exact a1 q
          · exact a2 q
          · exact q1 q
theorem joined_ml {J : WI} {K : WF} {B : Nat} (hB9 : B ≤ 9) {eA eB : Nat → Int32} (hA : ∀ b, b < B → K 1 (4 + b) = eA b ∧ K 1 (13 + b) = eB b) (X Y : Int32) (c : Int32 → Option (WI × WF)) : ∀ m k n x4, (x4 = nI 0 ∨ x4 = nI 1) → k + m = B → m < n → ((x4 = nI 1 ∨ jb eA eB X Y m k) ∧ L_X11_bridges_50 c (nI B) X Y J K n x4 (nI k) = c (nI 1)) ∨ (¬ (x4 = nI 1 ∨ jb eA eB X Y m k) ∧ L_X11_bridges_50 c (nI B) X Y J K n x4 (nI k) = c (nI 0)) := by
  intro m
  induction m with
  | zero =>
    intro k n x4 hx h1 h2
    obtain ⟨n, rfl⟩ : ∃ z, n = z + 1 := ⟨n - 1, by omega⟩
    rw [nf_L_X11_bridges_50, if_pos (by rw [leN (by omega) (by omega)]; omega)]
    rcases hx with rfl | rfl
    · right; refine ⟨fun h => ?_, rfl⟩
      rcases h with h | h
      · exact absurd h (by decide)
      · exact h
    · left; exact ⟨Or.inl rfl, rfl⟩
  | succ m ih =>
    intro k n x4 hx h1 h2
    obtain ⟨n, rfl⟩ : ∃ z, n = z + 1 := ⟨n - 1, by omega⟩
    obtain ⟨e1, e2⟩ := hA k (by omega)
    rw [nf_L_X11_bridges_50, if_neg (by rw [leN (by omega) (by omega)]; omega), jb]
    simp (disch := omega) only [bnd_eq, ixN, nI_clamp, nI_add, e1, e2]
    have hi1 := ih (k + 1) n (nI 1) (Or.inr rfl) (by omega) (by omega)
    have hi0 := ih (k + 1) n (nI 0) (Or.inl rfl) (by omega) (by omega)
    have hi1' : L_X11_bridges_50 c (nI B) X Y J K n (nI 1) (nI (k + 1)) = c (nI 1) := by
      rcases hi1 with ⟨-, q⟩ | ⟨q, -⟩
      · exact q
      · exact absurd (Or.inl rfl) q
    rcases hx with rfl | rfl
    · rw [if_pos rfl]
      have h01 : ¬ nI 0 = nI 1 := by decide
      by_cases a1 : eA k = X ∧ eB k = Y
      · rw [if_pos a1.1, if_pos a1.2]
        exact Or.inl ⟨Or.inr (Or.inl (Or.inl a1)), hi1'⟩
      · by_cases a2 : eA k = Y ∧ eB k = X
        · have e3 : (if eA k = Y then if eB k = X then L_X11_bridges_50 c (nI B) X Y J K n (nI 1) (nI (k + 1)) else L_X11_bridges_50 c (nI B) X Y J K n (nI 0) (nI (k + 1)) else L_X11_bridges_50 c (nI B) X Y J K n (nI 0) (nI (k + 1))) = c (nI 1) := by
            rw [if_pos a2.1, if_pos a2.2]; exact hi1'
          refine Or.inl ⟨Or.inr (Or.inl (Or.inr a2)), ?_⟩
          by_cases b1 : eA k = X
          · rw [if_pos b1, if_neg (fun b2 => a1 ⟨b1, b2⟩)]; exact e3
          · rw [if_neg b1]; exact e3
        · have e3 : (if eA k = Y then if eB k = X then L_X11_bridges_50 c (nI B) X Y J K n (nI 1) (nI (k + 1)) else L_X11_bridges_50 c (nI B) X Y J K n (nI 0) (nI (k + 1)) else L_X11_bridges_50 c (nI B) X Y J K n (nI 0) (nI (k + 1))) = L_X11_bridges_50 c (nI B) X Y J K n (nI 0) (nI (k + 1)) := by
            by_cases b1 : eA k = Y
            · rw [if_pos b1, if_neg (fun b2 => a2 ⟨b1, b2⟩)]
            · rw [if_neg b1]
          rw [e3]
          have e4 : (if eA k = X then if eB k = Y then L_X11_bridges_50 c (nI B) X Y J K n (nI 1) (nI (k + 1)) else L_X11_bridges_50 c (nI B) X Y J K n (nI 0) (nI (k + 1)) else L_X11_bridges_50 c (nI B) X Y J K n (nI 0) (nI (k + 1))) = L_X11_bridges_50 c (nI B) X Y J K n (nI 0) (nI (k + 1)) := by
            by_cases b1 : eA k = X
            · rw [if_pos b1, if_neg (fun b2 => a1 ⟨b1, b2⟩)]
            · rw [if_neg b1]
          rw [e4]
          rcases hi0 with ⟨q1, q2⟩ | ⟨q1, q2⟩
          · rcases q1 with q1 | q1
            · exact absurd q1 h01
            · exact Or.inl ⟨Or.inr (Or.inr q1), q2⟩
          · refine Or.inr ⟨fun q => ?_, q2⟩
            rcases q with q | (q | q) | q
            · exact h01 q
            · exact a1 q
            · exact a2 q
            · exact q1 (Or.inr q)
    · rw [if_neg (by decide)]
      exact Or.inl ⟨Or.inl rfl, hi1'⟩
