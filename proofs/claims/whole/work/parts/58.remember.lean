/-! pure layer: remember and notes keep the past alike -/
theorem SRq_at {P B Kp Jm q : Nat} (hk : Kp ≤ 9) (hj : Jm ≤ 6) {I I' : WI} {F F' : WF} {v v' : Nat → Int32} (hI : ∀ n, n = 2 * q ∨ n = 2 * q + 1 → I' n = I n) (hF : ∀ a, 8 * q ≤ a → a < 8 * q + 8 → F' a = F a) (ev : ∀ t, t < 133 → v' t = v t) (h : SRq P B Kp Jm I F q v) : SRq P B Kp Jm I' F' q v' := by
  refine SR_co hk hj (hI _ (Or.inl rfl)) (hI _ (Or.inr rfl)) ?_ ?_ ?_ ?_ ?_ ?_ ?_ ?_ ev h
  all_goals (intro t _; rw [hF _ (by omega) (by omega)])
def zUp (z : Nat) : Nat := if 16 < z + 1 then 16 else z + 1
def NotR (z : Nat) (J : WI) (K : WF) (J1 : WI) (K1 : WF) : Prop := J1 6 = nI (zUp z) ∧ (∀ n, ¬ n = 6 → J1 n = J n) ∧ (∀ a, ¬ a = 6 → K1 a = K a) ∧ (z < 16 → (∀ i t, i < z → t < 134 → K1 6 (134 * i + t) = K 6 (134 * i + t)) ∧ ∀ t, t < 134 → K1 6 (134 * z + t) = K 3 t) ∧ (z = 16 → (∀ i t, i < 15 → t < 134 → K1 6 (134 * i + t) = K 6 (134 * (i + 1) + t)) ∧ ∀ t, t < 134 → K1 6 (134 * 15 + t) = K 3 t)
theorem notes_m {J : WI} {K : WF} {z : Nat} (hz : J 6 = nI z) (hz2 : z ≤ 16) : ∃ J1 K1, f_X11_notes J K = some (J1, K1) ∧ NotR z J K J1 K1 := by
  rw [nf_f_X11_notes, hz]
  simp only [bnd_eq]
  by_cases h : z = 16
  · subst h
    rw [if_pos rfl]
    have e0 : K = uF K 6 (va_cpy (K 6) (K 6) 134 0 0) := by rw [cpy_0, uF_id]
    have h1 := cl_notes_11 (J := J) (K := K) (fun F_1349 => L_X11_notes_48 (fun F_1344 => some (upd (upd J 6 (nI 15)) 6 (upd J 6 (nI 15) 6 + nI 1), F_1344)) (upd J 6 (nI 15)) FU (nI 0) F_1349) 2010 0 FU (by omega) (by rw [FU_big]; omega)
    rw [← e0] at h1
    rw [h1]
    obtain ⟨K2, hK2⟩ : ∃ K2, K2 = uF K 6 (va_cpy (K 6) (K 6) 134 0 2010) := ⟨_, rfl⟩
    rw [← hK2]
    have e1 : K2 = uF K2 6 (va_cpy (K2 3) (K2 6) 0 (134 * 15) 0) := by rw [cpy_0, uF_id]
    have h2 := cl_notes_48 (J := upd J 6 (nI 15)) (K := K2) (z := 15) upd_same (by omega) (fun F_1344 => some (upd (upd J 6 (nI 15)) 6 (upd J 6 (nI 15) 6 + nI 1), F_1344)) 134 0 FU (by omega) (by rw [FU_big]; omega)
    rw [← e1] at h2
    rw [h2]
    have k23 : K2 3 = K 3 := by rw [hK2, uF_ne _ _ (by omega)]
    have k26 : K2 6 = va_cpy (K 6) (K 6) 134 0 2010 := by rw [hK2, uF_same]
    refine ⟨_, _, rfl, ?_, ?_, ?_, fun h => absurd h (by omega), fun _ => ⟨?_, ?_⟩⟩
    · rw [upd_same, upd_same, nI_add]; rfl
    · intro n hn; rw [upd_ne hn, upd_ne hn]
    · intro a ha; rw [uF_ne _ _ ha, hK2, uF_ne _ _ ha]
    · intro i t hi ht
      rw [uF_same, cpy_out (by omega), k26, cpy_in (by omega) (by omega), show 134 + (134 * i + t - 0) = 134 * (i + 1) + t by omega]
    · intro t ht
      rw [uF_same, cpy_in (by omega) (by omega), k23, show 0 + (134 * 15 + t - 134 * 15) = t by omega]
  · rw [if_neg (by rw [eqN (by omega) (by omega)]; exact h)]
    have e1 : K = uF K 6 (va_cpy (K 3) (K 6) 0 (134 * z) 0) := by rw [cpy_0, uF_id]
    have h2 := cl_notes_48 (J := J) (K := K) (z := z) hz (by omega) (fun F_1344 => some (upd J 6 (J 6 + nI 1), F_1344)) 134 0 FU (by omega) (by rw [FU_big]; omega)
    rw [← e1] at h2
    rw [h2]
    refine ⟨_, _, rfl, ?_, ?_, ?_, fun _ => ⟨?_, ?_⟩, fun h2 => absurd h2 h⟩
    · rw [upd_same, hz, nI_add, zUp, if_neg (by omega)]
    · intro n hn; rw [upd_ne hn]
    · intro a ha; rw [uF_ne _ _ ha]
    · intro i t hi ht
      rw [uF_same, cpy_out (by omega)]
    · intro t ht
      rw [uF_same, cpy_in (by omega) (by omega), show 0 + (134 * z + t - 134 * z) = t by omega]
/-- the pure past: what of the past is bound behind remember and notes -/
theorem PA_rem {P B Kp Jm nx z : Nat} (hk : Kp ≤ 9) (hj : Jm ≤ 6) {I I' : WI} {F F' : WF} {J J1 : WI} {K K1 : WF} (hnx : nx < 16) (hz : z ≤ 16) (hr : RemR nx z I F I' F') (hn : NotR z J K J1 K1) (hN : SRq P B Kp Jm I F 0 (K 3)) (hp : ∀ i, i < z → SRq P B Kp Jm I F (1 + (nx + 16 - z + i) % 16) (fun t => K 6 (134 * i + t))) : PA P B Kp Jm I' F' (J1 6) (K1 6) := by
  obtain ⟨I1, hc, r62, r61, rI⟩ := hr
  obtain ⟨n6, nJ, nK, nlt, neq⟩ := hn
  have hcp : ∀ v' : Nat → Int32, (∀ t, t < 133 → v' t = K 3 t) → SRq P B Kp Jm I' F' (1 + nx) v' := fun v' hv => by
    have h1 := SRq_copy hk hj hc hv hN
    exact SRq_at hk hj (fun n hn => rI n (by omega) (by omega)) (fun _ _ _ => rfl) (fun _ _ => rfl) h1
  have hkeep : ∀ q (v v' : Nat → Int32), ¬ q = 1 + nx → q ≤ 18 → (∀ t, t < 133 → v' t = v t) → SRq P B Kp Jm I F q v → SRq P B Kp Jm I' F' q v' := fun q v v' hq hq2 hv h => by
    refine SRq_at hk hj (fun n hn => (rI n (by omega) (by omega)).trans (hc.2.2.1 n (by omega) (by omega))) (fun a h1 h2 => ?_) hv h
    exact hc.2.2.2.2.2.2.2.2.2.2.2 a (by omega)
  refine ⟨zUp z, (nx + 1) % 16, by unfold zUp; split <;> omega, by omega, r61, r62, n6, fun i hi => ?_⟩
  by_cases h16 : z = 16
  · subst h16
    obtain ⟨a1, a2⟩ := neq rfl
    have hz' : zUp 16 = 16 := rfl
    rw [hz'] at hi ⊢
    by_cases hi15 : i = 15
    · subst hi15
      rw [show 1 + ((nx + 1) % 16 + 16 - 16 + 15) % 16 = 1 + nx by omega]
      exact hcp _ (fun t ht => a2 t (by omega))
    · have h1 := hp (i + 1) (by omega)
      rw [show 1 + ((nx + 1) % 16 + 16 - 16 + i) % 16 = 1 + (nx + 16 - 16 + (i + 1)) % 16 by omega]
      exact hkeep _ _ _ (by omega) (by omega) (fun t ht => a1 i t (by omega) (by omega)) h1
  · obtain ⟨a1, a2⟩ := nlt (by omega)
    have hz' : zUp z = z + 1 := by unfold zUp; rw [if_neg (by omega)]
    rw [hz'] at hi ⊢
    by_cases hiz : i = z
    · subst hiz
      rw [show 1 + ((nx + 1) % 16 + 16 - (i + 1) + i) % 16 = 1 + nx by omega]
      exact hcp _ (fun t ht => a2 t (by omega))
    · have h1 := hp i (by omega)
      rw [show 1 + ((nx + 1) % 16 + 16 - (z + 1) + i) % 16 = 1 + (nx + 16 - z + i) % 16 by omega]
      exact hkeep _ _ _ (by omega) (by omega) (fun t ht => a1 i t (by omega) (by omega)) h1
/-- before each thing that is done: both sides remember, all else stays -/
theorem rem_both {P B Kp Jm : Nat} {I : WI} {F : WF} {J : WI} {K : WF} (hT : InvT P B Kp Jm I F K) (hN : InvN P B Kp Jm I F K) (hP : PA P B Kp Jm I F (J 6) (K 6)) (hI : IM P B Kp Jm I F (K 5) (K 4)) :
    ∃ I1 F1 J1 K1, f_X3_remember_42_22 I F = some (I1, F1) ∧ f_X11_notes (upd J 0 (nI 0)) K = some (J1, K1) ∧ PA P B Kp Jm I1 F1 (J1 6) (K1 6) ∧ IM P B Kp Jm I1 F1 (K1 5) (K1 4) ∧ (∀ n, n < 2 ∨ (38 ≤ n ∧ ¬ n = 61 ∧ ¬ n = 62) → I1 n = I n) ∧ (∀ a, a < 8 ∨ 152 ≤ a → F1 a = F a) ∧ (∀ n, ¬ n = 0 → ¬ n = 6 → J1 n = J n) ∧ (∀ a, ¬ a = 6 → K1 a = K a) := by
  have hs := T_sz hT
  obtain ⟨z, nx, z16, nx16, e61, e62, e6, hp⟩ := hP
  obtain ⟨I1, F1, h1, hr⟩ := remember_c e62 e61 nx16 z16
  obtain ⟨J1, K1, h2, hn⟩ := notes_m (J := upd J 0 (nI 0)) (K := K) (z := z) e6 z16
  have hpa := PA_rem hs.2.2.1 hs.2.2.2 nx16 z16 hr hn hN hp
  obtain ⟨I2, hc, r62, r61, rI⟩ := hr
  have hIfr : ∀ n, ¬ n = 61 → ¬ n = 62 → ¬ n = 2 * (1 + nx) → ¬ n = 2 * (1 + nx) + 1 → I1 n = I n := fun n a b c d => (rI n a b).trans (hc.2.2.1 n c d)
  have hFfr : ∀ a, a < 8 * (1 + nx) ∨ 8 * (1 + nx) + 8 ≤ a → F1 a = F a := hc.2.2.2.2.2.2.2.2.2.2.2
  refine ⟨I1, F1, J1, K1, h1, h2, hpa, ?_, fun n h => hIfr n (by omega) (by omega) (by omega) (by omega), fun a h => hFfr a (by omega), fun n a b => (hn.2.1 n b).trans (upd_ne a), hn.2.2.1⟩
  rw [hn.2.2.1 5 (by omega), hn.2.2.1 4 (by omega)]
  intro i hi
  obtain ⟨a1, a2, a3⟩ := hI i hi
  rw [hIfr (63 + 2 * i) (by omega) (by omega) (by omega) (by omega), hIfr (64 + 2 * i) (by omega) (by omega) (by omega) (by omega)]
  refine ⟨a1, a2, fun h => ?_⟩
  obtain ⟨b1, b2, b3⟩ := a3 h
  refine ⟨b1, b2, SRq_at hs.2.2.1 hs.2.2.2 (fun n hn => hIfr n (by omega) (by omega) (by omega) (by omega)) (fun a q1 q2 => hFfr a (by omega)) (fun _ _ => rfl) b3⟩
