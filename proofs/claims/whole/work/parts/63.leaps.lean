/-! pure layer: a leap, on both sides (2) -/
theorem roll_full {J : WI} {K : WF} (k : WF → Option (Int32 × WF)) (x1 x2 x4 x5 : Int32) : L_X11_leaps_31 k x1 x2 x4 x5 J FU (nI 79) K = k (uF K 3 (shM (K 3) 3)) := by
  have e := roll_l (J := J) (K := K) k x1 x2 x4 x5 76 FU (by omega) (by rw [FU_big]; omega)
  rw [show 76 + 3 = 79 from rfl, shM_end, uF_id] at e
  exact e
theorem shM_lo (v : Nat → Int32) {t : Nat} (h : t < 57) : shM v 3 t = v t := by
  rw [shM, if_neg (by omega)]
theorem shM_hi (v : Nat → Int32) {t : Nat} (h : 133 ≤ t) : shM v 3 t = v t := by
  rw [shM, if_neg (by omega)]
theorem counts_g {J : WI} {G : WF} {a : Nat} (ha : a < 134) : f_X11_counts (nI a) J G = some (uF G 3 (upd (G 3) a (G 3 a + if nI 999999 ≤ G 3 a then nI 0 else nI 1))) := by
  rw [nf_f_X11_counts]
  simp (disch := omega) only [jn_ite, ixN, nI_clamp, bnd_eq]
  split <;> rfl
theorem leaps_1n {J : WI} {K : WF} {j b x y d o r hh : Nat} (hj : j < 6) (hb : b < 9) (hr : r ≤ 20) (hd : d ≤ 30) (ho : o ≤ 999999) (m51 : K 3 51 = nI hh) (m52 : K 3 52 = nI r) (mp : K 3 j = nI x) (md : K 3 (6 + j) = nI d) (mo : K 3 (12 + j) = nI o) (ebm : ∀ f : Nat → Int32, f_X11_beyond (nI b) (nI x) J (uF K 3 f) = some (nI y)) (hcm : f_X11_comes (nI j) (nI b) J K = some (nI 1)) (hkm : f_X11_keeperAt (nI b) J K = some (-1)) : f_X11_leaps (nI j) (nI b) (nI 0) J K = some (nI 1, uF K 3 (upd (upd (upd (enM (K 3) (nI hh) j b 1 (if r < 20 then r + 1 else 20)) j (nI y)) (6 + j) (nI (d - 1))) (12 + j) (nI (inc 999999 o)))) := by
  rw [nf_f_X11_leaps]
  simp (disch := omega) only [jn_ite, nI_add, nI_clamp, ixN]
  simp (disch := omega) only [bnd_eq, ob_some, eqN, hcm, hkm, roll_full, m1N, if_true, if_false, eq_self, Nat.one_ne_zero]
  simp (disch := omega) only [uF_uF, uF_same, ixN, nI_clamp, nI_add, Nat.zero_add, upd_same, upd_ne, shM_lo, m51, m52, mp, md, mo, inc_m, dec_m, dry_m, ebm, ob_some, counts_g, uF_uF, uF_same]
  simp only [enM, inc]
theorem leaps_1s {J : WI} {K : WF} {j b x y d o r hh : Nat} (hj : j < 6) (hb : b < 9) (hr : r ≤ 20) (hd : d ≤ 30) (ho : o ≤ 999999) (m51 : K 3 51 = nI hh) (m52 : K 3 52 = nI r) (mp : K 3 j = nI x) (md : K 3 (6 + j) = nI d) (mo : K 3 (12 + j) = nI o) (ebm : ∀ f : Nat → Int32, f_X11_beyond (nI b) (nI x) J (uF K 3 f) = some (nI y)) (hcm : f_X11_comes (nI j) (nI b) J K = some (nI 1)) {k t : Nat} (hk : k < 9) (ht : t ≤ 99) (mt : K 3 (33 + k) = nI t) (hkm : f_X11_keeperAt (nI b) J K = some (nI k)) : f_X11_leaps (nI j) (nI b) (nI 0) J K = some (nI 1, uF K 3 (upd (upd (upd (upd (enM (K 3) (nI hh) j b 1 (if r < 20 then r + 1 else 20)) j (nI y)) (6 + j) (nI (d - 1))) (12 + j) (nI (inc 999999 o))) (33 + k) (nI (inc 99 t)))) := by
  rw [nf_f_X11_leaps]
  simp (disch := omega) only [jn_ite, nI_add, nI_clamp, ixN]
  simp (disch := omega) only [bnd_eq, ob_some, eqN, hcm, hkm, roll_full, m1N, if_true, if_false, eq_self, Nat.one_ne_zero]
  simp (disch := omega) only [uF_uF, uF_same, ixN, nI_clamp, nI_add, Nat.zero_add, upd_same, upd_ne, shM_lo, m51, m52, mp, md, mo, mt, inc_m, dec_m, dry_m, ebm, ob_some, counts_g, uF_uF, uF_same]
  simp only [enM, inc]
theorem leaps_0n {J : WI} {K : WF} {j b x y d o r hh : Nat} (hj : j < 6) (hb : b < 9) (hr : r ≤ 20) (hd : d ≤ 30) (ho : o ≤ 999999) (m51 : K 3 51 = nI hh) (m52 : K 3 52 = nI r) (mp : K 3 j = nI x) (md : K 3 (6 + j) = nI d) (mo : K 3 (18 + j) = nI o) (hcm : f_X11_comes (nI j) (nI b) J K = some (nI 0)) (hkm : f_X11_keeperAt (nI b) J K = some (-1)) : f_X11_leaps (nI j) (nI b) (nI 0) J K = some (nI 0, uF K 3 (upd (upd (enM (K 3) (nI hh) j b 0 (if r < 20 then r + 1 else 20)) (6 + j) (nI (dry d))) (18 + j) (nI (inc 999999 o)))) := by
  rw [nf_f_X11_leaps]
  simp (disch := omega) only [jn_ite, nI_add, nI_clamp, ixN]
  simp (disch := omega) only [bnd_eq, ob_some, eqN, hcm, hkm, roll_full, m1N, if_true, if_false, eq_self, Nat.one_ne_zero]
  simp (disch := omega) only [uF_uF, uF_same, ixN, nI_clamp, nI_add, Nat.zero_add, upd_same, upd_ne, shM_lo, m51, m52, mp, md, mo, inc_m, dec_m, dry_m, ob_some, counts_g, uF_uF, uF_same]
  simp only [enM, inc]
theorem leaps_0s {J : WI} {K : WF} {j b x y d o r hh : Nat} (hj : j < 6) (hb : b < 9) (hr : r ≤ 20) (hd : d ≤ 30) (ho : o ≤ 999999) (m51 : K 3 51 = nI hh) (m52 : K 3 52 = nI r) (mp : K 3 j = nI x) (md : K 3 (6 + j) = nI d) (mo : K 3 (18 + j) = nI o) (hcm : f_X11_comes (nI j) (nI b) J K = some (nI 0)) {k t : Nat} (hk : k < 9) (ht : t ≤ 99) (mt : K 3 (33 + k) = nI t) (hkm : f_X11_keeperAt (nI b) J K = some (nI k)) : f_X11_leaps (nI j) (nI b) (nI 0) J K = some (nI 0, uF K 3 (upd (upd (upd (enM (K 3) (nI hh) j b 0 (if r < 20 then r + 1 else 20)) (6 + j) (nI (dry d))) (18 + j) (nI (inc 999999 o))) (33 + k) (nI (inc 99 t)))) := by
  rw [nf_f_X11_leaps]
  simp (disch := omega) only [jn_ite, nI_add, nI_clamp, ixN]
  simp (disch := omega) only [bnd_eq, ob_some, eqN, hcm, hkm, roll_full, m1N, if_true, if_false, eq_self, Nat.one_ne_zero]
  simp (disch := omega) only [uF_uF, uF_same, ixN, nI_clamp, nI_add, Nat.zero_add, upd_same, upd_ne, shM_lo, m51, m52, mp, md, mo, mt, inc_m, dec_m, dry_m, ob_some, counts_g, uF_uF, uF_same]
  simp only [enM, inc]
theorem leaps_2n {J : WI} {K : WF} {j b x y d o r hh : Nat} (hj : j < 6) (hb : b < 9) (hr : r ≤ 20) (hd : d ≤ 30) (ho : o ≤ 999999) (m51 : K 3 51 = nI hh) (m52 : K 3 52 = nI r) (mp : K 3 j = nI x) (md : K 3 (6 + j) = nI d) (mo : K 3 (18 + j) = nI o) (hkm : f_X11_keeperAt (nI b) J K = some (-1)) : f_X11_leaps (nI j) (nI b) (nI 1) J K = some (nI 0, uF K 3 (upd (upd (enM (K 3) (nI hh) j b 0 (if r < 20 then r + 1 else 20)) (6 + j) (nI (dry d))) (18 + j) (nI (inc 999999 o)))) := by
  rw [nf_f_X11_leaps]
  simp (disch := omega) only [jn_ite, nI_add, nI_clamp, ixN]
  simp (disch := omega) only [bnd_eq, ob_some, eqN, hkm, roll_full, m1N, if_true, if_false, eq_self, Nat.one_ne_zero]
  simp (disch := omega) only [uF_uF, uF_same, ixN, nI_clamp, nI_add, Nat.zero_add, upd_same, upd_ne, shM_lo, m51, m52, mp, md, mo, inc_m, dec_m, dry_m, ob_some, counts_g, uF_uF, uF_same]
  simp only [enM, inc]
theorem leaps_2s {J : WI} {K : WF} {j b x y d o r hh : Nat} (hj : j < 6) (hb : b < 9) (hr : r ≤ 20) (hd : d ≤ 30) (ho : o ≤ 999999) (m51 : K 3 51 = nI hh) (m52 : K 3 52 = nI r) (mp : K 3 j = nI x) (md : K 3 (6 + j) = nI d) (mo : K 3 (18 + j) = nI o) {k t : Nat} (hk : k < 9) (ht : t ≤ 99) (mt : K 3 (33 + k) = nI t) (hkm : f_X11_keeperAt (nI b) J K = some (nI k)) : f_X11_leaps (nI j) (nI b) (nI 1) J K = some (nI 0, uF K 3 (upd (upd (upd (enM (K 3) (nI hh) j b 0 (if r < 20 then r + 1 else 20)) (6 + j) (nI (dry d))) (18 + j) (nI (inc 999999 o))) (33 + k) (nI (inc 99 t)))) := by
  rw [nf_f_X11_leaps]
  simp (disch := omega) only [jn_ite, nI_add, nI_clamp, ixN]
  simp (disch := omega) only [bnd_eq, ob_some, eqN, hkm, roll_full, m1N, if_true, if_false, eq_self, Nat.one_ne_zero]
  simp (disch := omega) only [uF_uF, uF_same, ixN, nI_clamp, nI_add, Nat.zero_add, upd_same, upd_ne, shM_lo, m51, m52, mp, md, mo, mt, inc_m, dec_m, dry_m, ob_some, counts_g, uF_uF, uF_same]
  simp only [enM, inc]
theorem jump_both {P B Kp Jm : Nat} {I : WI} {F : WF} {J : WI} {K : WF} (h : InvP P B Kp Jm I F J K) {j b x : Nat} (hj : j < Jm) (hb : b < B) (hx : x < P) (ex : F 3 j = nI x) (htc : f_X7_touches_13 (nI b) (nI x) I F = some (nI 1)) {x3 : Int32} (hx3 : x3 = nI 0 ∨ x3 = nI 1) :
    ∃ c I' F' K', c < 2 ∧ f_X1_jump_12 (nI j) (nI b) x3 I F = some (nI c, I', F') ∧ f_X11_leaps (nI j) (nI b) x3 J K = some (nI c, K') ∧ InvP P B Kp Jm I' F' J K' ∧ I' 0 = I 0 := by
  obtain ⟨hT, hN, hS, -⟩ := id h
  have hs := T_sz hT
  obtain ⟨⟨hh, hh9, e0⟩, m51, m52, hKs, -, hJs, r, hr, er, -⟩ := id hN
  obtain ⟨-, ⟨d, hd, ed⟩, ⟨o, ho, eo⟩, ⟨w, hw, ew⟩, mp, md, mo, mw⟩ := hJs j hj
  obtain ⟨y, hy, -, eby, ebm, -⟩ | ⟨hne, -⟩ := beyond_both (J := J) hT hb hx
  case inr => rw [hne] at htc; exact absurd htc (by decide)
  have ebm' : ∀ f : Nat → Int32, f_X11_beyond (nI b) (nI x) J (uF K 3 f) = some (nI y) := fun f => by
    rw [nf_f_X11_beyond, uF_ne _ _ (by omega)]; rw [nf_f_X11_beyond] at ebm; exact ebm
  have hk := kpC hT (nI b)
  have hkm := kpM hT hN (J := J) (b := b) (by omega)
  have hcc := cmC hT hj hb
  have hcm := cmM hT hN (J := J) hj hb
  have hsd : ∀ v : Nat → Int32, v 133 = K 3 133 → I 47 = v 133 ∧ ¬ I 47 < 0 := fun v hv => by rw [hv]; exact hS
  rw [ed] at md; rw [eo] at mo; rw [ew] at mw; rw [ex] at mp; rw [e0] at m51; rw [er] at m52
  -- came over or not
  have hcase : (x3 = nI 0 ∧ cmF I F Kp j b = nI 1) ∨ (x3 = nI 0 ∧ cmF I F Kp j b = nI 0) ∨ x3 = nI 1 := by
    rcases hx3 with q | q
    · rcases cm_01 I F Kp j b with q2 | q2
      · exact Or.inr (Or.inl ⟨q, q2⟩)
      · exact Or.inl ⟨q, q2⟩
    · exact Or.inr (Or.inr q)
  have key1 : x3 = nI 0 ∧ cmF I F Kp j b = nI 1 → ∃ I' F' K', f_X1_jump_12 (nI j) (nI b) x3 I F = some (nI 1, I', F') ∧ f_X11_leaps (nI j) (nI b) x3 J K = some (nI 1, K') ∧ InvP P B Kp Jm I' F' J K' ∧ I' 0 = I 0 := by
    rintro ⟨rfl, q⟩
    rw [q] at hcc hcm
    have hN1 := SR_ov (k := j) (n := inc 999999 o) hs.2.2.1 hs.2.2.2 hj inc_le (SR_db (k := j) (n := d - 1) hs.2.2.1 hs.2.2.2 hj (by omega) (SR_pl (k := j) (n := y) hs.2.2.1 hs.2.2.2 hj hy (SR_roll (j := j) (b := b) (c := 1) hs.2.2.1 hs.2.2.2 e0 hh9 er hr (by omega) (by omega) (by omega) hN)))
    cases hka : kAt (F 1) (nI b) Kp 0 with
    | none =>
      refine ⟨upd I 1 (nI (if r < 20 then r + 1 else 20)), uF (uF (uF (uF F 3 (upd (F 3) j (nI y))) 4 (upd (F 4) j (nI (d - 1)))) 5 (upd (F 5) j (nI (inc 999999 o)))) 7 (enR (F 7) (hh * 256 + j * 32 + b * 2 + 1)), uF K 3 (upd (upd (upd (enM (K 3) (I 0) j b 1 (if r < 20 then r + 1 else 20)) j (nI y)) (6 + j) (nI (d - 1))) (12 + j) (nI (inc 999999 o))), ?_, ?_, ?_, upd_ne (by omega)⟩
      · rw [nf_f_X1_jump_12]
        simp (disch := omega) [bnd_eq, ob_some, eqN, hcc, ixN, nI_clamp, ex, eby, ed, eo, ew, uF_ne, uF_same, dec_c, inc_c, dry_c, kc_any hT.1.2.2.1 hs.2.2.1, hka, kOf, m1N, enter_c e0 hh9 er hr, bz1, bz0]
      · rw [e0]; exact leaps_1n (by omega) (by omega) hr hd ho m51 m52 mp md mo ebm' hcm (by rw [hkm, hka]; rfl)
      · refine InvP_chg h (fun n a _ => upd_ne (by omega)) (fun a ha => ?_) (fun _ _ => rfl) (fun a ha => uF_ne _ _ ha) ?_ (InvN_of ⟨rfl, rfl, rfl, rfl, rfl, rfl, rfl, rfl, rfl, rfl, rfl⟩ hN1)
        · simp (disch := omega) only [uF_ne]
        · refine hsd _ ?_
          simp (disch := omega) only [uF_same, enM, upd_ne, shM_hi]
    | some k =>
      have hkk := (kAt_some hka).1
      obtain ⟨-, -, ⟨t, ht, et⟩, -, -, mt⟩ := hKs k hkk
      rw [et] at mt
      refine ⟨upd I 1 (nI (if r < 20 then r + 1 else 20)), uF (uF (uF (uF (uF F 3 (upd (F 3) j (nI y))) 4 (upd (F 4) j (nI (d - 1)))) 5 (upd (F 5) j (nI (inc 999999 o)))) 2 (upd (F 2) k (nI (inc 99 t)))) 7 (enR (F 7) (hh * 256 + j * 32 + b * 2 + 1)), uF K 3 (upd (upd (upd (upd (enM (K 3) (I 0) j b 1 (if r < 20 then r + 1 else 20)) j (nI y)) (6 + j) (nI (d - 1))) (12 + j) (nI (inc 999999 o))) (33 + k) (nI (inc 99 t))), ?_, ?_, ?_, upd_ne (by omega)⟩
      · rw [nf_f_X1_jump_12]
        simp (disch := omega) [bnd_eq, ob_some, eqN, hcc, ixN, nI_clamp, ex, eby, ed, eo, ew, et, uF_ne, uF_same, dec_c, inc_c, dry_c, kc_any hT.1.2.2.1 hs.2.2.1, hka, kOf, m1N, enter_c e0 hh9 er hr, bz1, bz0]
      · rw [e0]; exact leaps_1s (by omega) (by omega) hr hd ho m51 m52 mp md mo ebm' hcm (by omega) ht mt (by rw [hkm, hka]; rfl)
      · refine InvP_chg h (fun n a _ => upd_ne (by omega)) (fun a ha => ?_) (fun _ _ => rfl) (fun a ha => uF_ne _ _ ha) ?_ (InvN_of ⟨rfl, rfl, rfl, rfl, rfl, rfl, rfl, rfl, rfl, rfl, rfl⟩ (SR_ti (k := k) (n := inc 99 t) hs.2.2.1 hs.2.2.2 hkk inc_le hN1))
        · simp (disch := omega) only [uF_ne]
        · refine hsd _ ?_
          simp (disch := omega) only [uF_same, enM, upd_ne, shM_hi]
  have key0 : x3 = nI 0 ∧ cmF I F Kp j b = nI 0 → ∃ I' F' K', f_X1_jump_12 (nI j) (nI b) x3 I F = some (nI 0, I', F') ∧ f_X11_leaps (nI j) (nI b) x3 J K = some (nI 0, K') ∧ InvP P B Kp Jm I' F' J K' ∧ I' 0 = I 0 := by
    rintro ⟨rfl, q⟩
    rw [q] at hcc hcm
    have hN1 := SR_dr (k := j) (n := inc 999999 w) hs.2.2.1 hs.2.2.2 hj inc_le (SR_db (k := j) (n := dry d) hs.2.2.1 hs.2.2.2 hj dry_le (SR_roll (j := j) (b := b) (c := 0) hs.2.2.1 hs.2.2.2 e0 hh9 er hr (by omega) (by omega) (by omega) hN))
    cases hka : kAt (F 1) (nI b) Kp 0 with
    | none =>
      refine ⟨upd I 1 (nI (if r < 20 then r + 1 else 20)), uF (uF (uF F 4 (upd (F 4) j (nI (dry d)))) 6 (upd (F 6) j (nI (inc 999999 w)))) 7 (enR (F 7) (hh * 256 + j * 32 + b * 2 + 0)), uF K 3 (upd (upd (enM (K 3) (I 0) j b 0 (if r < 20 then r + 1 else 20)) (6 + j) (nI (dry d))) (18 + j) (nI (inc 999999 w))), ?_, ?_, ?_, upd_ne (by omega)⟩
      · rw [nf_f_X1_jump_12]
        simp (disch := omega) [bnd_eq, ob_some, eqN, hcc, ixN, nI_clamp, ex, eby, ed, eo, ew, uF_ne, uF_same, dec_c, inc_c, dry_c, kc_any hT.1.2.2.1 hs.2.2.1, hka, kOf, m1N, enter_c e0 hh9 er hr, bz1, bz0]
      · rw [e0]; exact leaps_0n (y := 0) (by omega) (by omega) hr hd hw m51 m52 mp md mw hcm (by rw [hkm, hka]; rfl)
      · refine InvP_chg h (fun n a _ => upd_ne (by omega)) (fun a ha => ?_) (fun _ _ => rfl) (fun a ha => uF_ne _ _ ha) ?_ (InvN_of ⟨rfl, rfl, rfl, rfl, rfl, rfl, rfl, rfl, rfl, rfl, rfl⟩ hN1)
        · simp (disch := omega) only [uF_ne]
        · refine hsd _ ?_
          simp (disch := omega) only [uF_same, enM, upd_ne, shM_hi]
    | some k =>
      have hkk := (kAt_some hka).1
      obtain ⟨-, -, ⟨t, ht, et⟩, -, -, mt⟩ := hKs k hkk
      rw [et] at mt
      refine ⟨upd I 1 (nI (if r < 20 then r + 1 else 20)), uF (uF (uF (uF F 4 (upd (F 4) j (nI (dry d)))) 6 (upd (F 6) j (nI (inc 999999 w)))) 2 (upd (F 2) k (nI (inc 99 t)))) 7 (enR (F 7) (hh * 256 + j * 32 + b * 2 + 0)), uF K 3 (upd (upd (upd (enM (K 3) (I 0) j b 0 (if r < 20 then r + 1 else 20)) (6 + j) (nI (dry d))) (18 + j) (nI (inc 999999 w))) (33 + k) (nI (inc 99 t))), ?_, ?_, ?_, upd_ne (by omega)⟩
      · rw [nf_f_X1_jump_12]
        simp (disch := omega) [bnd_eq, ob_some, eqN, hcc, ixN, nI_clamp, ex, eby, ed, eo, ew, et, uF_ne, uF_same, dec_c, inc_c, dry_c, kc_any hT.1.2.2.1 hs.2.2.1, hka, kOf, m1N, enter_c e0 hh9 er hr, bz1, bz0]
      · rw [e0]; exact leaps_0s (y := 0) (by omega) (by omega) hr hd hw m51 m52 mp md mw hcm (by omega) ht mt (by rw [hkm, hka]; rfl)
      · refine InvP_chg h (fun n a _ => upd_ne (by omega)) (fun a ha => ?_) (fun _ _ => rfl) (fun a ha => uF_ne _ _ ha) ?_ (InvN_of ⟨rfl, rfl, rfl, rfl, rfl, rfl, rfl, rfl, rfl, rfl, rfl⟩ (SR_ti (k := k) (n := inc 99 t) hs.2.2.1 hs.2.2.2 hkk inc_le hN1))
        · simp (disch := omega) only [uF_ne]
        · refine hsd _ ?_
          simp (disch := omega) only [uF_same, enM, upd_ne, shM_hi]
  have key2 : x3 = nI 1 → ∃ I' F' K', f_X1_jump_12 (nI j) (nI b) x3 I F = some (nI 0, I', F') ∧ f_X11_leaps (nI j) (nI b) x3 J K = some (nI 0, K') ∧ InvP P B Kp Jm I' F' J K' ∧ I' 0 = I 0 := by
    rintro rfl
    have hN1 := SR_dr (k := j) (n := inc 999999 w) hs.2.2.1 hs.2.2.2 hj inc_le (SR_db (k := j) (n := dry d) hs.2.2.1 hs.2.2.2 hj dry_le (SR_roll (j := j) (b := b) (c := 0) hs.2.2.1 hs.2.2.2 e0 hh9 er hr (by omega) (by omega) (by omega) hN))
    cases hka : kAt (F 1) (nI b) Kp 0 with
    | none =>
      refine ⟨upd I 1 (nI (if r < 20 then r + 1 else 20)), uF (uF (uF F 4 (upd (F 4) j (nI (dry d)))) 6 (upd (F 6) j (nI (inc 999999 w)))) 7 (enR (F 7) (hh * 256 + j * 32 + b * 2 + 0)), uF K 3 (upd (upd (enM (K 3) (I 0) j b 0 (if r < 20 then r + 1 else 20)) (6 + j) (nI (dry d))) (18 + j) (nI (inc 999999 w))), ?_, ?_, ?_, upd_ne (by omega)⟩
      · rw [nf_f_X1_jump_12]
        simp (disch := omega) [bnd_eq, ob_some, eqN, hcc, ixN, nI_clamp, ex, eby, ed, eo, ew, uF_ne, uF_same, dec_c, inc_c, dry_c, kc_any hT.1.2.2.1 hs.2.2.1, hka, kOf, m1N, enter_c e0 hh9 er hr, bz1, bz0]
      · rw [e0]; exact leaps_2n (y := 0) (by omega) (by omega) hr hd hw m51 m52 mp md mw (by rw [hkm, hka]; rfl)
      · refine InvP_chg h (fun n a _ => upd_ne (by omega)) (fun a ha => ?_) (fun _ _ => rfl) (fun a ha => uF_ne _ _ ha) ?_ (InvN_of ⟨rfl, rfl, rfl, rfl, rfl, rfl, rfl, rfl, rfl, rfl, rfl⟩ hN1)
        · simp (disch := omega) only [uF_ne]
        · refine hsd _ ?_
          simp (disch := omega) only [uF_same, enM, upd_ne, shM_hi]
    | some k =>
      have hkk := (kAt_some hka).1
      obtain ⟨-, -, ⟨t, ht, et⟩, -, -, mt⟩ := hKs k hkk
      rw [et] at mt
      refine ⟨upd I 1 (nI (if r < 20 then r + 1 else 20)), uF (uF (uF (uF F 4 (upd (F 4) j (nI (dry d)))) 6 (upd (F 6) j (nI (inc 999999 w)))) 2 (upd (F 2) k (nI (inc 99 t)))) 7 (enR (F 7) (hh * 256 + j * 32 + b * 2 + 0)), uF K 3 (upd (upd (upd (enM (K 3) (I 0) j b 0 (if r < 20 then r + 1 else 20)) (6 + j) (nI (dry d))) (18 + j) (nI (inc 999999 w))) (33 + k) (nI (inc 99 t))), ?_, ?_, ?_, upd_ne (by omega)⟩
      · rw [nf_f_X1_jump_12]
        simp (disch := omega) [bnd_eq, ob_some, eqN, hcc, ixN, nI_clamp, ex, eby, ed, eo, ew, et, uF_ne, uF_same, dec_c, inc_c, dry_c, kc_any hT.1.2.2.1 hs.2.2.1, hka, kOf, m1N, enter_c e0 hh9 er hr, bz1, bz0]
      · rw [e0]; exact leaps_2s (y := 0) (by omega) (by omega) hr hd hw m51 m52 mp md mw (by omega) ht mt (by rw [hkm, hka]; rfl)
      · refine InvP_chg h (fun n a _ => upd_ne (by omega)) (fun a ha => ?_) (fun _ _ => rfl) (fun a ha => uF_ne _ _ ha) ?_ (InvN_of ⟨rfl, rfl, rfl, rfl, rfl, rfl, rfl, rfl, rfl, rfl, rfl⟩ (SR_ti (k := k) (n := inc 99 t) hs.2.2.1 hs.2.2.2 hkk inc_le hN1))
        · simp (disch := omega) only [uF_ne]
        · refine hsd _ ?_
          simp (disch := omega) only [uF_same, enM, upd_ne, shM_hi]
  rcases hcase with q | q | q
  · obtain ⟨I', F', K', a1, a2, a3, a4⟩ := key1 q
    exact ⟨1, I', F', K', by omega, a1, a2, a3, a4⟩
  · obtain ⟨I', F', K', a1, a2, a3, a4⟩ := key0 q
    exact ⟨0, I', F', K', by omega, a1, a2, a3, a4⟩
  · obtain ⟨I', F', K', a1, a2, a3, a4⟩ := key2 q
    exact ⟨0, I', F', K', by omega, a1, a2, a3, a4⟩
