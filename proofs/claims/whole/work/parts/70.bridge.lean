/-! pure layer: the bridge's clause -/
theorem chkM {J : WI} {K : WF} {B : Nat} (hB9 : B ≤ 9) {eA eB : Nat → Int32} (hA : ∀ b, b < B → K 1 (4 + b) = eA b ∧ K 1 (13 + b) = eB b) (X Y : Int32) (jm : WI → Option (WI × WF)) :
    ((X = Y ∨ jb eA eB X Y B 0) ∧ (bnd (fun (s_1125 : Int32) => bnd s_1125 fun x4_1126 => bnd (nI 0) fun x5_1127 => L_X11_bridges_50 (fun x4_1135 => bnd jm fun j142_1136 => if x4_1135 = (nI 0) then (j142_1136 J) else (Option.bind (f_X11_faulty (nI 4) (J 9) J K) fun c_1145 => j142_1136 c_1145)) (nI B) X Y J K FU x4_1126 x5_1127) fun j45_1124 => if X = Y then (j45_1124 (nI 1)) else (j45_1124 (nI 0))) = Option.bind (f_X11_faulty (nI 4) (J 9) J K) jm) ∨
    (¬ (X = Y ∨ jb eA eB X Y B 0) ∧ (bnd (fun (s_1125 : Int32) => bnd s_1125 fun x4_1126 => bnd (nI 0) fun x5_1127 => L_X11_bridges_50 (fun x4_1135 => bnd jm fun j142_1136 => if x4_1135 = (nI 0) then (j142_1136 J) else (Option.bind (f_X11_faulty (nI 4) (J 9) J K) fun c_1145 => j142_1136 c_1145)) (nI B) X Y J K FU x4_1126 x5_1127) fun j45_1124 => if X = Y then (j45_1124 (nI 1)) else (j45_1124 (nI 0))) = jm J) := by
  have key := joined_ml (J := J) (K := K) hB9 hA X Y (fun x4_1135 => bnd jm fun j142_1136 => if x4_1135 = (nI 0) then (j142_1136 J) else (Option.bind (f_X11_faulty (nI 4) (J 9) J K) fun c_1145 => j142_1136 c_1145)) B 0 FU
  simp only [bnd_eq] at key ⊢
  by_cases q : X = Y
  · simp only [if_pos q]
    rcases key (nI 1) (Or.inr rfl) (by omega) (by rw [FU_big]; omega) with ⟨-, a⟩ | ⟨a, -⟩
    · refine Or.inl ⟨Or.inl q, a.trans ?_⟩
      rw [if_neg (by decide)]
    · exact absurd (Or.inl rfl) a
  · simp only [if_neg q]
    rcases key (nI 0) (Or.inl rfl) (by omega) (by rw [FU_big]; omega) with ⟨a1, a⟩ | ⟨a1, a⟩
    · refine Or.inl ⟨?_, a.trans ?_⟩
      · rcases a1 with a1 | a1
        · exact absurd a1 (by decide)
        · exact Or.inr a1
      · rw [if_neg (by decide)]
    · refine Or.inr ⟨fun h => ?_, a.trans ?_⟩
      · rcases h with h | h
        · exact q h
        · exact a1 (Or.inr h)
      · rw [if_pos trivial]
theorem chkC {I : WI} {F : WF} {B : Nat} (hB : I 44 = nI B) (hB9 : B ≤ 9) (h39 : I 39 = nI 0) (X Y : Int32) {α : Type} (jc : WI → Option α) :
    ((X = Y ∨ jb (F 152) (F 153) X Y B 0) ∧ (if (I 39) = (nI 0) then (bnd (fun (_u : Unit) => Option.bind (f_X8_fail_1 (nI 4) (I 42) I F) fun c_63 => jc c_63) fun j34_62 => if X = Y then (j34_62 ()) else (Option.bind (f_X7_joined_2 X Y I F) fun c_69 => if c_69 = (nI 0) then (jc I) else (j34_62 ()))) else (jc I)) = jc (upd (upd I 39 (nI 4)) 40 (I 42))) ∨
    (¬ (X = Y ∨ jb (F 152) (F 153) X Y B 0) ∧ (if (I 39) = (nI 0) then (bnd (fun (_u : Unit) => Option.bind (f_X8_fail_1 (nI 4) (I 42) I F) fun c_63 => jc c_63) fun j34_62 => if X = Y then (j34_62 ()) else (Option.bind (f_X7_joined_2 X Y I F) fun c_69 => if c_69 = (nI 0) then (jc I) else (j34_62 ()))) else (jc I)) = jc I) := by
  simp only [bnd_eq, fail_c, ob_some, if_pos h39]
  by_cases q : X = Y
  · rw [if_pos q]; exact Or.inl ⟨Or.inl q, rfl⟩
  · rw [if_neg q, nf_f_X7_joined_2, bnd_eq]
    rcases joined_cl (F := F) hB hB9 q B 0 FU (by omega) (by rw [FU_big]; omega) with ⟨a1, a2⟩ | ⟨a1, a2⟩
    · rw [a2, ob_some, if_neg (by decide)]; exact Or.inl ⟨Or.inr a1, rfl⟩
    · rw [a2, ob_some, if_pos rfl]
      refine Or.inr ⟨fun h => ?_, rfl⟩
      rcases h with h | h
      · exact q h
      · exact a1 h
theorem jb_congr {a b a' b' : Nat → Int32} (X Y : Int32) {B : Nat} (h : ∀ k, k < B → a k = a' k ∧ b k = b' k) : ∀ m k, k + m = B → (jb a b X Y m k ↔ jb a' b' X Y m k) := by
  intro m
  induction m with
  | zero => intro k _; exact Iff.rfl
  | succ m ih =>
    intro k hk
    rw [jb, jb, (h k (by omega)).1, (h k (by omega)).2, ih (k + 1) (by omega)]
theorem cl_b {n p P B Kp Jm : Nat} (hn : n ≤ 240) {I : WI} {F : WF} {J : WI} {K : WF} (hl : ∀ i, i < n → K 0 i = F 160 i) (hw : Well n p I J) (hd : DT P B Kp Jm I F K) (hP : ¬ P = 0) (hK : B < 9) : ∃ I' F' J1 J' K', f_X8_readBridge_1 I F = some (I', F') ∧ f_X11_tells (nI 98) J K = some (J1, K') ∧ f_X11_ends J1 K' = some J' ∧ CL n p I F J K I' F' J' K' := by
  have hP8 : P ≤ 8 := hd.2.1.1
  have hP1 : 1 ≤ P := Nat.pos_of_ne_zero hP
  have u0 : K 1 0 = nI P := hd.2.2.1.1
  have u1 : K 1 1 = nI B := hd.2.2.1.2.1
  have hA : ∀ b, b < B → K 1 (4 + b) = F 152 b ∧ K 1 (13 + b) = F 153 b := fun b hb => by
    obtain ⟨-, -, -, q1, q2, -⟩ := hd.2.2.2.1 b hb
    exact ⟨q1, q2⟩
  obtain ⟨x, y, I1, J1, a1, a2, f1, f2, hr⟩ := rn (lo := 0) (hi := P - 1) hn (by omega) (by omega) hl (Or.inl ⟨p, Nat.le_refl _, hw⟩)
  obtain ⟨x', y', I2, J2, a3, a4, f3, f4, hr2⟩ := rn (lo := 0) (hi := P - 1) (p := p) (I := I1) (F := F) (J := J1) (K := K) hn (by omega) (by omega) hl (RN_st hr)
  have i44 : I2 44 = nI B := ((f3 44 (by omega)).trans (f1 44 (by omega))).trans hd.1.2.1
  have hchk : ∃ I3 J3, (∀ (α : Type) (jc : WI → Option α), (if (I2 39) = (nI 0) then (bnd (fun (_u : Unit) => Option.bind (f_X8_fail_1 (nI 4) (I2 42) I2 F) fun c_63 => jc c_63) fun j34_62 => if x = x' then (j34_62 ()) else (Option.bind (f_X7_joined_2 x x' I2 F) fun c_69 => if c_69 = (nI 0) then (jc I2) else (j34_62 ()))) else (jc I2)) = jc I3) ∧
      (∀ (jm : WI → Option (WI × WF)), (bnd (fun (s_1125 : Int32) => bnd s_1125 fun x4_1126 => bnd (nI 0) fun x5_1127 => L_X11_bridges_50 (fun x4_1135 => bnd jm fun j142_1136 => if x4_1135 = (nI 0) then (j142_1136 J2) else (Option.bind (f_X11_faulty (nI 4) (J2 9) J2 K) fun c_1145 => j142_1136 c_1145)) (nI B) y y' J2 K FU x4_1126 x5_1127) fun j45_1124 => if y = y' then (j45_1124 (nI 1)) else (j45_1124 (nI 0))) = jm J3) ∧ frI I2 I3 ∧ frJ J2 J3 ∧ ((∃ q, p ≤ q ∧ Well n q I3 J3) ∨ Bad n I3 J3) ∧ (∀ q, Well n q I3 J3 → (∃ q, Well n q I2 J2) ∧ ¬ x = x') := by
    rcases id hr2 with ⟨q, v', pq, hw2, ⟨ex', ey', -, v2'⟩, e42, q0, hw1⟩ | hb
    · rcases id hr with ⟨q1, v, p1, p2, ⟨ex, ey, v1, v2⟩, -⟩ | hb
      · have hxy : y = x ∧ y' = x' := ⟨ey.trans ex.symm, ey'.trans ex'.symm⟩
        rw [hxy.1, hxy.2]
        by_cases hj : x = x' ∨ jb (F 152) (F 153) x x' B 0
        · refine ⟨upd (upd I2 39 (nI 4)) 40 (I2 42), upd (upd J2 3 (nI 4)) 4 (J2 9), fun α jc => ?_, fun jm => ?_, fun m hm => by simp (disch := omega) only [upd_ne], fun m _ _ _ _ => by simp (disch := omega) only [upd_ne], Or.inr ?_, fun q hq => ?_⟩
          · rcases chkC (F := F) i44 (by omega) hw2.2.2.1 x x' jc with ⟨-, h⟩ | ⟨h, -⟩
            · exact h
            · exact absurd hj h
          · rcases chkM (J := J2) (K := K) (B := B) (by omega) hA x x' jm with ⟨-, h⟩ | ⟨h, -⟩
            · rw [h, fl_w _ _ hw2.2.2.2.1, ob_some]
            · exact absurd hj h
          · rw [e42]; exact bad_mk _ hw2.1 hw2.2.1 hw2.2.2.2.2.2.1 hw2.2.2.2.2.2.2.2 hw2.2.2.2.2.2.2.1 (by have := hw2.2.2.2.2.2.2.2; omega) (by omega) (by omega)
          · exfalso
            have h1 : upd (upd I2 39 (nI 4)) 40 (I2 42) 39 = nI 0 := hq.2.2.1
            rw [upd_ne (by omega), upd_same] at h1
            exact absurd h1 (by decide)
        · refine ⟨I2, J2, fun α jc => ?_, fun jm => ?_, frI_r _, frJ_r _, Or.inl ⟨q, pq, hw2⟩, fun q hq => ⟨⟨q, hq⟩, fun e => hj (Or.inl e)⟩⟩
          · rcases chkC (F := F) i44 (by omega) hw2.2.2.1 x x' jc with ⟨h, -⟩ | ⟨-, h⟩
            · exact absurd h hj
            · exact h
          · rcases chkM (J := J2) (K := K) (B := B) (by omega) hA x x' jm with ⟨h, -⟩ | ⟨-, h⟩
            · exact absurd h hj
            · exact h
      · exact absurd hb (fun h => WB hw1 h)
    · obtain ⟨f, g1, g2, g3, g4⟩ := hb.2.2.1
      refine ⟨I2, J2, fun α jc => ?_, fun jm => ?_, frI_r _, frJ_r _, Or.inr hb, fun q hq => absurd hb (fun h => WB hq h)⟩
      · rw [g3, if_neg (by rw [eqN (by omega) (by omega)]; omega)]
      · rcases chkM (J := J2) (K := K) (B := B) (by omega) hA y y' jm with ⟨-, h⟩ | ⟨-, h⟩
        · rw [h, fl_b _ _ g1 g2 g4, ob_some]
        · exact h
  obtain ⟨I3, J3, hc3, hm3, f5, f6, hr3, hwx⟩ := hchk
  obtain ⟨z, w, I4, J4, a5, a6, f7, f8, hr4⟩ := rn (lo := 2) (hi := 40) (p := p) (I := I3) (F := F) (J := J3) (K := uF K 1 (upd (upd (K 1) (4 + B) y) (13 + B) y')) hn (by omega) (by omega) (fun i hi => by rw [uF_ne _ _ (by omega)]; exact hl i hi) hr3
  obtain ⟨z', w', I5, J5, a7, a8, f9, f10, hr5⟩ := rn (lo := 0) (hi := 99) (p := p) (I := I4) (F := F) (J := J4) (K := uF K 1 (upd (upd (upd (K 1) (4 + B) y) (13 + B) y') (22 + B) w)) hn (by omega) (by omega) (fun i hi => by rw [uF_ne _ _ (by omega)]; exact hl i hi) (RN_st hr4)
  obtain ⟨c, I6, J6, b1, b2, f11, f12, he⟩ := ends_both (p := p) (I := I5) (F := F) (J := J5) (K := uF K 1 (upd (upd (upd (upd (upd (K 1) (4 + B) y) (13 + B) y') (22 + B) w) (31 + B) w') 1 (nI (B + 1)))) hn (fun i hi => by rw [uF_ne _ _ (by omega)]; exact hl i hi) (RN_st hr5)
  have e1 : f_X11_tells (nI 98) J K = some (J5, uF K 1 (upd (upd (upd (upd (upd (K 1) (4 + B) y) (13 + B) y') (22 + B) w) (31 + B) w') 1 (nI (B + 1)))) := by
    rw [nf_f_X11_tells, if_neg (by decide), if_pos rfl, nf_f_X11_bridges, bnd_eq, u1, u0, subN hP1, a2, ob_some, bnd_eq, a4, ob_some, bnd_eq, hm3]
    simp (disch := omega) only [u1, nI_add, ixN, nI_clamp, bnd_eq, uF_same, upd_ne, uF_uF, a6, ob_some, a8]
  have e2 : f_X8_readBridge_1 I F = if c = nI 0 then some (I6, F) else Option.bind (f_X7_addBridge_2 x x' z z' I6 F) fun c_80 => some (c_80.1, c_80.2) := by
    rw [nf_f_X8_readBridge_1, place_c hP hd.1.1, a1, ob_some, bnd_eq, place_c hP ((f1 43 (by omega)).trans hd.1.1), a3, ob_some, bnd_eq, bnd_eq, hc3, a5, ob_some, bnd_eq, a7, ob_some, bnd_eq, b1, ob_some]
  have fi := frI_t f1 (frI_t f3 (frI_t f5 (frI_t f7 (frI_t f9 f11))))
  have fj := frJ_t f2 (frJ_t f4 (frJ_t f6 (frJ_t f8 (frJ_t f10 f12))))
  rcases he with ⟨q, hq, hw6, rfl, q0, hw5⟩ | ⟨hb, rfl⟩
  · rcases hr5 with ⟨-, g, -, -, ⟨rfl, rfl, -, g2⟩, -, q4, hw4⟩ | hb
    · rcases hr4 with ⟨-, a, -, -, ⟨rfl, rfl, A1, A2⟩, -, q3, hw3⟩ | hb
      · obtain ⟨⟨q2, hw2⟩, hne⟩ := hwx _ hw3
        rcases hr2 with ⟨-, v', -, -, ⟨rfl, rfl, -, v2'⟩, -, q1, hw1⟩ | hb
        · rcases hr with ⟨-, v, -, -, ⟨rfl, rfl, v1, v2⟩, -⟩ | hb
          · have i44' : I6 44 = nI B := (fi 44 (by omega)).trans hd.1.2.1
            refine ⟨upd I6 44 (nI (B + 1)), uF (uF (uF (uF F 152 (upd (F 152) B (nI v))) 153 (upd (F 153) B (nI v'))) 154 (upd (F 154) B (nI a))) 155 (upd (F 155) B (nI g)), _, _, _, ?_, e1, b2, fun m hm => (upd_ne (by omega)).trans (fi m (by omega)), fun a ha => by simp (disch := omega) only [uF_ne], fj, fun a ha => uF_ne _ _ ha, Or.inl ⟨q, P, B + 1, Kp, Jm, hq, Well_I (fun m h1 h2 => upd_ne (by omega)) hw6, ?_⟩⟩
            · rw [e2, if_neg (by decide), nf_f_X7_addBridge_2, i44']
              simp (disch := omega) only [ixN, nI_clamp, bnd_eq, nI_add, ob_some, uF_ne]
            · exact DT_of ⟨upd_ne (by omega), upd_same, upd_ne (by omega), upd_ne (by omega), rfl, rfl, rfl, rfl, rfl, rfl, rfl, rfl, rfl⟩ ((fi 43 (by omega)).trans hd.1.1) rfl ((fi 45 (by omega)).trans hd.1.2.2.1) ((fi 46 (by omega)).trans hd.1.2.2.2) (TR_bridge hd.2 hP hK (by omega) (by omega) (fun e => hne (by rw [e])) A1 A2 g2)
          · exact absurd hb (fun h => WB hw1 h)
        · exact absurd hb (fun h => WB hw2 h)
      · exact absurd hb (fun h => WB hw4 h)
    · exact absurd hb (fun h => WB hw5 h)
  · exact ⟨_, _, _, _, _, e2.trans (if_pos rfl), e1, b2, fun m hm => fi m (by omega), fun _ _ => rfl, fj, fun a ha => uF_ne _ _ ha, Or.inr hb⟩
