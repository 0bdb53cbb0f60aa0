theorem lc_head {X : XT} {sb L : Nat} {xs : Nat → Int32} {j : Nat} {x3 : Int32} {w : List va_E} (hL : L ≤ 2048) (ex3 : x3 = nI j) (hjb : j < 2 ^ 31) (k : j + 4 ≤ L → GL X sb L xs 226 10225 26 [(0, .ref sb), (1, .ref (X.2.1 + 0)), (2, .ref (X.2.1 + 209)), (3, .int x3)] [] w) : GL X sb L xs 226 10225 18 [(0, .ref sb), (1, .ref (X.2.1 + 0)), (2, .ref (X.2.1 + 209)), (3, .int x3)] [] w := by
  refine L_iload_n (pc2 := 19) 3 rfl dL_law_18 rfl rfl ?_
  refine L_aload_n (pc2 := 20) 0 rfl dL_law_19 rfl rfl ?_
  refine L_slen (pc2 := 21) dL_law_20 rfl ?_
  refine L_iconst (pc2 := 22) dL_law_21 ic_4 rfl ?_
  refine L_isub (pc2 := 23) dL_law_22 rfl ?_
  refine L_icmp_gt (tgt := 1091) (pc2 := 26) dL_law_23 (by decide) rfl (fun _ => ?_) (fun q => ?_)
  · refine L_iconst (pc2 := 1092) dL_law_1091 ic_1 rfl ?_
    exact L_ret (by decide) (by decide) dL_law_1092
  · refine k ?_
    have h1 : x3 ≤ nI L - nI 4 := Int32.not_lt.mp q
    rw [Int32.le_iff_toInt_le, pk_sub_toInt (by omega) (by omega)] at h1
    by_cases hj : j < 2 ^ 31
    · rw [ex3, nI_toInt hj] at h1
      omega
    · exact absurd hjb hj
set_option maxRecDepth 100000 in
set_option maxHeartbeats 4000000 in
theorem lc_feed {Inv : WI → WF → WI → WF → Prop} (h_feed : ∀ (I : WI) (F : WF) (J : WI) (K : WF) (x1 : Int32), Inv I F J K → ∃ (a : Int32 × WI × WF) (b : Int32 × WI × WF), f_X10_feed x1 I F = some a ∧ f_X11_feed x1 J K = some b ∧ a.1 = b.1 ∧ Inv a.2.1 a.2.2 b.2.1 b.2.2) {X : XT} {sb L : Nat} {xs : Nat → Int32} {n j : Nat} {x3 : Int32} (ih : ∀ (j : Nat) (x3 : Int32), x3 = nI j → j < 2 ^ 31 → L ≤ j + n → ∀ (I : WI) (F : WF) (J : WI) (K : WF), Inv I F J K → GL X sb L xs 226 10225 18 [(0, .ref sb), (1, .ref (X.2.1 + 0)), (2, .ref (X.2.1 + 209)), (3, .int x3)] [] (mkW I F J K)) (ex3 : x3 = nI j) (hj : j + 4 ≤ L) (hL : L ≤ 2048) (hn : L ≤ j + (n + 1)) {a1 : Int32} (hv1 : vp_in (x3 + 1) L) (ha1 : xs (x3 + 1).toNatClampNeg = a1) {I : WI} {F : WF} {J : WI} {K : WF} (hI : Inv I F J K) : GL X sb L xs 226 10225 180 [(0, .ref sb), (1, .ref (X.2.1 + 0)), (2, .ref (X.2.1 + 209)), (3, .int x3)] [] (mkW I F J K) := by
  refine L_aload_n (pc2 := 181) 1 rfl dL_law_180 rfl rfl ?_
  refine L_aload_n (pc2 := 182) 0 rfl dL_law_181 rfl rfl ?_
  refine L_iload_n (pc2 := 183) 3 rfl dL_law_182 rfl rfl ?_
  refine L_iconst (pc2 := 184) dL_law_183 ic_1 rfl ?_
  refine L_iadd (pc2 := 185) dL_law_184 rfl ?_
  refine L_sld (pc2 := 186) hv1 ha1 dL_law_185 rfl ?_
  obtain ⟨ra, rb, e1, e2, e3, hI⟩ := h_feed I F J K a1 hI
  refine L_callV (pc2 := 189) (st := []) si_L_13 (c_X10_feed e1) (qo_0 _ _ _ _) rfl rfl rfl rfl (by decide) (by decide) ⟨by decide, by decide⟩ (Nat.le_of_ble_eq_true rfl) mkW_ll dL_law_186 rfl ?_
  refine L_aload_n (pc2 := 190) 2 rfl dL_law_189 rfl rfl ?_
  refine L_aload_n (pc2 := 191) 0 rfl dL_law_190 rfl rfl ?_
  refine L_iload_n (pc2 := 192) 3 rfl dL_law_191 rfl rfl ?_
  refine L_iconst (pc2 := 193) dL_law_192 ic_1 rfl ?_
  refine L_iadd (pc2 := 194) dL_law_193 rfl ?_
  refine L_sld (pc2 := 195) hv1 ha1 dL_law_194 rfl ?_
  refine L_callV (pc2 := 198) (st := [.int ra.1]) si_L_17 (c_X11_feed e2) (qo_209 _ _ _ _) rfl rfl rfl rfl (by decide) (by decide) ⟨by decide, by decide⟩ (Nat.le_of_ble_eq_true rfl) mkW_ll dL_law_195 rfl ?_
  refine L_icmp_eq (tgt := 1085) dL_law_198 (by decide) e3 ?_
  refine L_iinc (pc2 := 1088) (v := x3 + 4) (ls' := [(3, .int (x3 + 4)), (0, .ref sb), (1, .ref (X.2.1 + 0)), (2, .ref (X.2.1 + 209))]) 3 rfl dL_law_1085 rfl (by decide) rfl rfl ?_
  refine L_goto (tgt := 18) dL_law_1088 (by decide) ?_
  refine L_sub (ls' := [(0, .ref sb), (1, .ref (X.2.1 + 0)), (2, .ref (X.2.1 + 209)), (3, .int (x3 + 4))]) [1, 2, 3, 0] rfl ?_
  exact ih (j + 4) (x3 + 4) (by rw [ex3]; exact nI_add j 4) (by omega) (by omega) ra.2.1 ra.2.2 rb.2.1 rb.2.2 hI
set_option maxRecDepth 100000 in
set_option maxHeartbeats 4000000 in
theorem lc_town {Inv : WI → WF → WI → WF → Prop} (h_town : ∀ (I : WI) (F : WF) (J : WI) (K : WF), Inv I F J K → ∃ (a : Int32 × WI × WF) (b : Int32 × WI × WF), f_X10_town  I F = some a ∧ f_X11_town  J K = some b ∧ a.1 = b.1 ∧ Inv a.2.1 a.2.2 b.2.1 b.2.2) {X : XT} {sb L : Nat} {xs : Nat → Int32} {n j : Nat} {x3 : Int32} (ih : ∀ (j : Nat) (x3 : Int32), x3 = nI j → j < 2 ^ 31 → L ≤ j + n → ∀ (I : WI) (F : WF) (J : WI) (K : WF), Inv I F J K → GL X sb L xs 226 10225 18 [(0, .ref sb), (1, .ref (X.2.1 + 0)), (2, .ref (X.2.1 + 209)), (3, .int x3)] [] (mkW I F J K)) (ex3 : x3 = nI j) (hj : j + 4 ≤ L) (hL : L ≤ 2048) (hn : L ≤ j + (n + 1)) {I : WI} {F : WF} {J : WI} {K : WF} (hI : Inv I F J K) : GL X sb L xs 226 10225 203 [(0, .ref sb), (1, .ref (X.2.1 + 0)), (2, .ref (X.2.1 + 209)), (3, .int x3)] [] (mkW I F J K) := by
  refine L_aload_n (pc2 := 204) 1 rfl dL_law_203 rfl rfl ?_
  obtain ⟨ra, rb, e1, e2, e3, hI⟩ := h_town I F J K  hI
  refine L_callV (pc2 := 207) (st := []) si_L_18 (c_X10_town e1) (qo_0 _ _ _ _) rfl rfl rfl rfl (by decide) (by decide) ⟨by decide, by decide⟩ (Nat.le_of_ble_eq_true rfl) mkW_ll dL_law_204 rfl ?_
  refine L_aload_n (pc2 := 208) 2 rfl dL_law_207 rfl rfl ?_
  refine L_callV (pc2 := 211) (st := [.int ra.1]) si_L_22 (c_X11_town e2) (qo_209 _ _ _ _) rfl rfl rfl rfl (by decide) (by decide) ⟨by decide, by decide⟩ (Nat.le_of_ble_eq_true rfl) mkW_ll dL_law_208 rfl ?_
  refine L_icmp_eq (tgt := 1085) dL_law_211 (by decide) e3 ?_
  refine L_iinc (pc2 := 1088) (v := x3 + 4) (ls' := [(3, .int (x3 + 4)), (0, .ref sb), (1, .ref (X.2.1 + 0)), (2, .ref (X.2.1 + 209))]) 3 rfl dL_law_1085 rfl (by decide) rfl rfl ?_
  refine L_goto (tgt := 18) dL_law_1088 (by decide) ?_
  refine L_sub (ls' := [(0, .ref sb), (1, .ref (X.2.1 + 0)), (2, .ref (X.2.1 + 209)), (3, .int (x3 + 4))]) [1, 2, 3, 0] rfl ?_
  exact ih (j + 4) (x3 + 4) (by rw [ex3]; exact nI_add j 4) (by omega) (by omega) ra.2.1 ra.2.2 rb.2.1 rb.2.2 hI
set_option maxRecDepth 100000 in
set_option maxHeartbeats 4000000 in
theorem lc_fault {Inv : WI → WF → WI → WF → Prop} (h_fault : ∀ (I : WI) (F : WF) (J : WI) (K : WF), Inv I F J K → ∃ (a : Int32) (b : Int32 × WI), f_X10_fault  I F = some a ∧ f_X11_fault  J K = some b ∧ a = b.1 ∧ Inv I F b.2 K) {X : XT} {sb L : Nat} {xs : Nat → Int32} {n j : Nat} {x3 : Int32} (ih : ∀ (j : Nat) (x3 : Int32), x3 = nI j → j < 2 ^ 31 → L ≤ j + n → ∀ (I : WI) (F : WF) (J : WI) (K : WF), Inv I F J K → GL X sb L xs 226 10225 18 [(0, .ref sb), (1, .ref (X.2.1 + 0)), (2, .ref (X.2.1 + 209)), (3, .int x3)] [] (mkW I F J K)) (ex3 : x3 = nI j) (hj : j + 4 ≤ L) (hL : L ≤ 2048) (hn : L ≤ j + (n + 1)) {I : WI} {F : WF} {J : WI} {K : WF} (hI : Inv I F J K) : GL X sb L xs 226 10225 216 [(0, .ref sb), (1, .ref (X.2.1 + 0)), (2, .ref (X.2.1 + 209)), (3, .int x3)] [] (mkW I F J K) := by
  refine L_aload_n (pc2 := 217) 1 rfl dL_law_216 rfl rfl ?_
  obtain ⟨ra, rb, e1, e2, e3, hI⟩ := h_fault I F J K  hI
  refine L_callV (pc2 := 220) (st := []) si_L_23 (c_X10_fault e1) (qo_0 _ _ _ _) rfl rfl rfl rfl (by decide) (by decide) ⟨by decide, by decide⟩ (Nat.le_of_ble_eq_true rfl) mkW_ll dL_law_217 rfl ?_
  refine L_aload_n (pc2 := 221) 2 rfl dL_law_220 rfl rfl ?_
  refine L_callV (pc2 := 224) (st := [.int ra]) si_L_26 (c_X11_fault e2) (qo_209 _ _ _ _) rfl rfl rfl rfl (by decide) (by decide) ⟨by decide, by decide⟩ (Nat.le_of_ble_eq_true rfl) mkW_ll dL_law_221 rfl ?_
  refine L_icmp_eq (tgt := 1085) dL_law_224 (by decide) e3 ?_
  refine L_iinc (pc2 := 1088) (v := x3 + 4) (ls' := [(3, .int (x3 + 4)), (0, .ref sb), (1, .ref (X.2.1 + 0)), (2, .ref (X.2.1 + 209))]) 3 rfl dL_law_1085 rfl (by decide) rfl rfl ?_
  refine L_goto (tgt := 18) dL_law_1088 (by decide) ?_
  refine L_sub (ls' := [(0, .ref sb), (1, .ref (X.2.1 + 0)), (2, .ref (X.2.1 + 209)), (3, .int (x3 + 4))]) [1, 2, 3, 0] rfl ?_
  exact ih (j + 4) (x3 + 4) (by rw [ex3]; exact nI_add j 4) (by omega) (by omega) I F rb.2 K hI
set_option maxRecDepth 100000 in
set_option maxHeartbeats 4000000 in
theorem lc_told {Inv : WI → WF → WI → WF → Prop} (h_told : ∀ (I : WI) (F : WF) (J : WI) (K : WF) (x1 : Int32), Inv I F J K → ∃ (a : Int32 × WF) (b : Int32 × WI × WF), f_X10_told x1 I F = some a ∧ f_X11_told x1 J K = some b ∧ a.1 = b.1 ∧ Inv I a.2 b.2.1 b.2.2) {X : XT} {sb L : Nat} {xs : Nat → Int32} {n j : Nat} {x3 : Int32} (ih : ∀ (j : Nat) (x3 : Int32), x3 = nI j → j < 2 ^ 31 → L ≤ j + n → ∀ (I : WI) (F : WF) (J : WI) (K : WF), Inv I F J K → GL X sb L xs 226 10225 18 [(0, .ref sb), (1, .ref (X.2.1 + 0)), (2, .ref (X.2.1 + 209)), (3, .int x3)] [] (mkW I F J K)) (ex3 : x3 = nI j) (hj : j + 4 ≤ L) (hL : L ≤ 2048) (hn : L ≤ j + (n + 1)) {a1 : Int32} (hv1 : vp_in (x3 + 1) L) (ha1 : xs (x3 + 1).toNatClampNeg = a1) {I : WI} {F : WF} {J : WI} {K : WF} (hI : Inv I F J K) : GL X sb L xs 226 10225 229 [(0, .ref sb), (1, .ref (X.2.1 + 0)), (2, .ref (X.2.1 + 209)), (3, .int x3)] [] (mkW I F J K) := by
  refine L_aload_n (pc2 := 230) 1 rfl dL_law_229 rfl rfl ?_
  refine L_aload_n (pc2 := 231) 0 rfl dL_law_230 rfl rfl ?_
  refine L_iload_n (pc2 := 232) 3 rfl dL_law_231 rfl rfl ?_
  refine L_iconst (pc2 := 233) dL_law_232 ic_1 rfl ?_
  refine L_iadd (pc2 := 234) dL_law_233 rfl ?_
  refine L_sld (pc2 := 235) hv1 ha1 dL_law_234 rfl ?_
  obtain ⟨ra, rb, e1, e2, e3, hI⟩ := h_told I F J K a1 hI
  refine L_callV (pc2 := 238) (st := []) si_L_27 (c_X10_told e1) (qo_0 _ _ _ _) rfl rfl rfl rfl (by decide) (by decide) ⟨by decide, by decide⟩ (Nat.le_of_ble_eq_true rfl) mkW_ll dL_law_235 rfl ?_
  refine L_aload_n (pc2 := 239) 2 rfl dL_law_238 rfl rfl ?_
  refine L_aload_n (pc2 := 240) 0 rfl dL_law_239 rfl rfl ?_
  refine L_iload_n (pc2 := 241) 3 rfl dL_law_240 rfl rfl ?_
  refine L_iconst (pc2 := 242) dL_law_241 ic_1 rfl ?_
  refine L_iadd (pc2 := 243) dL_law_242 rfl ?_
  refine L_sld (pc2 := 244) hv1 ha1 dL_law_243 rfl ?_
  refine L_callV (pc2 := 247) (st := [.int ra.1]) si_L_30 (c_X11_told e2) (qo_209 _ _ _ _) rfl rfl rfl rfl (by decide) (by decide) ⟨by decide, by decide⟩ (Nat.le_of_ble_eq_true rfl) mkW_ll dL_law_244 rfl ?_
  refine L_icmp_eq (tgt := 1085) dL_law_247 (by decide) e3 ?_
  refine L_iinc (pc2 := 1088) (v := x3 + 4) (ls' := [(3, .int (x3 + 4)), (0, .ref sb), (1, .ref (X.2.1 + 0)), (2, .ref (X.2.1 + 209))]) 3 rfl dL_law_1085 rfl (by decide) rfl rfl ?_
  refine L_goto (tgt := 18) dL_law_1088 (by decide) ?_
  refine L_sub (ls' := [(0, .ref sb), (1, .ref (X.2.1 + 0)), (2, .ref (X.2.1 + 209)), (3, .int (x3 + 4))]) [1, 2, 3, 0] rfl ?_
  exact ih (j + 4) (x3 + 4) (by rw [ex3]; exact nI_add j 4) (by omega) (by omega) I ra.2 rb.2.1 rb.2.2 hI
set_option maxRecDepth 100000 in
set_option maxHeartbeats 4000000 in
theorem lc_bridge {Inv : WI → WF → WI → WF → Prop} (h_bridge : ∀ (I : WI) (F : WF) (J : WI) (K : WF) (x1 : Int32) (x2 : Int32), Inv I F J K → ∃ (a : Int32) (b : Int32 × WI), f_X10_bridge x1 x2 I F = some a ∧ f_X11_bridge x1 x2 J K = some b ∧ a = b.1 ∧ Inv I F b.2 K) {X : XT} {sb L : Nat} {xs : Nat → Int32} {n j : Nat} {x3 : Int32} (ih : ∀ (j : Nat) (x3 : Int32), x3 = nI j → j < 2 ^ 31 → L ≤ j + n → ∀ (I : WI) (F : WF) (J : WI) (K : WF), Inv I F J K → GL X sb L xs 226 10225 18 [(0, .ref sb), (1, .ref (X.2.1 + 0)), (2, .ref (X.2.1 + 209)), (3, .int x3)] [] (mkW I F J K)) (ex3 : x3 = nI j) (hj : j + 4 ≤ L) (hL : L ≤ 2048) (hn : L ≤ j + (n + 1)) {a1 : Int32} (hv1 : vp_in (x3 + 1) L) (ha1 : xs (x3 + 1).toNatClampNeg = a1) {a2 : Int32} (hv2 : vp_in (x3 + 2) L) (ha2 : xs (x3 + 2).toNatClampNeg = a2) {I : WI} {F : WF} {J : WI} {K : WF} (hI : Inv I F J K) : GL X sb L xs 226 10225 252 [(0, .ref sb), (1, .ref (X.2.1 + 0)), (2, .ref (X.2.1 + 209)), (3, .int x3)] [] (mkW I F J K) := by
  refine L_aload_n (pc2 := 253) 1 rfl dL_law_252 rfl rfl ?_
  refine L_aload_n (pc2 := 254) 0 rfl dL_law_253 rfl rfl ?_
  refine L_iload_n (pc2 := 255) 3 rfl dL_law_254 rfl rfl ?_
  refine L_iconst (pc2 := 256) dL_law_255 ic_1 rfl ?_
  refine L_iadd (pc2 := 257) dL_law_256 rfl ?_
  refine L_sld (pc2 := 258) hv1 ha1 dL_law_257 rfl ?_
  refine L_aload_n (pc2 := 259) 0 rfl dL_law_258 rfl rfl ?_
  refine L_iload_n (pc2 := 260) 3 rfl dL_law_259 rfl rfl ?_
  refine L_iconst (pc2 := 261) dL_law_260 ic_2 rfl ?_
  refine L_iadd (pc2 := 262) dL_law_261 rfl ?_
  refine L_sld (pc2 := 263) hv2 ha2 dL_law_262 rfl ?_
  obtain ⟨ra, rb, e1, e2, e3, hI⟩ := h_bridge I F J K a1 a2 hI
  refine L_callV (pc2 := 266) (st := []) si_L_31 (c_X10_bridge e1) (qo_0 _ _ _ _) rfl rfl rfl rfl (by decide) (by decide) ⟨by decide, by decide⟩ (Nat.le_of_ble_eq_true rfl) mkW_ll dL_law_263 rfl ?_
  refine L_aload_n (pc2 := 267) 2 rfl dL_law_266 rfl rfl ?_
  refine L_aload_n (pc2 := 268) 0 rfl dL_law_267 rfl rfl ?_
  refine L_iload_n (pc2 := 269) 3 rfl dL_law_268 rfl rfl ?_
  refine L_iconst (pc2 := 270) dL_law_269 ic_1 rfl ?_
  refine L_iadd (pc2 := 271) dL_law_270 rfl ?_
  refine L_sld (pc2 := 272) hv1 ha1 dL_law_271 rfl ?_
  refine L_aload_n (pc2 := 273) 0 rfl dL_law_272 rfl rfl ?_
  refine L_iload_n (pc2 := 274) 3 rfl dL_law_273 rfl rfl ?_
  refine L_iconst (pc2 := 275) dL_law_274 ic_2 rfl ?_
  refine L_iadd (pc2 := 276) dL_law_275 rfl ?_
  refine L_sld (pc2 := 277) hv2 ha2 dL_law_276 rfl ?_
  refine L_callV (pc2 := 280) (st := [.int ra]) si_L_35 (c_X11_bridge e2) (qo_209 _ _ _ _) rfl rfl rfl rfl (by decide) (by decide) ⟨by decide, by decide⟩ (Nat.le_of_ble_eq_true rfl) mkW_ll dL_law_277 rfl ?_
  refine L_icmp_eq (tgt := 1085) dL_law_280 (by decide) e3 ?_
  refine L_iinc (pc2 := 1088) (v := x3 + 4) (ls' := [(3, .int (x3 + 4)), (0, .ref sb), (1, .ref (X.2.1 + 0)), (2, .ref (X.2.1 + 209))]) 3 rfl dL_law_1085 rfl (by decide) rfl rfl ?_
  refine L_goto (tgt := 18) dL_law_1088 (by decide) ?_
  refine L_sub (ls' := [(0, .ref sb), (1, .ref (X.2.1 + 0)), (2, .ref (X.2.1 + 209)), (3, .int (x3 + 4))]) [1, 2, 3, 0] rfl ?_
  exact ih (j + 4) (x3 + 4) (by rw [ex3]; exact nI_add j 4) (by omega) (by omega) I F rb.2 K hI
set_option maxRecDepth 100000 in
set_option maxHeartbeats 4000000 in
theorem lc_keeper {Inv : WI → WF → WI → WF → Prop} (h_keeper : ∀ (I : WI) (F : WF) (J : WI) (K : WF) (x1 : Int32) (x2 : Int32), Inv I F J K → ∃ (a : Int32) (b : Int32 × WI), f_X10_keeper x1 x2 I F = some a ∧ f_X11_keeper x1 x2 J K = some b ∧ a = b.1 ∧ Inv I F b.2 K) {X : XT} {sb L : Nat} {xs : Nat → Int32} {n j : Nat} {x3 : Int32} (ih : ∀ (j : Nat) (x3 : Int32), x3 = nI j → j < 2 ^ 31 → L ≤ j + n → ∀ (I : WI) (F : WF) (J : WI) (K : WF), Inv I F J K → GL X sb L xs 226 10225 18 [(0, .ref sb), (1, .ref (X.2.1 + 0)), (2, .ref (X.2.1 + 209)), (3, .int x3)] [] (mkW I F J K)) (ex3 : x3 = nI j) (hj : j + 4 ≤ L) (hL : L ≤ 2048) (hn : L ≤ j + (n + 1)) {a1 : Int32} (hv1 : vp_in (x3 + 1) L) (ha1 : xs (x3 + 1).toNatClampNeg = a1) {a2 : Int32} (hv2 : vp_in (x3 + 2) L) (ha2 : xs (x3 + 2).toNatClampNeg = a2) {I : WI} {F : WF} {J : WI} {K : WF} (hI : Inv I F J K) : GL X sb L xs 226 10225 285 [(0, .ref sb), (1, .ref (X.2.1 + 0)), (2, .ref (X.2.1 + 209)), (3, .int x3)] [] (mkW I F J K) := by
  refine L_aload_n (pc2 := 286) 1 rfl dL_law_285 rfl rfl ?_
  refine L_aload_n (pc2 := 287) 0 rfl dL_law_286 rfl rfl ?_
  refine L_iload_n (pc2 := 288) 3 rfl dL_law_287 rfl rfl ?_
  refine L_iconst (pc2 := 289) dL_law_288 ic_1 rfl ?_
  refine L_iadd (pc2 := 290) dL_law_289 rfl ?_
  refine L_sld (pc2 := 291) hv1 ha1 dL_law_290 rfl ?_
  refine L_aload_n (pc2 := 292) 0 rfl dL_law_291 rfl rfl ?_
  refine L_iload_n (pc2 := 293) 3 rfl dL_law_292 rfl rfl ?_
  refine L_iconst (pc2 := 294) dL_law_293 ic_2 rfl ?_
  refine L_iadd (pc2 := 295) dL_law_294 rfl ?_
  refine L_sld (pc2 := 296) hv2 ha2 dL_law_295 rfl ?_
  obtain ⟨ra, rb, e1, e2, e3, hI⟩ := h_keeper I F J K a1 a2 hI
  refine L_callV (pc2 := 299) (st := []) si_L_36 (c_X10_keeper e1) (qo_0 _ _ _ _) rfl rfl rfl rfl (by decide) (by decide) ⟨by decide, by decide⟩ (Nat.le_of_ble_eq_true rfl) mkW_ll dL_law_296 rfl ?_
  refine L_aload_n (pc2 := 300) 2 rfl dL_law_299 rfl rfl ?_
  refine L_aload_n (pc2 := 301) 0 rfl dL_law_300 rfl rfl ?_
  refine L_iload_n (pc2 := 302) 3 rfl dL_law_301 rfl rfl ?_
  refine L_iconst (pc2 := 303) dL_law_302 ic_1 rfl ?_
  refine L_iadd (pc2 := 304) dL_law_303 rfl ?_
  refine L_sld (pc2 := 305) hv1 ha1 dL_law_304 rfl ?_
  refine L_aload_n (pc2 := 306) 0 rfl dL_law_305 rfl rfl ?_
  refine L_iload_n (pc2 := 307) 3 rfl dL_law_306 rfl rfl ?_
  refine L_iconst (pc2 := 308) dL_law_307 ic_2 rfl ?_
  refine L_iadd (pc2 := 309) dL_law_308 rfl ?_
  refine L_sld (pc2 := 310) hv2 ha2 dL_law_309 rfl ?_
  refine L_callV (pc2 := 313) (st := [.int ra]) si_L_39 (c_X11_keeper e2) (qo_209 _ _ _ _) rfl rfl rfl rfl (by decide) (by decide) ⟨by decide, by decide⟩ (Nat.le_of_ble_eq_true rfl) mkW_ll dL_law_310 rfl ?_
  refine L_icmp_eq (tgt := 1085) dL_law_313 (by decide) e3 ?_
  refine L_iinc (pc2 := 1088) (v := x3 + 4) (ls' := [(3, .int (x3 + 4)), (0, .ref sb), (1, .ref (X.2.1 + 0)), (2, .ref (X.2.1 + 209))]) 3 rfl dL_law_1085 rfl (by decide) rfl rfl ?_
  refine L_goto (tgt := 18) dL_law_1088 (by decide) ?_
  refine L_sub (ls' := [(0, .ref sb), (1, .ref (X.2.1 + 0)), (2, .ref (X.2.1 + 209)), (3, .int (x3 + 4))]) [1, 2, 3, 0] rfl ?_
  exact ih (j + 4) (x3 + 4) (by rw [ex3]; exact nI_add j 4) (by omega) (by omega) I F rb.2 K hI
set_option maxRecDepth 100000 in
set_option maxHeartbeats 4000000 in
theorem lc_jumper {Inv : WI → WF → WI → WF → Prop} (h_jumper : ∀ (I : WI) (F : WF) (J : WI) (K : WF) (x1 : Int32) (x2 : Int32), Inv I F J K → ∃ (a : Int32) (b : Int32 × WI), f_X10_jumper x1 x2 I F = some a ∧ f_X11_jumper x1 x2 J K = some b ∧ a = b.1 ∧ Inv I F b.2 K) {X : XT} {sb L : Nat} {xs : Nat → Int32} {n j : Nat} {x3 : Int32} (ih : ∀ (j : Nat) (x3 : Int32), x3 = nI j → j < 2 ^ 31 → L ≤ j + n → ∀ (I : WI) (F : WF) (J : WI) (K : WF), Inv I F J K → GL X sb L xs 226 10225 18 [(0, .ref sb), (1, .ref (X.2.1 + 0)), (2, .ref (X.2.1 + 209)), (3, .int x3)] [] (mkW I F J K)) (ex3 : x3 = nI j) (hj : j + 4 ≤ L) (hL : L ≤ 2048) (hn : L ≤ j + (n + 1)) {a1 : Int32} (hv1 : vp_in (x3 + 1) L) (ha1 : xs (x3 + 1).toNatClampNeg = a1) {a2 : Int32} (hv2 : vp_in (x3 + 2) L) (ha2 : xs (x3 + 2).toNatClampNeg = a2) {I : WI} {F : WF} {J : WI} {K : WF} (hI : Inv I F J K) : GL X sb L xs 226 10225 318 [(0, .ref sb), (1, .ref (X.2.1 + 0)), (2, .ref (X.2.1 + 209)), (3, .int x3)] [] (mkW I F J K) := by
  refine L_aload_n (pc2 := 319) 1 rfl dL_law_318 rfl rfl ?_
  refine L_aload_n (pc2 := 320) 0 rfl dL_law_319 rfl rfl ?_
  refine L_iload_n (pc2 := 321) 3 rfl dL_law_320 rfl rfl ?_
  refine L_iconst (pc2 := 322) dL_law_321 ic_1 rfl ?_
  refine L_iadd (pc2 := 323) dL_law_322 rfl ?_
  refine L_sld (pc2 := 324) hv1 ha1 dL_law_323 rfl ?_
  refine L_aload_n (pc2 := 325) 0 rfl dL_law_324 rfl rfl ?_
  refine L_iload_n (pc2 := 326) 3 rfl dL_law_325 rfl rfl ?_
  refine L_iconst (pc2 := 327) dL_law_326 ic_2 rfl ?_
  refine L_iadd (pc2 := 328) dL_law_327 rfl ?_
  refine L_sld (pc2 := 329) hv2 ha2 dL_law_328 rfl ?_
  obtain ⟨ra, rb, e1, e2, e3, hI⟩ := h_jumper I F J K a1 a2 hI
  refine L_callV (pc2 := 332) (st := []) si_L_40 (c_X10_jumper e1) (qo_0 _ _ _ _) rfl rfl rfl rfl (by decide) (by decide) ⟨by decide, by decide⟩ (Nat.le_of_ble_eq_true rfl) mkW_ll dL_law_329 rfl ?_
  refine L_aload_n (pc2 := 333) 2 rfl dL_law_332 rfl rfl ?_
  refine L_aload_n (pc2 := 334) 0 rfl dL_law_333 rfl rfl ?_
  refine L_iload_n (pc2 := 335) 3 rfl dL_law_334 rfl rfl ?_
  refine L_iconst (pc2 := 336) dL_law_335 ic_1 rfl ?_
  refine L_iadd (pc2 := 337) dL_law_336 rfl ?_
  refine L_sld (pc2 := 338) hv1 ha1 dL_law_337 rfl ?_
  refine L_aload_n (pc2 := 339) 0 rfl dL_law_338 rfl rfl ?_
  refine L_iload_n (pc2 := 340) 3 rfl dL_law_339 rfl rfl ?_
  refine L_iconst (pc2 := 341) dL_law_340 ic_2 rfl ?_
  refine L_iadd (pc2 := 342) dL_law_341 rfl ?_
  refine L_sld (pc2 := 343) hv2 ha2 dL_law_342 rfl ?_
  refine L_callV (pc2 := 346) (st := [.int ra]) si_L_43 (c_X11_jumper e2) (qo_209 _ _ _ _) rfl rfl rfl rfl (by decide) (by decide) ⟨by decide, by decide⟩ (Nat.le_of_ble_eq_true rfl) mkW_ll dL_law_343 rfl ?_
  refine L_icmp_eq (tgt := 1085) dL_law_346 (by decide) e3 ?_
  refine L_iinc (pc2 := 1088) (v := x3 + 4) (ls' := [(3, .int (x3 + 4)), (0, .ref sb), (1, .ref (X.2.1 + 0)), (2, .ref (X.2.1 + 209))]) 3 rfl dL_law_1085 rfl (by decide) rfl rfl ?_
  refine L_goto (tgt := 18) dL_law_1088 (by decide) ?_
  refine L_sub (ls' := [(0, .ref sb), (1, .ref (X.2.1 + 0)), (2, .ref (X.2.1 + 209)), (3, .int (x3 + 4))]) [1, 2, 3, 0] rfl ?_
  exact ih (j + 4) (x3 + 4) (by rw [ex3]; exact nI_add j 4) (by omega) (by omega) I F rb.2 K hI
set_option maxRecDepth 100000 in
set_option maxHeartbeats 4000000 in
theorem lc_flight {Inv : WI → WF → WI → WF → Prop} (h_flight : ∀ (I : WI) (F : WF) (J : WI) (K : WF) (x1 : Int32) (x2 : Int32), Inv I F J K → ∃ (a : Int32) (b : Int32 × WI), f_X10_flight x1 x2 I F = some a ∧ f_X11_flight x1 x2 J K = some b ∧ a = b.1 ∧ Inv I F b.2 K) {X : XT} {sb L : Nat} {xs : Nat → Int32} {n j : Nat} {x3 : Int32} (ih : ∀ (j : Nat) (x3 : Int32), x3 = nI j → j < 2 ^ 31 → L ≤ j + n → ∀ (I : WI) (F : WF) (J : WI) (K : WF), Inv I F J K → GL X sb L xs 226 10225 18 [(0, .ref sb), (1, .ref (X.2.1 + 0)), (2, .ref (X.2.1 + 209)), (3, .int x3)] [] (mkW I F J K)) (ex3 : x3 = nI j) (hj : j + 4 ≤ L) (hL : L ≤ 2048) (hn : L ≤ j + (n + 1)) {a1 : Int32} (hv1 : vp_in (x3 + 1) L) (ha1 : xs (x3 + 1).toNatClampNeg = a1) {a2 : Int32} (hv2 : vp_in (x3 + 2) L) (ha2 : xs (x3 + 2).toNatClampNeg = a2) {I : WI} {F : WF} {J : WI} {K : WF} (hI : Inv I F J K) : GL X sb L xs 226 10225 351 [(0, .ref sb), (1, .ref (X.2.1 + 0)), (2, .ref (X.2.1 + 209)), (3, .int x3)] [] (mkW I F J K) := by
  refine L_aload_n (pc2 := 352) 1 rfl dL_law_351 rfl rfl ?_
  refine L_aload_n (pc2 := 353) 0 rfl dL_law_352 rfl rfl ?_
  refine L_iload_n (pc2 := 354) 3 rfl dL_law_353 rfl rfl ?_
  refine L_iconst (pc2 := 355) dL_law_354 ic_1 rfl ?_
  refine L_iadd (pc2 := 356) dL_law_355 rfl ?_
  refine L_sld (pc2 := 357) hv1 ha1 dL_law_356 rfl ?_
  refine L_aload_n (pc2 := 358) 0 rfl dL_law_357 rfl rfl ?_
  refine L_iload_n (pc2 := 359) 3 rfl dL_law_358 rfl rfl ?_
  refine L_iconst (pc2 := 360) dL_law_359 ic_2 rfl ?_
  refine L_iadd (pc2 := 361) dL_law_360 rfl ?_
  refine L_sld (pc2 := 362) hv2 ha2 dL_law_361 rfl ?_
  obtain ⟨ra, rb, e1, e2, e3, hI⟩ := h_flight I F J K a1 a2 hI
  refine L_callV (pc2 := 365) (st := []) si_L_44 (c_X10_flight e1) (qo_0 _ _ _ _) rfl rfl rfl rfl (by decide) (by decide) ⟨by decide, by decide⟩ (Nat.le_of_ble_eq_true rfl) mkW_ll dL_law_362 rfl ?_
  refine L_aload_n (pc2 := 366) 2 rfl dL_law_365 rfl rfl ?_
  refine L_aload_n (pc2 := 367) 0 rfl dL_law_366 rfl rfl ?_
  refine L_iload_n (pc2 := 368) 3 rfl dL_law_367 rfl rfl ?_
  refine L_iconst (pc2 := 369) dL_law_368 ic_1 rfl ?_
  refine L_iadd (pc2 := 370) dL_law_369 rfl ?_
  refine L_sld (pc2 := 371) hv1 ha1 dL_law_370 rfl ?_
  refine L_aload_n (pc2 := 372) 0 rfl dL_law_371 rfl rfl ?_
  refine L_iload_n (pc2 := 373) 3 rfl dL_law_372 rfl rfl ?_
  refine L_iconst (pc2 := 374) dL_law_373 ic_2 rfl ?_
  refine L_iadd (pc2 := 375) dL_law_374 rfl ?_
  refine L_sld (pc2 := 376) hv2 ha2 dL_law_375 rfl ?_
  refine L_callV (pc2 := 379) (st := [.int ra]) si_L_47 (c_X11_flight e2) (qo_209 _ _ _ _) rfl rfl rfl rfl (by decide) (by decide) ⟨by decide, by decide⟩ (Nat.le_of_ble_eq_true rfl) mkW_ll dL_law_376 rfl ?_
  refine L_icmp_eq (tgt := 1085) dL_law_379 (by decide) e3 ?_
  refine L_iinc (pc2 := 1088) (v := x3 + 4) (ls' := [(3, .int (x3 + 4)), (0, .ref sb), (1, .ref (X.2.1 + 0)), (2, .ref (X.2.1 + 209))]) 3 rfl dL_law_1085 rfl (by decide) rfl rfl ?_
  refine L_goto (tgt := 18) dL_law_1088 (by decide) ?_
  refine L_sub (ls' := [(0, .ref sb), (1, .ref (X.2.1 + 0)), (2, .ref (X.2.1 + 209)), (3, .int (x3 + 4))]) [1, 2, 3, 0] rfl ?_
  exact ih (j + 4) (x3 + 4) (by rw [ex3]; exact nI_add j 4) (by omega) (by omega) I F rb.2 K hI
set_option maxRecDepth 100000 in
set_option maxHeartbeats 4000000 in
theorem lc_roll {Inv : WI → WF → WI → WF → Prop} (h_roll : ∀ (I : WI) (F : WF) (J : WI) (K : WF) (x1 : Int32) (x2 : Int32), Inv I F J K → ∃ (a : Int32) (b : Int32 × WI), f_X10_roll x1 x2 I F = some a ∧ f_X11_roll x1 x2 J K = some b ∧ a = b.1 ∧ Inv I F b.2 K) {X : XT} {sb L : Nat} {xs : Nat → Int32} {n j : Nat} {x3 : Int32} (ih : ∀ (j : Nat) (x3 : Int32), x3 = nI j → j < 2 ^ 31 → L ≤ j + n → ∀ (I : WI) (F : WF) (J : WI) (K : WF), Inv I F J K → GL X sb L xs 226 10225 18 [(0, .ref sb), (1, .ref (X.2.1 + 0)), (2, .ref (X.2.1 + 209)), (3, .int x3)] [] (mkW I F J K)) (ex3 : x3 = nI j) (hj : j + 4 ≤ L) (hL : L ≤ 2048) (hn : L ≤ j + (n + 1)) {a1 : Int32} (hv1 : vp_in (x3 + 1) L) (ha1 : xs (x3 + 1).toNatClampNeg = a1) {a2 : Int32} (hv2 : vp_in (x3 + 2) L) (ha2 : xs (x3 + 2).toNatClampNeg = a2) {I : WI} {F : WF} {J : WI} {K : WF} (hI : Inv I F J K) : GL X sb L xs 226 10225 384 [(0, .ref sb), (1, .ref (X.2.1 + 0)), (2, .ref (X.2.1 + 209)), (3, .int x3)] [] (mkW I F J K) := by
  refine L_aload_n (pc2 := 385) 1 rfl dL_law_384 rfl rfl ?_
  refine L_aload_n (pc2 := 386) 0 rfl dL_law_385 rfl rfl ?_
  refine L_iload_n (pc2 := 387) 3 rfl dL_law_386 rfl rfl ?_
  refine L_iconst (pc2 := 388) dL_law_387 ic_1 rfl ?_
  refine L_iadd (pc2 := 389) dL_law_388 rfl ?_
  refine L_sld (pc2 := 390) hv1 ha1 dL_law_389 rfl ?_
  refine L_aload_n (pc2 := 391) 0 rfl dL_law_390 rfl rfl ?_
  refine L_iload_n (pc2 := 392) 3 rfl dL_law_391 rfl rfl ?_
  refine L_iconst (pc2 := 393) dL_law_392 ic_2 rfl ?_
  refine L_iadd (pc2 := 394) dL_law_393 rfl ?_
  refine L_sld (pc2 := 395) hv2 ha2 dL_law_394 rfl ?_
  obtain ⟨ra, rb, e1, e2, e3, hI⟩ := h_roll I F J K a1 a2 hI
  refine L_callV (pc2 := 398) (st := []) si_L_48 (c_X10_roll e1) (qo_0 _ _ _ _) rfl rfl rfl rfl (by decide) (by decide) ⟨by decide, by decide⟩ (Nat.le_of_ble_eq_true rfl) mkW_ll dL_law_395 rfl ?_
  refine L_aload_n (pc2 := 399) 2 rfl dL_law_398 rfl rfl ?_
  refine L_aload_n (pc2 := 400) 0 rfl dL_law_399 rfl rfl ?_
  refine L_iload_n (pc2 := 401) 3 rfl dL_law_400 rfl rfl ?_
  refine L_iconst (pc2 := 402) dL_law_401 ic_1 rfl ?_
  refine L_iadd (pc2 := 403) dL_law_402 rfl ?_
  refine L_sld (pc2 := 404) hv1 ha1 dL_law_403 rfl ?_
  refine L_aload_n (pc2 := 405) 0 rfl dL_law_404 rfl rfl ?_
  refine L_iload_n (pc2 := 406) 3 rfl dL_law_405 rfl rfl ?_
  refine L_iconst (pc2 := 407) dL_law_406 ic_2 rfl ?_
  refine L_iadd (pc2 := 408) dL_law_407 rfl ?_
  refine L_sld (pc2 := 409) hv2 ha2 dL_law_408 rfl ?_
  refine L_callV (pc2 := 412) (st := [.int ra]) si_L_51 (c_X11_roll e2) (qo_209 _ _ _ _) rfl rfl rfl rfl (by decide) (by decide) ⟨by decide, by decide⟩ (Nat.le_of_ble_eq_true rfl) mkW_ll dL_law_409 rfl ?_
  refine L_icmp_eq (tgt := 1085) dL_law_412 (by decide) e3 ?_
  refine L_iinc (pc2 := 1088) (v := x3 + 4) (ls' := [(3, .int (x3 + 4)), (0, .ref sb), (1, .ref (X.2.1 + 0)), (2, .ref (X.2.1 + 209))]) 3 rfl dL_law_1085 rfl (by decide) rfl rfl ?_
  refine L_goto (tgt := 18) dL_law_1088 (by decide) ?_
  refine L_sub (ls' := [(0, .ref sb), (1, .ref (X.2.1 + 0)), (2, .ref (X.2.1 + 209)), (3, .int (x3 + 4))]) [1, 2, 3, 0] rfl ?_
  exact ih (j + 4) (x3 + 4) (by rw [ex3]; exact nI_add j 4) (by omega) (by omega) I F rb.2 K hI
set_option maxRecDepth 100000 in
set_option maxHeartbeats 4000000 in
theorem lc_leap {Inv : WI → WF → WI → WF → Prop} (h_leap : ∀ (I : WI) (F : WF) (J : WI) (K : WF) (x1 : Int32) (x2 : Int32), Inv I F J K → ∃ (a : Int32 × WI × WF) (b : Int32 × WI × WF), f_X10_leap x1 x2 I F = some a ∧ f_X11_leap x1 x2 J K = some b ∧ a.1 = b.1 ∧ Inv a.2.1 a.2.2 b.2.1 b.2.2) {X : XT} {sb L : Nat} {xs : Nat → Int32} {n j : Nat} {x3 : Int32} (ih : ∀ (j : Nat) (x3 : Int32), x3 = nI j → j < 2 ^ 31 → L ≤ j + n → ∀ (I : WI) (F : WF) (J : WI) (K : WF), Inv I F J K → GL X sb L xs 226 10225 18 [(0, .ref sb), (1, .ref (X.2.1 + 0)), (2, .ref (X.2.1 + 209)), (3, .int x3)] [] (mkW I F J K)) (ex3 : x3 = nI j) (hj : j + 4 ≤ L) (hL : L ≤ 2048) (hn : L ≤ j + (n + 1)) {a1 : Int32} (hv1 : vp_in (x3 + 1) L) (ha1 : xs (x3 + 1).toNatClampNeg = a1) {a2 : Int32} (hv2 : vp_in (x3 + 2) L) (ha2 : xs (x3 + 2).toNatClampNeg = a2) {I : WI} {F : WF} {J : WI} {K : WF} (hI : Inv I F J K) : GL X sb L xs 226 10225 417 [(0, .ref sb), (1, .ref (X.2.1 + 0)), (2, .ref (X.2.1 + 209)), (3, .int x3)] [] (mkW I F J K) := by
  refine L_aload_n (pc2 := 418) 1 rfl dL_law_417 rfl rfl ?_
  refine L_aload_n (pc2 := 419) 0 rfl dL_law_418 rfl rfl ?_
  refine L_iload_n (pc2 := 420) 3 rfl dL_law_419 rfl rfl ?_
  refine L_iconst (pc2 := 421) dL_law_420 ic_1 rfl ?_
  refine L_iadd (pc2 := 422) dL_law_421 rfl ?_
  refine L_sld (pc2 := 423) hv1 ha1 dL_law_422 rfl ?_
  refine L_aload_n (pc2 := 424) 0 rfl dL_law_423 rfl rfl ?_
  refine L_iload_n (pc2 := 425) 3 rfl dL_law_424 rfl rfl ?_
  refine L_iconst (pc2 := 426) dL_law_425 ic_2 rfl ?_
  refine L_iadd (pc2 := 427) dL_law_426 rfl ?_
  refine L_sld (pc2 := 428) hv2 ha2 dL_law_427 rfl ?_
  obtain ⟨ra, rb, e1, e2, e3, hI⟩ := h_leap I F J K a1 a2 hI
  refine L_callV (pc2 := 431) (st := []) si_L_52 (c_X10_leap e1) (qo_0 _ _ _ _) rfl rfl rfl rfl (by decide) (by decide) ⟨by decide, by decide⟩ (Nat.le_of_ble_eq_true rfl) mkW_ll dL_law_428 rfl ?_
  refine L_aload_n (pc2 := 432) 2 rfl dL_law_431 rfl rfl ?_
  refine L_aload_n (pc2 := 433) 0 rfl dL_law_432 rfl rfl ?_
  refine L_iload_n (pc2 := 434) 3 rfl dL_law_433 rfl rfl ?_
  refine L_iconst (pc2 := 435) dL_law_434 ic_1 rfl ?_
  refine L_iadd (pc2 := 436) dL_law_435 rfl ?_
  refine L_sld (pc2 := 437) hv1 ha1 dL_law_436 rfl ?_
  refine L_aload_n (pc2 := 438) 0 rfl dL_law_437 rfl rfl ?_
  refine L_iload_n (pc2 := 439) 3 rfl dL_law_438 rfl rfl ?_
  refine L_iconst (pc2 := 440) dL_law_439 ic_2 rfl ?_
  refine L_iadd (pc2 := 441) dL_law_440 rfl ?_
  refine L_sld (pc2 := 442) hv2 ha2 dL_law_441 rfl ?_
  refine L_callV (pc2 := 445) (st := [.int ra.1]) si_L_55 (c_X11_leap e2) (qo_209 _ _ _ _) rfl rfl rfl rfl (by decide) (by decide) ⟨by decide, by decide⟩ (Nat.le_of_ble_eq_true rfl) mkW_ll dL_law_442 rfl ?_
  refine L_icmp_eq (tgt := 1085) dL_law_445 (by decide) e3 ?_
  refine L_iinc (pc2 := 1088) (v := x3 + 4) (ls' := [(3, .int (x3 + 4)), (0, .ref sb), (1, .ref (X.2.1 + 0)), (2, .ref (X.2.1 + 209))]) 3 rfl dL_law_1085 rfl (by decide) rfl rfl ?_
  refine L_goto (tgt := 18) dL_law_1088 (by decide) ?_
  refine L_sub (ls' := [(0, .ref sb), (1, .ref (X.2.1 + 0)), (2, .ref (X.2.1 + 209)), (3, .int (x3 + 4))]) [1, 2, 3, 0] rfl ?_
  exact ih (j + 4) (x3 + 4) (by rw [ex3]; exact nI_add j 4) (by omega) (by omega) ra.2.1 ra.2.2 rb.2.1 rb.2.2 hI
set_option maxRecDepth 100000 in
set_option maxHeartbeats 4000000 in
theorem lc_post {Inv : WI → WF → WI → WF → Prop} (h_post : ∀ (I : WI) (F : WF) (J : WI) (K : WF) (x1 : Int32) (x2 : Int32), Inv I F J K → ∃ (a : Int32 × WI × WF) (b : Int32 × WI × WF), f_X10_post x1 x2 I F = some a ∧ f_X11_post x1 x2 J K = some b ∧ a.1 = b.1 ∧ Inv a.2.1 a.2.2 b.2.1 b.2.2) {X : XT} {sb L : Nat} {xs : Nat → Int32} {n j : Nat} {x3 : Int32} (ih : ∀ (j : Nat) (x3 : Int32), x3 = nI j → j < 2 ^ 31 → L ≤ j + n → ∀ (I : WI) (F : WF) (J : WI) (K : WF), Inv I F J K → GL X sb L xs 226 10225 18 [(0, .ref sb), (1, .ref (X.2.1 + 0)), (2, .ref (X.2.1 + 209)), (3, .int x3)] [] (mkW I F J K)) (ex3 : x3 = nI j) (hj : j + 4 ≤ L) (hL : L ≤ 2048) (hn : L ≤ j + (n + 1)) {a1 : Int32} (hv1 : vp_in (x3 + 1) L) (ha1 : xs (x3 + 1).toNatClampNeg = a1) {a2 : Int32} (hv2 : vp_in (x3 + 2) L) (ha2 : xs (x3 + 2).toNatClampNeg = a2) {I : WI} {F : WF} {J : WI} {K : WF} (hI : Inv I F J K) : GL X sb L xs 226 10225 450 [(0, .ref sb), (1, .ref (X.2.1 + 0)), (2, .ref (X.2.1 + 209)), (3, .int x3)] [] (mkW I F J K) := by
  refine L_aload_n (pc2 := 451) 1 rfl dL_law_450 rfl rfl ?_
  refine L_aload_n (pc2 := 452) 0 rfl dL_law_451 rfl rfl ?_
  refine L_iload_n (pc2 := 453) 3 rfl dL_law_452 rfl rfl ?_
  refine L_iconst (pc2 := 454) dL_law_453 ic_1 rfl ?_
  refine L_iadd (pc2 := 455) dL_law_454 rfl ?_
  refine L_sld (pc2 := 456) hv1 ha1 dL_law_455 rfl ?_
  refine L_aload_n (pc2 := 457) 0 rfl dL_law_456 rfl rfl ?_
  refine L_iload_n (pc2 := 458) 3 rfl dL_law_457 rfl rfl ?_
  refine L_iconst (pc2 := 459) dL_law_458 ic_2 rfl ?_
  refine L_iadd (pc2 := 460) dL_law_459 rfl ?_
  refine L_sld (pc2 := 461) hv2 ha2 dL_law_460 rfl ?_
  obtain ⟨ra, rb, e1, e2, e3, hI⟩ := h_post I F J K a1 a2 hI
  refine L_callV (pc2 := 464) (st := []) si_L_56 (c_X10_post e1) (qo_0 _ _ _ _) rfl rfl rfl rfl (by decide) (by decide) ⟨by decide, by decide⟩ (Nat.le_of_ble_eq_true rfl) mkW_ll dL_law_461 rfl ?_
  refine L_aload_n (pc2 := 465) 2 rfl dL_law_464 rfl rfl ?_
  refine L_aload_n (pc2 := 466) 0 rfl dL_law_465 rfl rfl ?_
  refine L_iload_n (pc2 := 467) 3 rfl dL_law_466 rfl rfl ?_
  refine L_iconst (pc2 := 468) dL_law_467 ic_1 rfl ?_
  refine L_iadd (pc2 := 469) dL_law_468 rfl ?_
  refine L_sld (pc2 := 470) hv1 ha1 dL_law_469 rfl ?_
  refine L_aload_n (pc2 := 471) 0 rfl dL_law_470 rfl rfl ?_
  refine L_iload_n (pc2 := 472) 3 rfl dL_law_471 rfl rfl ?_
  refine L_iconst (pc2 := 473) dL_law_472 ic_2 rfl ?_
  refine L_iadd (pc2 := 474) dL_law_473 rfl ?_
  refine L_sld (pc2 := 475) hv2 ha2 dL_law_474 rfl ?_
  refine L_callV (pc2 := 478) (st := [.int ra.1]) si_L_59 (c_X11_post e2) (qo_209 _ _ _ _) rfl rfl rfl rfl (by decide) (by decide) ⟨by decide, by decide⟩ (Nat.le_of_ble_eq_true rfl) mkW_ll dL_law_475 rfl ?_
  refine L_icmp_eq (tgt := 1085) dL_law_478 (by decide) e3 ?_
  refine L_iinc (pc2 := 1088) (v := x3 + 4) (ls' := [(3, .int (x3 + 4)), (0, .ref sb), (1, .ref (X.2.1 + 0)), (2, .ref (X.2.1 + 209))]) 3 rfl dL_law_1085 rfl (by decide) rfl rfl ?_
  refine L_goto (tgt := 18) dL_law_1088 (by decide) ?_
  refine L_sub (ls' := [(0, .ref sb), (1, .ref (X.2.1 + 0)), (2, .ref (X.2.1 + 209)), (3, .int (x3 + 4))]) [1, 2, 3, 0] rfl ?_
  exact ih (j + 4) (x3 + 4) (by rw [ex3]; exact nI_add j 4) (by omega) (by omega) ra.2.1 ra.2.2 rb.2.1 rb.2.2 hI
set_option maxRecDepth 100000 in
set_option maxHeartbeats 4000000 in
theorem lc_rest {Inv : WI → WF → WI → WF → Prop} (h_rest : ∀ (I : WI) (F : WF) (J : WI) (K : WF) (x1 : Int32), Inv I F J K → ∃ (a : Int32 × WI × WF) (b : Int32 × WI × WF), f_X10_rest x1 I F = some a ∧ f_X11_rest x1 J K = some b ∧ a.1 = b.1 ∧ Inv a.2.1 a.2.2 b.2.1 b.2.2) {X : XT} {sb L : Nat} {xs : Nat → Int32} {n j : Nat} {x3 : Int32} (ih : ∀ (j : Nat) (x3 : Int32), x3 = nI j → j < 2 ^ 31 → L ≤ j + n → ∀ (I : WI) (F : WF) (J : WI) (K : WF), Inv I F J K → GL X sb L xs 226 10225 18 [(0, .ref sb), (1, .ref (X.2.1 + 0)), (2, .ref (X.2.1 + 209)), (3, .int x3)] [] (mkW I F J K)) (ex3 : x3 = nI j) (hj : j + 4 ≤ L) (hL : L ≤ 2048) (hn : L ≤ j + (n + 1)) {a1 : Int32} (hv1 : vp_in (x3 + 1) L) (ha1 : xs (x3 + 1).toNatClampNeg = a1) {I : WI} {F : WF} {J : WI} {K : WF} (hI : Inv I F J K) : GL X sb L xs 226 10225 483 [(0, .ref sb), (1, .ref (X.2.1 + 0)), (2, .ref (X.2.1 + 209)), (3, .int x3)] [] (mkW I F J K) := by
  refine L_aload_n (pc2 := 484) 1 rfl dL_law_483 rfl rfl ?_
  refine L_aload_n (pc2 := 485) 0 rfl dL_law_484 rfl rfl ?_
  refine L_iload_n (pc2 := 486) 3 rfl dL_law_485 rfl rfl ?_
  refine L_iconst (pc2 := 487) dL_law_486 ic_1 rfl ?_
  refine L_iadd (pc2 := 488) dL_law_487 rfl ?_
  refine L_sld (pc2 := 489) hv1 ha1 dL_law_488 rfl ?_
  obtain ⟨ra, rb, e1, e2, e3, hI⟩ := h_rest I F J K a1 hI
  refine L_callV (pc2 := 492) (st := []) si_L_60 (c_X10_rest e1) (qo_0 _ _ _ _) rfl rfl rfl rfl (by decide) (by decide) ⟨by decide, by decide⟩ (Nat.le_of_ble_eq_true rfl) mkW_ll dL_law_489 rfl ?_
  refine L_aload_n (pc2 := 493) 2 rfl dL_law_492 rfl rfl ?_
  refine L_aload_n (pc2 := 494) 0 rfl dL_law_493 rfl rfl ?_
  refine L_iload_n (pc2 := 495) 3 rfl dL_law_494 rfl rfl ?_
  refine L_iconst (pc2 := 496) dL_law_495 ic_1 rfl ?_
  refine L_iadd (pc2 := 497) dL_law_496 rfl ?_
  refine L_sld (pc2 := 498) hv1 ha1 dL_law_497 rfl ?_
  refine L_callV (pc2 := 501) (st := [.int ra.1]) si_L_63 (c_X11_rest e2) (qo_209 _ _ _ _) rfl rfl rfl rfl (by decide) (by decide) ⟨by decide, by decide⟩ (Nat.le_of_ble_eq_true rfl) mkW_ll dL_law_498 rfl ?_
  refine L_icmp_eq (tgt := 1085) dL_law_501 (by decide) e3 ?_
  refine L_iinc (pc2 := 1088) (v := x3 + 4) (ls' := [(3, .int (x3 + 4)), (0, .ref sb), (1, .ref (X.2.1 + 0)), (2, .ref (X.2.1 + 209))]) 3 rfl dL_law_1085 rfl (by decide) rfl rfl ?_
  refine L_goto (tgt := 18) dL_law_1088 (by decide) ?_
  refine L_sub (ls' := [(0, .ref sb), (1, .ref (X.2.1 + 0)), (2, .ref (X.2.1 + 209)), (3, .int (x3 + 4))]) [1, 2, 3, 0] rfl ?_
  exact ih (j + 4) (x3 + 4) (by rw [ex3]; exact nI_add j 4) (by omega) (by omega) ra.2.1 ra.2.2 rb.2.1 rb.2.2 hI
set_option maxRecDepth 100000 in
set_option maxHeartbeats 4000000 in
theorem lc_train {Inv : WI → WF → WI → WF → Prop} (h_train : ∀ (I : WI) (F : WF) (J : WI) (K : WF) (x1 : Int32), Inv I F J K → ∃ (a : Int32 × WI × WF) (b : Int32 × WI × WF), f_X10_train x1 I F = some a ∧ f_X11_train x1 J K = some b ∧ a.1 = b.1 ∧ Inv a.2.1 a.2.2 b.2.1 b.2.2) {X : XT} {sb L : Nat} {xs : Nat → Int32} {n j : Nat} {x3 : Int32} (ih : ∀ (j : Nat) (x3 : Int32), x3 = nI j → j < 2 ^ 31 → L ≤ j + n → ∀ (I : WI) (F : WF) (J : WI) (K : WF), Inv I F J K → GL X sb L xs 226 10225 18 [(0, .ref sb), (1, .ref (X.2.1 + 0)), (2, .ref (X.2.1 + 209)), (3, .int x3)] [] (mkW I F J K)) (ex3 : x3 = nI j) (hj : j + 4 ≤ L) (hL : L ≤ 2048) (hn : L ≤ j + (n + 1)) {a1 : Int32} (hv1 : vp_in (x3 + 1) L) (ha1 : xs (x3 + 1).toNatClampNeg = a1) {I : WI} {F : WF} {J : WI} {K : WF} (hI : Inv I F J K) : GL X sb L xs 226 10225 506 [(0, .ref sb), (1, .ref (X.2.1 + 0)), (2, .ref (X.2.1 + 209)), (3, .int x3)] [] (mkW I F J K) := by
  refine L_aload_n (pc2 := 507) 1 rfl dL_law_506 rfl rfl ?_
  refine L_aload_n (pc2 := 508) 0 rfl dL_law_507 rfl rfl ?_
  refine L_iload_n (pc2 := 509) 3 rfl dL_law_508 rfl rfl ?_
  refine L_iconst (pc2 := 510) dL_law_509 ic_1 rfl ?_
  refine L_iadd (pc2 := 511) dL_law_510 rfl ?_
  refine L_sld (pc2 := 512) hv1 ha1 dL_law_511 rfl ?_
  obtain ⟨ra, rb, e1, e2, e3, hI⟩ := h_train I F J K a1 hI
  refine L_callV (pc2 := 515) (st := []) si_L_64 (c_X10_train e1) (qo_0 _ _ _ _) rfl rfl rfl rfl (by decide) (by decide) ⟨by decide, by decide⟩ (Nat.le_of_ble_eq_true rfl) mkW_ll dL_law_512 rfl ?_
  refine L_aload_n (pc2 := 516) 2 rfl dL_law_515 rfl rfl ?_
  refine L_aload_n (pc2 := 517) 0 rfl dL_law_516 rfl rfl ?_
  refine L_iload_n (pc2 := 518) 3 rfl dL_law_517 rfl rfl ?_
  refine L_iconst (pc2 := 519) dL_law_518 ic_1 rfl ?_
  refine L_iadd (pc2 := 520) dL_law_519 rfl ?_
  refine L_sld (pc2 := 521) hv1 ha1 dL_law_520 rfl ?_
  refine L_callV (pc2 := 524) (st := [.int ra.1]) si_L_67 (c_X11_train e2) (qo_209 _ _ _ _) rfl rfl rfl rfl (by decide) (by decide) ⟨by decide, by decide⟩ (Nat.le_of_ble_eq_true rfl) mkW_ll dL_law_521 rfl ?_
  refine L_icmp_eq (tgt := 1085) dL_law_524 (by decide) e3 ?_
  refine L_iinc (pc2 := 1088) (v := x3 + 4) (ls' := [(3, .int (x3 + 4)), (0, .ref sb), (1, .ref (X.2.1 + 0)), (2, .ref (X.2.1 + 209))]) 3 rfl dL_law_1085 rfl (by decide) rfl rfl ?_
  refine L_goto (tgt := 18) dL_law_1088 (by decide) ?_
  refine L_sub (ls' := [(0, .ref sb), (1, .ref (X.2.1 + 0)), (2, .ref (X.2.1 + 209)), (3, .int (x3 + 4))]) [1, 2, 3, 0] rfl ?_
  exact ih (j + 4) (x3 + 4) (by rw [ex3]; exact nI_add j 4) (by omega) (by omega) ra.2.1 ra.2.2 rb.2.1 rb.2.2 hI
set_option maxRecDepth 100000 in
set_option maxHeartbeats 4000000 in
theorem lc_talk {Inv : WI → WF → WI → WF → Prop} (h_talk : ∀ (I : WI) (F : WF) (J : WI) (K : WF) (x1 : Int32) (x2 : Int32), Inv I F J K → ∃ (a : Int32 × WI × WF) (b : Int32 × WI × WF), f_X10_talk x1 x2 I F = some a ∧ f_X11_talk x1 x2 J K = some b ∧ a.1 = b.1 ∧ Inv a.2.1 a.2.2 b.2.1 b.2.2) {X : XT} {sb L : Nat} {xs : Nat → Int32} {n j : Nat} {x3 : Int32} (ih : ∀ (j : Nat) (x3 : Int32), x3 = nI j → j < 2 ^ 31 → L ≤ j + n → ∀ (I : WI) (F : WF) (J : WI) (K : WF), Inv I F J K → GL X sb L xs 226 10225 18 [(0, .ref sb), (1, .ref (X.2.1 + 0)), (2, .ref (X.2.1 + 209)), (3, .int x3)] [] (mkW I F J K)) (ex3 : x3 = nI j) (hj : j + 4 ≤ L) (hL : L ≤ 2048) (hn : L ≤ j + (n + 1)) {a1 : Int32} (hv1 : vp_in (x3 + 1) L) (ha1 : xs (x3 + 1).toNatClampNeg = a1) {a2 : Int32} (hv2 : vp_in (x3 + 2) L) (ha2 : xs (x3 + 2).toNatClampNeg = a2) {I : WI} {F : WF} {J : WI} {K : WF} (hI : Inv I F J K) : GL X sb L xs 226 10225 529 [(0, .ref sb), (1, .ref (X.2.1 + 0)), (2, .ref (X.2.1 + 209)), (3, .int x3)] [] (mkW I F J K) := by
  refine L_aload_n (pc2 := 530) 1 rfl dL_law_529 rfl rfl ?_
  refine L_aload_n (pc2 := 531) 0 rfl dL_law_530 rfl rfl ?_
  refine L_iload_n (pc2 := 532) 3 rfl dL_law_531 rfl rfl ?_
  refine L_iconst (pc2 := 533) dL_law_532 ic_1 rfl ?_
  refine L_iadd (pc2 := 534) dL_law_533 rfl ?_
  refine L_sld (pc2 := 535) hv1 ha1 dL_law_534 rfl ?_
  refine L_aload_n (pc2 := 536) 0 rfl dL_law_535 rfl rfl ?_
  refine L_iload_n (pc2 := 537) 3 rfl dL_law_536 rfl rfl ?_
  refine L_iconst (pc2 := 538) dL_law_537 ic_2 rfl ?_
  refine L_iadd (pc2 := 539) dL_law_538 rfl ?_
  refine L_sld (pc2 := 540) hv2 ha2 dL_law_539 rfl ?_
  obtain ⟨ra, rb, e1, e2, e3, hI⟩ := h_talk I F J K a1 a2 hI
  refine L_callV (pc2 := 543) (st := []) si_L_68 (c_X10_talk e1) (qo_0 _ _ _ _) rfl rfl rfl rfl (by decide) (by decide) ⟨by decide, by decide⟩ (Nat.le_of_ble_eq_true rfl) mkW_ll dL_law_540 rfl ?_
  refine L_aload_n (pc2 := 544) 2 rfl dL_law_543 rfl rfl ?_
  refine L_aload_n (pc2 := 545) 0 rfl dL_law_544 rfl rfl ?_
  refine L_iload_n (pc2 := 546) 3 rfl dL_law_545 rfl rfl ?_
  refine L_iconst (pc2 := 547) dL_law_546 ic_1 rfl ?_
  refine L_iadd (pc2 := 548) dL_law_547 rfl ?_
  refine L_sld (pc2 := 549) hv1 ha1 dL_law_548 rfl ?_
  refine L_aload_n (pc2 := 550) 0 rfl dL_law_549 rfl rfl ?_
  refine L_iload_n (pc2 := 551) 3 rfl dL_law_550 rfl rfl ?_
  refine L_iconst (pc2 := 552) dL_law_551 ic_2 rfl ?_
  refine L_iadd (pc2 := 553) dL_law_552 rfl ?_
  refine L_sld (pc2 := 554) hv2 ha2 dL_law_553 rfl ?_
  refine L_callV (pc2 := 557) (st := [.int ra.1]) si_L_71 (c_X11_talk e2) (qo_209 _ _ _ _) rfl rfl rfl rfl (by decide) (by decide) ⟨by decide, by decide⟩ (Nat.le_of_ble_eq_true rfl) mkW_ll dL_law_554 rfl ?_
  refine L_icmp_eq (tgt := 1085) dL_law_557 (by decide) e3 ?_
  refine L_iinc (pc2 := 1088) (v := x3 + 4) (ls' := [(3, .int (x3 + 4)), (0, .ref sb), (1, .ref (X.2.1 + 0)), (2, .ref (X.2.1 + 209))]) 3 rfl dL_law_1085 rfl (by decide) rfl rfl ?_
  refine L_goto (tgt := 18) dL_law_1088 (by decide) ?_
  refine L_sub (ls' := [(0, .ref sb), (1, .ref (X.2.1 + 0)), (2, .ref (X.2.1 + 209)), (3, .int (x3 + 4))]) [1, 2, 3, 0] rfl ?_
  exact ih (j + 4) (x3 + 4) (by rw [ex3]; exact nI_add j 4) (by omega) (by omega) ra.2.1 ra.2.2 rb.2.1 rb.2.2 hI
set_option maxRecDepth 100000 in
set_option maxHeartbeats 4000000 in
theorem lc_hour {Inv : WI → WF → WI → WF → Prop} (h_hour : ∀ (I : WI) (F : WF) (J : WI) (K : WF) (x1 : Int32), Inv I F J K → ∃ (a : Int32 × WI × WF) (b : Int32 × WI × WF), f_X10_hour x1 I F = some a ∧ f_X11_hour x1 J K = some b ∧ a.1 = b.1 ∧ Inv a.2.1 a.2.2 b.2.1 b.2.2) {X : XT} {sb L : Nat} {xs : Nat → Int32} {n j : Nat} {x3 : Int32} (ih : ∀ (j : Nat) (x3 : Int32), x3 = nI j → j < 2 ^ 31 → L ≤ j + n → ∀ (I : WI) (F : WF) (J : WI) (K : WF), Inv I F J K → GL X sb L xs 226 10225 18 [(0, .ref sb), (1, .ref (X.2.1 + 0)), (2, .ref (X.2.1 + 209)), (3, .int x3)] [] (mkW I F J K)) (ex3 : x3 = nI j) (hj : j + 4 ≤ L) (hL : L ≤ 2048) (hn : L ≤ j + (n + 1)) {a1 : Int32} (hv1 : vp_in (x3 + 1) L) (ha1 : xs (x3 + 1).toNatClampNeg = a1) {I : WI} {F : WF} {J : WI} {K : WF} (hI : Inv I F J K) : GL X sb L xs 226 10225 562 [(0, .ref sb), (1, .ref (X.2.1 + 0)), (2, .ref (X.2.1 + 209)), (3, .int x3)] [] (mkW I F J K) := by
  refine L_aload_n (pc2 := 563) 1 rfl dL_law_562 rfl rfl ?_
  refine L_aload_n (pc2 := 564) 0 rfl dL_law_563 rfl rfl ?_
  refine L_iload_n (pc2 := 565) 3 rfl dL_law_564 rfl rfl ?_
  refine L_iconst (pc2 := 566) dL_law_565 ic_1 rfl ?_
  refine L_iadd (pc2 := 567) dL_law_566 rfl ?_
  refine L_sld (pc2 := 568) hv1 ha1 dL_law_567 rfl ?_
  obtain ⟨ra, rb, e1, e2, e3, hI⟩ := h_hour I F J K a1 hI
  refine L_callV (pc2 := 571) (st := []) si_L_72 (c_X10_hour e1) (qo_0 _ _ _ _) rfl rfl rfl rfl (by decide) (by decide) ⟨by decide, by decide⟩ (Nat.le_of_ble_eq_true rfl) mkW_ll dL_law_568 rfl ?_
  refine L_aload_n (pc2 := 572) 2 rfl dL_law_571 rfl rfl ?_
  refine L_aload_n (pc2 := 573) 0 rfl dL_law_572 rfl rfl ?_
  refine L_iload_n (pc2 := 574) 3 rfl dL_law_573 rfl rfl ?_
  refine L_iconst (pc2 := 575) dL_law_574 ic_1 rfl ?_
  refine L_iadd (pc2 := 576) dL_law_575 rfl ?_
  refine L_sld (pc2 := 577) hv1 ha1 dL_law_576 rfl ?_
  refine L_callV (pc2 := 580) (st := [.int ra.1]) si_L_75 (c_X11_hour e2) (qo_209 _ _ _ _) rfl rfl rfl rfl (by decide) (by decide) ⟨by decide, by decide⟩ (Nat.le_of_ble_eq_true rfl) mkW_ll dL_law_577 rfl ?_
  refine L_icmp_eq (tgt := 1085) dL_law_580 (by decide) e3 ?_
  refine L_iinc (pc2 := 1088) (v := x3 + 4) (ls' := [(3, .int (x3 + 4)), (0, .ref sb), (1, .ref (X.2.1 + 0)), (2, .ref (X.2.1 + 209))]) 3 rfl dL_law_1085 rfl (by decide) rfl rfl ?_
  refine L_goto (tgt := 18) dL_law_1088 (by decide) ?_
  refine L_sub (ls' := [(0, .ref sb), (1, .ref (X.2.1 + 0)), (2, .ref (X.2.1 + 209)), (3, .int (x3 + 4))]) [1, 2, 3, 0] rfl ?_
  exact ih (j + 4) (x3 + 4) (by rw [ex3]; exact nI_add j 4) (by omega) (by omega) ra.2.1 ra.2.2 rb.2.1 rb.2.2 hI
set_option maxRecDepth 100000 in
set_option maxHeartbeats 4000000 in
theorem lc_drift {Inv : WI → WF → WI → WF → Prop} (h_drift : ∀ (I : WI) (F : WF) (J : WI) (K : WF) (x1 : Int32), Inv I F J K → ∃ (a : Int32 × WI × WF) (b : Int32 × WI × WF), f_X10_drift x1 I F = some a ∧ f_X11_drift x1 J K = some b ∧ a.1 = b.1 ∧ Inv a.2.1 a.2.2 b.2.1 b.2.2) {X : XT} {sb L : Nat} {xs : Nat → Int32} {n j : Nat} {x3 : Int32} (ih : ∀ (j : Nat) (x3 : Int32), x3 = nI j → j < 2 ^ 31 → L ≤ j + n → ∀ (I : WI) (F : WF) (J : WI) (K : WF), Inv I F J K → GL X sb L xs 226 10225 18 [(0, .ref sb), (1, .ref (X.2.1 + 0)), (2, .ref (X.2.1 + 209)), (3, .int x3)] [] (mkW I F J K)) (ex3 : x3 = nI j) (hj : j + 4 ≤ L) (hL : L ≤ 2048) (hn : L ≤ j + (n + 1)) {a1 : Int32} (hv1 : vp_in (x3 + 1) L) (ha1 : xs (x3 + 1).toNatClampNeg = a1) {I : WI} {F : WF} {J : WI} {K : WF} (hI : Inv I F J K) : GL X sb L xs 226 10225 585 [(0, .ref sb), (1, .ref (X.2.1 + 0)), (2, .ref (X.2.1 + 209)), (3, .int x3)] [] (mkW I F J K) := by
  refine L_aload_n (pc2 := 586) 1 rfl dL_law_585 rfl rfl ?_
  refine L_aload_n (pc2 := 587) 0 rfl dL_law_586 rfl rfl ?_
  refine L_iload_n (pc2 := 588) 3 rfl dL_law_587 rfl rfl ?_
  refine L_iconst (pc2 := 589) dL_law_588 ic_1 rfl ?_
  refine L_iadd (pc2 := 590) dL_law_589 rfl ?_
  refine L_sld (pc2 := 591) hv1 ha1 dL_law_590 rfl ?_
  obtain ⟨ra, rb, e1, e2, e3, hI⟩ := h_drift I F J K a1 hI
  refine L_callV (pc2 := 594) (st := []) si_L_76 (c_X10_drift e1) (qo_0 _ _ _ _) rfl rfl rfl rfl (by decide) (by decide) ⟨by decide, by decide⟩ (Nat.le_of_ble_eq_true rfl) mkW_ll dL_law_591 rfl ?_
  refine L_aload_n (pc2 := 595) 2 rfl dL_law_594 rfl rfl ?_
  refine L_aload_n (pc2 := 596) 0 rfl dL_law_595 rfl rfl ?_
  refine L_iload_n (pc2 := 597) 3 rfl dL_law_596 rfl rfl ?_
  refine L_iconst (pc2 := 598) dL_law_597 ic_1 rfl ?_
  refine L_iadd (pc2 := 599) dL_law_598 rfl ?_
  refine L_sld (pc2 := 600) hv1 ha1 dL_law_599 rfl ?_
  refine L_callV (pc2 := 603) (st := [.int ra.1]) si_L_79 (c_X11_drift e2) (qo_209 _ _ _ _) rfl rfl rfl rfl (by decide) (by decide) ⟨by decide, by decide⟩ (Nat.le_of_ble_eq_true rfl) mkW_ll dL_law_600 rfl ?_
  refine L_icmp_eq (tgt := 1085) dL_law_603 (by decide) e3 ?_
  refine L_iinc (pc2 := 1088) (v := x3 + 4) (ls' := [(3, .int (x3 + 4)), (0, .ref sb), (1, .ref (X.2.1 + 0)), (2, .ref (X.2.1 + 209))]) 3 rfl dL_law_1085 rfl (by decide) rfl rfl ?_
  refine L_goto (tgt := 18) dL_law_1088 (by decide) ?_
  refine L_sub (ls' := [(0, .ref sb), (1, .ref (X.2.1 + 0)), (2, .ref (X.2.1 + 209)), (3, .int (x3 + 4))]) [1, 2, 3, 0] rfl ?_
  exact ih (j + 4) (x3 + 4) (by rw [ex3]; exact nI_add j 4) (by omega) (by omega) ra.2.1 ra.2.2 rb.2.1 rb.2.2 hI
set_option maxRecDepth 100000 in
set_option maxHeartbeats 4000000 in
theorem lc_undo {Inv : WI → WF → WI → WF → Prop} (h_undo : ∀ (I : WI) (F : WF) (J : WI) (K : WF), Inv I F J K → ∃ (a : Int32 × WI × WF) (b : Int32 × WI × WF), f_X10_undo  I F = some a ∧ f_X11_undo  J K = some b ∧ a.1 = b.1 ∧ Inv a.2.1 a.2.2 b.2.1 b.2.2) {X : XT} {sb L : Nat} {xs : Nat → Int32} {n j : Nat} {x3 : Int32} (ih : ∀ (j : Nat) (x3 : Int32), x3 = nI j → j < 2 ^ 31 → L ≤ j + n → ∀ (I : WI) (F : WF) (J : WI) (K : WF), Inv I F J K → GL X sb L xs 226 10225 18 [(0, .ref sb), (1, .ref (X.2.1 + 0)), (2, .ref (X.2.1 + 209)), (3, .int x3)] [] (mkW I F J K)) (ex3 : x3 = nI j) (hj : j + 4 ≤ L) (hL : L ≤ 2048) (hn : L ≤ j + (n + 1)) {I : WI} {F : WF} {J : WI} {K : WF} (hI : Inv I F J K) : GL X sb L xs 226 10225 608 [(0, .ref sb), (1, .ref (X.2.1 + 0)), (2, .ref (X.2.1 + 209)), (3, .int x3)] [] (mkW I F J K) := by
  refine L_aload_n (pc2 := 609) 1 rfl dL_law_608 rfl rfl ?_
  obtain ⟨ra, rb, e1, e2, e3, hI⟩ := h_undo I F J K  hI
  refine L_callV (pc2 := 612) (st := []) si_L_80 (c_X10_undo e1) (qo_0 _ _ _ _) rfl rfl rfl rfl (by decide) (by decide) ⟨by decide, by decide⟩ (Nat.le_of_ble_eq_true rfl) mkW_ll dL_law_609 rfl ?_
  refine L_aload_n (pc2 := 613) 2 rfl dL_law_612 rfl rfl ?_
  refine L_callV (pc2 := 616) (st := [.int ra.1]) si_L_83 (c_X11_undo e2) (qo_209 _ _ _ _) rfl rfl rfl rfl (by decide) (by decide) ⟨by decide, by decide⟩ (Nat.le_of_ble_eq_true rfl) mkW_ll dL_law_613 rfl ?_
  refine L_icmp_eq (tgt := 1085) dL_law_616 (by decide) e3 ?_
  refine L_iinc (pc2 := 1088) (v := x3 + 4) (ls' := [(3, .int (x3 + 4)), (0, .ref sb), (1, .ref (X.2.1 + 0)), (2, .ref (X.2.1 + 209))]) 3 rfl dL_law_1085 rfl (by decide) rfl rfl ?_
  refine L_goto (tgt := 18) dL_law_1088 (by decide) ?_
  refine L_sub (ls' := [(0, .ref sb), (1, .ref (X.2.1 + 0)), (2, .ref (X.2.1 + 209)), (3, .int (x3 + 4))]) [1, 2, 3, 0] rfl ?_
  exact ih (j + 4) (x3 + 4) (by rw [ex3]; exact nI_add j 4) (by omega) (by omega) ra.2.1 ra.2.2 rb.2.1 rb.2.2 hI
set_option maxRecDepth 100000 in
set_option maxHeartbeats 4000000 in
theorem lc_way {Inv : WI → WF → WI → WF → Prop} (h_way : ∀ (I : WI) (F : WF) (J : WI) (K : WF) (x1 : Int32) (x2 : Int32) (x3 : Int32), Inv I F J K → ∃ (a : Int32 × WF) (b : Int32 × WI × WF), f_X10_way x1 x2 x3 I F = some a ∧ f_X11_way x1 x2 x3 J K = some b ∧ a.1 = b.1 ∧ Inv I a.2 b.2.1 b.2.2) {X : XT} {sb L : Nat} {xs : Nat → Int32} {n j : Nat} {x3 : Int32} (ih : ∀ (j : Nat) (x3 : Int32), x3 = nI j → j < 2 ^ 31 → L ≤ j + n → ∀ (I : WI) (F : WF) (J : WI) (K : WF), Inv I F J K → GL X sb L xs 226 10225 18 [(0, .ref sb), (1, .ref (X.2.1 + 0)), (2, .ref (X.2.1 + 209)), (3, .int x3)] [] (mkW I F J K)) (ex3 : x3 = nI j) (hj : j + 4 ≤ L) (hL : L ≤ 2048) (hn : L ≤ j + (n + 1)) {a1 : Int32} (hv1 : vp_in (x3 + 1) L) (ha1 : xs (x3 + 1).toNatClampNeg = a1) {a2 : Int32} (hv2 : vp_in (x3 + 2) L) (ha2 : xs (x3 + 2).toNatClampNeg = a2) {a3 : Int32} (hv3 : vp_in (x3 + 3) L) (ha3 : xs (x3 + 3).toNatClampNeg = a3) {I : WI} {F : WF} {J : WI} {K : WF} (hI : Inv I F J K) : GL X sb L xs 226 10225 621 [(0, .ref sb), (1, .ref (X.2.1 + 0)), (2, .ref (X.2.1 + 209)), (3, .int x3)] [] (mkW I F J K) := by
  refine L_aload_n (pc2 := 622) 1 rfl dL_law_621 rfl rfl ?_
  refine L_aload_n (pc2 := 623) 0 rfl dL_law_622 rfl rfl ?_
  refine L_iload_n (pc2 := 624) 3 rfl dL_law_623 rfl rfl ?_
  refine L_iconst (pc2 := 625) dL_law_624 ic_1 rfl ?_
  refine L_iadd (pc2 := 626) dL_law_625 rfl ?_
  refine L_sld (pc2 := 627) hv1 ha1 dL_law_626 rfl ?_
  refine L_aload_n (pc2 := 628) 0 rfl dL_law_627 rfl rfl ?_
  refine L_iload_n (pc2 := 629) 3 rfl dL_law_628 rfl rfl ?_
  refine L_iconst (pc2 := 630) dL_law_629 ic_2 rfl ?_
  refine L_iadd (pc2 := 631) dL_law_630 rfl ?_
  refine L_sld (pc2 := 632) hv2 ha2 dL_law_631 rfl ?_
  refine L_aload_n (pc2 := 633) 0 rfl dL_law_632 rfl rfl ?_
  refine L_iload_n (pc2 := 634) 3 rfl dL_law_633 rfl rfl ?_
  refine L_iconst (pc2 := 635) dL_law_634 ic_3 rfl ?_
  refine L_iadd (pc2 := 636) dL_law_635 rfl ?_
  refine L_sld (pc2 := 637) hv3 ha3 dL_law_636 rfl ?_
  obtain ⟨ra, rb, e1, e2, e3, hI⟩ := h_way I F J K a1 a2 a3 hI
  refine L_callV (pc2 := 640) (st := []) si_L_84 (c_X10_way e1) (qo_0 _ _ _ _) rfl rfl rfl rfl (by decide) (by decide) ⟨by decide, by decide⟩ (Nat.le_of_ble_eq_true rfl) mkW_ll dL_law_637 rfl ?_
  refine L_aload_n (pc2 := 641) 2 rfl dL_law_640 rfl rfl ?_
  refine L_aload_n (pc2 := 642) 0 rfl dL_law_641 rfl rfl ?_
  refine L_iload_n (pc2 := 643) 3 rfl dL_law_642 rfl rfl ?_
  refine L_iconst (pc2 := 644) dL_law_643 ic_1 rfl ?_
  refine L_iadd (pc2 := 645) dL_law_644 rfl ?_
  refine L_sld (pc2 := 646) hv1 ha1 dL_law_645 rfl ?_
  refine L_aload_n (pc2 := 647) 0 rfl dL_law_646 rfl rfl ?_
  refine L_iload_n (pc2 := 648) 3 rfl dL_law_647 rfl rfl ?_
  refine L_iconst (pc2 := 649) dL_law_648 ic_2 rfl ?_
  refine L_iadd (pc2 := 650) dL_law_649 rfl ?_
  refine L_sld (pc2 := 651) hv2 ha2 dL_law_650 rfl ?_
  refine L_aload_n (pc2 := 652) 0 rfl dL_law_651 rfl rfl ?_
  refine L_iload_n (pc2 := 653) 3 rfl dL_law_652 rfl rfl ?_
  refine L_iconst (pc2 := 654) dL_law_653 ic_3 rfl ?_
  refine L_iadd (pc2 := 655) dL_law_654 rfl ?_
  refine L_sld (pc2 := 656) hv3 ha3 dL_law_655 rfl ?_
  refine L_callV (pc2 := 659) (st := [.int ra.1]) si_L_88 (c_X11_way e2) (qo_209 _ _ _ _) rfl rfl rfl rfl (by decide) (by decide) ⟨by decide, by decide⟩ (Nat.le_of_ble_eq_true rfl) mkW_ll dL_law_656 rfl ?_
  refine L_icmp_eq (tgt := 1085) dL_law_659 (by decide) e3 ?_
  refine L_iinc (pc2 := 1088) (v := x3 + 4) (ls' := [(3, .int (x3 + 4)), (0, .ref sb), (1, .ref (X.2.1 + 0)), (2, .ref (X.2.1 + 209))]) 3 rfl dL_law_1085 rfl (by decide) rfl rfl ?_
  refine L_goto (tgt := 18) dL_law_1088 (by decide) ?_
  refine L_sub (ls' := [(0, .ref sb), (1, .ref (X.2.1 + 0)), (2, .ref (X.2.1 + 209)), (3, .int (x3 + 4))]) [1, 2, 3, 0] rfl ?_
  exact ih (j + 4) (x3 + 4) (by rw [ex3]; exact nI_add j 4) (by omega) (by omega) I ra.2 rb.2.1 rb.2.2 hI
set_option maxRecDepth 100000 in
set_option maxHeartbeats 4000000 in
theorem lc_safest {Inv : WI → WF → WI → WF → Prop} (h_safest : ∀ (I : WI) (F : WF) (J : WI) (K : WF) (x1 : Int32) (x2 : Int32) (x3 : Int32), Inv I F J K → ∃ (a : Int32 × WI) (b : Int32 × WI × WF), f_X10_safest x1 x2 x3 I F = some a ∧ f_X11_safest x1 x2 x3 J K = some b ∧ a.1 = b.1 ∧ Inv a.2 F b.2.1 b.2.2) {X : XT} {sb L : Nat} {xs : Nat → Int32} {n j : Nat} {x3 : Int32} (ih : ∀ (j : Nat) (x3 : Int32), x3 = nI j → j < 2 ^ 31 → L ≤ j + n → ∀ (I : WI) (F : WF) (J : WI) (K : WF), Inv I F J K → GL X sb L xs 226 10225 18 [(0, .ref sb), (1, .ref (X.2.1 + 0)), (2, .ref (X.2.1 + 209)), (3, .int x3)] [] (mkW I F J K)) (ex3 : x3 = nI j) (hj : j + 4 ≤ L) (hL : L ≤ 2048) (hn : L ≤ j + (n + 1)) {a1 : Int32} (hv1 : vp_in (x3 + 1) L) (ha1 : xs (x3 + 1).toNatClampNeg = a1) {a2 : Int32} (hv2 : vp_in (x3 + 2) L) (ha2 : xs (x3 + 2).toNatClampNeg = a2) {a3 : Int32} (hv3 : vp_in (x3 + 3) L) (ha3 : xs (x3 + 3).toNatClampNeg = a3) {I : WI} {F : WF} {J : WI} {K : WF} (hI : Inv I F J K) : GL X sb L xs 226 10225 664 [(0, .ref sb), (1, .ref (X.2.1 + 0)), (2, .ref (X.2.1 + 209)), (3, .int x3)] [] (mkW I F J K) := by
  refine L_aload_n (pc2 := 665) 1 rfl dL_law_664 rfl rfl ?_
  refine L_aload_n (pc2 := 666) 0 rfl dL_law_665 rfl rfl ?_
  refine L_iload_n (pc2 := 667) 3 rfl dL_law_666 rfl rfl ?_
  refine L_iconst (pc2 := 668) dL_law_667 ic_1 rfl ?_
  refine L_iadd (pc2 := 669) dL_law_668 rfl ?_
  refine L_sld (pc2 := 670) hv1 ha1 dL_law_669 rfl ?_
  refine L_aload_n (pc2 := 671) 0 rfl dL_law_670 rfl rfl ?_
  refine L_iload_n (pc2 := 672) 3 rfl dL_law_671 rfl rfl ?_
  refine L_iconst (pc2 := 673) dL_law_672 ic_2 rfl ?_
  refine L_iadd (pc2 := 674) dL_law_673 rfl ?_
  refine L_sld (pc2 := 675) hv2 ha2 dL_law_674 rfl ?_
  refine L_aload_n (pc2 := 676) 0 rfl dL_law_675 rfl rfl ?_
  refine L_iload_n (pc2 := 677) 3 rfl dL_law_676 rfl rfl ?_
  refine L_iconst (pc2 := 678) dL_law_677 ic_3 rfl ?_
  refine L_iadd (pc2 := 679) dL_law_678 rfl ?_
  refine L_sld (pc2 := 680) hv3 ha3 dL_law_679 rfl ?_
  obtain ⟨ra, rb, e1, e2, e3, hI⟩ := h_safest I F J K a1 a2 a3 hI
  refine L_callV (pc2 := 683) (st := []) si_L_89 (c_X10_safest e1) (qo_0 _ _ _ _) rfl rfl rfl rfl (by decide) (by decide) ⟨by decide, by decide⟩ (Nat.le_of_ble_eq_true rfl) mkW_ll dL_law_680 rfl ?_
  refine L_aload_n (pc2 := 684) 2 rfl dL_law_683 rfl rfl ?_
  refine L_aload_n (pc2 := 685) 0 rfl dL_law_684 rfl rfl ?_
  refine L_iload_n (pc2 := 686) 3 rfl dL_law_685 rfl rfl ?_
  refine L_iconst (pc2 := 687) dL_law_686 ic_1 rfl ?_
  refine L_iadd (pc2 := 688) dL_law_687 rfl ?_
  refine L_sld (pc2 := 689) hv1 ha1 dL_law_688 rfl ?_
  refine L_aload_n (pc2 := 690) 0 rfl dL_law_689 rfl rfl ?_
  refine L_iload_n (pc2 := 691) 3 rfl dL_law_690 rfl rfl ?_
  refine L_iconst (pc2 := 692) dL_law_691 ic_2 rfl ?_
  refine L_iadd (pc2 := 693) dL_law_692 rfl ?_
  refine L_sld (pc2 := 694) hv2 ha2 dL_law_693 rfl ?_
  refine L_aload_n (pc2 := 695) 0 rfl dL_law_694 rfl rfl ?_
  refine L_iload_n (pc2 := 696) 3 rfl dL_law_695 rfl rfl ?_
  refine L_iconst (pc2 := 697) dL_law_696 ic_3 rfl ?_
  refine L_iadd (pc2 := 698) dL_law_697 rfl ?_
  refine L_sld (pc2 := 699) hv3 ha3 dL_law_698 rfl ?_
  refine L_callV (pc2 := 702) (st := [.int ra.1]) si_L_92 (c_X11_safest e2) (qo_209 _ _ _ _) rfl rfl rfl rfl (by decide) (by decide) ⟨by decide, by decide⟩ (Nat.le_of_ble_eq_true rfl) mkW_ll dL_law_699 rfl ?_
  refine L_icmp_eq (tgt := 1085) dL_law_702 (by decide) e3 ?_
  refine L_iinc (pc2 := 1088) (v := x3 + 4) (ls' := [(3, .int (x3 + 4)), (0, .ref sb), (1, .ref (X.2.1 + 0)), (2, .ref (X.2.1 + 209))]) 3 rfl dL_law_1085 rfl (by decide) rfl rfl ?_
  refine L_goto (tgt := 18) dL_law_1088 (by decide) ?_
  refine L_sub (ls' := [(0, .ref sb), (1, .ref (X.2.1 + 0)), (2, .ref (X.2.1 + 209)), (3, .int (x3 + 4))]) [1, 2, 3, 0] rfl ?_
  exact ih (j + 4) (x3 + 4) (by rw [ex3]; exact nI_add j 4) (by omega) (by omega) ra.2 F rb.2.1 rb.2.2 hI
set_option maxRecDepth 100000 in
set_option maxHeartbeats 4000000 in
theorem lc_posts {Inv : WI → WF → WI → WF → Prop} (h_posts : ∀ (I : WI) (F : WF) (J : WI) (K : WF) (x1 : Int32) (x2 : Int32), Inv I F J K → ∃ (a : Int32 × WI × WF) (b : Int32 × WI × WF), f_X10_posts x1 x2 I F = some a ∧ f_X11_posts x1 x2 J K = some b ∧ a.1 = b.1 ∧ Inv a.2.1 a.2.2 b.2.1 b.2.2) {X : XT} {sb L : Nat} {xs : Nat → Int32} {n j : Nat} {x3 : Int32} (ih : ∀ (j : Nat) (x3 : Int32), x3 = nI j → j < 2 ^ 31 → L ≤ j + n → ∀ (I : WI) (F : WF) (J : WI) (K : WF), Inv I F J K → GL X sb L xs 226 10225 18 [(0, .ref sb), (1, .ref (X.2.1 + 0)), (2, .ref (X.2.1 + 209)), (3, .int x3)] [] (mkW I F J K)) (ex3 : x3 = nI j) (hj : j + 4 ≤ L) (hL : L ≤ 2048) (hn : L ≤ j + (n + 1)) {a1 : Int32} (hv1 : vp_in (x3 + 1) L) (ha1 : xs (x3 + 1).toNatClampNeg = a1) {a2 : Int32} (hv2 : vp_in (x3 + 2) L) (ha2 : xs (x3 + 2).toNatClampNeg = a2) {I : WI} {F : WF} {J : WI} {K : WF} (hI : Inv I F J K) : GL X sb L xs 226 10225 707 [(0, .ref sb), (1, .ref (X.2.1 + 0)), (2, .ref (X.2.1 + 209)), (3, .int x3)] [] (mkW I F J K) := by
  refine L_aload_n (pc2 := 708) 1 rfl dL_law_707 rfl rfl ?_
  refine L_aload_n (pc2 := 709) 0 rfl dL_law_708 rfl rfl ?_
  refine L_iload_n (pc2 := 710) 3 rfl dL_law_709 rfl rfl ?_
  refine L_iconst (pc2 := 711) dL_law_710 ic_1 rfl ?_
  refine L_iadd (pc2 := 712) dL_law_711 rfl ?_
  refine L_sld (pc2 := 713) hv1 ha1 dL_law_712 rfl ?_
  refine L_aload_n (pc2 := 714) 0 rfl dL_law_713 rfl rfl ?_
  refine L_iload_n (pc2 := 715) 3 rfl dL_law_714 rfl rfl ?_
  refine L_iconst (pc2 := 716) dL_law_715 ic_2 rfl ?_
  refine L_iadd (pc2 := 717) dL_law_716 rfl ?_
  refine L_sld (pc2 := 718) hv2 ha2 dL_law_717 rfl ?_
  obtain ⟨ra, rb, e1, e2, e3, hI⟩ := h_posts I F J K a1 a2 hI
  refine L_callV (pc2 := 721) (st := []) si_L_93 (c_X10_posts e1) (qo_0 _ _ _ _) rfl rfl rfl rfl (by decide) (by decide) ⟨by decide, by decide⟩ (Nat.le_of_ble_eq_true rfl) mkW_ll dL_law_718 rfl ?_
  refine L_aload_n (pc2 := 722) 2 rfl dL_law_721 rfl rfl ?_
  refine L_aload_n (pc2 := 723) 0 rfl dL_law_722 rfl rfl ?_
  refine L_iload_n (pc2 := 724) 3 rfl dL_law_723 rfl rfl ?_
  refine L_iconst (pc2 := 725) dL_law_724 ic_1 rfl ?_
  refine L_iadd (pc2 := 726) dL_law_725 rfl ?_
  refine L_sld (pc2 := 727) hv1 ha1 dL_law_726 rfl ?_
  refine L_aload_n (pc2 := 728) 0 rfl dL_law_727 rfl rfl ?_
  refine L_iload_n (pc2 := 729) 3 rfl dL_law_728 rfl rfl ?_
  refine L_iconst (pc2 := 730) dL_law_729 ic_2 rfl ?_
  refine L_iadd (pc2 := 731) dL_law_730 rfl ?_
  refine L_sld (pc2 := 732) hv2 ha2 dL_law_731 rfl ?_
  refine L_callV (pc2 := 735) (st := [.int ra.1]) si_L_96 (c_X11_posts e2) (qo_209 _ _ _ _) rfl rfl rfl rfl (by decide) (by decide) ⟨by decide, by decide⟩ (Nat.le_of_ble_eq_true rfl) mkW_ll dL_law_732 rfl ?_
  refine L_icmp_eq (tgt := 1085) dL_law_735 (by decide) e3 ?_
  refine L_iinc (pc2 := 1088) (v := x3 + 4) (ls' := [(3, .int (x3 + 4)), (0, .ref sb), (1, .ref (X.2.1 + 0)), (2, .ref (X.2.1 + 209))]) 3 rfl dL_law_1085 rfl (by decide) rfl rfl ?_
  refine L_goto (tgt := 18) dL_law_1088 (by decide) ?_
  refine L_sub (ls' := [(0, .ref sb), (1, .ref (X.2.1 + 0)), (2, .ref (X.2.1 + 209)), (3, .int (x3 + 4))]) [1, 2, 3, 0] rfl ?_
  exact ih (j + 4) (x3 + 4) (by rw [ex3]; exact nI_add j 4) (by omega) (by omega) ra.2.1 ra.2.2 rb.2.1 rb.2.2 hI
set_option maxRecDepth 100000 in
set_option maxHeartbeats 4000000 in
theorem lc_tires {Inv : WI → WF → WI → WF → Prop} (h_tires : ∀ (I : WI) (F : WF) (J : WI) (K : WF) (x1 : Int32) (x2 : Int32), Inv I F J K → ∃ (a : Int32) (b : Int32 × WI), f_X10_tires x1 x2 I F = some a ∧ f_X11_tires x1 x2 J K = some b ∧ a = b.1 ∧ Inv I F b.2 K) {X : XT} {sb L : Nat} {xs : Nat → Int32} {n j : Nat} {x3 : Int32} (ih : ∀ (j : Nat) (x3 : Int32), x3 = nI j → j < 2 ^ 31 → L ≤ j + n → ∀ (I : WI) (F : WF) (J : WI) (K : WF), Inv I F J K → GL X sb L xs 226 10225 18 [(0, .ref sb), (1, .ref (X.2.1 + 0)), (2, .ref (X.2.1 + 209)), (3, .int x3)] [] (mkW I F J K)) (ex3 : x3 = nI j) (hj : j + 4 ≤ L) (hL : L ≤ 2048) (hn : L ≤ j + (n + 1)) {a1 : Int32} (hv1 : vp_in (x3 + 1) L) (ha1 : xs (x3 + 1).toNatClampNeg = a1) {a2 : Int32} (hv2 : vp_in (x3 + 2) L) (ha2 : xs (x3 + 2).toNatClampNeg = a2) {I : WI} {F : WF} {J : WI} {K : WF} (hI : Inv I F J K) : GL X sb L xs 226 10225 740 [(0, .ref sb), (1, .ref (X.2.1 + 0)), (2, .ref (X.2.1 + 209)), (3, .int x3)] [] (mkW I F J K) := by
  refine L_aload_n (pc2 := 741) 1 rfl dL_law_740 rfl rfl ?_
  refine L_aload_n (pc2 := 742) 0 rfl dL_law_741 rfl rfl ?_
  refine L_iload_n (pc2 := 743) 3 rfl dL_law_742 rfl rfl ?_
  refine L_iconst (pc2 := 744) dL_law_743 ic_1 rfl ?_
  refine L_iadd (pc2 := 745) dL_law_744 rfl ?_
  refine L_sld (pc2 := 746) hv1 ha1 dL_law_745 rfl ?_
  refine L_aload_n (pc2 := 747) 0 rfl dL_law_746 rfl rfl ?_
  refine L_iload_n (pc2 := 748) 3 rfl dL_law_747 rfl rfl ?_
  refine L_iconst (pc2 := 749) dL_law_748 ic_2 rfl ?_
  refine L_iadd (pc2 := 750) dL_law_749 rfl ?_
  refine L_sld (pc2 := 751) hv2 ha2 dL_law_750 rfl ?_
  obtain ⟨ra, rb, e1, e2, e3, hI⟩ := h_tires I F J K a1 a2 hI
  refine L_callV (pc2 := 754) (st := []) si_L_97 (c_X10_tires e1) (qo_0 _ _ _ _) rfl rfl rfl rfl (by decide) (by decide) ⟨by decide, by decide⟩ (Nat.le_of_ble_eq_true rfl) mkW_ll dL_law_751 rfl ?_
  refine L_aload_n (pc2 := 755) 2 rfl dL_law_754 rfl rfl ?_
  refine L_aload_n (pc2 := 756) 0 rfl dL_law_755 rfl rfl ?_
  refine L_iload_n (pc2 := 757) 3 rfl dL_law_756 rfl rfl ?_
  refine L_iconst (pc2 := 758) dL_law_757 ic_1 rfl ?_
  refine L_iadd (pc2 := 759) dL_law_758 rfl ?_
  refine L_sld (pc2 := 760) hv1 ha1 dL_law_759 rfl ?_
  refine L_aload_n (pc2 := 761) 0 rfl dL_law_760 rfl rfl ?_
  refine L_iload_n (pc2 := 762) 3 rfl dL_law_761 rfl rfl ?_
  refine L_iconst (pc2 := 763) dL_law_762 ic_2 rfl ?_
  refine L_iadd (pc2 := 764) dL_law_763 rfl ?_
  refine L_sld (pc2 := 765) hv2 ha2 dL_law_764 rfl ?_
  refine L_callV (pc2 := 768) (st := [.int ra]) si_L_100 (c_X11_tires e2) (qo_209 _ _ _ _) rfl rfl rfl rfl (by decide) (by decide) ⟨by decide, by decide⟩ (Nat.le_of_ble_eq_true rfl) mkW_ll dL_law_765 rfl ?_
  refine L_icmp_eq (tgt := 1085) dL_law_768 (by decide) e3 ?_
  refine L_iinc (pc2 := 1088) (v := x3 + 4) (ls' := [(3, .int (x3 + 4)), (0, .ref sb), (1, .ref (X.2.1 + 0)), (2, .ref (X.2.1 + 209))]) 3 rfl dL_law_1085 rfl (by decide) rfl rfl ?_
  refine L_goto (tgt := 18) dL_law_1088 (by decide) ?_
  refine L_sub (ls' := [(0, .ref sb), (1, .ref (X.2.1 + 0)), (2, .ref (X.2.1 + 209)), (3, .int (x3 + 4))]) [1, 2, 3, 0] rfl ?_
  exact ih (j + 4) (x3 + 4) (by rw [ex3]; exact nI_add j 4) (by omega) (by omega) I F rb.2 K hI
set_option maxRecDepth 100000 in
set_option maxHeartbeats 4000000 in
theorem lc_parted {Inv : WI → WF → WI → WF → Prop} (h_parted : ∀ (I : WI) (F : WF) (J : WI) (K : WF) (x1 : Int32) (x2 : Int32), Inv I F J K → ∃ (a : Int32 × WF) (b : Int32 × WI × WF), f_X10_parted x1 x2 I F = some a ∧ f_X11_parted x1 x2 J K = some b ∧ a.1 = b.1 ∧ Inv I a.2 b.2.1 b.2.2) {X : XT} {sb L : Nat} {xs : Nat → Int32} {n j : Nat} {x3 : Int32} (ih : ∀ (j : Nat) (x3 : Int32), x3 = nI j → j < 2 ^ 31 → L ≤ j + n → ∀ (I : WI) (F : WF) (J : WI) (K : WF), Inv I F J K → GL X sb L xs 226 10225 18 [(0, .ref sb), (1, .ref (X.2.1 + 0)), (2, .ref (X.2.1 + 209)), (3, .int x3)] [] (mkW I F J K)) (ex3 : x3 = nI j) (hj : j + 4 ≤ L) (hL : L ≤ 2048) (hn : L ≤ j + (n + 1)) {a1 : Int32} (hv1 : vp_in (x3 + 1) L) (ha1 : xs (x3 + 1).toNatClampNeg = a1) {a2 : Int32} (hv2 : vp_in (x3 + 2) L) (ha2 : xs (x3 + 2).toNatClampNeg = a2) {I : WI} {F : WF} {J : WI} {K : WF} (hI : Inv I F J K) : GL X sb L xs 226 10225 773 [(0, .ref sb), (1, .ref (X.2.1 + 0)), (2, .ref (X.2.1 + 209)), (3, .int x3)] [] (mkW I F J K) := by
  refine L_aload_n (pc2 := 774) 1 rfl dL_law_773 rfl rfl ?_
  refine L_aload_n (pc2 := 775) 0 rfl dL_law_774 rfl rfl ?_
  refine L_iload_n (pc2 := 776) 3 rfl dL_law_775 rfl rfl ?_
  refine L_iconst (pc2 := 777) dL_law_776 ic_1 rfl ?_
  refine L_iadd (pc2 := 778) dL_law_777 rfl ?_
  refine L_sld (pc2 := 779) hv1 ha1 dL_law_778 rfl ?_
  refine L_aload_n (pc2 := 780) 0 rfl dL_law_779 rfl rfl ?_
  refine L_iload_n (pc2 := 781) 3 rfl dL_law_780 rfl rfl ?_
  refine L_iconst (pc2 := 782) dL_law_781 ic_2 rfl ?_
  refine L_iadd (pc2 := 783) dL_law_782 rfl ?_
  refine L_sld (pc2 := 784) hv2 ha2 dL_law_783 rfl ?_
  obtain ⟨ra, rb, e1, e2, e3, hI⟩ := h_parted I F J K a1 a2 hI
  refine L_callV (pc2 := 787) (st := []) si_L_101 (c_X10_parted e1) (qo_0 _ _ _ _) rfl rfl rfl rfl (by decide) (by decide) ⟨by decide, by decide⟩ (Nat.le_of_ble_eq_true rfl) mkW_ll dL_law_784 rfl ?_
  refine L_aload_n (pc2 := 788) 2 rfl dL_law_787 rfl rfl ?_
  refine L_aload_n (pc2 := 789) 0 rfl dL_law_788 rfl rfl ?_
  refine L_iload_n (pc2 := 790) 3 rfl dL_law_789 rfl rfl ?_
  refine L_iconst (pc2 := 791) dL_law_790 ic_1 rfl ?_
  refine L_iadd (pc2 := 792) dL_law_791 rfl ?_
  refine L_sld (pc2 := 793) hv1 ha1 dL_law_792 rfl ?_
  refine L_aload_n (pc2 := 794) 0 rfl dL_law_793 rfl rfl ?_
  refine L_iload_n (pc2 := 795) 3 rfl dL_law_794 rfl rfl ?_
  refine L_iconst (pc2 := 796) dL_law_795 ic_2 rfl ?_
  refine L_iadd (pc2 := 797) dL_law_796 rfl ?_
  refine L_sld (pc2 := 798) hv2 ha2 dL_law_797 rfl ?_
  refine L_callV (pc2 := 801) (st := [.int ra.1]) si_L_104 (c_X11_parted e2) (qo_209 _ _ _ _) rfl rfl rfl rfl (by decide) (by decide) ⟨by decide, by decide⟩ (Nat.le_of_ble_eq_true rfl) mkW_ll dL_law_798 rfl ?_
  refine L_icmp_eq (tgt := 1085) dL_law_801 (by decide) e3 ?_
  refine L_iinc (pc2 := 1088) (v := x3 + 4) (ls' := [(3, .int (x3 + 4)), (0, .ref sb), (1, .ref (X.2.1 + 0)), (2, .ref (X.2.1 + 209))]) 3 rfl dL_law_1085 rfl (by decide) rfl rfl ?_
  refine L_goto (tgt := 18) dL_law_1088 (by decide) ?_
  refine L_sub (ls' := [(0, .ref sb), (1, .ref (X.2.1 + 0)), (2, .ref (X.2.1 + 209)), (3, .int (x3 + 4))]) [1, 2, 3, 0] rfl ?_
  exact ih (j + 4) (x3 + 4) (by rw [ex3]; exact nI_add j 4) (by omega) (by omega) I ra.2 rb.2.1 rb.2.2 hI
set_option maxRecDepth 100000 in
set_option maxHeartbeats 4000000 in
theorem lc_pays {Inv : WI → WF → WI → WF → Prop} (h_pays : ∀ (I : WI) (F : WF) (J : WI) (K : WF) (x1 : Int32) (x2 : Int32), Inv I F J K → ∃ (a : Int32) (b : Int32 × WI), f_X10_pays x1 x2 = some a ∧ f_X11_pays x1 x2 J K = some b ∧ a = b.1 ∧ Inv I F b.2 K) {X : XT} {sb L : Nat} {xs : Nat → Int32} {n j : Nat} {x3 : Int32} (ih : ∀ (j : Nat) (x3 : Int32), x3 = nI j → j < 2 ^ 31 → L ≤ j + n → ∀ (I : WI) (F : WF) (J : WI) (K : WF), Inv I F J K → GL X sb L xs 226 10225 18 [(0, .ref sb), (1, .ref (X.2.1 + 0)), (2, .ref (X.2.1 + 209)), (3, .int x3)] [] (mkW I F J K)) (ex3 : x3 = nI j) (hj : j + 4 ≤ L) (hL : L ≤ 2048) (hn : L ≤ j + (n + 1)) {a1 : Int32} (hv1 : vp_in (x3 + 1) L) (ha1 : xs (x3 + 1).toNatClampNeg = a1) {a2 : Int32} (hv2 : vp_in (x3 + 2) L) (ha2 : xs (x3 + 2).toNatClampNeg = a2) {I : WI} {F : WF} {J : WI} {K : WF} (hI : Inv I F J K) : GL X sb L xs 226 10225 806 [(0, .ref sb), (1, .ref (X.2.1 + 0)), (2, .ref (X.2.1 + 209)), (3, .int x3)] [] (mkW I F J K) := by
  refine L_aload_n (pc2 := 807) 1 rfl dL_law_806 rfl rfl ?_
  refine L_aload_n (pc2 := 808) 0 rfl dL_law_807 rfl rfl ?_
  refine L_iload_n (pc2 := 809) 3 rfl dL_law_808 rfl rfl ?_
  refine L_iconst (pc2 := 810) dL_law_809 ic_1 rfl ?_
  refine L_iadd (pc2 := 811) dL_law_810 rfl ?_
  refine L_sld (pc2 := 812) hv1 ha1 dL_law_811 rfl ?_
  refine L_aload_n (pc2 := 813) 0 rfl dL_law_812 rfl rfl ?_
  refine L_iload_n (pc2 := 814) 3 rfl dL_law_813 rfl rfl ?_
  refine L_iconst (pc2 := 815) dL_law_814 ic_2 rfl ?_
  refine L_iadd (pc2 := 816) dL_law_815 rfl ?_
  refine L_sld (pc2 := 817) hv2 ha2 dL_law_816 rfl ?_
  obtain ⟨ra, rb, e1, e2, e3, hI⟩ := h_pays I F J K a1 a2 hI
  refine L_callV (pc2 := 820) (st := []) si_L_105 (c_X10_pays e1) (qo_0 _ _ _ _) rfl rfl rfl rfl (by decide) (by decide) ⟨by decide, by decide⟩ (Nat.le_of_ble_eq_true rfl) mkW_ll dL_law_817 rfl ?_
  refine L_aload_n (pc2 := 821) 2 rfl dL_law_820 rfl rfl ?_
  refine L_aload_n (pc2 := 822) 0 rfl dL_law_821 rfl rfl ?_
  refine L_iload_n (pc2 := 823) 3 rfl dL_law_822 rfl rfl ?_
  refine L_iconst (pc2 := 824) dL_law_823 ic_1 rfl ?_
  refine L_iadd (pc2 := 825) dL_law_824 rfl ?_
  refine L_sld (pc2 := 826) hv1 ha1 dL_law_825 rfl ?_
  refine L_aload_n (pc2 := 827) 0 rfl dL_law_826 rfl rfl ?_
  refine L_iload_n (pc2 := 828) 3 rfl dL_law_827 rfl rfl ?_
  refine L_iconst (pc2 := 829) dL_law_828 ic_2 rfl ?_
  refine L_iadd (pc2 := 830) dL_law_829 rfl ?_
  refine L_sld (pc2 := 831) hv2 ha2 dL_law_830 rfl ?_
  refine L_callV (pc2 := 834) (st := [.int ra]) si_L_108 (c_X11_pays e2) (qo_209 _ _ _ _) rfl rfl rfl rfl (by decide) (by decide) ⟨by decide, by decide⟩ (Nat.le_of_ble_eq_true rfl) mkW_ll dL_law_831 rfl ?_
  refine L_icmp_eq (tgt := 1085) dL_law_834 (by decide) e3 ?_
  refine L_iinc (pc2 := 1088) (v := x3 + 4) (ls' := [(3, .int (x3 + 4)), (0, .ref sb), (1, .ref (X.2.1 + 0)), (2, .ref (X.2.1 + 209))]) 3 rfl dL_law_1085 rfl (by decide) rfl rfl ?_
  refine L_goto (tgt := 18) dL_law_1088 (by decide) ?_
  refine L_sub (ls' := [(0, .ref sb), (1, .ref (X.2.1 + 0)), (2, .ref (X.2.1 + 209)), (3, .int (x3 + 4))]) [1, 2, 3, 0] rfl ?_
  exact ih (j + 4) (x3 + 4) (by rw [ex3]; exact nI_add j 4) (by omega) (by omega) I F rb.2 K hI
set_option maxRecDepth 100000 in
set_option maxHeartbeats 4000000 in
theorem lc_exact {Inv : WI → WF → WI → WF → Prop} (h_exact : ∀ (I : WI) (F : WF) (J : WI) (K : WF) (x1 : Int32) (x2 : Int32), Inv I F J K → ∃ (a : Int32) (b : Int32 × WI), f_X10_exact x1 x2 = some a ∧ f_X11_exact x1 x2 J K = some b ∧ a = b.1 ∧ Inv I F b.2 K) {X : XT} {sb L : Nat} {xs : Nat → Int32} {n j : Nat} {x3 : Int32} (ih : ∀ (j : Nat) (x3 : Int32), x3 = nI j → j < 2 ^ 31 → L ≤ j + n → ∀ (I : WI) (F : WF) (J : WI) (K : WF), Inv I F J K → GL X sb L xs 226 10225 18 [(0, .ref sb), (1, .ref (X.2.1 + 0)), (2, .ref (X.2.1 + 209)), (3, .int x3)] [] (mkW I F J K)) (ex3 : x3 = nI j) (hj : j + 4 ≤ L) (hL : L ≤ 2048) (hn : L ≤ j + (n + 1)) {a1 : Int32} (hv1 : vp_in (x3 + 1) L) (ha1 : xs (x3 + 1).toNatClampNeg = a1) {a2 : Int32} (hv2 : vp_in (x3 + 2) L) (ha2 : xs (x3 + 2).toNatClampNeg = a2) {I : WI} {F : WF} {J : WI} {K : WF} (hI : Inv I F J K) : GL X sb L xs 226 10225 839 [(0, .ref sb), (1, .ref (X.2.1 + 0)), (2, .ref (X.2.1 + 209)), (3, .int x3)] [] (mkW I F J K) := by
  refine L_aload_n (pc2 := 840) 1 rfl dL_law_839 rfl rfl ?_
  refine L_aload_n (pc2 := 841) 0 rfl dL_law_840 rfl rfl ?_
  refine L_iload_n (pc2 := 842) 3 rfl dL_law_841 rfl rfl ?_
  refine L_iconst (pc2 := 843) dL_law_842 ic_1 rfl ?_
  refine L_iadd (pc2 := 844) dL_law_843 rfl ?_
  refine L_sld (pc2 := 845) hv1 ha1 dL_law_844 rfl ?_
  refine L_aload_n (pc2 := 846) 0 rfl dL_law_845 rfl rfl ?_
  refine L_iload_n (pc2 := 847) 3 rfl dL_law_846 rfl rfl ?_
  refine L_iconst (pc2 := 848) dL_law_847 ic_2 rfl ?_
  refine L_iadd (pc2 := 849) dL_law_848 rfl ?_
  refine L_sld (pc2 := 850) hv2 ha2 dL_law_849 rfl ?_
  obtain ⟨ra, rb, e1, e2, e3, hI⟩ := h_exact I F J K a1 a2 hI
  refine L_callV (pc2 := 853) (st := []) si_L_109 (c_X10_exact e1) (qo_0 _ _ _ _) rfl rfl rfl rfl (by decide) (by decide) ⟨by decide, by decide⟩ (Nat.le_of_ble_eq_true rfl) mkW_ll dL_law_850 rfl ?_
  refine L_aload_n (pc2 := 854) 2 rfl dL_law_853 rfl rfl ?_
  refine L_aload_n (pc2 := 855) 0 rfl dL_law_854 rfl rfl ?_
  refine L_iload_n (pc2 := 856) 3 rfl dL_law_855 rfl rfl ?_
  refine L_iconst (pc2 := 857) dL_law_856 ic_1 rfl ?_
  refine L_iadd (pc2 := 858) dL_law_857 rfl ?_
  refine L_sld (pc2 := 859) hv1 ha1 dL_law_858 rfl ?_
  refine L_aload_n (pc2 := 860) 0 rfl dL_law_859 rfl rfl ?_
  refine L_iload_n (pc2 := 861) 3 rfl dL_law_860 rfl rfl ?_
  refine L_iconst (pc2 := 862) dL_law_861 ic_2 rfl ?_
  refine L_iadd (pc2 := 863) dL_law_862 rfl ?_
  refine L_sld (pc2 := 864) hv2 ha2 dL_law_863 rfl ?_
  refine L_callV (pc2 := 867) (st := [.int ra]) si_L_112 (c_X11_exact e2) (qo_209 _ _ _ _) rfl rfl rfl rfl (by decide) (by decide) ⟨by decide, by decide⟩ (Nat.le_of_ble_eq_true rfl) mkW_ll dL_law_864 rfl ?_
  refine L_icmp_eq (tgt := 1085) dL_law_867 (by decide) e3 ?_
  refine L_iinc (pc2 := 1088) (v := x3 + 4) (ls' := [(3, .int (x3 + 4)), (0, .ref sb), (1, .ref (X.2.1 + 0)), (2, .ref (X.2.1 + 209))]) 3 rfl dL_law_1085 rfl (by decide) rfl rfl ?_
  refine L_goto (tgt := 18) dL_law_1088 (by decide) ?_
  refine L_sub (ls' := [(0, .ref sb), (1, .ref (X.2.1 + 0)), (2, .ref (X.2.1 + 209)), (3, .int (x3 + 4))]) [1, 2, 3, 0] rfl ?_
  exact ih (j + 4) (x3 + 4) (by rw [ex3]; exact nI_add j 4) (by omega) (by omega) I F rb.2 K hI
set_option maxRecDepth 100000 in
set_option maxHeartbeats 4000000 in
theorem lc_see {Inv : WI → WF → WI → WF → Prop} (h_see : ∀ (I : WI) (F : WF) (J : WI) (K : WF) (x1 : Int32) (x2 : Int32), Inv I F J K → (x2 = 0 ∨ x2 = 1) → ∃ (a : Int32 × WI) (b : Int32 × WI × WF), f_X10_see x1 x2 I F = some a ∧ f_X11_see x1 x2 J K = some b ∧ a.1 = b.1 ∧ Inv a.2 F b.2.1 b.2.2) {X : XT} {sb L : Nat} {xs : Nat → Int32} {n j : Nat} {x3 : Int32} (ih : ∀ (j : Nat) (x3 : Int32), x3 = nI j → j < 2 ^ 31 → L ≤ j + n → ∀ (I : WI) (F : WF) (J : WI) (K : WF), Inv I F J K → GL X sb L xs 226 10225 18 [(0, .ref sb), (1, .ref (X.2.1 + 0)), (2, .ref (X.2.1 + 209)), (3, .int x3)] [] (mkW I F J K)) (ex3 : x3 = nI j) (hj : j + 4 ≤ L) (hL : L ≤ 2048) (hn : L ≤ j + (n + 1)) {a1 : Int32} (hv1 : vp_in (x3 + 1) L) (ha1 : xs (x3 + 1).toNatClampNeg = a1) {a2 : Int32} (hv2 : vp_in (x3 + 2) L) (ha2 : xs (x3 + 2).toNatClampNeg = a2) {I : WI} {F : WF} {J : WI} {K : WF} (hI : Inv I F J K) : GL X sb L xs 226 10225 872 [(0, .ref sb), (1, .ref (X.2.1 + 0)), (2, .ref (X.2.1 + 209)), (3, .int x3)] [] (mkW I F J K) := by
  refine L_aload_n (pc2 := 873) 1 rfl dL_law_872 rfl rfl ?_
  refine L_aload_n (pc2 := 874) 0 rfl dL_law_873 rfl rfl ?_
  refine L_iload_n (pc2 := 875) 3 rfl dL_law_874 rfl rfl ?_
  refine L_iconst (pc2 := 876) dL_law_875 ic_1 rfl ?_
  refine L_iadd (pc2 := 877) dL_law_876 rfl ?_
  refine L_sld (pc2 := 878) hv1 ha1 dL_law_877 rfl ?_
  refine L_aload_n (pc2 := 879) 0 rfl dL_law_878 rfl rfl ?_
  refine L_iload_n (pc2 := 880) 3 rfl dL_law_879 rfl rfl ?_
  refine L_iconst (pc2 := 881) dL_law_880 ic_2 rfl ?_
  refine L_iadd (pc2 := 882) dL_law_881 rfl ?_
  refine L_sld (pc2 := 883) hv2 ha2 dL_law_882 rfl ?_
  refine L_if_eq (tgt := 890) (pc2 := 886) dL_law_883 (by decide) rfl (fun qz => ?_) (fun qz => ?_)
  · refine L_iconst (pc2 := 891) dL_law_890 ic_0 rfl ?_
    obtain ⟨ra, rb, e1, e2, e3, hI⟩ := h_see I F J K a1 (0 : Int32) hI (Or.inl rfl)
    refine L_callV (pc2 := 894) (st := []) si_L_113 (c_X10_see e1) (qo_0 _ _ _ _) rfl rfl rfl rfl (by decide) (by decide) ⟨by decide, by decide⟩ (Nat.le_of_ble_eq_true rfl) mkW_ll dL_law_891 rfl ?_
    refine L_aload_n (pc2 := 895) 2 rfl dL_law_894 rfl rfl ?_
    refine L_aload_n (pc2 := 896) 0 rfl dL_law_895 rfl rfl ?_
    refine L_iload_n (pc2 := 897) 3 rfl dL_law_896 rfl rfl ?_
    refine L_iconst (pc2 := 898) dL_law_897 ic_1 rfl ?_
    refine L_iadd (pc2 := 899) dL_law_898 rfl ?_
    refine L_sld (pc2 := 900) hv1 ha1 dL_law_899 rfl ?_
    refine L_aload_n (pc2 := 901) 0 rfl dL_law_900 rfl rfl ?_
    refine L_iload_n (pc2 := 902) 3 rfl dL_law_901 rfl rfl ?_
    refine L_iconst (pc2 := 903) dL_law_902 ic_2 rfl ?_
    refine L_iadd (pc2 := 904) dL_law_903 rfl ?_
    refine L_sld (pc2 := 905) hv2 ha2 dL_law_904 rfl ?_
    refine L_if_eq (tgt := 912) (pc2 := 908) dL_law_905 (by decide) rfl (fun _ => ?_) (fun q => absurd qz q)
    refine L_iconst (pc2 := 913) dL_law_912 ic_0 rfl ?_
    refine L_callV (pc2 := 916) (st := [.int ra.1]) si_L_117 (c_X11_see e2) (qo_209 _ _ _ _) rfl rfl rfl rfl (by decide) (by decide) ⟨by decide, by decide⟩ (Nat.le_of_ble_eq_true rfl) mkW_ll dL_law_913 rfl ?_
    refine L_icmp_eq (tgt := 1085) dL_law_916 (by decide) e3 ?_
    refine L_iinc (pc2 := 1088) (v := x3 + 4) (ls' := [(3, .int (x3 + 4)), (0, .ref sb), (1, .ref (X.2.1 + 0)), (2, .ref (X.2.1 + 209))]) 3 rfl dL_law_1085 rfl (by decide) rfl rfl ?_
    refine L_goto (tgt := 18) dL_law_1088 (by decide) ?_
    refine L_sub (ls' := [(0, .ref sb), (1, .ref (X.2.1 + 0)), (2, .ref (X.2.1 + 209)), (3, .int (x3 + 4))]) [1, 2, 3, 0] rfl ?_
    exact ih (j + 4) (x3 + 4) (by rw [ex3]; exact nI_add j 4) (by omega) (by omega) ra.2 F rb.2.1 rb.2.2 hI
  · refine L_iconst (pc2 := 887) dL_law_886 ic_1 rfl ?_
    refine L_goto (tgt := 891) dL_law_887 (by decide) ?_
    obtain ⟨ra, rb, e1, e2, e3, hI⟩ := h_see I F J K a1 (1 : Int32) hI (Or.inr rfl)
    refine L_callV (pc2 := 894) (st := []) si_L_113 (c_X10_see e1) (qo_0 _ _ _ _) rfl rfl rfl rfl (by decide) (by decide) ⟨by decide, by decide⟩ (Nat.le_of_ble_eq_true rfl) mkW_ll dL_law_891 rfl ?_
    refine L_aload_n (pc2 := 895) 2 rfl dL_law_894 rfl rfl ?_
    refine L_aload_n (pc2 := 896) 0 rfl dL_law_895 rfl rfl ?_
    refine L_iload_n (pc2 := 897) 3 rfl dL_law_896 rfl rfl ?_
    refine L_iconst (pc2 := 898) dL_law_897 ic_1 rfl ?_
    refine L_iadd (pc2 := 899) dL_law_898 rfl ?_
    refine L_sld (pc2 := 900) hv1 ha1 dL_law_899 rfl ?_
    refine L_aload_n (pc2 := 901) 0 rfl dL_law_900 rfl rfl ?_
    refine L_iload_n (pc2 := 902) 3 rfl dL_law_901 rfl rfl ?_
    refine L_iconst (pc2 := 903) dL_law_902 ic_2 rfl ?_
    refine L_iadd (pc2 := 904) dL_law_903 rfl ?_
    refine L_sld (pc2 := 905) hv2 ha2 dL_law_904 rfl ?_
    refine L_if_eq (tgt := 912) (pc2 := 908) dL_law_905 (by decide) rfl (fun q => absurd q qz) (fun _ => ?_)
    refine L_iconst (pc2 := 909) dL_law_908 ic_1 rfl ?_
    refine L_goto (tgt := 913) dL_law_909 (by decide) ?_
    refine L_callV (pc2 := 916) (st := [.int ra.1]) si_L_117 (c_X11_see e2) (qo_209 _ _ _ _) rfl rfl rfl rfl (by decide) (by decide) ⟨by decide, by decide⟩ (Nat.le_of_ble_eq_true rfl) mkW_ll dL_law_913 rfl ?_
    refine L_icmp_eq (tgt := 1085) dL_law_916 (by decide) e3 ?_
    refine L_iinc (pc2 := 1088) (v := x3 + 4) (ls' := [(3, .int (x3 + 4)), (0, .ref sb), (1, .ref (X.2.1 + 0)), (2, .ref (X.2.1 + 209))]) 3 rfl dL_law_1085 rfl (by decide) rfl rfl ?_
    refine L_goto (tgt := 18) dL_law_1088 (by decide) ?_
    refine L_sub (ls' := [(0, .ref sb), (1, .ref (X.2.1 + 0)), (2, .ref (X.2.1 + 209)), (3, .int (x3 + 4))]) [1, 2, 3, 0] rfl ?_
    exact ih (j + 4) (x3 + 4) (by rw [ex3]; exact nI_add j 4) (by omega) (by omega) ra.2 F rb.2.1 rb.2.2 hI
set_option maxRecDepth 100000 in
set_option maxHeartbeats 4000000 in
theorem lc_quick {Inv : WI → WF → WI → WF → Prop} (h_quick : ∀ (I : WI) (F : WF) (J : WI) (K : WF) (x1 : Int32), Inv I F J K → ∃ (a : Int32) (b : Int32 × WI), f_X10_quick x1 I F = some a ∧ f_X11_quick x1 J K = some b ∧ a = b.1 ∧ Inv I F b.2 K) {X : XT} {sb L : Nat} {xs : Nat → Int32} {n j : Nat} {x3 : Int32} (ih : ∀ (j : Nat) (x3 : Int32), x3 = nI j → j < 2 ^ 31 → L ≤ j + n → ∀ (I : WI) (F : WF) (J : WI) (K : WF), Inv I F J K → GL X sb L xs 226 10225 18 [(0, .ref sb), (1, .ref (X.2.1 + 0)), (2, .ref (X.2.1 + 209)), (3, .int x3)] [] (mkW I F J K)) (ex3 : x3 = nI j) (hj : j + 4 ≤ L) (hL : L ≤ 2048) (hn : L ≤ j + (n + 1)) {a1 : Int32} (hv1 : vp_in (x3 + 1) L) (ha1 : xs (x3 + 1).toNatClampNeg = a1) {I : WI} {F : WF} {J : WI} {K : WF} (hI : Inv I F J K) : GL X sb L xs 226 10225 921 [(0, .ref sb), (1, .ref (X.2.1 + 0)), (2, .ref (X.2.1 + 209)), (3, .int x3)] [] (mkW I F J K) := by
  refine L_aload_n (pc2 := 922) 1 rfl dL_law_921 rfl rfl ?_
  refine L_aload_n (pc2 := 923) 0 rfl dL_law_922 rfl rfl ?_
  refine L_iload_n (pc2 := 924) 3 rfl dL_law_923 rfl rfl ?_
  refine L_iconst (pc2 := 925) dL_law_924 ic_1 rfl ?_
  refine L_iadd (pc2 := 926) dL_law_925 rfl ?_
  refine L_sld (pc2 := 927) hv1 ha1 dL_law_926 rfl ?_
  obtain ⟨ra, rb, e1, e2, e3, hI⟩ := h_quick I F J K a1 hI
  refine L_callV (pc2 := 930) (st := []) si_L_118 (c_X10_quick e1) (qo_0 _ _ _ _) rfl rfl rfl rfl (by decide) (by decide) ⟨by decide, by decide⟩ (Nat.le_of_ble_eq_true rfl) mkW_ll dL_law_927 rfl ?_
  refine L_aload_n (pc2 := 931) 2 rfl dL_law_930 rfl rfl ?_
  refine L_aload_n (pc2 := 932) 0 rfl dL_law_931 rfl rfl ?_
  refine L_iload_n (pc2 := 933) 3 rfl dL_law_932 rfl rfl ?_
  refine L_iconst (pc2 := 934) dL_law_933 ic_1 rfl ?_
  refine L_iadd (pc2 := 935) dL_law_934 rfl ?_
  refine L_sld (pc2 := 936) hv1 ha1 dL_law_935 rfl ?_
  refine L_callV (pc2 := 939) (st := [.int ra]) si_L_121 (c_X11_quick e2) (qo_209 _ _ _ _) rfl rfl rfl rfl (by decide) (by decide) ⟨by decide, by decide⟩ (Nat.le_of_ble_eq_true rfl) mkW_ll dL_law_936 rfl ?_
  refine L_icmp_eq (tgt := 1085) dL_law_939 (by decide) e3 ?_
  refine L_iinc (pc2 := 1088) (v := x3 + 4) (ls' := [(3, .int (x3 + 4)), (0, .ref sb), (1, .ref (X.2.1 + 0)), (2, .ref (X.2.1 + 209))]) 3 rfl dL_law_1085 rfl (by decide) rfl rfl ?_
  refine L_goto (tgt := 18) dL_law_1088 (by decide) ?_
  refine L_sub (ls' := [(0, .ref sb), (1, .ref (X.2.1 + 0)), (2, .ref (X.2.1 + 209)), (3, .int (x3 + 4))]) [1, 2, 3, 0] rfl ?_
  exact ih (j + 4) (x3 + 4) (by rw [ex3]; exact nI_add j 4) (by omega) (by omega) I F rb.2 K hI
set_option maxRecDepth 100000 in
set_option maxHeartbeats 4000000 in
theorem lc_watch {Inv : WI → WF → WI → WF → Prop} (h_watch : ∀ (I : WI) (F : WF) (J : WI) (K : WF), Inv I F J K → ∃ (a : Int32) (b : Int32 × WI), f_X10_watch  I F = some a ∧ f_X11_watch  J K = some b ∧ a = b.1 ∧ Inv I F b.2 K) {X : XT} {sb L : Nat} {xs : Nat → Int32} {n j : Nat} {x3 : Int32} (ih : ∀ (j : Nat) (x3 : Int32), x3 = nI j → j < 2 ^ 31 → L ≤ j + n → ∀ (I : WI) (F : WF) (J : WI) (K : WF), Inv I F J K → GL X sb L xs 226 10225 18 [(0, .ref sb), (1, .ref (X.2.1 + 0)), (2, .ref (X.2.1 + 209)), (3, .int x3)] [] (mkW I F J K)) (ex3 : x3 = nI j) (hj : j + 4 ≤ L) (hL : L ≤ 2048) (hn : L ≤ j + (n + 1)) {I : WI} {F : WF} {J : WI} {K : WF} (hI : Inv I F J K) : GL X sb L xs 226 10225 944 [(0, .ref sb), (1, .ref (X.2.1 + 0)), (2, .ref (X.2.1 + 209)), (3, .int x3)] [] (mkW I F J K) := by
  refine L_aload_n (pc2 := 945) 1 rfl dL_law_944 rfl rfl ?_
  obtain ⟨ra, rb, e1, e2, e3, hI⟩ := h_watch I F J K  hI
  refine L_callV (pc2 := 948) (st := []) si_L_122 (c_X10_watch e1) (qo_0 _ _ _ _) rfl rfl rfl rfl (by decide) (by decide) ⟨by decide, by decide⟩ (Nat.le_of_ble_eq_true rfl) mkW_ll dL_law_945 rfl ?_
  refine L_aload_n (pc2 := 949) 2 rfl dL_law_948 rfl rfl ?_
  refine L_callV (pc2 := 952) (st := [.int ra]) si_L_125 (c_X11_watch e2) (qo_209 _ _ _ _) rfl rfl rfl rfl (by decide) (by decide) ⟨by decide, by decide⟩ (Nat.le_of_ble_eq_true rfl) mkW_ll dL_law_949 rfl ?_
  refine L_icmp_eq (tgt := 1085) dL_law_952 (by decide) e3 ?_
  refine L_iinc (pc2 := 1088) (v := x3 + 4) (ls' := [(3, .int (x3 + 4)), (0, .ref sb), (1, .ref (X.2.1 + 0)), (2, .ref (X.2.1 + 209))]) 3 rfl dL_law_1085 rfl (by decide) rfl rfl ?_
  refine L_goto (tgt := 18) dL_law_1088 (by decide) ?_
  refine L_sub (ls' := [(0, .ref sb), (1, .ref (X.2.1 + 0)), (2, .ref (X.2.1 + 209)), (3, .int (x3 + 4))]) [1, 2, 3, 0] rfl ?_
  exact ih (j + 4) (x3 + 4) (by rw [ex3]; exact nI_add j 4) (by omega) (by omega) I F rb.2 K hI
set_option maxRecDepth 100000 in
set_option maxHeartbeats 4000000 in
theorem lc_write {Inv : WI → WF → WI → WF → Prop} (h_write : ∀ (I : WI) (F : WF) (J : WI) (K : WF) (x1 : Int32) (x2 : Int32), Inv I F J K → ∃ (a : Int32 × WI × WF) (b : Int32 × WI × WF), f_X10_write x1 x2 I F = some a ∧ f_X11_write x1 x2 J K = some b ∧ a.1 = b.1 ∧ Inv a.2.1 a.2.2 b.2.1 b.2.2) {X : XT} {sb L : Nat} {xs : Nat → Int32} {n j : Nat} {x3 : Int32} (ih : ∀ (j : Nat) (x3 : Int32), x3 = nI j → j < 2 ^ 31 → L ≤ j + n → ∀ (I : WI) (F : WF) (J : WI) (K : WF), Inv I F J K → GL X sb L xs 226 10225 18 [(0, .ref sb), (1, .ref (X.2.1 + 0)), (2, .ref (X.2.1 + 209)), (3, .int x3)] [] (mkW I F J K)) (ex3 : x3 = nI j) (hj : j + 4 ≤ L) (hL : L ≤ 2048) (hn : L ≤ j + (n + 1)) {a1 : Int32} (hv1 : vp_in (x3 + 1) L) (ha1 : xs (x3 + 1).toNatClampNeg = a1) {a2 : Int32} (hv2 : vp_in (x3 + 2) L) (ha2 : xs (x3 + 2).toNatClampNeg = a2) {I : WI} {F : WF} {J : WI} {K : WF} (hI : Inv I F J K) : GL X sb L xs 226 10225 957 [(0, .ref sb), (1, .ref (X.2.1 + 0)), (2, .ref (X.2.1 + 209)), (3, .int x3)] [] (mkW I F J K) := by
  refine L_aload_n (pc2 := 958) 1 rfl dL_law_957 rfl rfl ?_
  refine L_aload_n (pc2 := 959) 0 rfl dL_law_958 rfl rfl ?_
  refine L_iload_n (pc2 := 960) 3 rfl dL_law_959 rfl rfl ?_
  refine L_iconst (pc2 := 961) dL_law_960 ic_1 rfl ?_
  refine L_iadd (pc2 := 962) dL_law_961 rfl ?_
  refine L_sld (pc2 := 963) hv1 ha1 dL_law_962 rfl ?_
  refine L_aload_n (pc2 := 964) 0 rfl dL_law_963 rfl rfl ?_
  refine L_iload_n (pc2 := 965) 3 rfl dL_law_964 rfl rfl ?_
  refine L_iconst (pc2 := 966) dL_law_965 ic_2 rfl ?_
  refine L_iadd (pc2 := 967) dL_law_966 rfl ?_
  refine L_sld (pc2 := 968) hv2 ha2 dL_law_967 rfl ?_
  obtain ⟨ra, rb, e1, e2, e3, hI⟩ := h_write I F J K a1 a2 hI
  refine L_callV (pc2 := 971) (st := []) si_L_126 (c_X10_write e1) (qo_0 _ _ _ _) rfl rfl rfl rfl (by decide) (by decide) ⟨by decide, by decide⟩ (Nat.le_of_ble_eq_true rfl) mkW_ll dL_law_968 rfl ?_
  refine L_aload_n (pc2 := 972) 2 rfl dL_law_971 rfl rfl ?_
  refine L_aload_n (pc2 := 973) 0 rfl dL_law_972 rfl rfl ?_
  refine L_iload_n (pc2 := 974) 3 rfl dL_law_973 rfl rfl ?_
  refine L_iconst (pc2 := 975) dL_law_974 ic_1 rfl ?_
  refine L_iadd (pc2 := 976) dL_law_975 rfl ?_
  refine L_sld (pc2 := 977) hv1 ha1 dL_law_976 rfl ?_
  refine L_aload_n (pc2 := 978) 0 rfl dL_law_977 rfl rfl ?_
  refine L_iload_n (pc2 := 979) 3 rfl dL_law_978 rfl rfl ?_
  refine L_iconst (pc2 := 980) dL_law_979 ic_2 rfl ?_
  refine L_iadd (pc2 := 981) dL_law_980 rfl ?_
  refine L_sld (pc2 := 982) hv2 ha2 dL_law_981 rfl ?_
  refine L_callV (pc2 := 985) (st := [.int ra.1]) si_L_129 (c_X11_write e2) (qo_209 _ _ _ _) rfl rfl rfl rfl (by decide) (by decide) ⟨by decide, by decide⟩ (Nat.le_of_ble_eq_true rfl) mkW_ll dL_law_982 rfl ?_
  refine L_icmp_eq (tgt := 1085) dL_law_985 (by decide) e3 ?_
  refine L_iinc (pc2 := 1088) (v := x3 + 4) (ls' := [(3, .int (x3 + 4)), (0, .ref sb), (1, .ref (X.2.1 + 0)), (2, .ref (X.2.1 + 209))]) 3 rfl dL_law_1085 rfl (by decide) rfl rfl ?_
  refine L_goto (tgt := 18) dL_law_1088 (by decide) ?_
  refine L_sub (ls' := [(0, .ref sb), (1, .ref (X.2.1 + 0)), (2, .ref (X.2.1 + 209)), (3, .int (x3 + 4))]) [1, 2, 3, 0] rfl ?_
  exact ih (j + 4) (x3 + 4) (by rw [ex3]; exact nI_add j 4) (by omega) (by omega) ra.2.1 ra.2.2 rb.2.1 rb.2.2 hI
set_option maxRecDepth 100000 in
set_option maxHeartbeats 4000000 in
theorem lc_tear {Inv : WI → WF → WI → WF → Prop} (h_tear : ∀ (I : WI) (F : WF) (J : WI) (K : WF), Inv I F J K → ∃ (a : Int32 × WI) (b : Int32 × WI), f_X10_tear  I F = some a ∧ f_X11_tear  J K = some b ∧ a.1 = b.1 ∧ Inv a.2 F b.2 K) {X : XT} {sb L : Nat} {xs : Nat → Int32} {n j : Nat} {x3 : Int32} (ih : ∀ (j : Nat) (x3 : Int32), x3 = nI j → j < 2 ^ 31 → L ≤ j + n → ∀ (I : WI) (F : WF) (J : WI) (K : WF), Inv I F J K → GL X sb L xs 226 10225 18 [(0, .ref sb), (1, .ref (X.2.1 + 0)), (2, .ref (X.2.1 + 209)), (3, .int x3)] [] (mkW I F J K)) (ex3 : x3 = nI j) (hj : j + 4 ≤ L) (hL : L ≤ 2048) (hn : L ≤ j + (n + 1)) {I : WI} {F : WF} {J : WI} {K : WF} (hI : Inv I F J K) : GL X sb L xs 226 10225 990 [(0, .ref sb), (1, .ref (X.2.1 + 0)), (2, .ref (X.2.1 + 209)), (3, .int x3)] [] (mkW I F J K) := by
  refine L_aload_n (pc2 := 991) 1 rfl dL_law_990 rfl rfl ?_
  obtain ⟨ra, rb, e1, e2, e3, hI⟩ := h_tear I F J K  hI
  refine L_callV (pc2 := 994) (st := []) si_L_130 (c_X10_tear e1) (qo_0 _ _ _ _) rfl rfl rfl rfl (by decide) (by decide) ⟨by decide, by decide⟩ (Nat.le_of_ble_eq_true rfl) mkW_ll dL_law_991 rfl ?_
  refine L_aload_n (pc2 := 995) 2 rfl dL_law_994 rfl rfl ?_
  refine L_callV (pc2 := 998) (st := [.int ra.1]) si_L_133 (c_X11_tear e2) (qo_209 _ _ _ _) rfl rfl rfl rfl (by decide) (by decide) ⟨by decide, by decide⟩ (Nat.le_of_ble_eq_true rfl) mkW_ll dL_law_995 rfl ?_
  refine L_icmp_eq (tgt := 1085) dL_law_998 (by decide) e3 ?_
  refine L_iinc (pc2 := 1088) (v := x3 + 4) (ls' := [(3, .int (x3 + 4)), (0, .ref sb), (1, .ref (X.2.1 + 0)), (2, .ref (X.2.1 + 209))]) 3 rfl dL_law_1085 rfl (by decide) rfl rfl ?_
  refine L_goto (tgt := 18) dL_law_1088 (by decide) ?_
  refine L_sub (ls' := [(0, .ref sb), (1, .ref (X.2.1 + 0)), (2, .ref (X.2.1 + 209)), (3, .int (x3 + 4))]) [1, 2, 3, 0] rfl ?_
  exact ih (j + 4) (x3 + 4) (by rw [ex3]; exact nI_add j 4) (by omega) (by omega) ra.2 F rb.2 K hI
set_option maxRecDepth 100000 in
set_option maxHeartbeats 4000000 in
theorem lc_judge {Inv : WI → WF → WI → WF → Prop} (h_judge : ∀ (I : WI) (F : WF) (J : WI) (K : WF), Inv I F J K → ∃ (a : Int32) (b : Int32 × WI), f_X10_judge  I F = some a ∧ f_X11_judge  J K = some b ∧ a = b.1 ∧ Inv I F b.2 K) {X : XT} {sb L : Nat} {xs : Nat → Int32} {n j : Nat} {x3 : Int32} (ih : ∀ (j : Nat) (x3 : Int32), x3 = nI j → j < 2 ^ 31 → L ≤ j + n → ∀ (I : WI) (F : WF) (J : WI) (K : WF), Inv I F J K → GL X sb L xs 226 10225 18 [(0, .ref sb), (1, .ref (X.2.1 + 0)), (2, .ref (X.2.1 + 209)), (3, .int x3)] [] (mkW I F J K)) (ex3 : x3 = nI j) (hj : j + 4 ≤ L) (hL : L ≤ 2048) (hn : L ≤ j + (n + 1)) {I : WI} {F : WF} {J : WI} {K : WF} (hI : Inv I F J K) : GL X sb L xs 226 10225 1003 [(0, .ref sb), (1, .ref (X.2.1 + 0)), (2, .ref (X.2.1 + 209)), (3, .int x3)] [] (mkW I F J K) := by
  refine L_aload_n (pc2 := 1004) 1 rfl dL_law_1003 rfl rfl ?_
  obtain ⟨ra, rb, e1, e2, e3, hI⟩ := h_judge I F J K  hI
  refine L_callV (pc2 := 1007) (st := []) si_L_134 (c_X10_judge e1) (qo_0 _ _ _ _) rfl rfl rfl rfl (by decide) (by decide) ⟨by decide, by decide⟩ (Nat.le_of_ble_eq_true rfl) mkW_ll dL_law_1004 rfl ?_
  refine L_aload_n (pc2 := 1008) 2 rfl dL_law_1007 rfl rfl ?_
  refine L_callV (pc2 := 1011) (st := [.int ra]) si_L_137 (c_X11_judge e2) (qo_209 _ _ _ _) rfl rfl rfl rfl (by decide) (by decide) ⟨by decide, by decide⟩ (Nat.le_of_ble_eq_true rfl) mkW_ll dL_law_1008 rfl ?_
  refine L_icmp_eq (tgt := 1085) dL_law_1011 (by decide) e3 ?_
  refine L_iinc (pc2 := 1088) (v := x3 + 4) (ls' := [(3, .int (x3 + 4)), (0, .ref sb), (1, .ref (X.2.1 + 0)), (2, .ref (X.2.1 + 209))]) 3 rfl dL_law_1085 rfl (by decide) rfl rfl ?_
  refine L_goto (tgt := 18) dL_law_1088 (by decide) ?_
  refine L_sub (ls' := [(0, .ref sb), (1, .ref (X.2.1 + 0)), (2, .ref (X.2.1 + 209)), (3, .int (x3 + 4))]) [1, 2, 3, 0] rfl ?_
  exact ih (j + 4) (x3 + 4) (by rw [ex3]; exact nI_add j 4) (by omega) (by omega) I F rb.2 K hI
set_option maxRecDepth 100000 in
set_option maxHeartbeats 4000000 in
theorem lc_seed {Inv : WI → WF → WI → WF → Prop} (h_seed : ∀ (I : WI) (F : WF) (J : WI) (K : WF) (x1 : Int32), Inv I F J K → ∃ (a : Int32 × WI) (b : Int32 × WI × WF), f_X10_seed x1 I F = some a ∧ f_X11_seed x1 J K = some b ∧ a.1 = b.1 ∧ Inv a.2 F b.2.1 b.2.2) {X : XT} {sb L : Nat} {xs : Nat → Int32} {n j : Nat} {x3 : Int32} (ih : ∀ (j : Nat) (x3 : Int32), x3 = nI j → j < 2 ^ 31 → L ≤ j + n → ∀ (I : WI) (F : WF) (J : WI) (K : WF), Inv I F J K → GL X sb L xs 226 10225 18 [(0, .ref sb), (1, .ref (X.2.1 + 0)), (2, .ref (X.2.1 + 209)), (3, .int x3)] [] (mkW I F J K)) (ex3 : x3 = nI j) (hj : j + 4 ≤ L) (hL : L ≤ 2048) (hn : L ≤ j + (n + 1)) {a1 : Int32} (hv1 : vp_in (x3 + 1) L) (ha1 : xs (x3 + 1).toNatClampNeg = a1) {I : WI} {F : WF} {J : WI} {K : WF} (hI : Inv I F J K) : GL X sb L xs 226 10225 1016 [(0, .ref sb), (1, .ref (X.2.1 + 0)), (2, .ref (X.2.1 + 209)), (3, .int x3)] [] (mkW I F J K) := by
  refine L_aload_n (pc2 := 1017) 1 rfl dL_law_1016 rfl rfl ?_
  refine L_aload_n (pc2 := 1018) 0 rfl dL_law_1017 rfl rfl ?_
  refine L_iload_n (pc2 := 1019) 3 rfl dL_law_1018 rfl rfl ?_
  refine L_iconst (pc2 := 1020) dL_law_1019 ic_1 rfl ?_
  refine L_iadd (pc2 := 1021) dL_law_1020 rfl ?_
  refine L_sld (pc2 := 1022) hv1 ha1 dL_law_1021 rfl ?_
  obtain ⟨ra, rb, e1, e2, e3, hI⟩ := h_seed I F J K a1 hI
  refine L_callV (pc2 := 1025) (st := []) si_L_138 (c_X10_seed e1) (qo_0 _ _ _ _) rfl rfl rfl rfl (by decide) (by decide) ⟨by decide, by decide⟩ (Nat.le_of_ble_eq_true rfl) mkW_ll dL_law_1022 rfl ?_
  refine L_aload_n (pc2 := 1026) 2 rfl dL_law_1025 rfl rfl ?_
  refine L_aload_n (pc2 := 1027) 0 rfl dL_law_1026 rfl rfl ?_
  refine L_iload_n (pc2 := 1028) 3 rfl dL_law_1027 rfl rfl ?_
  refine L_iconst (pc2 := 1029) dL_law_1028 ic_1 rfl ?_
  refine L_iadd (pc2 := 1030) dL_law_1029 rfl ?_
  refine L_sld (pc2 := 1031) hv1 ha1 dL_law_1030 rfl ?_
  refine L_callV (pc2 := 1034) (st := [.int ra.1]) si_L_141 (c_X11_seed e2) (qo_209 _ _ _ _) rfl rfl rfl rfl (by decide) (by decide) ⟨by decide, by decide⟩ (Nat.le_of_ble_eq_true rfl) mkW_ll dL_law_1031 rfl ?_
  refine L_icmp_eq (tgt := 1085) dL_law_1034 (by decide) e3 ?_
  refine L_iinc (pc2 := 1088) (v := x3 + 4) (ls' := [(3, .int (x3 + 4)), (0, .ref sb), (1, .ref (X.2.1 + 0)), (2, .ref (X.2.1 + 209))]) 3 rfl dL_law_1085 rfl (by decide) rfl rfl ?_
  refine L_goto (tgt := 18) dL_law_1088 (by decide) ?_
  refine L_sub (ls' := [(0, .ref sb), (1, .ref (X.2.1 + 0)), (2, .ref (X.2.1 + 209)), (3, .int (x3 + 4))]) [1, 2, 3, 0] rfl ?_
  exact ih (j + 4) (x3 + 4) (by rw [ex3]; exact nI_add j 4) (by omega) (by omega) ra.2 F rb.2.1 rb.2.2 hI
set_option maxRecDepth 100000 in
set_option maxHeartbeats 4000000 in
theorem lc_keep {Inv : WI → WF → WI → WF → Prop} (h_keep : ∀ (I : WI) (F : WF) (J : WI) (K : WF) (x1 : Int32), Inv I F J K → ∃ (a : Int32 × WI × WF) (b : Int32 × WI × WF), f_X10_keep x1 I F = some a ∧ f_X11_keep x1 J K = some b ∧ a.1 = b.1 ∧ Inv a.2.1 a.2.2 b.2.1 b.2.2) {X : XT} {sb L : Nat} {xs : Nat → Int32} {n j : Nat} {x3 : Int32} (ih : ∀ (j : Nat) (x3 : Int32), x3 = nI j → j < 2 ^ 31 → L ≤ j + n → ∀ (I : WI) (F : WF) (J : WI) (K : WF), Inv I F J K → GL X sb L xs 226 10225 18 [(0, .ref sb), (1, .ref (X.2.1 + 0)), (2, .ref (X.2.1 + 209)), (3, .int x3)] [] (mkW I F J K)) (ex3 : x3 = nI j) (hj : j + 4 ≤ L) (hL : L ≤ 2048) (hn : L ≤ j + (n + 1)) {a1 : Int32} (hv1 : vp_in (x3 + 1) L) (ha1 : xs (x3 + 1).toNatClampNeg = a1) {I : WI} {F : WF} {J : WI} {K : WF} (hI : Inv I F J K) : GL X sb L xs 226 10225 1039 [(0, .ref sb), (1, .ref (X.2.1 + 0)), (2, .ref (X.2.1 + 209)), (3, .int x3)] [] (mkW I F J K) := by
  refine L_aload_n (pc2 := 1040) 1 rfl dL_law_1039 rfl rfl ?_
  refine L_aload_n (pc2 := 1041) 0 rfl dL_law_1040 rfl rfl ?_
  refine L_iload_n (pc2 := 1042) 3 rfl dL_law_1041 rfl rfl ?_
  refine L_iconst (pc2 := 1043) dL_law_1042 ic_1 rfl ?_
  refine L_iadd (pc2 := 1044) dL_law_1043 rfl ?_
  refine L_sld (pc2 := 1045) hv1 ha1 dL_law_1044 rfl ?_
  obtain ⟨ra, rb, e1, e2, e3, hI⟩ := h_keep I F J K a1 hI
  refine L_callV (pc2 := 1048) (st := []) si_L_142 (c_X10_keep e1) (qo_0 _ _ _ _) rfl rfl rfl rfl (by decide) (by decide) ⟨by decide, by decide⟩ (Nat.le_of_ble_eq_true rfl) mkW_ll dL_law_1045 rfl ?_
  refine L_aload_n (pc2 := 1049) 2 rfl dL_law_1048 rfl rfl ?_
  refine L_aload_n (pc2 := 1050) 0 rfl dL_law_1049 rfl rfl ?_
  refine L_iload_n (pc2 := 1051) 3 rfl dL_law_1050 rfl rfl ?_
  refine L_iconst (pc2 := 1052) dL_law_1051 ic_1 rfl ?_
  refine L_iadd (pc2 := 1053) dL_law_1052 rfl ?_
  refine L_sld (pc2 := 1054) hv1 ha1 dL_law_1053 rfl ?_
  refine L_callV (pc2 := 1057) (st := [.int ra.1]) si_L_145 (c_X11_keep e2) (qo_209 _ _ _ _) rfl rfl rfl rfl (by decide) (by decide) ⟨by decide, by decide⟩ (Nat.le_of_ble_eq_true rfl) mkW_ll dL_law_1054 rfl ?_
  refine L_icmp_eq (tgt := 1085) dL_law_1057 (by decide) e3 ?_
  refine L_iinc (pc2 := 1088) (v := x3 + 4) (ls' := [(3, .int (x3 + 4)), (0, .ref sb), (1, .ref (X.2.1 + 0)), (2, .ref (X.2.1 + 209))]) 3 rfl dL_law_1085 rfl (by decide) rfl rfl ?_
  refine L_goto (tgt := 18) dL_law_1088 (by decide) ?_
  refine L_sub (ls' := [(0, .ref sb), (1, .ref (X.2.1 + 0)), (2, .ref (X.2.1 + 209)), (3, .int (x3 + 4))]) [1, 2, 3, 0] rfl ?_
  exact ih (j + 4) (x3 + 4) (by rw [ex3]; exact nI_add j 4) (by omega) (by omega) ra.2.1 ra.2.2 rb.2.1 rb.2.2 hI
set_option maxRecDepth 100000 in
set_option maxHeartbeats 4000000 in
theorem lc_goBack {Inv : WI → WF → WI → WF → Prop} (h_goBack : ∀ (I : WI) (F : WF) (J : WI) (K : WF) (x1 : Int32), Inv I F J K → ∃ (a : Int32 × WI × WF) (b : Int32 × WI × WF), f_X10_goBack x1 I F = some a ∧ f_X11_goBack x1 J K = some b ∧ a.1 = b.1 ∧ Inv a.2.1 a.2.2 b.2.1 b.2.2) {X : XT} {sb L : Nat} {xs : Nat → Int32} {n j : Nat} {x3 : Int32} (ih : ∀ (j : Nat) (x3 : Int32), x3 = nI j → j < 2 ^ 31 → L ≤ j + n → ∀ (I : WI) (F : WF) (J : WI) (K : WF), Inv I F J K → GL X sb L xs 226 10225 18 [(0, .ref sb), (1, .ref (X.2.1 + 0)), (2, .ref (X.2.1 + 209)), (3, .int x3)] [] (mkW I F J K)) (ex3 : x3 = nI j) (hj : j + 4 ≤ L) (hL : L ≤ 2048) (hn : L ≤ j + (n + 1)) {a1 : Int32} (hv1 : vp_in (x3 + 1) L) (ha1 : xs (x3 + 1).toNatClampNeg = a1) {I : WI} {F : WF} {J : WI} {K : WF} (hI : Inv I F J K) : GL X sb L xs 226 10225 1062 [(0, .ref sb), (1, .ref (X.2.1 + 0)), (2, .ref (X.2.1 + 209)), (3, .int x3)] [] (mkW I F J K) := by
  refine L_aload_n (pc2 := 1063) 1 rfl dL_law_1062 rfl rfl ?_
  refine L_aload_n (pc2 := 1064) 0 rfl dL_law_1063 rfl rfl ?_
  refine L_iload_n (pc2 := 1065) 3 rfl dL_law_1064 rfl rfl ?_
  refine L_iconst (pc2 := 1066) dL_law_1065 ic_1 rfl ?_
  refine L_iadd (pc2 := 1067) dL_law_1066 rfl ?_
  refine L_sld (pc2 := 1068) hv1 ha1 dL_law_1067 rfl ?_
  obtain ⟨ra, rb, e1, e2, e3, hI⟩ := h_goBack I F J K a1 hI
  refine L_callV (pc2 := 1071) (st := []) si_L_146 (c_X10_goBack e1) (qo_0 _ _ _ _) rfl rfl rfl rfl (by decide) (by decide) ⟨by decide, by decide⟩ (Nat.le_of_ble_eq_true rfl) mkW_ll dL_law_1068 rfl ?_
  refine L_aload_n (pc2 := 1072) 2 rfl dL_law_1071 rfl rfl ?_
  refine L_aload_n (pc2 := 1073) 0 rfl dL_law_1072 rfl rfl ?_
  refine L_iload_n (pc2 := 1074) 3 rfl dL_law_1073 rfl rfl ?_
  refine L_iconst (pc2 := 1075) dL_law_1074 ic_1 rfl ?_
  refine L_iadd (pc2 := 1076) dL_law_1075 rfl ?_
  refine L_sld (pc2 := 1077) hv1 ha1 dL_law_1076 rfl ?_
  refine L_callV (pc2 := 1080) (st := [.int ra.1]) si_L_149 (c_X11_goBack e2) (qo_209 _ _ _ _) rfl rfl rfl rfl (by decide) (by decide) ⟨by decide, by decide⟩ (Nat.le_of_ble_eq_true rfl) mkW_ll dL_law_1077 rfl ?_
  refine L_icmp_eq (tgt := 1085) dL_law_1080 (by decide) e3 ?_
  refine L_iinc (pc2 := 1088) (v := x3 + 4) (ls' := [(3, .int (x3 + 4)), (0, .ref sb), (1, .ref (X.2.1 + 0)), (2, .ref (X.2.1 + 209))]) 3 rfl dL_law_1085 rfl (by decide) rfl rfl ?_
  refine L_goto (tgt := 18) dL_law_1088 (by decide) ?_
  refine L_sub (ls' := [(0, .ref sb), (1, .ref (X.2.1 + 0)), (2, .ref (X.2.1 + 209)), (3, .int (x3 + 4))]) [1, 2, 3, 0] rfl ?_
  exact ih (j + 4) (x3 + 4) (by rw [ex3]; exact nI_add j 4) (by omega) (by omega) ra.2.1 ra.2.2 rb.2.1 rb.2.2 hI
set_option maxRecDepth 100000 in
theorem lc_default {Inv : WI → WF → WI → WF → Prop} {X : XT} {sb L : Nat} {xs : Nat → Int32} {n j : Nat} {x3 : Int32} (ih : ∀ (j : Nat) (x3 : Int32), x3 = nI j → j < 2 ^ 31 → L ≤ j + n → ∀ (I : WI) (F : WF) (J : WI) (K : WF), Inv I F J K → GL X sb L xs 226 10225 18 [(0, .ref sb), (1, .ref (X.2.1 + 0)), (2, .ref (X.2.1 + 209)), (3, .int x3)] [] (mkW I F J K)) (ex3 : x3 = nI j) (hj : j + 4 ≤ L) (hL : L ≤ 2048) (hn : L ≤ j + (n + 1)) {I : WI} {F : WF} {J : WI} {K : WF} (hI : Inv I F J K) : GL X sb L xs 226 10225 1085 [(0, .ref sb), (1, .ref (X.2.1 + 0)), (2, .ref (X.2.1 + 209)), (3, .int x3)] [] (mkW I F J K) := by
  refine L_iinc (pc2 := 1088) (v := x3 + 4) (ls' := [(3, .int (x3 + 4)), (0, .ref sb), (1, .ref (X.2.1 + 0)), (2, .ref (X.2.1 + 209))]) 3 rfl dL_law_1085 rfl (by decide) rfl rfl ?_
  refine L_goto (tgt := 18) dL_law_1088 (by decide) ?_
  refine L_sub (ls' := [(0, .ref sb), (1, .ref (X.2.1 + 0)), (2, .ref (X.2.1 + 209)), (3, .int (x3 + 4))]) [1, 2, 3, 0] rfl ?_
  exact ih (j + 4) (x3 + 4) (by rw [ex3]; exact nI_add j 4) (by omega) (by omega) I F J K hI
set_option maxRecDepth 100000 in
set_option maxHeartbeats 4000000 in
theorem law_loop {Inv : WI → WF → WI → WF → Prop}
 (h_feed : ∀ (I : WI) (F : WF) (J : WI) (K : WF) (x1 : Int32), Inv I F J K → ∃ (a : Int32 × WI × WF) (b : Int32 × WI × WF), f_X10_feed x1 I F = some a ∧ f_X11_feed x1 J K = some b ∧ a.1 = b.1 ∧ Inv a.2.1 a.2.2 b.2.1 b.2.2)
 (h_town : ∀ (I : WI) (F : WF) (J : WI) (K : WF), Inv I F J K → ∃ (a : Int32 × WI × WF) (b : Int32 × WI × WF), f_X10_town  I F = some a ∧ f_X11_town  J K = some b ∧ a.1 = b.1 ∧ Inv a.2.1 a.2.2 b.2.1 b.2.2)
 (h_fault : ∀ (I : WI) (F : WF) (J : WI) (K : WF), Inv I F J K → ∃ (a : Int32) (b : Int32 × WI), f_X10_fault  I F = some a ∧ f_X11_fault  J K = some b ∧ a = b.1 ∧ Inv I F b.2 K)
 (h_told : ∀ (I : WI) (F : WF) (J : WI) (K : WF) (x1 : Int32), Inv I F J K → ∃ (a : Int32 × WF) (b : Int32 × WI × WF), f_X10_told x1 I F = some a ∧ f_X11_told x1 J K = some b ∧ a.1 = b.1 ∧ Inv I a.2 b.2.1 b.2.2)
 (h_bridge : ∀ (I : WI) (F : WF) (J : WI) (K : WF) (x1 : Int32) (x2 : Int32), Inv I F J K → ∃ (a : Int32) (b : Int32 × WI), f_X10_bridge x1 x2 I F = some a ∧ f_X11_bridge x1 x2 J K = some b ∧ a = b.1 ∧ Inv I F b.2 K)
 (h_keeper : ∀ (I : WI) (F : WF) (J : WI) (K : WF) (x1 : Int32) (x2 : Int32), Inv I F J K → ∃ (a : Int32) (b : Int32 × WI), f_X10_keeper x1 x2 I F = some a ∧ f_X11_keeper x1 x2 J K = some b ∧ a = b.1 ∧ Inv I F b.2 K)
 (h_jumper : ∀ (I : WI) (F : WF) (J : WI) (K : WF) (x1 : Int32) (x2 : Int32), Inv I F J K → ∃ (a : Int32) (b : Int32 × WI), f_X10_jumper x1 x2 I F = some a ∧ f_X11_jumper x1 x2 J K = some b ∧ a = b.1 ∧ Inv I F b.2 K)
 (h_flight : ∀ (I : WI) (F : WF) (J : WI) (K : WF) (x1 : Int32) (x2 : Int32), Inv I F J K → ∃ (a : Int32) (b : Int32 × WI), f_X10_flight x1 x2 I F = some a ∧ f_X11_flight x1 x2 J K = some b ∧ a = b.1 ∧ Inv I F b.2 K)
 (h_roll : ∀ (I : WI) (F : WF) (J : WI) (K : WF) (x1 : Int32) (x2 : Int32), Inv I F J K → ∃ (a : Int32) (b : Int32 × WI), f_X10_roll x1 x2 I F = some a ∧ f_X11_roll x1 x2 J K = some b ∧ a = b.1 ∧ Inv I F b.2 K)
 (h_leap : ∀ (I : WI) (F : WF) (J : WI) (K : WF) (x1 : Int32) (x2 : Int32), Inv I F J K → ∃ (a : Int32 × WI × WF) (b : Int32 × WI × WF), f_X10_leap x1 x2 I F = some a ∧ f_X11_leap x1 x2 J K = some b ∧ a.1 = b.1 ∧ Inv a.2.1 a.2.2 b.2.1 b.2.2)
 (h_post : ∀ (I : WI) (F : WF) (J : WI) (K : WF) (x1 : Int32) (x2 : Int32), Inv I F J K → ∃ (a : Int32 × WI × WF) (b : Int32 × WI × WF), f_X10_post x1 x2 I F = some a ∧ f_X11_post x1 x2 J K = some b ∧ a.1 = b.1 ∧ Inv a.2.1 a.2.2 b.2.1 b.2.2)
 (h_rest : ∀ (I : WI) (F : WF) (J : WI) (K : WF) (x1 : Int32), Inv I F J K → ∃ (a : Int32 × WI × WF) (b : Int32 × WI × WF), f_X10_rest x1 I F = some a ∧ f_X11_rest x1 J K = some b ∧ a.1 = b.1 ∧ Inv a.2.1 a.2.2 b.2.1 b.2.2)
 (h_train : ∀ (I : WI) (F : WF) (J : WI) (K : WF) (x1 : Int32), Inv I F J K → ∃ (a : Int32 × WI × WF) (b : Int32 × WI × WF), f_X10_train x1 I F = some a ∧ f_X11_train x1 J K = some b ∧ a.1 = b.1 ∧ Inv a.2.1 a.2.2 b.2.1 b.2.2)
 (h_talk : ∀ (I : WI) (F : WF) (J : WI) (K : WF) (x1 : Int32) (x2 : Int32), Inv I F J K → ∃ (a : Int32 × WI × WF) (b : Int32 × WI × WF), f_X10_talk x1 x2 I F = some a ∧ f_X11_talk x1 x2 J K = some b ∧ a.1 = b.1 ∧ Inv a.2.1 a.2.2 b.2.1 b.2.2)
 (h_hour : ∀ (I : WI) (F : WF) (J : WI) (K : WF) (x1 : Int32), Inv I F J K → ∃ (a : Int32 × WI × WF) (b : Int32 × WI × WF), f_X10_hour x1 I F = some a ∧ f_X11_hour x1 J K = some b ∧ a.1 = b.1 ∧ Inv a.2.1 a.2.2 b.2.1 b.2.2)
 (h_drift : ∀ (I : WI) (F : WF) (J : WI) (K : WF) (x1 : Int32), Inv I F J K → ∃ (a : Int32 × WI × WF) (b : Int32 × WI × WF), f_X10_drift x1 I F = some a ∧ f_X11_drift x1 J K = some b ∧ a.1 = b.1 ∧ Inv a.2.1 a.2.2 b.2.1 b.2.2)
 (h_undo : ∀ (I : WI) (F : WF) (J : WI) (K : WF), Inv I F J K → ∃ (a : Int32 × WI × WF) (b : Int32 × WI × WF), f_X10_undo  I F = some a ∧ f_X11_undo  J K = some b ∧ a.1 = b.1 ∧ Inv a.2.1 a.2.2 b.2.1 b.2.2)
 (h_way : ∀ (I : WI) (F : WF) (J : WI) (K : WF) (x1 : Int32) (x2 : Int32) (x3 : Int32), Inv I F J K → ∃ (a : Int32 × WF) (b : Int32 × WI × WF), f_X10_way x1 x2 x3 I F = some a ∧ f_X11_way x1 x2 x3 J K = some b ∧ a.1 = b.1 ∧ Inv I a.2 b.2.1 b.2.2)
 (h_safest : ∀ (I : WI) (F : WF) (J : WI) (K : WF) (x1 : Int32) (x2 : Int32) (x3 : Int32), Inv I F J K → ∃ (a : Int32 × WI) (b : Int32 × WI × WF), f_X10_safest x1 x2 x3 I F = some a ∧ f_X11_safest x1 x2 x3 J K = some b ∧ a.1 = b.1 ∧ Inv a.2 F b.2.1 b.2.2)
 (h_posts : ∀ (I : WI) (F : WF) (J : WI) (K : WF) (x1 : Int32) (x2 : Int32), Inv I F J K → ∃ (a : Int32 × WI × WF) (b : Int32 × WI × WF), f_X10_posts x1 x2 I F = some a ∧ f_X11_posts x1 x2 J K = some b ∧ a.1 = b.1 ∧ Inv a.2.1 a.2.2 b.2.1 b.2.2)
 (h_tires : ∀ (I : WI) (F : WF) (J : WI) (K : WF) (x1 : Int32) (x2 : Int32), Inv I F J K → ∃ (a : Int32) (b : Int32 × WI), f_X10_tires x1 x2 I F = some a ∧ f_X11_tires x1 x2 J K = some b ∧ a = b.1 ∧ Inv I F b.2 K)
 (h_parted : ∀ (I : WI) (F : WF) (J : WI) (K : WF) (x1 : Int32) (x2 : Int32), Inv I F J K → ∃ (a : Int32 × WF) (b : Int32 × WI × WF), f_X10_parted x1 x2 I F = some a ∧ f_X11_parted x1 x2 J K = some b ∧ a.1 = b.1 ∧ Inv I a.2 b.2.1 b.2.2)
 (h_pays : ∀ (I : WI) (F : WF) (J : WI) (K : WF) (x1 : Int32) (x2 : Int32), Inv I F J K → ∃ (a : Int32) (b : Int32 × WI), f_X10_pays x1 x2 = some a ∧ f_X11_pays x1 x2 J K = some b ∧ a = b.1 ∧ Inv I F b.2 K)
 (h_exact : ∀ (I : WI) (F : WF) (J : WI) (K : WF) (x1 : Int32) (x2 : Int32), Inv I F J K → ∃ (a : Int32) (b : Int32 × WI), f_X10_exact x1 x2 = some a ∧ f_X11_exact x1 x2 J K = some b ∧ a = b.1 ∧ Inv I F b.2 K)
 (h_see : ∀ (I : WI) (F : WF) (J : WI) (K : WF) (x1 : Int32) (x2 : Int32), Inv I F J K → (x2 = 0 ∨ x2 = 1) → ∃ (a : Int32 × WI) (b : Int32 × WI × WF), f_X10_see x1 x2 I F = some a ∧ f_X11_see x1 x2 J K = some b ∧ a.1 = b.1 ∧ Inv a.2 F b.2.1 b.2.2)
 (h_quick : ∀ (I : WI) (F : WF) (J : WI) (K : WF) (x1 : Int32), Inv I F J K → ∃ (a : Int32) (b : Int32 × WI), f_X10_quick x1 I F = some a ∧ f_X11_quick x1 J K = some b ∧ a = b.1 ∧ Inv I F b.2 K)
 (h_watch : ∀ (I : WI) (F : WF) (J : WI) (K : WF), Inv I F J K → ∃ (a : Int32) (b : Int32 × WI), f_X10_watch  I F = some a ∧ f_X11_watch  J K = some b ∧ a = b.1 ∧ Inv I F b.2 K)
 (h_write : ∀ (I : WI) (F : WF) (J : WI) (K : WF) (x1 : Int32) (x2 : Int32), Inv I F J K → ∃ (a : Int32 × WI × WF) (b : Int32 × WI × WF), f_X10_write x1 x2 I F = some a ∧ f_X11_write x1 x2 J K = some b ∧ a.1 = b.1 ∧ Inv a.2.1 a.2.2 b.2.1 b.2.2)
 (h_tear : ∀ (I : WI) (F : WF) (J : WI) (K : WF), Inv I F J K → ∃ (a : Int32 × WI) (b : Int32 × WI), f_X10_tear  I F = some a ∧ f_X11_tear  J K = some b ∧ a.1 = b.1 ∧ Inv a.2 F b.2 K)
 (h_judge : ∀ (I : WI) (F : WF) (J : WI) (K : WF), Inv I F J K → ∃ (a : Int32) (b : Int32 × WI), f_X10_judge  I F = some a ∧ f_X11_judge  J K = some b ∧ a = b.1 ∧ Inv I F b.2 K)
 (h_seed : ∀ (I : WI) (F : WF) (J : WI) (K : WF) (x1 : Int32), Inv I F J K → ∃ (a : Int32 × WI) (b : Int32 × WI × WF), f_X10_seed x1 I F = some a ∧ f_X11_seed x1 J K = some b ∧ a.1 = b.1 ∧ Inv a.2 F b.2.1 b.2.2)
 (h_keep : ∀ (I : WI) (F : WF) (J : WI) (K : WF) (x1 : Int32), Inv I F J K → ∃ (a : Int32 × WI × WF) (b : Int32 × WI × WF), f_X10_keep x1 I F = some a ∧ f_X11_keep x1 J K = some b ∧ a.1 = b.1 ∧ Inv a.2.1 a.2.2 b.2.1 b.2.2)
 (h_goBack : ∀ (I : WI) (F : WF) (J : WI) (K : WF) (x1 : Int32), Inv I F J K → ∃ (a : Int32 × WI × WF) (b : Int32 × WI × WF), f_X10_goBack x1 I F = some a ∧ f_X11_goBack x1 J K = some b ∧ a.1 = b.1 ∧ Inv a.2.1 a.2.2 b.2.1 b.2.2)
 {X : XT} {sb L : Nat} {xs : Nat → Int32} (hL : L ≤ 2048) : ∀ (n j : Nat) (x3 : Int32), x3 = nI j → j < 2 ^ 31 → L ≤ j + n → ∀ (I : WI) (F : WF) (J : WI) (K : WF), Inv I F J K → GL X sb L xs 226 10225 18 [(0, .ref sb), (1, .ref (X.2.1 + 0)), (2, .ref (X.2.1 + 209)), (3, .int x3)] [] (mkW I F J K) := by
  intro n
  induction n with
  | zero =>
    intro j x3 ex3 hjb hn I F J K hI
    exact lc_head hL ex3 hjb (fun h => absurd h (by omega))
  | succ n ih =>
    intro j x3 ex3 hjb hn I F J K hI
    refine lc_head hL ex3 hjb (fun hj => ?_)
    have hv0 : vp_in x3 L := by rw [ex3]; exact vp_in_nI (by omega) (by omega)
    have hv1 : vp_in (x3 + 1) L := by rw [ex3, show nI j + 1 = nI (j + 1) from nI_add j 1]; exact vp_in_nI (by omega) (by omega)
    have hv2 : vp_in (x3 + 2) L := by rw [ex3, show nI j + 2 = nI (j + 2) from nI_add j 2]; exact vp_in_nI (by omega) (by omega)
    have hv3 : vp_in (x3 + 3) L := by rw [ex3, show nI j + 3 = nI (j + 3) from nI_add j 3]; exact vp_in_nI (by omega) (by omega)
    refine L_aload_n (pc2 := 27) 0 rfl dL_law_26 rfl rfl ?_
    refine L_iload_n (pc2 := 28) 3 rfl dL_law_27 rfl rfl ?_
    refine L_sld (pc2 := 29) hv0 rfl dL_law_28 rfl ?_
    refine L_bipush (pc2 := 31) dL_law_29 ib_63 rfl ?_
    refine L_iand (pc2 := 32) dL_law_31 rfl ?_
    generalize xs x3.toNatClampNeg &&& (63 : Int32) = op
    by_cases q0 : op = 0
    · refine L_tabIn (tgt := 180) (off := 148) (0 : Int32) q0 dL_law_32 (by decide) (by decide) (by decide) (by decide) ?_
      exact lc_feed h_feed ih ex3 hj hL hn hv1 rfl hI
    by_cases q1 : op = 1
    · refine L_tabIn (tgt := 203) (off := 171) (1 : Int32) q1 dL_law_32 (by decide) (by decide) (by decide) (by decide) ?_
      exact lc_town h_town ih ex3 hj hL hn hI
    by_cases q2 : op = 2
    · refine L_tabIn (tgt := 216) (off := 184) (2 : Int32) q2 dL_law_32 (by decide) (by decide) (by decide) (by decide) ?_
      exact lc_fault h_fault ih ex3 hj hL hn hI
    by_cases q3 : op = 3
    · refine L_tabIn (tgt := 229) (off := 197) (3 : Int32) q3 dL_law_32 (by decide) (by decide) (by decide) (by decide) ?_
      exact lc_told h_told ih ex3 hj hL hn hv1 rfl hI
    by_cases q4 : op = 4
    · refine L_tabIn (tgt := 252) (off := 220) (4 : Int32) q4 dL_law_32 (by decide) (by decide) (by decide) (by decide) ?_
      exact lc_bridge h_bridge ih ex3 hj hL hn hv1 rfl hv2 rfl hI
    by_cases q5 : op = 5
    · refine L_tabIn (tgt := 285) (off := 253) (5 : Int32) q5 dL_law_32 (by decide) (by decide) (by decide) (by decide) ?_
      exact lc_keeper h_keeper ih ex3 hj hL hn hv1 rfl hv2 rfl hI
    by_cases q6 : op = 6
    · refine L_tabIn (tgt := 318) (off := 286) (6 : Int32) q6 dL_law_32 (by decide) (by decide) (by decide) (by decide) ?_
      exact lc_jumper h_jumper ih ex3 hj hL hn hv1 rfl hv2 rfl hI
    by_cases q7 : op = 7
    · refine L_tabIn (tgt := 351) (off := 319) (7 : Int32) q7 dL_law_32 (by decide) (by decide) (by decide) (by decide) ?_
      exact lc_flight h_flight ih ex3 hj hL hn hv1 rfl hv2 rfl hI
    by_cases q8 : op = 8
    · refine L_tabIn (tgt := 384) (off := 352) (8 : Int32) q8 dL_law_32 (by decide) (by decide) (by decide) (by decide) ?_
      exact lc_roll h_roll ih ex3 hj hL hn hv1 rfl hv2 rfl hI
    by_cases q9 : op = 9
    · refine L_tabIn (tgt := 417) (off := 385) (9 : Int32) q9 dL_law_32 (by decide) (by decide) (by decide) (by decide) ?_
      exact lc_leap h_leap ih ex3 hj hL hn hv1 rfl hv2 rfl hI
    by_cases q10 : op = 10
    · refine L_tabIn (tgt := 450) (off := 418) (10 : Int32) q10 dL_law_32 (by decide) (by decide) (by decide) (by decide) ?_
      exact lc_post h_post ih ex3 hj hL hn hv1 rfl hv2 rfl hI
    by_cases q11 : op = 11
    · refine L_tabIn (tgt := 483) (off := 451) (11 : Int32) q11 dL_law_32 (by decide) (by decide) (by decide) (by decide) ?_
      exact lc_rest h_rest ih ex3 hj hL hn hv1 rfl hI
    by_cases q12 : op = 12
    · refine L_tabIn (tgt := 506) (off := 474) (12 : Int32) q12 dL_law_32 (by decide) (by decide) (by decide) (by decide) ?_
      exact lc_train h_train ih ex3 hj hL hn hv1 rfl hI
    by_cases q13 : op = 13
    · refine L_tabIn (tgt := 529) (off := 497) (13 : Int32) q13 dL_law_32 (by decide) (by decide) (by decide) (by decide) ?_
      exact lc_talk h_talk ih ex3 hj hL hn hv1 rfl hv2 rfl hI
    by_cases q14 : op = 14
    · refine L_tabIn (tgt := 562) (off := 530) (14 : Int32) q14 dL_law_32 (by decide) (by decide) (by decide) (by decide) ?_
      exact lc_hour h_hour ih ex3 hj hL hn hv1 rfl hI
    by_cases q15 : op = 15
    · refine L_tabIn (tgt := 585) (off := 553) (15 : Int32) q15 dL_law_32 (by decide) (by decide) (by decide) (by decide) ?_
      exact lc_drift h_drift ih ex3 hj hL hn hv1 rfl hI
    by_cases q16 : op = 16
    · refine L_tabIn (tgt := 608) (off := 576) (16 : Int32) q16 dL_law_32 (by decide) (by decide) (by decide) (by decide) ?_
      exact lc_undo h_undo ih ex3 hj hL hn hI
    by_cases q17 : op = 17
    · refine L_tabIn (tgt := 621) (off := 589) (17 : Int32) q17 dL_law_32 (by decide) (by decide) (by decide) (by decide) ?_
      exact lc_way h_way ih ex3 hj hL hn hv1 rfl hv2 rfl hv3 rfl hI
    by_cases q18 : op = 18
    · refine L_tabIn (tgt := 664) (off := 632) (18 : Int32) q18 dL_law_32 (by decide) (by decide) (by decide) (by decide) ?_
      exact lc_safest h_safest ih ex3 hj hL hn hv1 rfl hv2 rfl hv3 rfl hI
    by_cases q19 : op = 19
    · refine L_tabIn (tgt := 707) (off := 675) (19 : Int32) q19 dL_law_32 (by decide) (by decide) (by decide) (by decide) ?_
      exact lc_posts h_posts ih ex3 hj hL hn hv1 rfl hv2 rfl hI
    by_cases q20 : op = 20
    · refine L_tabIn (tgt := 740) (off := 708) (20 : Int32) q20 dL_law_32 (by decide) (by decide) (by decide) (by decide) ?_
      exact lc_tires h_tires ih ex3 hj hL hn hv1 rfl hv2 rfl hI
    by_cases q21 : op = 21
    · refine L_tabIn (tgt := 773) (off := 741) (21 : Int32) q21 dL_law_32 (by decide) (by decide) (by decide) (by decide) ?_
      exact lc_parted h_parted ih ex3 hj hL hn hv1 rfl hv2 rfl hI
    by_cases q22 : op = 22
    · refine L_tabIn (tgt := 806) (off := 774) (22 : Int32) q22 dL_law_32 (by decide) (by decide) (by decide) (by decide) ?_
      exact lc_pays h_pays ih ex3 hj hL hn hv1 rfl hv2 rfl hI
    by_cases q23 : op = 23
    · refine L_tabIn (tgt := 839) (off := 807) (23 : Int32) q23 dL_law_32 (by decide) (by decide) (by decide) (by decide) ?_
      exact lc_exact h_exact ih ex3 hj hL hn hv1 rfl hv2 rfl hI
    by_cases q24 : op = 24
    · refine L_tabIn (tgt := 872) (off := 840) (24 : Int32) q24 dL_law_32 (by decide) (by decide) (by decide) (by decide) ?_
      exact lc_see h_see ih ex3 hj hL hn hv1 rfl hv2 rfl hI
    by_cases q25 : op = 25
    · refine L_tabIn (tgt := 921) (off := 889) (25 : Int32) q25 dL_law_32 (by decide) (by decide) (by decide) (by decide) ?_
      exact lc_quick h_quick ih ex3 hj hL hn hv1 rfl hI
    by_cases q26 : op = 26
    · refine L_tabIn (tgt := 944) (off := 912) (26 : Int32) q26 dL_law_32 (by decide) (by decide) (by decide) (by decide) ?_
      exact lc_watch h_watch ih ex3 hj hL hn hI
    by_cases q27 : op = 27
    · refine L_tabIn (tgt := 957) (off := 925) (27 : Int32) q27 dL_law_32 (by decide) (by decide) (by decide) (by decide) ?_
      exact lc_write h_write ih ex3 hj hL hn hv1 rfl hv2 rfl hI
    by_cases q28 : op = 28
    · refine L_tabIn (tgt := 990) (off := 958) (28 : Int32) q28 dL_law_32 (by decide) (by decide) (by decide) (by decide) ?_
      exact lc_tear h_tear ih ex3 hj hL hn hI
    by_cases q29 : op = 29
    · refine L_tabIn (tgt := 1003) (off := 971) (29 : Int32) q29 dL_law_32 (by decide) (by decide) (by decide) (by decide) ?_
      exact lc_judge h_judge ih ex3 hj hL hn hI
    by_cases q30 : op = 30
    · refine L_tabIn (tgt := 1016) (off := 984) (30 : Int32) q30 dL_law_32 (by decide) (by decide) (by decide) (by decide) ?_
      exact lc_seed h_seed ih ex3 hj hL hn hv1 rfl hI
    by_cases q31 : op = 31
    · refine L_tabIn (tgt := 1039) (off := 1007) (31 : Int32) q31 dL_law_32 (by decide) (by decide) (by decide) (by decide) ?_
      exact lc_keep h_keep ih ex3 hj hL hn hv1 rfl hI
    by_cases q32 : op = 32
    · refine L_tabIn (tgt := 1062) (off := 1030) (32 : Int32) q32 dL_law_32 (by decide) (by decide) (by decide) (by decide) ?_
      exact lc_goBack h_goBack ih ex3 hj hL hn hv1 rfl hI
    refine L_tabOut (tgt := 1085) dL_law_32 (tab_out _ 0 32 (by decide) (fun j z1 z2 => by match j, z1, z2 with | 0, _, _ => exact q0 | 1, _, _ => exact q1 | 2, _, _ => exact q2 | 3, _, _ => exact q3 | 4, _, _ => exact q4 | 5, _, _ => exact q5 | 6, _, _ => exact q6 | 7, _, _ => exact q7 | 8, _, _ => exact q8 | 9, _, _ => exact q9 | 10, _, _ => exact q10 | 11, _, _ => exact q11 | 12, _, _ => exact q12 | 13, _, _ => exact q13 | 14, _, _ => exact q14 | 15, _, _ => exact q15 | 16, _, _ => exact q16 | 17, _, _ => exact q17 | 18, _, _ => exact q18 | 19, _, _ => exact q19 | 20, _, _ => exact q20 | 21, _, _ => exact q21 | 22, _, _ => exact q22 | 23, _, _ => exact q23 | 24, _, _ => exact q24 | 25, _, _ => exact q25 | 26, _, _ => exact q26 | 27, _, _ => exact q27 | 28, _, _ => exact q28 | 29, _, _ => exact q29 | 30, _, _ => exact q30 | 31, _, _ => exact q31 | 32, _, _ => exact q32 | (j + 33), _, z => exact absurd z (by omega))) (by decide) ?_
    exact lc_default ih ex3 hj hL hn hI
