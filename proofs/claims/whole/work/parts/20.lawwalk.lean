/-! the law's own walk, from where both objects stand -/
abbrev mL_law : Mi := (RL, cL_law, 4, some .boolean)
/-- the script: an int array that is nobody's cell (id 96) -/
def am_Sc (G : Cx) (K : Kx) (L : Nat) (xs : Nat → Int32) : Prop := match K with
  | (_, _, R, s, _, args, _, _, _, cells, slots) => va_X (am_ad G 96) L xs s s.heap ∧ am_ad G 96 < s.heap.size ∧ ¬ am_A G (am_ad G 96) ∧ R = room_1 ∧ args = #[Value.ref (am_ad G 96)] ∧ L ≤ 320 ∧ cells ≤ 600000 ∧ slots ≤ 7302250 ∧ s.heap.size ≤ G.2.2.2.2
def am_Z (K : Kx) : State → Prop := match K with
  | (_, _, _, s, _, args, below, _, _, _, _) => lw_Z below args s
def am_Wl (G : Cx) (L : Nat) (xs : Nat → Int32) (r : Int32 × Sg) (pc : Nat) (ls : List (Option Value)) (st : List Value) (σ : Sg) : Prop := ∀ K : Kx, (r.1 = 1 ∧ am_Sc G K L xs) → am_X G mL_law 2000 K → am_W G K (am_Z K) pc ls st σ
section AML
variable {G : Cx} {d : Nat} {K : Kx} {Qe : State → Prop} {pc : Nat} {ls : List (Option Value)} {st : List Value} {σ : Sg} {L : Nat} {xs : Nat → Int32}
theorem am_scr_ald (X : am_X G mL_law d K) (hs : am_Sc G K L xs) {i : Int32} (hd : decode cL_law pc = .ok (.iaload, 1)) (hi : inb i L = true) (kk : am_W G K Qe (pc + 1) ls (.int (xs i.toNatClampNeg) :: st) σ) : am_W G K Qe pc ls (.int i :: .ref 96 :: st) σ := by
  obtain ⟨p, e, R, s, m, sa, below, meth, c, cells, slots⟩ := K
  intro H locs lsC hS hP hL
  exact va_sld X.1 X.2.1 hs.1 hs.2.1 hs.2.2.1 hS (inb_in hi) hd (kk H locs lsC hS hP hL)
theorem am_scr_alen (X : am_X G mL_law d K) (hs : am_Sc G K L xs) (hd : decode cL_law pc = .ok (.arraylength, 1)) (kk : am_W G K Qe (pc + 1) ls (.int (nI L) :: st) σ) : am_W G K Qe pc ls (.ref 96 :: st) σ := by
  obtain ⟨p, e, R, s, m, sa, below, meth, c, cells, slots⟩ := K
  intro H locs lsC hS hP hL
  exact va_slen X.1 X.2.1 hs.1 hs.2.1 hs.2.2.1 hS hd (kk H locs lsC hS hP hL)
theorem am_law1 (X : am_X G mL_law d K) (hs : am_Sc G K L xs) (hd : decode cL_law pc = .ok (.ireturn, 1)) : am_W G K (am_Z K) pc ls [.int 1] σ := by
  obtain ⟨p, e, R, s, m, sa, below, meth, c, cells, slots⟩ := K
  intro H locs lsC hS hP hL
  obtain ⟨h1, h2, h3, rfl, rfl, h6, h7, h8, h9⟩ := hs
  refine va_forget (fun q hq => Nat.le_trans h9 (hS.2.2 q hq)) ?_
  refine W.widen h7 h8 ?_
  exact lw_ret X.1 X.2.1 X.2.2.2.2.2.1 X.2.2.2.2.2.2.1 hd
end AML
set_option maxRecDepth 100000 in
set_option maxHeartbeats 4000000 in
theorem t_L_law_948 {G : Cx} (hG : am_G G) (N : Nat) (L : Nat) (xs : Nat → Int32) (k18 : Int32 → Sg → Option (Int32 × Sg)) (hk18 : ∀ (x3 : Int32) (σ : Sg) (r : Int32 × Sg), k18 x3 σ = some r → am_Wl G L xs r 18 [some (.ref 96), some (.ref 0), some (.ref 60), some (.int x3)] [] σ) (x3 : Int32) (σ : Sg) (r : Int32 × Sg) (h : b_L_law_948 N L xs k18 x3 σ = some r) : am_Wl G L xs r 948 [some (.ref 96), some (.ref 0), some (.ref 60), some (.int x3)] [] σ := by
  intro K h0 X
  unfold b_L_law_948 at h
  refine am_iinc (ls' := fun x3_948 => [some (.ref 96), some (.ref 0), some (.ref 60), some (.int x3_948)]) X dL_law_948 rfl h (by decide) (by decide) rfl (fun _ => rfl) (fun x3_948 h => ?_)
  refine am_goto (tgt := 18) X dL_law_951 (by decide) ?_
  exact am_jump (hk18 _ _ _ h K h0 X) rfl ⟨rfl, rfl, rfl, rfl, trivial⟩
set_option maxRecDepth 100000 in
set_option maxHeartbeats 4000000 in
theorem t_L_law_295 {G : Cx} (hG : am_G G) (N : Nat) (L : Nat) (xs : Nat → Int32) (k18 : Int32 → Sg → Option (Int32 × Sg)) (hk18 : ∀ (x3 : Int32) (σ : Sg) (r : Int32 × Sg), k18 x3 σ = some r → am_Wl G L xs r 18 [some (.ref 96), some (.ref 0), some (.ref 60), some (.int x3)] [] σ) (x3 : Int32) (s0 : Int32) (s2 : Int32) (s3 : Int32) (s4 : Int32) (σ : Sg) (r : Int32 × Sg) (h : b_L_law_295 N L xs k18 x3 s0 s2 s3 s4 σ = some r) : am_Wl G L xs r 295 [some (.ref 96), some (.ref 0), some (.ref 60), some (.int x3)] [.int s4, .int s3, .int s2, .ref 60, .int s0] σ := by
  intro K h0 X
  unfold b_L_law_295 at h
  obtain ⟨v295, σ295, hc, h⟩ := bd2_some h
  refine am_callv_i3 X dL_law_295 cw_L_36 (ct_X7_lead hG N _ _ _ _ _ hc) (Nat.le_of_ble_eq_true rfl) rfl rfl rfl rfl (Nat.le_of_ble_eq_true rfl) ?_
  refine am_icmp_eq (tgt := 948) X dL_law_298 (by decide) (fun c => ?_) (fun c => ?_)
  · have h := if_t h c
    exact am_jump (t_L_law_948 hG N L xs k18 hk18 _ _ _ h K h0 X) rfl ⟨rfl, rfl, rfl, rfl, trivial⟩
  · have h := if_f h c
    refine am_iconst (v := (0 : Int32)) X dL_law_301 (by decide) ?_
    obtain rfl := Option.some.inj h
    exact absurd h0.1 (show ¬ (0 : Int32) = 1 by decide)
set_option maxRecDepth 100000 in
set_option maxHeartbeats 4000000 in
theorem t_L_law_268 {G : Cx} (hG : am_G G) (N : Nat) (L : Nat) (xs : Nat → Int32) (k18 : Int32 → Sg → Option (Int32 × Sg)) (hk18 : ∀ (x3 : Int32) (σ : Sg) (r : Int32 × Sg), k18 x3 σ = some r → am_Wl G L xs r 18 [some (.ref 96), some (.ref 0), some (.ref 60), some (.int x3)] [] σ) (x3 : Int32) (s1 : Int32) (s2 : Int32) (s3 : Int32) (σ : Sg) (r : Int32 × Sg) (h : b_L_law_268 N L xs k18 x3 s1 s2 s3 σ = some r) : am_Wl G L xs r 268 [some (.ref 96), some (.ref 0), some (.ref 60), some (.int x3)] [.int s3, .int s2, .int s1, .ref 0] σ := by
  intro K h0 X
  unfold b_L_law_268 at h
  obtain ⟨v268, σ268, hc, h⟩ := bd2_some h
  refine am_callv_i3 X dL_law_268 cw_L_32 (ct_X6_lead hG N _ _ _ _ _ hc) (Nat.le_of_ble_eq_true rfl) rfl rfl rfl rfl (Nat.le_of_ble_eq_true rfl) ?_
  refine am_aload_n X dL_law_271 rfl rfl ?_
  refine am_aload_n X dL_law_272 rfl rfl ?_
  refine am_iload_n X dL_law_273 rfl rfl ?_
  refine am_iconst (v := (1 : Int32)) X dL_law_274 (by decide) ?_
  refine am_iadd X dL_law_275 ?_
  obtain ⟨g, h⟩ := gd_some h
  refine am_scr_ald X h0.2 dL_law_276 g ?_
  refine am_aload_n X dL_law_277 rfl rfl ?_
  refine am_iload_n X dL_law_278 rfl rfl ?_
  refine am_iconst (v := (2 : Int32)) X dL_law_279 (by decide) ?_
  refine am_iadd X dL_law_280 ?_
  obtain ⟨g, h⟩ := gd_some h
  refine am_scr_ald X h0.2 dL_law_281 g ?_
  refine am_aload_n X dL_law_282 rfl rfl ?_
  refine am_iload_n X dL_law_283 rfl rfl ?_
  refine am_iconst (v := (3 : Int32)) X dL_law_284 (by decide) ?_
  refine am_iadd X dL_law_285 ?_
  obtain ⟨g, h⟩ := gd_some h
  refine am_scr_ald X h0.2 dL_law_286 g ?_
  refine am_if_eq (tgt := 294) X dL_law_287 (by decide) (fun c => ?_) (fun c => ?_)
  · have h := if_t h c
    refine am_iconst (v := (0 : Int32)) X dL_law_294 (by decide) ?_
    exact am_jump (t_L_law_295 hG N L xs k18 hk18 _ _ _ _ _ _ _ h K h0 X) rfl ⟨rfl, rfl, rfl, rfl, trivial⟩
  · have h := if_f h c
    refine am_iconst (v := (1 : Int32)) X dL_law_290 (by decide) ?_
    refine am_goto (tgt := 295) X dL_law_291 (by decide) ?_
    exact am_jump (t_L_law_295 hG N L xs k18 hk18 _ _ _ _ _ _ _ h K h0 X) rfl ⟨rfl, rfl, rfl, rfl, trivial⟩
set_option maxRecDepth 100000 in
set_option maxHeartbeats 4000000 in
theorem t_L_law_18b {G : Cx} (hG : am_G G) (N : Nat) (L : Nat) (xs : Nat → Int32) (k18 : Int32 → Sg → Option (Int32 × Sg)) (hk18 : ∀ (x3 : Int32) (σ : Sg) (r : Int32 × Sg), k18 x3 σ = some r → am_Wl G L xs r 18 [some (.ref 96), some (.ref 0), some (.ref 60), some (.int x3)] [] σ) (x3 : Int32) (σ : Sg) (r : Int32 × Sg) (h : b_L_law_18b N L xs k18 x3 σ = some r) : am_Wl G L xs r 18 [some (.ref 96), some (.ref 0), some (.ref 60), some (.int x3)] [] σ := by
  intro K h0 X
  unfold b_L_law_18b at h
  refine am_iload_n X dL_law_18 rfl rfl ?_
  refine am_aload_n X dL_law_19 rfl rfl ?_
  refine am_scr_alen X h0.2 dL_law_20 ?_
  refine am_iconst (v := (5 : Int32)) X dL_law_21 (by decide) ?_
  refine am_isub X dL_law_22 ?_
  refine am_icmp_gt (tgt := 954) X dL_law_23 (by decide) (fun c => ?_) (fun c => ?_)
  · have h := if_t h c
    refine am_iconst (v := (1 : Int32)) X dL_law_954 (by decide) ?_
    exact am_law1 X h0.2 dL_law_955
  · have h := if_f h c
    refine am_aload_n X dL_law_26 rfl rfl ?_
    refine am_iload_n X dL_law_27 rfl rfl ?_
    obtain ⟨g, h⟩ := gd_some h
    refine am_scr_ald X h0.2 dL_law_28 g ?_
    refine am_bipush (v := (31 : Int32)) X dL_law_29 (by decide) ?_
    refine am_iand X dL_law_31 ?_
    by_cases c0 : ((xs x3.toNatClampNeg) &&& (31 : Int32)) = (0 : Int32)
    · have h := if_t h c0
      refine am_tabIn (tgt := 152) X dL_law_32 c0 (by decide) (by decide) rfl (by decide) ?_
      refine am_aload_n X dL_law_152 rfl rfl ?_
      refine am_aload_n X dL_law_153 rfl rfl ?_
      refine am_iload_n X dL_law_154 rfl rfl ?_
      refine am_iconst (v := (1 : Int32)) X dL_law_155 (by decide) ?_
      refine am_iadd X dL_law_156 ?_
      obtain ⟨g, h⟩ := gd_some h
      refine am_scr_ald X h0.2 dL_law_157 g ?_
      obtain ⟨v158, σ158, hc, h⟩ := bd2_some h
      refine am_callv_i1 X dL_law_158 cw_L_13 (ct_X6_feed hG N _ _ _ hc) (Nat.le_of_ble_eq_true rfl) rfl rfl rfl rfl (Nat.le_of_ble_eq_true rfl) ?_
      refine am_aload_n X dL_law_161 rfl rfl ?_
      refine am_aload_n X dL_law_162 rfl rfl ?_
      refine am_iload_n X dL_law_163 rfl rfl ?_
      refine am_iconst (v := (1 : Int32)) X dL_law_164 (by decide) ?_
      refine am_iadd X dL_law_165 ?_
      obtain ⟨g, h⟩ := gd_some h
      refine am_scr_ald X h0.2 dL_law_166 g ?_
      obtain ⟨v167, σ167, hc, h⟩ := bd2_some h
      refine am_callv_i1 X dL_law_167 cw_L_17 (ct_X7_feed hG N _ _ _ hc) (Nat.le_of_ble_eq_true rfl) rfl rfl rfl rfl (Nat.le_of_ble_eq_true rfl) ?_
      refine am_icmp_eq (tgt := 948) X dL_law_170 (by decide) (fun c => ?_) (fun c => ?_)
      · have h := if_t h c
        exact am_jump (t_L_law_948 hG N L xs k18 hk18 _ _ _ h K h0 X) rfl ⟨rfl, rfl, rfl, rfl, trivial⟩
      · have h := if_f h c
        refine am_iconst (v := (0 : Int32)) X dL_law_173 (by decide) ?_
        obtain rfl := Option.some.inj h
        exact absurd h0.1 (show ¬ (0 : Int32) = 1 by decide)
    have h := if_f h c0
    by_cases c1 : ((xs x3.toNatClampNeg) &&& (31 : Int32)) = (1 : Int32)
    · have h := if_t h c1
      refine am_tabIn (tgt := 175) X dL_law_32 c1 (by decide) (by decide) rfl (by decide) ?_
      refine am_aload_n X dL_law_175 rfl rfl ?_
      obtain ⟨v176, σ176, hc, h⟩ := bd2_some h
      refine am_callv_i0 X dL_law_176 cw_L_18 (ct_X6_town hG N _ _ hc) (Nat.le_of_ble_eq_true rfl) rfl rfl rfl rfl (Nat.le_of_ble_eq_true rfl) ?_
      refine am_aload_n X dL_law_179 rfl rfl ?_
      obtain ⟨v180, σ180, hc, h⟩ := bd2_some h
      refine am_callv_i0 X dL_law_180 cw_L_22 (ct_X7_town hG N _ _ hc) (Nat.le_of_ble_eq_true rfl) rfl rfl rfl rfl (Nat.le_of_ble_eq_true rfl) ?_
      refine am_icmp_eq (tgt := 948) X dL_law_183 (by decide) (fun c => ?_) (fun c => ?_)
      · have h := if_t h c
        exact am_jump (t_L_law_948 hG N L xs k18 hk18 _ _ _ h K h0 X) rfl ⟨rfl, rfl, rfl, rfl, trivial⟩
      · have h := if_f h c
        refine am_iconst (v := (0 : Int32)) X dL_law_186 (by decide) ?_
        obtain rfl := Option.some.inj h
        exact absurd h0.1 (show ¬ (0 : Int32) = 1 by decide)
    have h := if_f h c1
    by_cases c2 : ((xs x3.toNatClampNeg) &&& (31 : Int32)) = (2 : Int32)
    · have h := if_t h c2
      refine am_tabIn (tgt := 188) X dL_law_32 c2 (by decide) (by decide) rfl (by decide) ?_
      refine am_aload_n X dL_law_188 rfl rfl ?_
      refine am_aload_n X dL_law_189 rfl rfl ?_
      refine am_iload_n X dL_law_190 rfl rfl ?_
      refine am_iconst (v := (1 : Int32)) X dL_law_191 (by decide) ?_
      refine am_iadd X dL_law_192 ?_
      obtain ⟨g, h⟩ := gd_some h
      refine am_scr_ald X h0.2 dL_law_193 g ?_
      obtain ⟨v194, σ194, hc, h⟩ := bd2_some h
      refine am_callv_i1 X dL_law_194 cw_L_23 (ct_X6_day hG N _ _ _ hc) (Nat.le_of_ble_eq_true rfl) rfl rfl rfl rfl (Nat.le_of_ble_eq_true rfl) ?_
      refine am_aload_n X dL_law_197 rfl rfl ?_
      refine am_aload_n X dL_law_198 rfl rfl ?_
      refine am_iload_n X dL_law_199 rfl rfl ?_
      refine am_iconst (v := (1 : Int32)) X dL_law_200 (by decide) ?_
      refine am_iadd X dL_law_201 ?_
      obtain ⟨g, h⟩ := gd_some h
      refine am_scr_ald X h0.2 dL_law_202 g ?_
      obtain ⟨v203, σ203, hc, h⟩ := bd2_some h
      refine am_callv_i1 X dL_law_203 cw_L_26 (ct_X7_day hG N _ _ _ hc) (Nat.le_of_ble_eq_true rfl) rfl rfl rfl rfl (Nat.le_of_ble_eq_true rfl) ?_
      refine am_icmp_eq (tgt := 948) X dL_law_206 (by decide) (fun c => ?_) (fun c => ?_)
      · have h := if_t h c
        exact am_jump (t_L_law_948 hG N L xs k18 hk18 _ _ _ h K h0 X) rfl ⟨rfl, rfl, rfl, rfl, trivial⟩
      · have h := if_f h c
        refine am_iconst (v := (0 : Int32)) X dL_law_209 (by decide) ?_
        obtain rfl := Option.some.inj h
        exact absurd h0.1 (show ¬ (0 : Int32) = 1 by decide)
    have h := if_f h c2
    by_cases c3 : ((xs x3.toNatClampNeg) &&& (31 : Int32)) = (3 : Int32)
    · have h := if_t h c3
      refine am_tabIn (tgt := 211) X dL_law_32 c3 (by decide) (by decide) rfl (by decide) ?_
      refine am_aload_n X dL_law_211 rfl rfl ?_
      refine am_aload_n X dL_law_212 rfl rfl ?_
      refine am_iload_n X dL_law_213 rfl rfl ?_
      refine am_iconst (v := (1 : Int32)) X dL_law_214 (by decide) ?_
      refine am_iadd X dL_law_215 ?_
      obtain ⟨g, h⟩ := gd_some h
      refine am_scr_ald X h0.2 dL_law_216 g ?_
      refine am_aload_n X dL_law_217 rfl rfl ?_
      refine am_iload_n X dL_law_218 rfl rfl ?_
      refine am_iconst (v := (2 : Int32)) X dL_law_219 (by decide) ?_
      refine am_iadd X dL_law_220 ?_
      obtain ⟨g, h⟩ := gd_some h
      refine am_scr_ald X h0.2 dL_law_221 g ?_
      obtain ⟨v222, σ222, hc, h⟩ := bd2_some h
      refine am_callv_i2 X dL_law_222 cw_L_27 (ct_X6_street hG N _ _ _ _ hc) (Nat.le_of_ble_eq_true rfl) rfl rfl rfl rfl (Nat.le_of_ble_eq_true rfl) ?_
      refine am_aload_n X dL_law_225 rfl rfl ?_
      refine am_aload_n X dL_law_226 rfl rfl ?_
      refine am_iload_n X dL_law_227 rfl rfl ?_
      refine am_iconst (v := (1 : Int32)) X dL_law_228 (by decide) ?_
      refine am_iadd X dL_law_229 ?_
      obtain ⟨g, h⟩ := gd_some h
      refine am_scr_ald X h0.2 dL_law_230 g ?_
      refine am_aload_n X dL_law_231 rfl rfl ?_
      refine am_iload_n X dL_law_232 rfl rfl ?_
      refine am_iconst (v := (2 : Int32)) X dL_law_233 (by decide) ?_
      refine am_iadd X dL_law_234 ?_
      obtain ⟨g, h⟩ := gd_some h
      refine am_scr_ald X h0.2 dL_law_235 g ?_
      obtain ⟨v236, σ236, hc, h⟩ := bd2_some h
      refine am_callv_i2 X dL_law_236 cw_L_31 (ct_X7_street hG N _ _ _ _ hc) (Nat.le_of_ble_eq_true rfl) rfl rfl rfl rfl (Nat.le_of_ble_eq_true rfl) ?_
      refine am_icmp_eq (tgt := 948) X dL_law_239 (by decide) (fun c => ?_) (fun c => ?_)
      · have h := if_t h c
        exact am_jump (t_L_law_948 hG N L xs k18 hk18 _ _ _ h K h0 X) rfl ⟨rfl, rfl, rfl, rfl, trivial⟩
      · have h := if_f h c
        refine am_iconst (v := (0 : Int32)) X dL_law_242 (by decide) ?_
        obtain rfl := Option.some.inj h
        exact absurd h0.1 (show ¬ (0 : Int32) = 1 by decide)
    have h := if_f h c3
    by_cases c4 : ((xs x3.toNatClampNeg) &&& (31 : Int32)) = (4 : Int32)
    · have h := if_t h c4
      refine am_tabIn (tgt := 244) X dL_law_32 c4 (by decide) (by decide) rfl (by decide) ?_
      refine am_aload_n X dL_law_244 rfl rfl ?_
      refine am_aload_n X dL_law_245 rfl rfl ?_
      refine am_iload_n X dL_law_246 rfl rfl ?_
      refine am_iconst (v := (1 : Int32)) X dL_law_247 (by decide) ?_
      refine am_iadd X dL_law_248 ?_
      obtain ⟨g, h⟩ := gd_some h
      refine am_scr_ald X h0.2 dL_law_249 g ?_
      refine am_aload_n X dL_law_250 rfl rfl ?_
      refine am_iload_n X dL_law_251 rfl rfl ?_
      refine am_iconst (v := (2 : Int32)) X dL_law_252 (by decide) ?_
      refine am_iadd X dL_law_253 ?_
      obtain ⟨g, h⟩ := gd_some h
      refine am_scr_ald X h0.2 dL_law_254 g ?_
      refine am_aload_n X dL_law_255 rfl rfl ?_
      refine am_iload_n X dL_law_256 rfl rfl ?_
      refine am_iconst (v := (3 : Int32)) X dL_law_257 (by decide) ?_
      refine am_iadd X dL_law_258 ?_
      obtain ⟨g, h⟩ := gd_some h
      refine am_scr_ald X h0.2 dL_law_259 g ?_
      refine am_if_eq (tgt := 267) X dL_law_260 (by decide) (fun c => ?_) (fun c => ?_)
      · have h := if_t h c
        refine am_iconst (v := (0 : Int32)) X dL_law_267 (by decide) ?_
        exact am_jump (t_L_law_268 hG N L xs k18 hk18 _ _ _ _ _ _ h K h0 X) rfl ⟨rfl, rfl, rfl, rfl, trivial⟩
      · have h := if_f h c
        refine am_iconst (v := (1 : Int32)) X dL_law_263 (by decide) ?_
        refine am_goto (tgt := 268) X dL_law_264 (by decide) ?_
        exact am_jump (t_L_law_268 hG N L xs k18 hk18 _ _ _ _ _ _ h K h0 X) rfl ⟨rfl, rfl, rfl, rfl, trivial⟩
    have h := if_f h c4
    by_cases c5 : ((xs x3.toNatClampNeg) &&& (31 : Int32)) = (5 : Int32)
    · have h := if_t h c5
      refine am_tabIn (tgt := 303) X dL_law_32 c5 (by decide) (by decide) rfl (by decide) ?_
      refine am_aload_n X dL_law_303 rfl rfl ?_
      refine am_aload_n X dL_law_304 rfl rfl ?_
      refine am_iload_n X dL_law_305 rfl rfl ?_
      refine am_iconst (v := (1 : Int32)) X dL_law_306 (by decide) ?_
      refine am_iadd X dL_law_307 ?_
      obtain ⟨g, h⟩ := gd_some h
      refine am_scr_ald X h0.2 dL_law_308 g ?_
      refine am_aload_n X dL_law_309 rfl rfl ?_
      refine am_iload_n X dL_law_310 rfl rfl ?_
      refine am_iconst (v := (2 : Int32)) X dL_law_311 (by decide) ?_
      refine am_iadd X dL_law_312 ?_
      obtain ⟨g, h⟩ := gd_some h
      refine am_scr_ald X h0.2 dL_law_313 g ?_
      obtain ⟨v314, σ314, hc, h⟩ := bd2_some h
      refine am_callv_i2 X dL_law_314 cw_L_37 (ct_X6_of hG N _ _ _ _ hc) (Nat.le_of_ble_eq_true rfl) rfl rfl rfl rfl (Nat.le_of_ble_eq_true rfl) ?_
      refine am_aload_n X dL_law_317 rfl rfl ?_
      refine am_aload_n X dL_law_318 rfl rfl ?_
      refine am_iload_n X dL_law_319 rfl rfl ?_
      refine am_iconst (v := (1 : Int32)) X dL_law_320 (by decide) ?_
      refine am_iadd X dL_law_321 ?_
      obtain ⟨g, h⟩ := gd_some h
      refine am_scr_ald X h0.2 dL_law_322 g ?_
      refine am_aload_n X dL_law_323 rfl rfl ?_
      refine am_iload_n X dL_law_324 rfl rfl ?_
      refine am_iconst (v := (2 : Int32)) X dL_law_325 (by decide) ?_
      refine am_iadd X dL_law_326 ?_
      obtain ⟨g, h⟩ := gd_some h
      refine am_scr_ald X h0.2 dL_law_327 g ?_
      obtain ⟨v328, σ328, hc, h⟩ := bd2_some h
      refine am_callv_i2 X dL_law_328 cw_L_40 (ct_X7_of hG N _ _ _ _ hc) (Nat.le_of_ble_eq_true rfl) rfl rfl rfl rfl (Nat.le_of_ble_eq_true rfl) ?_
      refine am_icmp_eq (tgt := 948) X dL_law_331 (by decide) (fun c => ?_) (fun c => ?_)
      · have h := if_t h c
        exact am_jump (t_L_law_948 hG N L xs k18 hk18 _ _ _ h K h0 X) rfl ⟨rfl, rfl, rfl, rfl, trivial⟩
      · have h := if_f h c
        refine am_iconst (v := (0 : Int32)) X dL_law_334 (by decide) ?_
        obtain rfl := Option.some.inj h
        exact absurd h0.1 (show ¬ (0 : Int32) = 1 by decide)
    have h := if_f h c5
    by_cases c6 : ((xs x3.toNatClampNeg) &&& (31 : Int32)) = (6 : Int32)
    · have h := if_t h c6
      refine am_tabIn (tgt := 336) X dL_law_32 c6 (by decide) (by decide) rfl (by decide) ?_
      refine am_aload_n X dL_law_336 rfl rfl ?_
      refine am_aload_n X dL_law_337 rfl rfl ?_
      refine am_iload_n X dL_law_338 rfl rfl ?_
      refine am_iconst (v := (1 : Int32)) X dL_law_339 (by decide) ?_
      refine am_iadd X dL_law_340 ?_
      obtain ⟨g, h⟩ := gd_some h
      refine am_scr_ald X h0.2 dL_law_341 g ?_
      obtain ⟨v342, σ342, hc, h⟩ := bd2_some h
      refine am_callv_i1 X dL_law_342 cw_L_41 (ct_X6_told hG N _ _ _ hc) (Nat.le_of_ble_eq_true rfl) rfl rfl rfl rfl (Nat.le_of_ble_eq_true rfl) ?_
      refine am_aload_n X dL_law_345 rfl rfl ?_
      refine am_aload_n X dL_law_346 rfl rfl ?_
      refine am_iload_n X dL_law_347 rfl rfl ?_
      refine am_iconst (v := (1 : Int32)) X dL_law_348 (by decide) ?_
      refine am_iadd X dL_law_349 ?_
      obtain ⟨g, h⟩ := gd_some h
      refine am_scr_ald X h0.2 dL_law_350 g ?_
      obtain ⟨v351, σ351, hc, h⟩ := bd2_some h
      refine am_callv_i1 X dL_law_351 cw_L_44 (ct_X7_told hG N _ _ _ hc) (Nat.le_of_ble_eq_true rfl) rfl rfl rfl rfl (Nat.le_of_ble_eq_true rfl) ?_
      refine am_icmp_eq (tgt := 948) X dL_law_354 (by decide) (fun c => ?_) (fun c => ?_)
      · have h := if_t h c
        exact am_jump (t_L_law_948 hG N L xs k18 hk18 _ _ _ h K h0 X) rfl ⟨rfl, rfl, rfl, rfl, trivial⟩
      · have h := if_f h c
        refine am_iconst (v := (0 : Int32)) X dL_law_357 (by decide) ?_
        obtain rfl := Option.some.inj h
        exact absurd h0.1 (show ¬ (0 : Int32) = 1 by decide)
    have h := if_f h c6
    by_cases c7 : ((xs x3.toNatClampNeg) &&& (31 : Int32)) = (7 : Int32)
    · have h := if_t h c7
      refine am_tabIn (tgt := 359) X dL_law_32 c7 (by decide) (by decide) rfl (by decide) ?_
      refine am_aload_n X dL_law_359 rfl rfl ?_
      refine am_aload_n X dL_law_360 rfl rfl ?_
      refine am_iload_n X dL_law_361 rfl rfl ?_
      refine am_iconst (v := (1 : Int32)) X dL_law_362 (by decide) ?_
      refine am_iadd X dL_law_363 ?_
      obtain ⟨g, h⟩ := gd_some h
      refine am_scr_ald X h0.2 dL_law_364 g ?_
      refine am_aload_n X dL_law_365 rfl rfl ?_
      refine am_iload_n X dL_law_366 rfl rfl ?_
      refine am_iconst (v := (2 : Int32)) X dL_law_367 (by decide) ?_
      refine am_iadd X dL_law_368 ?_
      obtain ⟨g, h⟩ := gd_some h
      refine am_scr_ald X h0.2 dL_law_369 g ?_
      refine am_aload_n X dL_law_370 rfl rfl ?_
      refine am_iload_n X dL_law_371 rfl rfl ?_
      refine am_iconst (v := (3 : Int32)) X dL_law_372 (by decide) ?_
      refine am_iadd X dL_law_373 ?_
      obtain ⟨g, h⟩ := gd_some h
      refine am_scr_ald X h0.2 dL_law_374 g ?_
      obtain ⟨v375, σ375, hc, h⟩ := bd2_some h
      refine am_callv_i3 X dL_law_375 cw_L_45 (ct_X6_go hG N _ _ _ _ _ hc) (Nat.le_of_ble_eq_true rfl) rfl rfl rfl rfl (Nat.le_of_ble_eq_true rfl) ?_
      refine am_aload_n X dL_law_378 rfl rfl ?_
      refine am_aload_n X dL_law_379 rfl rfl ?_
      refine am_iload_n X dL_law_380 rfl rfl ?_
      refine am_iconst (v := (1 : Int32)) X dL_law_381 (by decide) ?_
      refine am_iadd X dL_law_382 ?_
      obtain ⟨g, h⟩ := gd_some h
      refine am_scr_ald X h0.2 dL_law_383 g ?_
      refine am_aload_n X dL_law_384 rfl rfl ?_
      refine am_iload_n X dL_law_385 rfl rfl ?_
      refine am_iconst (v := (2 : Int32)) X dL_law_386 (by decide) ?_
      refine am_iadd X dL_law_387 ?_
      obtain ⟨g, h⟩ := gd_some h
      refine am_scr_ald X h0.2 dL_law_388 g ?_
      refine am_aload_n X dL_law_389 rfl rfl ?_
      refine am_iload_n X dL_law_390 rfl rfl ?_
      refine am_iconst (v := (3 : Int32)) X dL_law_391 (by decide) ?_
      refine am_iadd X dL_law_392 ?_
      obtain ⟨g, h⟩ := gd_some h
      refine am_scr_ald X h0.2 dL_law_393 g ?_
      obtain ⟨v394, σ394, hc, h⟩ := bd2_some h
      refine am_callv_i3 X dL_law_394 cw_L_49 (ct_X7_go hG N _ _ _ _ _ hc) (Nat.le_of_ble_eq_true rfl) rfl rfl rfl rfl (Nat.le_of_ble_eq_true rfl) ?_
      refine am_icmp_eq (tgt := 948) X dL_law_397 (by decide) (fun c => ?_) (fun c => ?_)
      · have h := if_t h c
        exact am_jump (t_L_law_948 hG N L xs k18 hk18 _ _ _ h K h0 X) rfl ⟨rfl, rfl, rfl, rfl, trivial⟩
      · have h := if_f h c
        refine am_iconst (v := (0 : Int32)) X dL_law_400 (by decide) ?_
        obtain rfl := Option.some.inj h
        exact absurd h0.1 (show ¬ (0 : Int32) = 1 by decide)
    have h := if_f h c7
    by_cases c8 : ((xs x3.toNatClampNeg) &&& (31 : Int32)) = (8 : Int32)
    · have h := if_t h c8
      refine am_tabIn (tgt := 402) X dL_law_32 c8 (by decide) (by decide) rfl (by decide) ?_
      refine am_aload_n X dL_law_402 rfl rfl ?_
      refine am_aload_n X dL_law_403 rfl rfl ?_
      refine am_iload_n X dL_law_404 rfl rfl ?_
      refine am_iconst (v := (1 : Int32)) X dL_law_405 (by decide) ?_
      refine am_iadd X dL_law_406 ?_
      obtain ⟨g, h⟩ := gd_some h
      refine am_scr_ald X h0.2 dL_law_407 g ?_
      refine am_aload_n X dL_law_408 rfl rfl ?_
      refine am_iload_n X dL_law_409 rfl rfl ?_
      refine am_iconst (v := (2 : Int32)) X dL_law_410 (by decide) ?_
      refine am_iadd X dL_law_411 ?_
      obtain ⟨g, h⟩ := gd_some h
      refine am_scr_ald X h0.2 dL_law_412 g ?_
      refine am_aload_n X dL_law_413 rfl rfl ?_
      refine am_iload_n X dL_law_414 rfl rfl ?_
      refine am_iconst (v := (3 : Int32)) X dL_law_415 (by decide) ?_
      refine am_iadd X dL_law_416 ?_
      obtain ⟨g, h⟩ := gd_some h
      refine am_scr_ald X h0.2 dL_law_417 g ?_
      obtain ⟨v418, σ418, hc, h⟩ := bd2_some h
      refine am_callv_i3 X dL_law_418 cw_L_50 (ct_X6_tally hG N _ _ _ _ _ hc) (Nat.le_of_ble_eq_true rfl) rfl rfl rfl rfl (Nat.le_of_ble_eq_true rfl) ?_
      refine am_aload_n X dL_law_421 rfl rfl ?_
      refine am_aload_n X dL_law_422 rfl rfl ?_
      refine am_iload_n X dL_law_423 rfl rfl ?_
      refine am_iconst (v := (1 : Int32)) X dL_law_424 (by decide) ?_
      refine am_iadd X dL_law_425 ?_
      obtain ⟨g, h⟩ := gd_some h
      refine am_scr_ald X h0.2 dL_law_426 g ?_
      refine am_aload_n X dL_law_427 rfl rfl ?_
      refine am_iload_n X dL_law_428 rfl rfl ?_
      refine am_iconst (v := (2 : Int32)) X dL_law_429 (by decide) ?_
      refine am_iadd X dL_law_430 ?_
      obtain ⟨g, h⟩ := gd_some h
      refine am_scr_ald X h0.2 dL_law_431 g ?_
      refine am_aload_n X dL_law_432 rfl rfl ?_
      refine am_iload_n X dL_law_433 rfl rfl ?_
      refine am_iconst (v := (3 : Int32)) X dL_law_434 (by decide) ?_
      refine am_iadd X dL_law_435 ?_
      obtain ⟨g, h⟩ := gd_some h
      refine am_scr_ald X h0.2 dL_law_436 g ?_
      obtain ⟨v437, σ437, hc, h⟩ := bd2_some h
      refine am_callv_i3 X dL_law_437 cw_L_53 (ct_X7_tally hG N _ _ _ _ _ hc) (Nat.le_of_ble_eq_true rfl) rfl rfl rfl rfl (Nat.le_of_ble_eq_true rfl) ?_
      refine am_icmp_eq (tgt := 948) X dL_law_440 (by decide) (fun c => ?_) (fun c => ?_)
      · have h := if_t h c
        exact am_jump (t_L_law_948 hG N L xs k18 hk18 _ _ _ h K h0 X) rfl ⟨rfl, rfl, rfl, rfl, trivial⟩
      · have h := if_f h c
        refine am_iconst (v := (0 : Int32)) X dL_law_443 (by decide) ?_
        obtain rfl := Option.some.inj h
        exact absurd h0.1 (show ¬ (0 : Int32) = 1 by decide)
    have h := if_f h c8
    by_cases c9 : ((xs x3.toNatClampNeg) &&& (31 : Int32)) = (9 : Int32)
    · have h := if_t h c9
      refine am_tabIn (tgt := 445) X dL_law_32 c9 (by decide) (by decide) rfl (by decide) ?_
      refine am_aload_n X dL_law_445 rfl rfl ?_
      refine am_aload_n X dL_law_446 rfl rfl ?_
      refine am_iload_n X dL_law_447 rfl rfl ?_
      refine am_iconst (v := (1 : Int32)) X dL_law_448 (by decide) ?_
      refine am_iadd X dL_law_449 ?_
      obtain ⟨g, h⟩ := gd_some h
      refine am_scr_ald X h0.2 dL_law_450 g ?_
      obtain ⟨v451, σ451, hc, h⟩ := bd2_some h
      refine am_callv_i1 X dL_law_451 cw_L_54 (ct_X6_cost hG N _ _ _ hc) (Nat.le_of_ble_eq_true rfl) rfl rfl rfl rfl (Nat.le_of_ble_eq_true rfl) ?_
      refine am_aload_n X dL_law_454 rfl rfl ?_
      refine am_aload_n X dL_law_455 rfl rfl ?_
      refine am_iload_n X dL_law_456 rfl rfl ?_
      refine am_iconst (v := (1 : Int32)) X dL_law_457 (by decide) ?_
      refine am_iadd X dL_law_458 ?_
      obtain ⟨g, h⟩ := gd_some h
      refine am_scr_ald X h0.2 dL_law_459 g ?_
      obtain ⟨v460, σ460, hc, h⟩ := bd2_some h
      refine am_callv_i1 X dL_law_460 cw_L_57 (ct_X7_cost hG N _ _ _ hc) (Nat.le_of_ble_eq_true rfl) rfl rfl rfl rfl (Nat.le_of_ble_eq_true rfl) ?_
      refine am_icmp_eq (tgt := 948) X dL_law_463 (by decide) (fun c => ?_) (fun c => ?_)
      · have h := if_t h c
        exact am_jump (t_L_law_948 hG N L xs k18 hk18 _ _ _ h K h0 X) rfl ⟨rfl, rfl, rfl, rfl, trivial⟩
      · have h := if_f h c
        refine am_iconst (v := (0 : Int32)) X dL_law_466 (by decide) ?_
        obtain rfl := Option.some.inj h
        exact absurd h0.1 (show ¬ (0 : Int32) = 1 by decide)
    have h := if_f h c9
    by_cases c10 : ((xs x3.toNatClampNeg) &&& (31 : Int32)) = (10 : Int32)
    · have h := if_t h c10
      refine am_tabIn (tgt := 468) X dL_law_32 c10 (by decide) (by decide) rfl (by decide) ?_
      refine am_aload_n X dL_law_468 rfl rfl ?_
      refine am_aload_n X dL_law_469 rfl rfl ?_
      refine am_iload_n X dL_law_470 rfl rfl ?_
      refine am_iconst (v := (1 : Int32)) X dL_law_471 (by decide) ?_
      refine am_iadd X dL_law_472 ?_
      obtain ⟨g, h⟩ := gd_some h
      refine am_scr_ald X h0.2 dL_law_473 g ?_
      obtain ⟨v474, σ474, hc, h⟩ := bd2_some h
      refine am_callv_i1 X dL_law_474 cw_L_58 (ct_X6_gate hG N _ _ _ hc) (Nat.le_of_ble_eq_true rfl) rfl rfl rfl rfl (Nat.le_of_ble_eq_true rfl) ?_
      refine am_aload_n X dL_law_477 rfl rfl ?_
      refine am_aload_n X dL_law_478 rfl rfl ?_
      refine am_iload_n X dL_law_479 rfl rfl ?_
      refine am_iconst (v := (1 : Int32)) X dL_law_480 (by decide) ?_
      refine am_iadd X dL_law_481 ?_
      obtain ⟨g, h⟩ := gd_some h
      refine am_scr_ald X h0.2 dL_law_482 g ?_
      obtain ⟨v483, σ483, hc, h⟩ := bd2_some h
      refine am_callv_i1 X dL_law_483 cw_L_61 (ct_X7_gate hG N _ _ _ hc) (Nat.le_of_ble_eq_true rfl) rfl rfl rfl rfl (Nat.le_of_ble_eq_true rfl) ?_
      refine am_icmp_eq (tgt := 948) X dL_law_486 (by decide) (fun c => ?_) (fun c => ?_)
      · have h := if_t h c
        exact am_jump (t_L_law_948 hG N L xs k18 hk18 _ _ _ h K h0 X) rfl ⟨rfl, rfl, rfl, rfl, trivial⟩
      · have h := if_f h c
        refine am_iconst (v := (0 : Int32)) X dL_law_489 (by decide) ?_
        obtain rfl := Option.some.inj h
        exact absurd h0.1 (show ¬ (0 : Int32) = 1 by decide)
    have h := if_f h c10
    by_cases c11 : ((xs x3.toNatClampNeg) &&& (31 : Int32)) = (11 : Int32)
    · have h := if_t h c11
      refine am_tabIn (tgt := 491) X dL_law_32 c11 (by decide) (by decide) rfl (by decide) ?_
      refine am_aload_n X dL_law_491 rfl rfl ?_
      refine am_aload_n X dL_law_492 rfl rfl ?_
      refine am_iload_n X dL_law_493 rfl rfl ?_
      refine am_iconst (v := (1 : Int32)) X dL_law_494 (by decide) ?_
      refine am_iadd X dL_law_495 ?_
      obtain ⟨g, h⟩ := gd_some h
      refine am_scr_ald X h0.2 dL_law_496 g ?_
      refine am_aload_n X dL_law_497 rfl rfl ?_
      refine am_iload_n X dL_law_498 rfl rfl ?_
      refine am_iconst (v := (2 : Int32)) X dL_law_499 (by decide) ?_
      refine am_iadd X dL_law_500 ?_
      obtain ⟨g, h⟩ := gd_some h
      refine am_scr_ald X h0.2 dL_law_501 g ?_
      obtain ⟨v502, σ502, hc, h⟩ := bd2_some h
      refine am_callv_i2 X dL_law_502 cw_L_62 (ct_X6_fresh hG N _ _ _ _ hc) (Nat.le_of_ble_eq_true rfl) rfl rfl rfl rfl (Nat.le_of_ble_eq_true rfl) ?_
      refine am_aload_n X dL_law_505 rfl rfl ?_
      refine am_aload_n X dL_law_506 rfl rfl ?_
      refine am_iload_n X dL_law_507 rfl rfl ?_
      refine am_iconst (v := (1 : Int32)) X dL_law_508 (by decide) ?_
      refine am_iadd X dL_law_509 ?_
      obtain ⟨g, h⟩ := gd_some h
      refine am_scr_ald X h0.2 dL_law_510 g ?_
      refine am_aload_n X dL_law_511 rfl rfl ?_
      refine am_iload_n X dL_law_512 rfl rfl ?_
      refine am_iconst (v := (2 : Int32)) X dL_law_513 (by decide) ?_
      refine am_iadd X dL_law_514 ?_
      obtain ⟨g, h⟩ := gd_some h
      refine am_scr_ald X h0.2 dL_law_515 g ?_
      obtain ⟨v516, σ516, hc, h⟩ := bd2_some h
      refine am_callv_i2 X dL_law_516 cw_L_65 (ct_X7_fresh hG N _ _ _ _ hc) (Nat.le_of_ble_eq_true rfl) rfl rfl rfl rfl (Nat.le_of_ble_eq_true rfl) ?_
      refine am_icmp_eq (tgt := 948) X dL_law_519 (by decide) (fun c => ?_) (fun c => ?_)
      · have h := if_t h c
        exact am_jump (t_L_law_948 hG N L xs k18 hk18 _ _ _ h K h0 X) rfl ⟨rfl, rfl, rfl, rfl, trivial⟩
      · have h := if_f h c
        refine am_iconst (v := (0 : Int32)) X dL_law_522 (by decide) ?_
        obtain rfl := Option.some.inj h
        exact absurd h0.1 (show ¬ (0 : Int32) = 1 by decide)
    have h := if_f h c11
    by_cases c12 : ((xs x3.toNatClampNeg) &&& (31 : Int32)) = (12 : Int32)
    · have h := if_t h c12
      refine am_tabIn (tgt := 524) X dL_law_32 c12 (by decide) (by decide) rfl (by decide) ?_
      refine am_aload_n X dL_law_524 rfl rfl ?_
      refine am_aload_n X dL_law_525 rfl rfl ?_
      refine am_iload_n X dL_law_526 rfl rfl ?_
      refine am_iconst (v := (1 : Int32)) X dL_law_527 (by decide) ?_
      refine am_iadd X dL_law_528 ?_
      obtain ⟨g, h⟩ := gd_some h
      refine am_scr_ald X h0.2 dL_law_529 g ?_
      refine am_aload_n X dL_law_530 rfl rfl ?_
      refine am_iload_n X dL_law_531 rfl rfl ?_
      refine am_iconst (v := (2 : Int32)) X dL_law_532 (by decide) ?_
      refine am_iadd X dL_law_533 ?_
      obtain ⟨g, h⟩ := gd_some h
      refine am_scr_ald X h0.2 dL_law_534 g ?_
      obtain ⟨v535, σ535, hc, h⟩ := bd2_some h
      refine am_callv_i2 X dL_law_535 cw_L_66 (ct_X6_need hG N _ _ _ _ hc) (Nat.le_of_ble_eq_true rfl) rfl rfl rfl rfl (Nat.le_of_ble_eq_true rfl) ?_
      refine am_aload_n X dL_law_538 rfl rfl ?_
      refine am_aload_n X dL_law_539 rfl rfl ?_
      refine am_iload_n X dL_law_540 rfl rfl ?_
      refine am_iconst (v := (1 : Int32)) X dL_law_541 (by decide) ?_
      refine am_iadd X dL_law_542 ?_
      obtain ⟨g, h⟩ := gd_some h
      refine am_scr_ald X h0.2 dL_law_543 g ?_
      refine am_aload_n X dL_law_544 rfl rfl ?_
      refine am_iload_n X dL_law_545 rfl rfl ?_
      refine am_iconst (v := (2 : Int32)) X dL_law_546 (by decide) ?_
      refine am_iadd X dL_law_547 ?_
      obtain ⟨g, h⟩ := gd_some h
      refine am_scr_ald X h0.2 dL_law_548 g ?_
      obtain ⟨v549, σ549, hc, h⟩ := bd2_some h
      refine am_callv_i2 X dL_law_549 cw_L_69 (ct_X7_need hG N _ _ _ _ hc) (Nat.le_of_ble_eq_true rfl) rfl rfl rfl rfl (Nat.le_of_ble_eq_true rfl) ?_
      refine am_icmp_eq (tgt := 948) X dL_law_552 (by decide) (fun c => ?_) (fun c => ?_)
      · have h := if_t h c
        exact am_jump (t_L_law_948 hG N L xs k18 hk18 _ _ _ h K h0 X) rfl ⟨rfl, rfl, rfl, rfl, trivial⟩
      · have h := if_f h c
        refine am_iconst (v := (0 : Int32)) X dL_law_555 (by decide) ?_
        obtain rfl := Option.some.inj h
        exact absurd h0.1 (show ¬ (0 : Int32) = 1 by decide)
    have h := if_f h c12
    by_cases c13 : ((xs x3.toNatClampNeg) &&& (31 : Int32)) = (13 : Int32)
    · have h := if_t h c13
      refine am_tabIn (tgt := 557) X dL_law_32 c13 (by decide) (by decide) rfl (by decide) ?_
      refine am_aload_n X dL_law_557 rfl rfl ?_
      refine am_aload_n X dL_law_558 rfl rfl ?_
      refine am_iload_n X dL_law_559 rfl rfl ?_
      refine am_iconst (v := (1 : Int32)) X dL_law_560 (by decide) ?_
      refine am_iadd X dL_law_561 ?_
      obtain ⟨g, h⟩ := gd_some h
      refine am_scr_ald X h0.2 dL_law_562 g ?_
      refine am_aload_n X dL_law_563 rfl rfl ?_
      refine am_iload_n X dL_law_564 rfl rfl ?_
      refine am_iconst (v := (2 : Int32)) X dL_law_565 (by decide) ?_
      refine am_iadd X dL_law_566 ?_
      obtain ⟨g, h⟩ := gd_some h
      refine am_scr_ald X h0.2 dL_law_567 g ?_
      obtain ⟨v568, σ568, hc, h⟩ := bd2_some h
      refine am_callv_i2 X dL_law_568 cw_L_70 (ct_X6_way hG N _ _ _ _ hc) (Nat.le_of_ble_eq_true rfl) rfl rfl rfl rfl (Nat.le_of_ble_eq_true rfl) ?_
      refine am_aload_n X dL_law_571 rfl rfl ?_
      refine am_aload_n X dL_law_572 rfl rfl ?_
      refine am_iload_n X dL_law_573 rfl rfl ?_
      refine am_iconst (v := (1 : Int32)) X dL_law_574 (by decide) ?_
      refine am_iadd X dL_law_575 ?_
      obtain ⟨g, h⟩ := gd_some h
      refine am_scr_ald X h0.2 dL_law_576 g ?_
      refine am_aload_n X dL_law_577 rfl rfl ?_
      refine am_iload_n X dL_law_578 rfl rfl ?_
      refine am_iconst (v := (2 : Int32)) X dL_law_579 (by decide) ?_
      refine am_iadd X dL_law_580 ?_
      obtain ⟨g, h⟩ := gd_some h
      refine am_scr_ald X h0.2 dL_law_581 g ?_
      obtain ⟨v582, σ582, hc, h⟩ := bd2_some h
      refine am_callv_i2 X dL_law_582 cw_L_73 (ct_X7_way hG N _ _ _ _ hc) (Nat.le_of_ble_eq_true rfl) rfl rfl rfl rfl (Nat.le_of_ble_eq_true rfl) ?_
      refine am_icmp_eq (tgt := 948) X dL_law_585 (by decide) (fun c => ?_) (fun c => ?_)
      · have h := if_t h c
        exact am_jump (t_L_law_948 hG N L xs k18 hk18 _ _ _ h K h0 X) rfl ⟨rfl, rfl, rfl, rfl, trivial⟩
      · have h := if_f h c
        refine am_iconst (v := (0 : Int32)) X dL_law_588 (by decide) ?_
        obtain rfl := Option.some.inj h
        exact absurd h0.1 (show ¬ (0 : Int32) = 1 by decide)
    have h := if_f h c13
    by_cases c14 : ((xs x3.toNatClampNeg) &&& (31 : Int32)) = (14 : Int32)
    · have h := if_t h c14
      refine am_tabIn (tgt := 590) X dL_law_32 c14 (by decide) (by decide) rfl (by decide) ?_
      refine am_aload_n X dL_law_590 rfl rfl ?_
      refine am_aload_n X dL_law_591 rfl rfl ?_
      refine am_iload_n X dL_law_592 rfl rfl ?_
      refine am_iconst (v := (1 : Int32)) X dL_law_593 (by decide) ?_
      refine am_iadd X dL_law_594 ?_
      obtain ⟨g, h⟩ := gd_some h
      refine am_scr_ald X h0.2 dL_law_595 g ?_
      refine am_aload_n X dL_law_596 rfl rfl ?_
      refine am_iload_n X dL_law_597 rfl rfl ?_
      refine am_iconst (v := (2 : Int32)) X dL_law_598 (by decide) ?_
      refine am_iadd X dL_law_599 ?_
      obtain ⟨g, h⟩ := gd_some h
      refine am_scr_ald X h0.2 dL_law_600 g ?_
      refine am_aload_n X dL_law_601 rfl rfl ?_
      refine am_iload_n X dL_law_602 rfl rfl ?_
      refine am_iconst (v := (3 : Int32)) X dL_law_603 (by decide) ?_
      refine am_iadd X dL_law_604 ?_
      obtain ⟨g, h⟩ := gd_some h
      refine am_scr_ald X h0.2 dL_law_605 g ?_
      obtain ⟨v606, σ606, hc, h⟩ := bd2_some h
      refine am_callv_i3 X dL_law_606 cw_L_74 (ct_X6_errands hG N _ _ _ _ _ hc) (Nat.le_of_ble_eq_true rfl) rfl rfl rfl rfl (Nat.le_of_ble_eq_true rfl) ?_
      refine am_aload_n X dL_law_609 rfl rfl ?_
      refine am_aload_n X dL_law_610 rfl rfl ?_
      refine am_iload_n X dL_law_611 rfl rfl ?_
      refine am_iconst (v := (1 : Int32)) X dL_law_612 (by decide) ?_
      refine am_iadd X dL_law_613 ?_
      obtain ⟨g, h⟩ := gd_some h
      refine am_scr_ald X h0.2 dL_law_614 g ?_
      refine am_aload_n X dL_law_615 rfl rfl ?_
      refine am_iload_n X dL_law_616 rfl rfl ?_
      refine am_iconst (v := (2 : Int32)) X dL_law_617 (by decide) ?_
      refine am_iadd X dL_law_618 ?_
      obtain ⟨g, h⟩ := gd_some h
      refine am_scr_ald X h0.2 dL_law_619 g ?_
      refine am_aload_n X dL_law_620 rfl rfl ?_
      refine am_iload_n X dL_law_621 rfl rfl ?_
      refine am_iconst (v := (3 : Int32)) X dL_law_622 (by decide) ?_
      refine am_iadd X dL_law_623 ?_
      obtain ⟨g, h⟩ := gd_some h
      refine am_scr_ald X h0.2 dL_law_624 g ?_
      obtain ⟨v625, σ625, hc, h⟩ := bd2_some h
      refine am_callv_i3 X dL_law_625 cw_L_77 (ct_X7_errands hG N _ _ _ _ _ hc) (Nat.le_of_ble_eq_true rfl) rfl rfl rfl rfl (Nat.le_of_ble_eq_true rfl) ?_
      refine am_icmp_eq (tgt := 948) X dL_law_628 (by decide) (fun c => ?_) (fun c => ?_)
      · have h := if_t h c
        exact am_jump (t_L_law_948 hG N L xs k18 hk18 _ _ _ h K h0 X) rfl ⟨rfl, rfl, rfl, rfl, trivial⟩
      · have h := if_f h c
        refine am_iconst (v := (0 : Int32)) X dL_law_631 (by decide) ?_
        obtain rfl := Option.some.inj h
        exact absurd h0.1 (show ¬ (0 : Int32) = 1 by decide)
    have h := if_f h c14
    by_cases c15 : ((xs x3.toNatClampNeg) &&& (31 : Int32)) = (15 : Int32)
    · have h := if_t h c15
      refine am_tabIn (tgt := 633) X dL_law_32 c15 (by decide) (by decide) rfl (by decide) ?_
      refine am_aload_n X dL_law_633 rfl rfl ?_
      obtain ⟨v634, σ634, hc, h⟩ := bd2_some h
      refine am_callv_i0 X dL_law_634 cw_L_78 (ct_X6_stand hG N _ _ hc) (Nat.le_of_ble_eq_true rfl) rfl rfl rfl rfl (Nat.le_of_ble_eq_true rfl) ?_
      refine am_aload_n X dL_law_637 rfl rfl ?_
      obtain ⟨v638, σ638, hc, h⟩ := bd2_some h
      refine am_callv_i0 X dL_law_638 cw_L_81 (ct_X7_stand hG N _ _ hc) (Nat.le_of_ble_eq_true rfl) rfl rfl rfl rfl (Nat.le_of_ble_eq_true rfl) ?_
      refine am_icmp_eq (tgt := 948) X dL_law_641 (by decide) (fun c => ?_) (fun c => ?_)
      · have h := if_t h c
        exact am_jump (t_L_law_948 hG N L xs k18 hk18 _ _ _ h K h0 X) rfl ⟨rfl, rfl, rfl, rfl, trivial⟩
      · have h := if_f h c
        refine am_iconst (v := (0 : Int32)) X dL_law_644 (by decide) ?_
        obtain rfl := Option.some.inj h
        exact absurd h0.1 (show ¬ (0 : Int32) = 1 by decide)
    have h := if_f h c15
    by_cases c16 : ((xs x3.toNatClampNeg) &&& (31 : Int32)) = (16 : Int32)
    · have h := if_t h c16
      refine am_tabIn (tgt := 646) X dL_law_32 c16 (by decide) (by decide) rfl (by decide) ?_
      refine am_aload_n X dL_law_646 rfl rfl ?_
      refine am_aload_n X dL_law_647 rfl rfl ?_
      refine am_iload_n X dL_law_648 rfl rfl ?_
      refine am_iconst (v := (1 : Int32)) X dL_law_649 (by decide) ?_
      refine am_iadd X dL_law_650 ?_
      obtain ⟨g, h⟩ := gd_some h
      refine am_scr_ald X h0.2 dL_law_651 g ?_
      refine am_aload_n X dL_law_652 rfl rfl ?_
      refine am_iload_n X dL_law_653 rfl rfl ?_
      refine am_iconst (v := (2 : Int32)) X dL_law_654 (by decide) ?_
      refine am_iadd X dL_law_655 ?_
      obtain ⟨g, h⟩ := gd_some h
      refine am_scr_ald X h0.2 dL_law_656 g ?_
      refine am_aload_n X dL_law_657 rfl rfl ?_
      refine am_iload_n X dL_law_658 rfl rfl ?_
      refine am_iconst (v := (3 : Int32)) X dL_law_659 (by decide) ?_
      refine am_iadd X dL_law_660 ?_
      obtain ⟨g, h⟩ := gd_some h
      refine am_scr_ald X h0.2 dL_law_661 g ?_
      obtain ⟨v662, σ662, hc, h⟩ := bd2_some h
      refine am_callv_l3 X dL_law_662 cw_L_82 (ct_X6_ways hG N _ _ _ _ _ hc) (Nat.le_of_ble_eq_true rfl) rfl rfl rfl rfl (Nat.le_of_ble_eq_true rfl) ?_
      refine am_aload_n X dL_law_665 rfl rfl ?_
      refine am_aload_n X dL_law_666 rfl rfl ?_
      refine am_iload_n X dL_law_667 rfl rfl ?_
      refine am_iconst (v := (1 : Int32)) X dL_law_668 (by decide) ?_
      refine am_iadd X dL_law_669 ?_
      obtain ⟨g, h⟩ := gd_some h
      refine am_scr_ald X h0.2 dL_law_670 g ?_
      refine am_aload_n X dL_law_671 rfl rfl ?_
      refine am_iload_n X dL_law_672 rfl rfl ?_
      refine am_iconst (v := (2 : Int32)) X dL_law_673 (by decide) ?_
      refine am_iadd X dL_law_674 ?_
      obtain ⟨g, h⟩ := gd_some h
      refine am_scr_ald X h0.2 dL_law_675 g ?_
      refine am_aload_n X dL_law_676 rfl rfl ?_
      refine am_iload_n X dL_law_677 rfl rfl ?_
      refine am_iconst (v := (3 : Int32)) X dL_law_678 (by decide) ?_
      refine am_iadd X dL_law_679 ?_
      obtain ⟨g, h⟩ := gd_some h
      refine am_scr_ald X h0.2 dL_law_680 g ?_
      obtain ⟨v681, σ681, hc, h⟩ := bd2_some h
      refine am_callv_l3 X dL_law_681 cw_L_86 (ct_X7_ways hG N _ _ _ _ _ hc) (Nat.le_of_ble_eq_true rfl) rfl rfl rfl rfl (Nat.le_of_ble_eq_true rfl) ?_
      refine am_lcmp X dL_law_684 ?_
      refine am_if_eq (tgt := 948) X dL_law_685 (by decide) (fun c => ?_) (fun c => ?_)
      · have h := if_t h c
        exact am_jump (t_L_law_948 hG N L xs k18 hk18 _ _ _ h K h0 X) rfl ⟨rfl, rfl, rfl, rfl, trivial⟩
      · have h := if_f h c
        refine am_iconst (v := (0 : Int32)) X dL_law_688 (by decide) ?_
        obtain rfl := Option.some.inj h
        exact absurd h0.1 (show ¬ (0 : Int32) = 1 by decide)
    have h := if_f h c16
    by_cases c17 : ((xs x3.toNatClampNeg) &&& (31 : Int32)) = (17 : Int32)
    · have h := if_t h c17
      refine am_tabIn (tgt := 690) X dL_law_32 c17 (by decide) (by decide) rfl (by decide) ?_
      refine am_aload_n X dL_law_690 rfl rfl ?_
      refine am_aload_n X dL_law_691 rfl rfl ?_
      refine am_iload_n X dL_law_692 rfl rfl ?_
      refine am_iconst (v := (1 : Int32)) X dL_law_693 (by decide) ?_
      refine am_iadd X dL_law_694 ?_
      obtain ⟨g, h⟩ := gd_some h
      refine am_scr_ald X h0.2 dL_law_695 g ?_
      refine am_aload_n X dL_law_696 rfl rfl ?_
      refine am_iload_n X dL_law_697 rfl rfl ?_
      refine am_iconst (v := (2 : Int32)) X dL_law_698 (by decide) ?_
      refine am_iadd X dL_law_699 ?_
      obtain ⟨g, h⟩ := gd_some h
      refine am_scr_ald X h0.2 dL_law_700 g ?_
      refine am_aload_n X dL_law_701 rfl rfl ?_
      refine am_iload_n X dL_law_702 rfl rfl ?_
      refine am_iconst (v := (3 : Int32)) X dL_law_703 (by decide) ?_
      refine am_iadd X dL_law_704 ?_
      obtain ⟨g, h⟩ := gd_some h
      refine am_scr_ald X h0.2 dL_law_705 g ?_
      refine am_aload_n X dL_law_706 rfl rfl ?_
      refine am_iload_n X dL_law_707 rfl rfl ?_
      refine am_iconst (v := (4 : Int32)) X dL_law_708 (by decide) ?_
      refine am_iadd X dL_law_709 ?_
      obtain ⟨g, h⟩ := gd_some h
      refine am_scr_ald X h0.2 dL_law_710 g ?_
      obtain ⟨v711, σ711, hc, h⟩ := bd2_some h
      refine am_callv_l4 X dL_law_711 cw_L_87 (ct_X6_stray hG N _ _ _ _ _ _ hc) (Nat.le_of_ble_eq_true rfl) rfl rfl rfl rfl (Nat.le_of_ble_eq_true rfl) ?_
      refine am_aload_n X dL_law_714 rfl rfl ?_
      refine am_aload_n X dL_law_715 rfl rfl ?_
      refine am_iload_n X dL_law_716 rfl rfl ?_
      refine am_iconst (v := (1 : Int32)) X dL_law_717 (by decide) ?_
      refine am_iadd X dL_law_718 ?_
      obtain ⟨g, h⟩ := gd_some h
      refine am_scr_ald X h0.2 dL_law_719 g ?_
      refine am_aload_n X dL_law_720 rfl rfl ?_
      refine am_iload_n X dL_law_721 rfl rfl ?_
      refine am_iconst (v := (2 : Int32)) X dL_law_722 (by decide) ?_
      refine am_iadd X dL_law_723 ?_
      obtain ⟨g, h⟩ := gd_some h
      refine am_scr_ald X h0.2 dL_law_724 g ?_
      refine am_aload_n X dL_law_725 rfl rfl ?_
      refine am_iload_n X dL_law_726 rfl rfl ?_
      refine am_iconst (v := (3 : Int32)) X dL_law_727 (by decide) ?_
      refine am_iadd X dL_law_728 ?_
      obtain ⟨g, h⟩ := gd_some h
      refine am_scr_ald X h0.2 dL_law_729 g ?_
      refine am_aload_n X dL_law_730 rfl rfl ?_
      refine am_iload_n X dL_law_731 rfl rfl ?_
      refine am_iconst (v := (4 : Int32)) X dL_law_732 (by decide) ?_
      refine am_iadd X dL_law_733 ?_
      obtain ⟨g, h⟩ := gd_some h
      refine am_scr_ald X h0.2 dL_law_734 g ?_
      obtain ⟨v735, σ735, hc, h⟩ := bd2_some h
      refine am_callv_l4 X dL_law_735 cw_L_91 (ct_X7_stray hG N _ _ _ _ _ _ hc) (Nat.le_of_ble_eq_true rfl) rfl rfl rfl rfl (Nat.le_of_ble_eq_true rfl) ?_
      refine am_lcmp X dL_law_738 ?_
      refine am_if_eq (tgt := 948) X dL_law_739 (by decide) (fun c => ?_) (fun c => ?_)
      · have h := if_t h c
        exact am_jump (t_L_law_948 hG N L xs k18 hk18 _ _ _ h K h0 X) rfl ⟨rfl, rfl, rfl, rfl, trivial⟩
      · have h := if_f h c
        refine am_iconst (v := (0 : Int32)) X dL_law_742 (by decide) ?_
        obtain rfl := Option.some.inj h
        exact absurd h0.1 (show ¬ (0 : Int32) = 1 by decide)
    have h := if_f h c17
    by_cases c18 : ((xs x3.toNatClampNeg) &&& (31 : Int32)) = (18 : Int32)
    · have h := if_t h c18
      refine am_tabIn (tgt := 744) X dL_law_32 c18 (by decide) (by decide) rfl (by decide) ?_
      refine am_aload_n X dL_law_744 rfl rfl ?_
      refine am_aload_n X dL_law_745 rfl rfl ?_
      refine am_iload_n X dL_law_746 rfl rfl ?_
      refine am_iconst (v := (1 : Int32)) X dL_law_747 (by decide) ?_
      refine am_iadd X dL_law_748 ?_
      obtain ⟨g, h⟩ := gd_some h
      refine am_scr_ald X h0.2 dL_law_749 g ?_
      refine am_aload_n X dL_law_750 rfl rfl ?_
      refine am_iload_n X dL_law_751 rfl rfl ?_
      refine am_iconst (v := (2 : Int32)) X dL_law_752 (by decide) ?_
      refine am_iadd X dL_law_753 ?_
      obtain ⟨g, h⟩ := gd_some h
      refine am_scr_ald X h0.2 dL_law_754 g ?_
      obtain ⟨v755, σ755, hc, h⟩ := bd2_some h
      refine am_callv_i2 X dL_law_755 cw_L_92 (ct_X6_tell hG N _ _ _ _ hc) (Nat.le_of_ble_eq_true rfl) rfl rfl rfl rfl (Nat.le_of_ble_eq_true rfl) ?_
      refine am_aload_n X dL_law_758 rfl rfl ?_
      refine am_aload_n X dL_law_759 rfl rfl ?_
      refine am_iload_n X dL_law_760 rfl rfl ?_
      refine am_iconst (v := (1 : Int32)) X dL_law_761 (by decide) ?_
      refine am_iadd X dL_law_762 ?_
      obtain ⟨g, h⟩ := gd_some h
      refine am_scr_ald X h0.2 dL_law_763 g ?_
      refine am_aload_n X dL_law_764 rfl rfl ?_
      refine am_iload_n X dL_law_765 rfl rfl ?_
      refine am_iconst (v := (2 : Int32)) X dL_law_766 (by decide) ?_
      refine am_iadd X dL_law_767 ?_
      obtain ⟨g, h⟩ := gd_some h
      refine am_scr_ald X h0.2 dL_law_768 g ?_
      obtain ⟨v769, σ769, hc, h⟩ := bd2_some h
      refine am_callv_i2 X dL_law_769 cw_L_95 (ct_X7_tell hG N _ _ _ _ hc) (Nat.le_of_ble_eq_true rfl) rfl rfl rfl rfl (Nat.le_of_ble_eq_true rfl) ?_
      refine am_icmp_eq (tgt := 948) X dL_law_772 (by decide) (fun c => ?_) (fun c => ?_)
      · have h := if_t h c
        exact am_jump (t_L_law_948 hG N L xs k18 hk18 _ _ _ h K h0 X) rfl ⟨rfl, rfl, rfl, rfl, trivial⟩
      · have h := if_f h c
        refine am_iconst (v := (0 : Int32)) X dL_law_775 (by decide) ?_
        obtain rfl := Option.some.inj h
        exact absurd h0.1 (show ¬ (0 : Int32) = 1 by decide)
    have h := if_f h c18
    by_cases c19 : ((xs x3.toNatClampNeg) &&& (31 : Int32)) = (19 : Int32)
    · have h := if_t h c19
      refine am_tabIn (tgt := 777) X dL_law_32 c19 (by decide) (by decide) rfl (by decide) ?_
      refine am_aload_n X dL_law_777 rfl rfl ?_
      refine am_aload_n X dL_law_778 rfl rfl ?_
      refine am_iload_n X dL_law_779 rfl rfl ?_
      refine am_iconst (v := (1 : Int32)) X dL_law_780 (by decide) ?_
      refine am_iadd X dL_law_781 ?_
      obtain ⟨g, h⟩ := gd_some h
      refine am_scr_ald X h0.2 dL_law_782 g ?_
      obtain ⟨v783, σ783, hc, h⟩ := bd2_some h
      refine am_callv_i1 X dL_law_783 cw_L_96 (ct_X6_wrong hG N _ _ _ hc) (Nat.le_of_ble_eq_true rfl) rfl rfl rfl rfl (Nat.le_of_ble_eq_true rfl) ?_
      refine am_aload_n X dL_law_786 rfl rfl ?_
      refine am_aload_n X dL_law_787 rfl rfl ?_
      refine am_iload_n X dL_law_788 rfl rfl ?_
      refine am_iconst (v := (1 : Int32)) X dL_law_789 (by decide) ?_
      refine am_iadd X dL_law_790 ?_
      obtain ⟨g, h⟩ := gd_some h
      refine am_scr_ald X h0.2 dL_law_791 g ?_
      obtain ⟨v792, σ792, hc, h⟩ := bd2_some h
      refine am_callv_i1 X dL_law_792 cw_L_99 (ct_X7_wrong hG N _ _ _ hc) (Nat.le_of_ble_eq_true rfl) rfl rfl rfl rfl (Nat.le_of_ble_eq_true rfl) ?_
      refine am_icmp_eq (tgt := 948) X dL_law_795 (by decide) (fun c => ?_) (fun c => ?_)
      · have h := if_t h c
        exact am_jump (t_L_law_948 hG N L xs k18 hk18 _ _ _ h K h0 X) rfl ⟨rfl, rfl, rfl, rfl, trivial⟩
      · have h := if_f h c
        refine am_iconst (v := (0 : Int32)) X dL_law_798 (by decide) ?_
        obtain rfl := Option.some.inj h
        exact absurd h0.1 (show ¬ (0 : Int32) = 1 by decide)
    have h := if_f h c19
    by_cases c20 : ((xs x3.toNatClampNeg) &&& (31 : Int32)) = (20 : Int32)
    · have h := if_t h c20
      refine am_tabIn (tgt := 800) X dL_law_32 c20 (by decide) (by decide) rfl (by decide) ?_
      refine am_aload_n X dL_law_800 rfl rfl ?_
      refine am_aload_n X dL_law_801 rfl rfl ?_
      refine am_iload_n X dL_law_802 rfl rfl ?_
      refine am_iconst (v := (1 : Int32)) X dL_law_803 (by decide) ?_
      refine am_iadd X dL_law_804 ?_
      obtain ⟨g, h⟩ := gd_some h
      refine am_scr_ald X h0.2 dL_law_805 g ?_
      refine am_aload_n X dL_law_806 rfl rfl ?_
      refine am_iload_n X dL_law_807 rfl rfl ?_
      refine am_iconst (v := (2 : Int32)) X dL_law_808 (by decide) ?_
      refine am_iadd X dL_law_809 ?_
      obtain ⟨g, h⟩ := gd_some h
      refine am_scr_ald X h0.2 dL_law_810 g ?_
      refine am_aload_n X dL_law_811 rfl rfl ?_
      refine am_iload_n X dL_law_812 rfl rfl ?_
      refine am_iconst (v := (3 : Int32)) X dL_law_813 (by decide) ?_
      refine am_iadd X dL_law_814 ?_
      obtain ⟨g, h⟩ := gd_some h
      refine am_scr_ald X h0.2 dL_law_815 g ?_
      obtain ⟨v816, σ816, hc, h⟩ := bd2_some h
      refine am_callv_i3 X dL_law_816 cw_L_100 (ct_X6_act hG N _ _ _ _ _ hc) (Nat.le_of_ble_eq_true rfl) rfl rfl rfl rfl (Nat.le_of_ble_eq_true rfl) ?_
      refine am_aload_n X dL_law_819 rfl rfl ?_
      refine am_aload_n X dL_law_820 rfl rfl ?_
      refine am_iload_n X dL_law_821 rfl rfl ?_
      refine am_iconst (v := (1 : Int32)) X dL_law_822 (by decide) ?_
      refine am_iadd X dL_law_823 ?_
      obtain ⟨g, h⟩ := gd_some h
      refine am_scr_ald X h0.2 dL_law_824 g ?_
      refine am_aload_n X dL_law_825 rfl rfl ?_
      refine am_iload_n X dL_law_826 rfl rfl ?_
      refine am_iconst (v := (2 : Int32)) X dL_law_827 (by decide) ?_
      refine am_iadd X dL_law_828 ?_
      obtain ⟨g, h⟩ := gd_some h
      refine am_scr_ald X h0.2 dL_law_829 g ?_
      refine am_aload_n X dL_law_830 rfl rfl ?_
      refine am_iload_n X dL_law_831 rfl rfl ?_
      refine am_iconst (v := (3 : Int32)) X dL_law_832 (by decide) ?_
      refine am_iadd X dL_law_833 ?_
      obtain ⟨g, h⟩ := gd_some h
      refine am_scr_ald X h0.2 dL_law_834 g ?_
      obtain ⟨v835, σ835, hc, h⟩ := bd2_some h
      refine am_callv_i3 X dL_law_835 cw_L_103 (ct_X7_act hG N _ _ _ _ _ hc) (Nat.le_of_ble_eq_true rfl) rfl rfl rfl rfl (Nat.le_of_ble_eq_true rfl) ?_
      refine am_icmp_eq (tgt := 948) X dL_law_838 (by decide) (fun c => ?_) (fun c => ?_)
      · have h := if_t h c
        exact am_jump (t_L_law_948 hG N L xs k18 hk18 _ _ _ h K h0 X) rfl ⟨rfl, rfl, rfl, rfl, trivial⟩
      · have h := if_f h c
        refine am_iconst (v := (0 : Int32)) X dL_law_841 (by decide) ?_
        obtain rfl := Option.some.inj h
        exact absurd h0.1 (show ¬ (0 : Int32) = 1 by decide)
    have h := if_f h c20
    by_cases c21 : ((xs x3.toNatClampNeg) &&& (31 : Int32)) = (21 : Int32)
    · have h := if_t h c21
      refine am_tabIn (tgt := 843) X dL_law_32 c21 (by decide) (by decide) rfl (by decide) ?_
      refine am_aload_n X dL_law_843 rfl rfl ?_
      refine am_aload_n X dL_law_844 rfl rfl ?_
      refine am_iload_n X dL_law_845 rfl rfl ?_
      refine am_iconst (v := (1 : Int32)) X dL_law_846 (by decide) ?_
      refine am_iadd X dL_law_847 ?_
      obtain ⟨g, h⟩ := gd_some h
      refine am_scr_ald X h0.2 dL_law_848 g ?_
      obtain ⟨v849, σ849, hc, h⟩ := bd2_some h
      refine am_callv_i1 X dL_law_849 cw_L_104 (ct_X6_trace hG N _ _ _ hc) (Nat.le_of_ble_eq_true rfl) rfl rfl rfl rfl (Nat.le_of_ble_eq_true rfl) ?_
      refine am_aload_n X dL_law_852 rfl rfl ?_
      refine am_aload_n X dL_law_853 rfl rfl ?_
      refine am_iload_n X dL_law_854 rfl rfl ?_
      refine am_iconst (v := (1 : Int32)) X dL_law_855 (by decide) ?_
      refine am_iadd X dL_law_856 ?_
      obtain ⟨g, h⟩ := gd_some h
      refine am_scr_ald X h0.2 dL_law_857 g ?_
      obtain ⟨v858, σ858, hc, h⟩ := bd2_some h
      refine am_callv_i1 X dL_law_858 cw_L_107 (ct_X7_trace hG N _ _ _ hc) (Nat.le_of_ble_eq_true rfl) rfl rfl rfl rfl (Nat.le_of_ble_eq_true rfl) ?_
      refine am_icmp_eq (tgt := 948) X dL_law_861 (by decide) (fun c => ?_) (fun c => ?_)
      · have h := if_t h c
        exact am_jump (t_L_law_948 hG N L xs k18 hk18 _ _ _ h K h0 X) rfl ⟨rfl, rfl, rfl, rfl, trivial⟩
      · have h := if_f h c
        refine am_iconst (v := (0 : Int32)) X dL_law_864 (by decide) ?_
        obtain rfl := Option.some.inj h
        exact absurd h0.1 (show ¬ (0 : Int32) = 1 by decide)
    have h := if_f h c21
    by_cases c22 : ((xs x3.toNatClampNeg) &&& (31 : Int32)) = (22 : Int32)
    · have h := if_t h c22
      refine am_tabIn (tgt := 866) X dL_law_32 c22 (by decide) (by decide) rfl (by decide) ?_
      refine am_aload_n X dL_law_866 rfl rfl ?_
      refine am_aload_n X dL_law_867 rfl rfl ?_
      refine am_iload_n X dL_law_868 rfl rfl ?_
      refine am_iconst (v := (1 : Int32)) X dL_law_869 (by decide) ?_
      refine am_iadd X dL_law_870 ?_
      obtain ⟨g, h⟩ := gd_some h
      refine am_scr_ald X h0.2 dL_law_871 g ?_
      refine am_aload_n X dL_law_872 rfl rfl ?_
      refine am_iload_n X dL_law_873 rfl rfl ?_
      refine am_iconst (v := (2 : Int32)) X dL_law_874 (by decide) ?_
      refine am_iadd X dL_law_875 ?_
      obtain ⟨g, h⟩ := gd_some h
      refine am_scr_ald X h0.2 dL_law_876 g ?_
      obtain ⟨v877, σ877, hc, h⟩ := bd2_some h
      refine am_callv_i2 X dL_law_877 cw_L_108 (ct_X6_as hG N _ _ _ _ hc) (Nat.le_of_ble_eq_true rfl) rfl rfl rfl rfl (Nat.le_of_ble_eq_true rfl) ?_
      refine am_aload_n X dL_law_880 rfl rfl ?_
      refine am_aload_n X dL_law_881 rfl rfl ?_
      refine am_iload_n X dL_law_882 rfl rfl ?_
      refine am_iconst (v := (1 : Int32)) X dL_law_883 (by decide) ?_
      refine am_iadd X dL_law_884 ?_
      obtain ⟨g, h⟩ := gd_some h
      refine am_scr_ald X h0.2 dL_law_885 g ?_
      refine am_aload_n X dL_law_886 rfl rfl ?_
      refine am_iload_n X dL_law_887 rfl rfl ?_
      refine am_iconst (v := (2 : Int32)) X dL_law_888 (by decide) ?_
      refine am_iadd X dL_law_889 ?_
      obtain ⟨g, h⟩ := gd_some h
      refine am_scr_ald X h0.2 dL_law_890 g ?_
      obtain ⟨v891, σ891, hc, h⟩ := bd2_some h
      refine am_callv_i2 X dL_law_891 cw_L_111 (ct_X7_as hG N _ _ _ _ hc) (Nat.le_of_ble_eq_true rfl) rfl rfl rfl rfl (Nat.le_of_ble_eq_true rfl) ?_
      refine am_icmp_eq (tgt := 948) X dL_law_894 (by decide) (fun c => ?_) (fun c => ?_)
      · have h := if_t h c
        exact am_jump (t_L_law_948 hG N L xs k18 hk18 _ _ _ h K h0 X) rfl ⟨rfl, rfl, rfl, rfl, trivial⟩
      · have h := if_f h c
        refine am_iconst (v := (0 : Int32)) X dL_law_897 (by decide) ?_
        obtain rfl := Option.some.inj h
        exact absurd h0.1 (show ¬ (0 : Int32) = 1 by decide)
    have h := if_f h c22
    by_cases c23 : ((xs x3.toNatClampNeg) &&& (31 : Int32)) = (23 : Int32)
    · have h := if_t h c23
      refine am_tabIn (tgt := 899) X dL_law_32 c23 (by decide) (by decide) rfl (by decide) ?_
      refine am_aload_n X dL_law_899 rfl rfl ?_
      obtain ⟨v900, σ900, hc, h⟩ := bd2_some h
      refine am_callv_i0 X dL_law_900 cw_L_112 (ct_X6_image hG N _ _ hc) (Nat.le_of_ble_eq_true rfl) rfl rfl rfl rfl (Nat.le_of_ble_eq_true rfl) ?_
      refine am_aload_n X dL_law_903 rfl rfl ?_
      obtain ⟨v904, σ904, hc, h⟩ := bd2_some h
      refine am_callv_i0 X dL_law_904 cw_L_115 (ct_X7_image hG N _ _ hc) (Nat.le_of_ble_eq_true rfl) rfl rfl rfl rfl (Nat.le_of_ble_eq_true rfl) ?_
      refine am_icmp_eq (tgt := 948) X dL_law_907 (by decide) (fun c => ?_) (fun c => ?_)
      · have h := if_t h c
        exact am_jump (t_L_law_948 hG N L xs k18 hk18 _ _ _ h K h0 X) rfl ⟨rfl, rfl, rfl, rfl, trivial⟩
      · have h := if_f h c
        refine am_iconst (v := (0 : Int32)) X dL_law_910 (by decide) ?_
        obtain rfl := Option.some.inj h
        exact absurd h0.1 (show ¬ (0 : Int32) = 1 by decide)
    have h := if_f h c23
    by_cases c24 : ((xs x3.toNatClampNeg) &&& (31 : Int32)) = (24 : Int32)
    · have h := if_t h c24
      refine am_tabIn (tgt := 912) X dL_law_32 c24 (by decide) (by decide) rfl (by decide) ?_
      refine am_aload_n X dL_law_912 rfl rfl ?_
      obtain ⟨v913, σ913, hc, h⟩ := bd2_some h
      refine am_callv_i0 X dL_law_913 cw_L_116 (ct_X6_undo hG N _ _ hc) (Nat.le_of_ble_eq_true rfl) rfl rfl rfl rfl (Nat.le_of_ble_eq_true rfl) ?_
      refine am_aload_n X dL_law_916 rfl rfl ?_
      obtain ⟨v917, σ917, hc, h⟩ := bd2_some h
      refine am_callv_i0 X dL_law_917 cw_L_119 (ct_X7_undo hG N _ _ hc) (Nat.le_of_ble_eq_true rfl) rfl rfl rfl rfl (Nat.le_of_ble_eq_true rfl) ?_
      refine am_icmp_eq (tgt := 948) X dL_law_920 (by decide) (fun c => ?_) (fun c => ?_)
      · have h := if_t h c
        exact am_jump (t_L_law_948 hG N L xs k18 hk18 _ _ _ h K h0 X) rfl ⟨rfl, rfl, rfl, rfl, trivial⟩
      · have h := if_f h c
        refine am_iconst (v := (0 : Int32)) X dL_law_923 (by decide) ?_
        obtain rfl := Option.some.inj h
        exact absurd h0.1 (show ¬ (0 : Int32) = 1 by decide)
    have h := if_f h c24
    by_cases c25 : ((xs x3.toNatClampNeg) &&& (31 : Int32)) = (25 : Int32)
    · have h := if_t h c25
      refine am_tabIn (tgt := 925) X dL_law_32 c25 (by decide) (by decide) rfl (by decide) ?_
      refine am_aload_n X dL_law_925 rfl rfl ?_
      refine am_aload_n X dL_law_926 rfl rfl ?_
      refine am_iload_n X dL_law_927 rfl rfl ?_
      refine am_iconst (v := (1 : Int32)) X dL_law_928 (by decide) ?_
      refine am_iadd X dL_law_929 ?_
      obtain ⟨g, h⟩ := gd_some h
      refine am_scr_ald X h0.2 dL_law_930 g ?_
      obtain ⟨v931, σ931, hc, h⟩ := bd2_some h
      refine am_callv_i1 X dL_law_931 cw_L_120 (ct_X6_count hG N _ _ _ hc) (Nat.le_of_ble_eq_true rfl) rfl rfl rfl rfl (Nat.le_of_ble_eq_true rfl) ?_
      refine am_aload_n X dL_law_934 rfl rfl ?_
      refine am_aload_n X dL_law_935 rfl rfl ?_
      refine am_iload_n X dL_law_936 rfl rfl ?_
      refine am_iconst (v := (1 : Int32)) X dL_law_937 (by decide) ?_
      refine am_iadd X dL_law_938 ?_
      obtain ⟨g, h⟩ := gd_some h
      refine am_scr_ald X h0.2 dL_law_939 g ?_
      obtain ⟨v940, σ940, hc, h⟩ := bd2_some h
      refine am_callv_i1 X dL_law_940 cw_L_123 (ct_X7_count hG N _ _ _ hc) (Nat.le_of_ble_eq_true rfl) rfl rfl rfl rfl (Nat.le_of_ble_eq_true rfl) ?_
      refine am_icmp_eq (tgt := 948) X dL_law_943 (by decide) (fun c => ?_) (fun c => ?_)
      · have h := if_t h c
        exact am_jump (t_L_law_948 hG N L xs k18 hk18 _ _ _ h K h0 X) rfl ⟨rfl, rfl, rfl, rfl, trivial⟩
      · have h := if_f h c
        refine am_iconst (v := (0 : Int32)) X dL_law_946 (by decide) ?_
        obtain rfl := Option.some.inj h
        exact absurd h0.1 (show ¬ (0 : Int32) = 1 by decide)
    have h := if_f h c25
    refine am_tabOut (tgt := 948) (vs := [(0 : Int32), (1 : Int32), (2 : Int32), (3 : Int32), (4 : Int32), (5 : Int32), (6 : Int32), (7 : Int32), (8 : Int32), (9 : Int32), (10 : Int32), (11 : Int32), (12 : Int32), (13 : Int32), (14 : Int32), (15 : Int32), (16 : Int32), (17 : Int32), (18 : Int32), (19 : Int32), (20 : Int32), (21 : Int32), (22 : Int32), (23 : Int32), (24 : Int32), (25 : Int32)]) X dL_law_32 (List.forall_mem_cons.mpr ⟨c0, (List.forall_mem_cons.mpr ⟨c1, (List.forall_mem_cons.mpr ⟨c2, (List.forall_mem_cons.mpr ⟨c3, (List.forall_mem_cons.mpr ⟨c4, (List.forall_mem_cons.mpr ⟨c5, (List.forall_mem_cons.mpr ⟨c6, (List.forall_mem_cons.mpr ⟨c7, (List.forall_mem_cons.mpr ⟨c8, (List.forall_mem_cons.mpr ⟨c9, (List.forall_mem_cons.mpr ⟨c10, (List.forall_mem_cons.mpr ⟨c11, (List.forall_mem_cons.mpr ⟨c12, (List.forall_mem_cons.mpr ⟨c13, (List.forall_mem_cons.mpr ⟨c14, (List.forall_mem_cons.mpr ⟨c15, (List.forall_mem_cons.mpr ⟨c16, (List.forall_mem_cons.mpr ⟨c17, (List.forall_mem_cons.mpr ⟨c18, (List.forall_mem_cons.mpr ⟨c19, (List.forall_mem_cons.mpr ⟨c20, (List.forall_mem_cons.mpr ⟨c21, (List.forall_mem_cons.mpr ⟨c22, (List.forall_mem_cons.mpr ⟨c23, (List.forall_mem_cons.mpr ⟨c24, (List.forall_mem_cons.mpr ⟨c25, (fun _ h => absurd h List.not_mem_nil)⟩)⟩)⟩)⟩)⟩)⟩)⟩)⟩)⟩)⟩)⟩)⟩)⟩)⟩)⟩)⟩)⟩)⟩)⟩)⟩)⟩)⟩)⟩)⟩)⟩)⟩) (by decide) (by decide) ?_
    exact am_jump (t_L_law_948 hG N L xs k18 hk18 _ _ _ h K h0 X) rfl ⟨rfl, rfl, rfl, rfl, trivial⟩
set_option maxRecDepth 100000 in
set_option maxHeartbeats 4000000 in
theorem t_L_law_18 {G : Cx} (hG : am_G G) (N : Nat) (L : Nat) (xs : Nat → Int32) : ∀ (n : Nat) (x3 : Int32) (σ : Sg) (r : Int32 × Sg), b_L_law_18 N L xs n x3 σ = some r → am_Wl G L xs r 18 [some (.ref 96), some (.ref 0), some (.ref 60), some (.int x3)] [] σ := by
  intro n
  induction n with
  | zero => intro x3 σ r h; cases h
  | succ n ih => intro x3 σ r h; exact t_L_law_18b hG N L xs (b_L_law_18 N L xs n) ih x3 σ r h
