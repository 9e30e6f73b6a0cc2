set_option maxRecDepth 100000 in
set_option maxHeartbeats 4000000 in
theorem t_X7_spells_v2_2b {G : Cx} (hG : am_G G) (N : Nat) (k2 : Int32 → Sg → Option (Sg)) (hk2 : ∀ (x2 : Int32) (σ : Sg) (r : Sg), k2 x2 σ = some r → am_Wp G mX7_spells 4 (am_qv r) 2 [some (.ref 60), some (.ref 106), some (.int x2)] [] σ) (x2 : Int32) (σ : Sg) (r : Sg) (h : b_X7_spells_v2_2b N k2 x2 σ = some r) : am_Wp G mX7_spells 4 (am_qv r) 2 [some (.ref 60), some (.ref 106), some (.int x2)] [] σ := by
  intro K h0 X
  unfold b_X7_spells_v2_2b at h
  refine am_iload_n X dX7_spells_2 rfl rfl ?_
  refine am_aload_n X dX7_spells_3 rfl rfl ?_
  refine am_strlen (i := 6) (v := (5 : Int32)) X hG dX7_spells_4 cw_X7_102 ⟨by decide, rfl, by decide⟩ (Nat.le_of_ble_eq_true rfl) (Nat.le_of_ble_eq_true rfl) ?_
  refine am_icmp_ge (tgt := 25) X dX7_spells_7 (by decide) (fun c => ?_) (fun c => ?_)
  · have h := if_t h c
    obtain rfl := Option.some.inj h
    exact am_vret X h0 dX7_spells_25 rfl ⟨rfl, rfl⟩
  · have h := if_f h c
    refine am_aload_n X dX7_spells_10 rfl rfl ?_
    refine am_aload_n X dX7_spells_11 rfl rfl ?_
    refine am_iload_n X dX7_spells_12 rfl rfl ?_
    obtain ⟨g, h⟩ := gd_some h
    refine am_charAt (i := 6) X hG dX7_spells_13 cw_X7_107 ⟨by decide, rfl, rfl⟩ g (Nat.le_of_ble_eq_true rfl) (Nat.le_of_ble_eq_true rfl) ?_
    obtain ⟨σ16, hc, h⟩ := bd_some h
    refine am_callv_v1 X dX7_spells_16 cw_X7_111 (ct_X7_must hG N _ _ _ hc) (Nat.le_of_ble_eq_true rfl) rfl rfl rfl rfl (Nat.le_of_ble_eq_true rfl) ?_
    refine am_iinc (ls' := fun x2_19 => [some (.ref 60), some (.ref 106), some (.int x2_19)]) X dX7_spells_19 rfl h (by decide) (by decide) rfl (fun _ => rfl) (fun x2_19 h => ?_)
    refine am_goto (tgt := 2) X dX7_spells_22 (by decide) ?_
    exact am_jump (hk2 _ _ _ h K h0 X) rfl ⟨rfl, rfl, rfl, trivial⟩
set_option maxRecDepth 100000 in
set_option maxHeartbeats 4000000 in
theorem t_X7_spells_v2_2 {G : Cx} (hG : am_G G) (N : Nat) : ∀ (n : Nat) (x2 : Int32) (σ : Sg) (r : Sg), b_X7_spells_v2_2 N n x2 σ = some r → am_Wp G mX7_spells 4 (am_qv r) 2 [some (.ref 60), some (.ref 106), some (.int x2)] [] σ := by
  intro n
  induction n with
  | zero => intro x2 σ r h; cases h
  | succ n ih => intro x2 σ r h; exact t_X7_spells_v2_2b hG N (b_X7_spells_v2_2 N n) ih x2 σ r h
set_option maxRecDepth 100000 in
set_option maxHeartbeats 4000000 in
theorem ct_X7_spells_v2 {G : Cx} (hG : am_G G) (N : Nat) (σ : Sg) (r : Sg) (h : f_X7_spells_v2 N σ = some r) : am_Ct G 5 yX7_spells mX7_spells [.ref 60, .ref 106] σ (am_qv r) := by
  refine am_enter hG rfl rfl (Nat.le_of_ble_eq_true rfl) ?_
  intro K h0 X
  unfold f_X7_spells_v2 at h
  refine am_jump (pc' := 0) (ls' := [some (.ref 60), some (.ref 106), none]) ?_ rfl ⟨rfl, rfl, trivial⟩
  refine am_iconst (v := (0 : Int32)) X dX7_spells_0 (by decide) ?_
  refine am_istore_n (ls' := [some (.ref 60), some (.ref 106), some (.int (0 : Int32))]) X dX7_spells_1 rfl (by decide)  rfl rfl ?_
  exact am_jump (t_X7_spells_v2_2 hG N N _ _ _ h K h0 X) rfl ⟨rfl, rfl, rfl, trivial⟩
set_option maxRecDepth 100000 in
set_option maxHeartbeats 4000000 in
theorem ct_X7_much_v2 {G : Cx} (hG : am_G G) (N : Nat) (x1 : Int32) (σ : Sg) (r : Sg) (h : f_X7_much_v2 N x1 σ = some r) : am_Ct G 73 yX7_much mX7_much [.ref 60, .int x1, .ref 106] σ (am_qv r) := by
  refine am_enter hG rfl rfl (Nat.le_of_ble_eq_true rfl) ?_
  intro K h0 X
  unfold f_X7_much_v2 at h
  refine am_jump (pc' := 0) (ls' := [some (.ref 60), some (.int x1), some (.ref 106), none]) ?_ rfl ⟨rfl, rfl, rfl, trivial⟩
  refine am_aload_n X dX7_much_0 rfl rfl ?_
  refine am_aload_n X dX7_much_1 rfl rfl ?_
  obtain ⟨σ2, hc, h⟩ := bd_some h
  refine am_callv_v1 X dX7_much_2 cw_X7_144 (ct_X7_spells_v2 hG N _ _ hc) (Nat.le_of_ble_eq_true rfl) rfl rfl rfl rfl (Nat.le_of_ble_eq_true rfl) ?_
  refine am_aload_n X dX7_much_5 rfl rfl ?_
  obtain ⟨v6, σ6, hc, h⟩ := bd2_some h
  refine am_callv_i0 X dX7_much_6 cw_X7_138 (ct_X7_figures hG N _ _ hc) (Nat.le_of_ble_eq_true rfl) rfl rfl rfl rfl (Nat.le_of_ble_eq_true rfl) ?_
  refine am_istore_n (ls' := [some (.ref 60), some (.int x1), some (.ref 106), some (.int v6)]) X dX7_much_9 rfl (by decide)  rfl rfl ?_
  refine am_aload_n X dX7_much_10 rfl rfl ?_
  refine am_bipush (v := (32 : Int32)) X dX7_much_11 (by decide) ?_
  obtain ⟨σ13, hc, h⟩ := bd_some h
  refine am_callv_v1 X dX7_much_13 cw_X7_111 (ct_X7_must hG N _ _ _ hc) (Nat.le_of_ble_eq_true rfl) rfl rfl rfl rfl (Nat.le_of_ble_eq_true rfl) ?_
  refine am_aload_n X dX7_much_16 rfl rfl ?_
  obtain ⟨σ17, hc, h⟩ := bd_some h
  refine am_callv_v0 X dX7_much_17 cw_X7_127 (ct_X7_some hG N _ (by decide) _ (ct_X7_factor hG N 20) _ _ hc) (Nat.le_of_ble_eq_true rfl) rfl rfl rfl rfl (Nat.le_of_ble_eq_true rfl) ?_
  refine am_aload_n X dX7_much_20 rfl rfl ?_
  refine am_iload_n X dX7_much_21 rfl rfl ?_
  refine am_iload_n X dX7_much_22 rfl rfl ?_
  refine am_isub X dX7_much_23 ?_
  obtain ⟨σ24, hc, h⟩ := bd_some h
  refine am_callv_v1 X dX7_much_24 cw_X7_124 (ct_X7_emits hG N _ _ _ hc) (Nat.le_of_ble_eq_true rfl) rfl rfl rfl rfl (Nat.le_of_ble_eq_true rfl) ?_
  obtain rfl := Option.some.inj h
  exact am_vret X h0 dX7_much_27 rfl ⟨rfl, rfl⟩
set_option maxRecDepth 100000 in
set_option maxHeartbeats 4000000 in
theorem ct_X7_clauseHere {G : Cx} (hG : am_G G) (N : Nat) (σ : Sg) (r : Sg) (h : f_X7_clauseHere N σ = some r) : am_Ct G 74 yX7_clauseHere mX7_clauseHere [.ref 60] σ (am_qv r) := by
  refine am_enter hG rfl rfl (Nat.le_of_ble_eq_true rfl) ?_
  intro K h0 X
  unfold f_X7_clauseHere at h
  refine am_jump (pc' := 0) (ls' := [some (.ref 60)]) ?_ rfl ⟨rfl, trivial⟩
  refine am_aload_n X dX7_clauseHere_0 rfl rfl ?_
  obtain ⟨v1, σ1, hc, h⟩ := bd2_some h
  refine am_callv_i0 X dX7_clauseHere_1 cw_X7_98 (ct_X7_here hG N _ _ hc) (Nat.le_of_ble_eq_true rfl) rfl rfl rfl rfl (Nat.le_of_ble_eq_true rfl) ?_
  by_cases c97 : v1 = (97 : Int32)
  · have h := if_t h c97
    refine am_lkIn (off := 59) (tgt := 63) X dX7_clauseHere_4 c97 (by decide) (by decide) (by decide) ?_
    refine am_aload_n X dX7_clauseHere_63 rfl rfl ?_
    refine am_sipush (v := (-400 : Int32)) X dX7_clauseHere_64 (by decide) ?_
    refine am_ldcS (i := 7) (tx := "allow ") X dX7_clauseHere_67 (by decide) ?_
    obtain ⟨σ69, hc, h⟩ := bd_some h
    refine am_callv_v2 X dX7_clauseHere_69 cw_X7_150 (ct_X7_much hG N _ _ _ hc) (Nat.le_of_ble_eq_true rfl) rfl rfl rfl rfl (Nat.le_of_ble_eq_true rfl) ?_
    refine am_goto (tgt := 80) X dX7_clauseHere_72 (by decide) ?_
    obtain rfl := Option.some.inj h
    exact am_vret X h0 dX7_clauseHere_80 rfl ⟨rfl, rfl⟩
  have h := if_f h c97
  by_cases c102 : v1 = (102 : Int32)
  · have h := if_t h c102
    refine am_lkIn (off := 36) (tgt := 40) X dX7_clauseHere_4 c102 (by decide) (by decide) (by decide) ?_
    refine am_aload_n X dX7_clauseHere_40 rfl rfl ?_
    refine am_bipush (v := (-10 : Int32)) X dX7_clauseHere_41 (by decide) ?_
    refine am_ldcS (i := 5) (tx := "fine ") X dX7_clauseHere_43 (by decide) ?_
    obtain ⟨σ45, hc, h⟩ := bd_some h
    refine am_callv_v2 X dX7_clauseHere_45 cw_X7_150 (ct_X7_much_v1 hG N _ _ _ hc) (Nat.le_of_ble_eq_true rfl) rfl rfl rfl rfl (Nat.le_of_ble_eq_true rfl) ?_
    refine am_goto (tgt := 80) X dX7_clauseHere_48 (by decide) ?_
    obtain rfl := Option.some.inj h
    exact am_vret X h0 dX7_clauseHere_80 rfl ⟨rfl, rfl⟩
  have h := if_f h c102
  by_cases c115 : v1 = (115 : Int32)
  · have h := if_t h c115
    refine am_lkIn (off := 47) (tgt := 51) X dX7_clauseHere_4 c115 (by decide) (by decide) (by decide) ?_
    refine am_aload_n X dX7_clauseHere_51 rfl rfl ?_
    refine am_sipush (v := (-200 : Int32)) X dX7_clauseHere_52 (by decide) ?_
    refine am_ldcS (i := 6) (tx := "step ") X dX7_clauseHere_55 (by decide) ?_
    obtain ⟨σ57, hc, h⟩ := bd_some h
    refine am_callv_v2 X dX7_clauseHere_57 cw_X7_150 (ct_X7_much_v2 hG N _ _ _ hc) (Nat.le_of_ble_eq_true rfl) rfl rfl rfl rfl (Nat.le_of_ble_eq_true rfl) ?_
    refine am_goto (tgt := 80) X dX7_clauseHere_60 (by decide) ?_
    obtain rfl := Option.some.inj h
    exact am_vret X h0 dX7_clauseHere_80 rfl ⟨rfl, rfl⟩
  have h := if_f h c115
  refine am_lkOut (tgt := 75) (vs := [(97 : Int32), (102 : Int32), (115 : Int32)]) X dX7_clauseHere_4 (List.forall_mem_cons.mpr ⟨c97, (List.forall_mem_cons.mpr ⟨c102, (List.forall_mem_cons.mpr ⟨c115, (fun _ h => absurd h List.not_mem_nil)⟩)⟩)⟩) (by decide) (by decide) (by decide) ?_
  refine am_aload_n X dX7_clauseHere_75 rfl rfl ?_
  refine am_iconst (v := (1 : Int32)) X dX7_clauseHere_76 (by decide) ?_
  refine am_putfz X dX7_clauseHere_77 fp_X7_94 rfl rfl (by decide) ?_
  refine am_tops h (fun σ77 h => ?_)
  obtain rfl := Option.some.inj h
  exact am_vret X h0 dX7_clauseHere_80 rfl ⟨rfl, rfl⟩
set_option maxRecDepth 100000 in
set_option maxHeartbeats 4000000 in
theorem t_X7_town_135 {G : Cx} (hG : am_G G) (N : Nat) (σ : Sg) (r : Int32 × Sg) (h : b_X7_town_135 N σ = some r) : am_Wp G mX7_town 74 (am_qi r.1 r.2) 135 [some (.ref 60), none] [] σ := by
  intro K h0 X
  unfold b_X7_town_135 at h
  refine am_bipush (v := (-10 : Int32)) X dX7_town_135 (by decide) ?_
  refine am_aload_n X dX7_town_137 rfl rfl ?_
  refine am_getf (v := .int (rg σ 60 5)) X dX7_town_138 fl_X7_88 rfl rfl (by decide) ?_
  refine am_isub X dX7_town_141 ?_
  obtain rfl := Option.some.inj h
  exact am_iret X h0 dX7_town_142 rfl ⟨rfl, rfl⟩
set_option maxRecDepth 100000 in
set_option maxHeartbeats 4000000 in
theorem t_X7_town_117 {G : Cx} (hG : am_G G) (N : Nat) (σ : Sg) (r : Int32 × Sg) (h : b_X7_town_117 N σ = some r) : am_Wp G mX7_town 74 (am_qi r.1 r.2) 117 [some (.ref 60), none] [] σ := by
  intro K h0 X
  unfold b_X7_town_117 at h
  refine am_aload_n X dX7_town_117 rfl rfl ?_
  refine am_getf (v := .int (rg σ 60 7)) X dX7_town_118 fl_X7_94 rfl rfl (by decide) ?_
  refine am_if_ne (tgt := 135) X dX7_town_121 (by decide) (fun c => ?_) (fun c => ?_)
  · have h := if_f h c
    exact am_jump (t_X7_town_135 hG N _ _ h K h0 X) rfl ⟨rfl, trivial⟩
  · have h := if_t h c
    refine am_aload_n X dX7_town_124 rfl rfl ?_
    refine am_getf (v := .int (rg σ 60 5)) X dX7_town_125 fl_X7_88 rfl rfl (by decide) ?_
    refine am_aload_n X dX7_town_128 rfl rfl ?_
    refine am_getf (v := .int (rg σ 60 6)) X dX7_town_129 fl_X7_91 rfl rfl (by decide) ?_
    refine am_icmp_eq (tgt := 143) X dX7_town_132 (by decide) (fun c => ?_) (fun c => ?_)
    · have h := if_t h c
      refine am_aload_n X dX7_town_143 rfl rfl ?_
      refine am_getf (v := .ref 61) X dX7_town_144 fl_X7_9 rfl rfl (by decide) ?_
      refine am_iconst (v := (1 : Int32)) X dX7_town_147 (by decide) ?_
      refine am_dup2 X dX7_town_148 rfl rfl ?_
      obtain ⟨g, h⟩ := gd_some h
      refine am_iald X dX7_town_149 rfl g ?_
      refine am_iconst (v := (1 : Int32)) X dX7_town_150 (by decide) ?_
      refine am_iadd X dX7_town_151 ?_
      obtain ⟨g, h⟩ := gd_some h
      refine am_iast X dX7_town_152 rfl g ?_
      refine am_tops h (fun σ152 h => ?_)
      refine am_aload_n X dX7_town_153 rfl rfl ?_
      refine am_getf (v := .ref 61) X dX7_town_154 fl_X7_9 rfl rfl (by decide) ?_
      refine am_iconst (v := (4 : Int32)) X dX7_town_157 (by decide) ?_
      refine am_aload_n X dX7_town_158 rfl rfl ?_
      refine am_getf (v := .int (rg σ152 60 4)) X dX7_town_159 fl_X7_115 rfl rfl (by decide) ?_
      obtain ⟨g, h⟩ := gd_some h
      refine am_iast X dX7_town_162 rfl g ?_
      refine am_tops h (fun σ162 h => ?_)
      refine am_aload_n X dX7_town_163 rfl rfl ?_
      refine am_getf (v := .int (rg σ162 60 4)) X dX7_town_164 fl_X7_115 rfl rfl (by decide) ?_
      obtain rfl := Option.some.inj h
      exact am_iret X h0 dX7_town_167 rfl ⟨rfl, rfl⟩
    · have h := if_f h c
      exact am_jump (t_X7_town_135 hG N _ _ h K h0 X) rfl ⟨rfl, trivial⟩
set_option maxRecDepth 100000 in
set_option maxHeartbeats 4000000 in
theorem t_X7_town_75b {G : Cx} (hG : am_G G) (N : Nat) (k75 : Int32 → Sg → Option (Int32 × Sg)) (hk75 : ∀ (x1 : Int32) (σ : Sg) (r : Int32 × Sg), k75 x1 σ = some r → am_Wp G mX7_town 74 (am_qi r.1 r.2) 75 [some (.ref 60), some (.int x1)] [] σ) (x1 : Int32) (σ : Sg) (r : Int32 × Sg) (h : b_X7_town_75b N k75 x1 σ = some r) : am_Wp G mX7_town 74 (am_qi r.1 r.2) 75 [some (.ref 60), some (.int x1)] [] σ := by
  intro K h0 X
  unfold b_X7_town_75b at h
  refine am_aload_n X dX7_town_75 rfl rfl ?_
  refine am_getf (v := .int (rg σ 60 7)) X dX7_town_76 fl_X7_94 rfl rfl (by decide) ?_
  refine am_if_ne (tgt := 117) X dX7_town_79 (by decide) (fun c => ?_) (fun c => ?_)
  · have h := if_f h c
    exact am_jump (t_X7_town_117 hG N _ _ h K h0 X) rfl ⟨rfl, trivial⟩
  · have h := if_t h c
    refine am_iload_n X dX7_town_82 rfl rfl ?_
    refine am_bipush (v := (10 : Int32)) X dX7_town_83 (by decide) ?_
    refine am_icmp_ge (tgt := 117) X dX7_town_85 (by decide) (fun c => ?_) (fun c => ?_)
    · have h := if_t h c
      exact am_jump (t_X7_town_117 hG N _ _ h K h0 X) rfl ⟨rfl, trivial⟩
    · have h := if_f h c
      refine am_aload_n X dX7_town_88 rfl rfl ?_
      obtain ⟨v89, σ89, hc, h⟩ := bd2_some h
      refine am_callv_i0 X dX7_town_89 cw_X7_98 (ct_X7_here hG N _ _ hc) (Nat.le_of_ble_eq_true rfl) rfl rfl rfl rfl (Nat.le_of_ble_eq_true rfl) ?_
      refine am_bipush (v := (59 : Int32)) X dX7_town_92 (by decide) ?_
      refine am_icmp_ne (tgt := 117) X dX7_town_94 (by decide) (fun c => ?_) (fun c => ?_)
      · have h := if_f h c
        exact am_jump (t_X7_town_117 hG N _ _ h K h0 X) rfl ⟨rfl, trivial⟩
      · have h := if_t h c
        refine am_aload_n X dX7_town_97 rfl rfl ?_
        refine am_dup X dX7_town_98 rfl ?_
        refine am_getf (v := .int (rg σ89 60 5)) X dX7_town_99 fl_X7_88 rfl rfl (by decide) ?_
        refine am_iconst (v := (1 : Int32)) X dX7_town_102 (by decide) ?_
        refine am_iadd X dX7_town_103 ?_
        refine am_putfi X dX7_town_104 fp_X7_88 rfl rfl ?_
        refine am_tops h (fun σ104 h => ?_)
        refine am_aload_n X dX7_town_107 rfl rfl ?_
        obtain ⟨σ108, hc, h⟩ := bd_some h
        refine am_callv_v0 X dX7_town_108 cw_X7_158 (ct_X7_clauseHere hG N _ _ hc) (Nat.le_of_ble_eq_true rfl) rfl rfl rfl rfl (Nat.le_of_ble_eq_true rfl) ?_
        refine am_iinc (ls' := fun x1_111 => [some (.ref 60), some (.int x1_111)]) X dX7_town_111 rfl h (by decide) (by decide) rfl (fun _ => rfl) (fun x1_111 h => ?_)
        refine am_goto (tgt := 75) X dX7_town_114 (by decide) ?_
        exact am_jump (hk75 _ _ _ h K h0 X) rfl ⟨rfl, rfl, trivial⟩
set_option maxRecDepth 100000 in
set_option maxHeartbeats 4000000 in
theorem t_X7_town_75 {G : Cx} (hG : am_G G) (N : Nat) : ∀ (n : Nat) (x1 : Int32) (σ : Sg) (r : Int32 × Sg), b_X7_town_75 N n x1 σ = some r → am_Wp G mX7_town 74 (am_qi r.1 r.2) 75 [some (.ref 60), some (.int x1)] [] σ := by
  intro n
  induction n with
  | zero => intro x1 σ r h; cases h
  | succ n ih => intro x1 σ r h; exact t_X7_town_75b hG N (b_X7_town_75 N n) ih x1 σ r h
set_option maxRecDepth 100000 in
set_option maxHeartbeats 4000000 in
theorem ct_X7_town {G : Cx} (hG : am_G G) (N : Nat) (σ : Sg) (r : Int32 × Sg) (h : f_X7_town N σ = some r) : am_Ct G 75 yX7_town mX7_town [.ref 60] σ (am_qi r.1 r.2) := by
  refine am_enter hG rfl rfl (Nat.le_of_ble_eq_true rfl) ?_
  intro K h0 X
  unfold f_X7_town at h
  refine am_jump (pc' := 0) (ls' := [some (.ref 60), none]) ?_ rfl ⟨rfl, trivial⟩
  refine am_aload_n X dX7_town_0 rfl rfl ?_
  refine am_getf (v := .ref 61) X dX7_town_1 fl_X7_9 rfl rfl (by decide) ?_
  refine am_iconst (v := (1 : Int32)) X dX7_town_4 (by decide) ?_
  obtain ⟨g, h⟩ := gd_some h
  refine am_iald X dX7_town_5 rfl g ?_
  refine am_iconst (v := (5 : Int32)) X dX7_town_6 (by decide) ?_
  refine am_icmp_ne (tgt := 13) X dX7_town_7 (by decide) (fun c => ?_) (fun c => ?_)
  · have h := if_f h c
    refine am_aload_n X dX7_town_13 rfl rfl ?_
    refine am_aload_n X dX7_town_14 rfl rfl ?_
    refine am_getf (v := .ref 61) X dX7_town_15 fl_X7_9 rfl rfl (by decide) ?_
    refine am_iconst (v := (1 : Int32)) X dX7_town_18 (by decide) ?_
    obtain ⟨g, h⟩ := gd_some h
    refine am_iald X dX7_town_19 rfl g ?_
    refine am_putfi X dX7_town_20 fp_X7_115 rfl rfl ?_
    refine am_tops h (fun σ20 h => ?_)
    refine am_aload_n X dX7_town_23 rfl rfl ?_
    refine am_aload_n X dX7_town_24 rfl rfl ?_
    refine am_getf (v := .ref 61) X dX7_town_25 fl_X7_9 rfl rfl (by decide) ?_
    refine am_iconst (v := (3 : Int32)) X dX7_town_28 (by decide) ?_
    obtain ⟨g, h⟩ := gd_some h
    refine am_iald X dX7_town_29 rfl g ?_
    refine am_putfi X dX7_town_30 fp_X7_91 rfl rfl ?_
    refine am_tops h (fun σ30 h => ?_)
    refine am_aload_n X dX7_town_33 rfl rfl ?_
    refine am_getf (v := .ref 61) X dX7_town_34 fl_X7_9 rfl rfl (by decide) ?_
    refine am_iconst (v := (3 : Int32)) X dX7_town_37 (by decide) ?_
    refine am_iconst (v := (0 : Int32)) X dX7_town_38 (by decide) ?_
    obtain ⟨g, h⟩ := gd_some h
    refine am_iast X dX7_town_39 rfl g ?_
    refine am_tops h (fun σ39 h => ?_)
    refine am_aload_n X dX7_town_40 rfl rfl ?_
    refine am_getf (v := .ref 61) X dX7_town_41 fl_X7_9 rfl rfl (by decide) ?_
    refine am_sipush (v := (201 : Int32)) X dX7_town_44 (by decide) ?_
    refine am_aload_n X dX7_town_47 rfl rfl ?_
    refine am_getf (v := .int (rg σ39 60 4)) X dX7_town_48 fl_X7_115 rfl rfl (by decide) ?_
    refine am_iadd X dX7_town_51 ?_
    refine am_iconst (v := (0 : Int32)) X dX7_town_52 (by decide) ?_
    obtain ⟨g, h⟩ := gd_some h
    refine am_iast X dX7_town_53 rfl g ?_
    refine am_tops h (fun σ53 h => ?_)
    refine am_aload_n X dX7_town_54 rfl rfl ?_
    refine am_iconst (v := (0 : Int32)) X dX7_town_55 (by decide) ?_
    refine am_putfi X dX7_town_56 fp_X7_88 rfl rfl ?_
    refine am_tops h (fun σ56 h => ?_)
    refine am_aload_n X dX7_town_59 rfl rfl ?_
    refine am_iconst (v := (0 : Int32)) X dX7_town_60 (by decide) ?_
    refine am_putfz X dX7_town_61 fp_X7_94 rfl rfl (by decide) ?_
    refine am_tops h (fun σ61 h => ?_)
    refine am_aload_n X dX7_town_64 rfl rfl ?_
    refine am_iconst (v := (0 : Int32)) X dX7_town_65 (by decide) ?_
    refine am_putfi X dX7_town_66 fp_X7_118 rfl rfl ?_
    refine am_tops h (fun σ66 h => ?_)
    refine am_iconst (v := (1 : Int32)) X dX7_town_69 (by decide) ?_
    refine am_istore_n (ls' := [some (.ref 60), some (.int (1 : Int32))]) X dX7_town_70 rfl (by decide)  rfl rfl ?_
    refine am_aload_n X dX7_town_71 rfl rfl ?_
    obtain ⟨σ72, hc, h⟩ := bd_some h
    refine am_callv_v0 X dX7_town_72 cw_X7_158 (ct_X7_clauseHere hG N _ _ hc) (Nat.le_of_ble_eq_true rfl) rfl rfl rfl rfl (Nat.le_of_ble_eq_true rfl) ?_
    exact am_jump (t_X7_town_75 hG N N _ _ _ h K h0 X) rfl ⟨rfl, rfl, trivial⟩
  · have h := if_t h c
    refine am_bipush (v := (-4 : Int32)) X dX7_town_10 (by decide) ?_
    obtain rfl := Option.some.inj h
    exact am_iret X h0 dX7_town_12 rfl ⟨rfl, rfl⟩
set_option maxRecDepth 100000 in
set_option maxHeartbeats 4000000 in
theorem t_X7_trace_20 {G : Cx} (hG : am_G G) (N : Nat) (x1 : Int32) (s0 : Int32) (s1 : Int32) (s2 : Int32) (σ : Sg) (r : Int32 × Sg) (h : b_X7_trace_20 N x1 s0 s1 s2 σ = some r) : am_Wp G mX7_trace 1 (am_qi r.1 r.2) 20 [some (.ref 60), some (.int x1)] [.int s2, .int s1, .int s0] σ := by
  intro K h0 X
  unfold b_X7_trace_20 at h
  refine am_iconst (v := (1 : Int32)) X dX7_trace_20 (by decide) ?_
  refine am_isub X dX7_trace_21 ?_
  obtain ⟨v22, σ22, hc, h⟩ := bd2_some h
  refine am_calls_i3 X dX7_trace_22 cw_X7_84 (ct_X7_in hG N _ _ _ _ _ hc) (Nat.le_of_ble_eq_true rfl) rfl (Nat.le_of_ble_eq_true rfl) ?_
  refine am_if_eq (tgt := 37) X dX7_trace_25 (by decide) (fun c => ?_) (fun c => ?_)
  · have h := if_t h c
    refine am_iconst (v := (-1 : Int32)) X dX7_trace_37 (by decide) ?_
    obtain rfl := Option.some.inj h
    exact am_iret X h0 dX7_trace_38 rfl ⟨rfl, rfl⟩
  · have h := if_f h c
    refine am_aload_n X dX7_trace_28 rfl rfl ?_
    refine am_getf (v := .ref 82) X dX7_trace_29 fl_X7_77 rfl rfl (by decide) ?_
    refine am_iload_n X dX7_trace_32 rfl rfl ?_
    obtain ⟨g, h⟩ := gd_some h
    refine am_iald X dX7_trace_33 rfl g ?_
    refine am_goto (tgt := 38) X dX7_trace_34 (by decide) ?_
    obtain rfl := Option.some.inj h
    exact am_iret X h0 dX7_trace_38 rfl ⟨rfl, rfl⟩
set_option maxRecDepth 100000 in
set_option maxHeartbeats 4000000 in
theorem ct_X7_trace {G : Cx} (hG : am_G G) (N : Nat) (x1 : Int32) (σ : Sg) (r : Int32 × Sg) (h : f_X7_trace N x1 σ = some r) : am_Ct G 2 yX7_trace mX7_trace [.ref 60, .int x1] σ (am_qi r.1 r.2) := by
  refine am_enter hG rfl rfl (Nat.le_of_ble_eq_true rfl) ?_
  intro K h0 X
  unfold f_X7_trace at h
  refine am_jump (pc' := 0) (ls' := [some (.ref 60), some (.int x1)]) ?_ rfl ⟨rfl, rfl, trivial⟩
  refine am_iload_n X dX7_trace_0 rfl rfl ?_
  refine am_iconst (v := (0 : Int32)) X dX7_trace_1 (by decide) ?_
  refine am_aload_n X dX7_trace_2 rfl rfl ?_
  refine am_getf (v := .int (rg σ 60 34)) X dX7_trace_3 fl_X7_278 rfl rfl (by decide) ?_
  refine am_bipush (v := (20 : Int32)) X dX7_trace_6 (by decide) ?_
  refine am_icmp_ge (tgt := 18) X dX7_trace_8 (by decide) (fun c => ?_) (fun c => ?_)
  · have h := if_t h c
    refine am_bipush (v := (20 : Int32)) X dX7_trace_18 (by decide) ?_
    exact am_jump (t_X7_trace_20 hG N _ _ _ _ _ _ h K h0 X) rfl ⟨rfl, rfl, trivial⟩
  · have h := if_f h c
    refine am_aload_n X dX7_trace_11 rfl rfl ?_
    refine am_getf (v := .int (rg σ 60 34)) X dX7_trace_12 fl_X7_278 rfl rfl (by decide) ?_
    refine am_goto (tgt := 20) X dX7_trace_15 (by decide) ?_
    exact am_jump (t_X7_trace_20 hG N _ _ _ _ _ _ h K h0 X) rfl ⟨rfl, rfl, trivial⟩
set_option maxRecDepth 100000 in
set_option maxHeartbeats 4000000 in
theorem t_X7_undo_12b {G : Cx} (hG : am_G G) (N : Nat) (k12 : Int32 → Sg → Option (Int32 × Sg)) (hk12 : ∀ (x1 : Int32) (σ : Sg) (r : Int32 × Sg), k12 x1 σ = some r → am_Wp G mX7_undo 0 (am_qi r.1 r.2) 12 [some (.ref 60), some (.int x1)] [] σ) (x1 : Int32) (σ : Sg) (r : Int32 × Sg) (h : b_X7_undo_12b N k12 x1 σ = some r) : am_Wp G mX7_undo 0 (am_qi r.1 r.2) 12 [some (.ref 60), some (.int x1)] [] σ := by
  intro K h0 X
  unfold b_X7_undo_12b at h
  refine am_iload_n X dX7_undo_12 rfl rfl ?_
  refine am_sipush (v := (906 : Int32)) X dX7_undo_13 (by decide) ?_
  refine am_icmp_ge (tgt := 37) X dX7_undo_16 (by decide) (fun c => ?_) (fun c => ?_)
  · have h := if_t h c
    refine am_aload_n X dX7_undo_37 rfl rfl ?_
    refine am_getf (v := .ref 61) X dX7_undo_38 fl_X7_9 rfl rfl (by decide) ?_
    refine am_iconst (v := (0 : Int32)) X dX7_undo_41 (by decide) ?_
    obtain ⟨g, h⟩ := gd_some h
    refine am_iald X dX7_undo_42 rfl g ?_
    obtain rfl := Option.some.inj h
    exact am_iret X h0 dX7_undo_43 rfl ⟨rfl, rfl⟩
  · have h := if_f h c
    refine am_aload_n X dX7_undo_19 rfl rfl ?_
    refine am_getf (v := .ref 61) X dX7_undo_20 fl_X7_9 rfl rfl (by decide) ?_
    refine am_iload_n X dX7_undo_23 rfl rfl ?_
    refine am_aload_n X dX7_undo_24 rfl rfl ?_
    refine am_getf (v := .ref 62) X dX7_undo_25 fl_X7_15 rfl rfl (by decide) ?_
    refine am_iload_n X dX7_undo_28 rfl rfl ?_
    obtain ⟨g, h⟩ := gd_some h
    refine am_iald X dX7_undo_29 rfl g ?_
    obtain ⟨g, h⟩ := gd_some h
    refine am_iast X dX7_undo_30 rfl g ?_
    refine am_tops h (fun σ30 h => ?_)
    refine am_iinc (ls' := fun x1_31 => [some (.ref 60), some (.int x1_31)]) X dX7_undo_31 rfl h (by decide) (by decide) rfl (fun _ => rfl) (fun x1_31 h => ?_)
    refine am_goto (tgt := 12) X dX7_undo_34 (by decide) ?_
    exact am_jump (hk12 _ _ _ h K h0 X) rfl ⟨rfl, rfl, trivial⟩
set_option maxRecDepth 100000 in
set_option maxHeartbeats 4000000 in
theorem t_X7_undo_12 {G : Cx} (hG : am_G G) (N : Nat) : ∀ (n : Nat) (x1 : Int32) (σ : Sg) (r : Int32 × Sg), b_X7_undo_12 N n x1 σ = some r → am_Wp G mX7_undo 0 (am_qi r.1 r.2) 12 [some (.ref 60), some (.int x1)] [] σ := by
  intro n
  induction n with
  | zero => intro x1 σ r h; cases h
  | succ n ih => intro x1 σ r h; exact t_X7_undo_12b hG N (b_X7_undo_12 N n) ih x1 σ r h
set_option maxRecDepth 100000 in
set_option maxHeartbeats 4000000 in
theorem ct_X7_undo {G : Cx} (hG : am_G G) (N : Nat) (σ : Sg) (r : Int32 × Sg) (h : f_X7_undo N σ = some r) : am_Ct G 1 yX7_undo mX7_undo [.ref 60] σ (am_qi r.1 r.2) := by
  refine am_enter hG rfl rfl (Nat.le_of_ble_eq_true rfl) ?_
  intro K h0 X
  unfold f_X7_undo at h
  refine am_jump (pc' := 0) (ls' := [some (.ref 60), none]) ?_ rfl ⟨rfl, trivial⟩
  refine am_aload_n X dX7_undo_0 rfl rfl ?_
  refine am_getf (v := .int (rg σ 60 3)) X dX7_undo_1 fl_X7_314 rfl rfl (by decide) ?_
  refine am_if_ne (tgt := 10) X dX7_undo_4 (by decide) (fun c => ?_) (fun c => ?_)
  · have h := if_f h c
    refine am_iconst (v := (0 : Int32)) X dX7_undo_10 (by decide) ?_
    refine am_istore_n (ls' := [some (.ref 60), some (.int (0 : Int32))]) X dX7_undo_11 rfl (by decide)  rfl rfl ?_
    exact am_jump (t_X7_undo_12 hG N N _ _ _ h K h0 X) rfl ⟨rfl, rfl, trivial⟩
  · have h := if_t h c
    refine am_bipush (v := (-3 : Int32)) X dX7_undo_7 (by decide) ?_
    obtain rfl := Option.some.inj h
    exact am_iret X h0 dX7_undo_9 rfl ⟨rfl, rfl⟩
set_option maxRecDepth 100000 in
set_option maxHeartbeats 4000000 in
theorem ct_X7_way {G : Cx} (hG : am_G G) (N : Nat) (x1 : Int32) (x2 : Int32) (σ : Sg) (r : Int32 × Sg) (h : f_X7_way N x1 x2 σ = some r) : am_Ct G 6 yX7_way mX7_way [.ref 60, .int x1, .int x2] σ (am_qi r.1 r.2) := by
  refine am_enter hG rfl rfl (Nat.le_of_ble_eq_true rfl) ?_
  intro K h0 X
  unfold f_X7_way at h
  refine am_jump (pc' := 0) (ls' := [some (.ref 60), some (.int x1), some (.int x2)]) ?_ rfl ⟨rfl, rfl, rfl, trivial⟩
  refine am_aload_n X dX7_way_0 rfl rfl ?_
  refine am_iload_n X dX7_way_1 rfl rfl ?_
  obtain ⟨v2, σ2, hc, h⟩ := bd2_some h
  refine am_callv_i1 X dX7_way_2 cw_X7_161 (ct_X7_isStreet hG N _ _ _ hc) (Nat.le_of_ble_eq_true rfl) rfl rfl rfl rfl (Nat.le_of_ble_eq_true rfl) ?_
  refine am_if_eq (tgt := 16) X dX7_way_5 (by decide) (fun c => ?_) (fun c => ?_)
  · have h := if_t h c
    refine am_iconst (v := (-1 : Int32)) X dX7_way_16 (by decide) ?_
    obtain rfl := Option.some.inj h
    exact am_iret X h0 dX7_way_17 rfl ⟨rfl, rfl⟩
  · have h := if_f h c
    refine am_aload_n X dX7_way_8 rfl rfl ?_
    refine am_iload_n X dX7_way_9 rfl rfl ?_
    obtain ⟨v10, σ10, hc, h⟩ := bd2_some h
    refine am_callv_i1 X dX7_way_10 cw_X7_161 (ct_X7_isStreet hG N _ _ _ hc) (Nat.le_of_ble_eq_true rfl) rfl rfl rfl rfl (Nat.le_of_ble_eq_true rfl) ?_
    refine am_if_ne (tgt := 18) X dX7_way_13 (by decide) (fun c => ?_) (fun c => ?_)
    · have h := if_f h c
      refine am_aload_n X dX7_way_18 rfl rfl ?_
      obtain ⟨σ19, hc, h⟩ := bd_some h
      refine am_callv_v0 X dX7_way_19 cw_X7_254 (ct_X7_looksForWays hG N _ _ hc) (Nat.le_of_ble_eq_true rfl) rfl rfl rfl rfl (Nat.le_of_ble_eq_true rfl) ?_
      refine am_aload_n X dX7_way_22 rfl rfl ?_
      refine am_getf (v := .ref 77) X dX7_way_23 fl_X7_61 rfl rfl (by decide) ?_
      refine am_bipush (v := (7 : Int32)) X dX7_way_26 (by decide) ?_
      refine am_iload_n X dX7_way_28 rfl rfl ?_
      refine am_imul X dX7_way_29 ?_
      refine am_iload_n X dX7_way_30 rfl rfl ?_
      refine am_iadd X dX7_way_31 ?_
      obtain ⟨g, h⟩ := gd_some h
      refine am_iald X dX7_way_32 rfl g ?_
      refine am_ldc (v := (1000000000 : Int32)) X dX7_way_33 (wm_r27 _ (List.mem_of_getElem? (i := 1) rfl)) ?_
      refine am_icmp_lt (tgt := 43) X dX7_way_35 (by decide) (fun c => ?_) (fun c => ?_)
      · have h := if_t h c
        refine am_aload_n X dX7_way_43 rfl rfl ?_
        refine am_getf (v := .ref 77) X dX7_way_44 fl_X7_61 rfl rfl (by decide) ?_
        refine am_bipush (v := (7 : Int32)) X dX7_way_47 (by decide) ?_
        refine am_iload_n X dX7_way_49 rfl rfl ?_
        refine am_imul X dX7_way_50 ?_
        refine am_iload_n X dX7_way_51 rfl rfl ?_
        refine am_iadd X dX7_way_52 ?_
        obtain ⟨g, h⟩ := gd_some h
        refine am_iald X dX7_way_53 rfl g ?_
        obtain rfl := Option.some.inj h
        exact am_iret X h0 dX7_way_54 rfl ⟨rfl, rfl⟩
      · have h := if_f h c
        refine am_bipush (v := (-5 : Int32)) X dX7_way_38 (by decide) ?_
        refine am_goto (tgt := 54) X dX7_way_40 (by decide) ?_
        obtain rfl := Option.some.inj h
        exact am_iret X h0 dX7_way_54 rfl ⟨rfl, rfl⟩
    · have h := if_t h c
      refine am_iconst (v := (-1 : Int32)) X dX7_way_16 (by decide) ?_
      obtain rfl := Option.some.inj h
      exact am_iret X h0 dX7_way_17 rfl ⟨rfl, rfl⟩
set_option maxRecDepth 100000 in
set_option maxHeartbeats 4000000 in
theorem t_X7_ways_38b {G : Cx} (hG : am_G G) (N : Nat) (k38 : Int32 → Int32 → Int32 → Sg → Option (Int64 × Sg)) (hk38 : ∀ (x2 : Int32) (x3 : Int32) (x4 : Int32) (σ : Sg) (r : Int64 × Sg), k38 x2 x3 x4 σ = some r → am_Wp G mX7_ways 3 (am_ql r.1 r.2) 38 [some (.ref 60), none, some (.int x2), some (.int x3), some (.int x4)] [] σ) (x2 : Int32) (x3 : Int32) (x4 : Int32) (σ : Sg) (r : Int64 × Sg) (h : b_X7_ways_38b N k38 x2 x3 x4 σ = some r) : am_Wp G mX7_ways 3 (am_ql r.1 r.2) 38 [some (.ref 60), none, some (.int x2), some (.int x3), some (.int x4)] [] σ := by
  intro K h0 X
  unfold b_X7_ways_38b at h
  refine am_iload X dX7_ways_38 rfl ?_
  refine am_iload_n X dX7_ways_40 rfl rfl ?_
  refine am_icmp_ge (tgt := 55) X dX7_ways_41 (by decide) (fun c => ?_) (fun c => ?_)
  · have h := if_t h c
    refine am_aload_n X dX7_ways_55 rfl rfl ?_
    refine am_getf (v := .ref 80) X dX7_ways_56 fl_X7_70 rfl rfl (by decide) ?_
    refine am_iload_n X dX7_ways_59 rfl rfl ?_
    obtain ⟨g, h⟩ := gd_some h
    refine am_lald X dX7_ways_60 rfl g ?_
    obtain rfl := Option.some.inj h
    exact am_lret X h0 dX7_ways_61 rfl ⟨rfl, rfl⟩
  · have h := if_f h c
    refine am_aload_n X dX7_ways_44 rfl rfl ?_
    refine am_iconst (v := (0 : Int32)) X dX7_ways_45 (by decide) ?_
    obtain ⟨σ46, hc, h⟩ := bd_some h
    refine am_callv_v1 X dX7_ways_46 cw_X7_271 (ct_X7_goesOn hG N _ _ _ hc) (Nat.le_of_ble_eq_true rfl) rfl rfl rfl rfl (Nat.le_of_ble_eq_true rfl) ?_
    refine am_iinc (ls' := fun x4_49 => [some (.ref 60), none, some (.int x2), some (.int x3), some (.int x4_49)]) X dX7_ways_49 rfl h (by decide) (by decide) rfl (fun _ => rfl) (fun x4_49 h => ?_)
    refine am_goto (tgt := 38) X dX7_ways_52 (by decide) ?_
    exact am_jump (hk38 _ _ _ _ _ h K h0 X) rfl ⟨rfl, rfl, rfl, rfl, trivial⟩
set_option maxRecDepth 100000 in
set_option maxHeartbeats 4000000 in
theorem t_X7_ways_38 {G : Cx} (hG : am_G G) (N : Nat) : ∀ (n : Nat) (x2 : Int32) (x3 : Int32) (x4 : Int32) (σ : Sg) (r : Int64 × Sg), b_X7_ways_38 N n x2 x3 x4 σ = some r → am_Wp G mX7_ways 3 (am_ql r.1 r.2) 38 [some (.ref 60), none, some (.int x2), some (.int x3), some (.int x4)] [] σ := by
  intro n
  induction n with
  | zero => intro x2 x3 x4 σ r h; cases h
  | succ n ih => intro x2 x3 x4 σ r h; exact t_X7_ways_38b hG N (b_X7_ways_38 N n) ih x2 x3 x4 σ r h
set_option maxRecDepth 100000 in
set_option maxHeartbeats 4000000 in
theorem ct_X7_ways {G : Cx} (hG : am_G G) (N : Nat) (x1 : Int32) (x2 : Int32) (x3 : Int32) (σ : Sg) (r : Int64 × Sg) (h : f_X7_ways N x1 x2 x3 σ = some r) : am_Ct G 4 yX7_ways mX7_ways [.ref 60, .int x1, .int x2, .int x3] σ (am_ql r.1 r.2) := by
  refine am_enter hG rfl rfl (Nat.le_of_ble_eq_true rfl) ?_
  intro K h0 X
  unfold f_X7_ways at h
  refine am_jump (pc' := 0) (ls' := [some (.ref 60), some (.int x1), some (.int x2), some (.int x3), none]) ?_ rfl ⟨rfl, rfl, rfl, rfl, trivial⟩
  refine am_aload_n X dX7_ways_0 rfl rfl ?_
  refine am_iload_n X dX7_ways_1 rfl rfl ?_
  obtain ⟨v2, σ2, hc, h⟩ := bd2_some h
  refine am_callv_i1 X dX7_ways_2 cw_X7_161 (ct_X7_isStreet hG N _ _ _ hc) (Nat.le_of_ble_eq_true rfl) rfl rfl rfl rfl (Nat.le_of_ble_eq_true rfl) ?_
  refine am_if_eq (tgt := 26) X dX7_ways_5 (by decide) (fun c => ?_) (fun c => ?_)
  · have h := if_t h c
    refine am_ldc2 (v := (-9223372036854775808 : Int64)) X dX7_ways_26 (wm_r33 _ (List.mem_of_getElem? (i := 17) rfl)) ?_
    obtain rfl := Option.some.inj h
    exact am_lret X h0 dX7_ways_29 rfl ⟨rfl, rfl⟩
  · have h := if_f h c
    refine am_aload_n X dX7_ways_8 rfl rfl ?_
    refine am_iload_n X dX7_ways_9 rfl rfl ?_
    obtain ⟨v10, σ10, hc, h⟩ := bd2_some h
    refine am_callv_i1 X dX7_ways_10 cw_X7_161 (ct_X7_isStreet hG N _ _ _ hc) (Nat.le_of_ble_eq_true rfl) rfl rfl rfl rfl (Nat.le_of_ble_eq_true rfl) ?_
    refine am_if_eq (tgt := 26) X dX7_ways_13 (by decide) (fun c => ?_) (fun c => ?_)
    · have h := if_t h c
      refine am_ldc2 (v := (-9223372036854775808 : Int64)) X dX7_ways_26 (wm_r33 _ (List.mem_of_getElem? (i := 17) rfl)) ?_
      obtain rfl := Option.some.inj h
      exact am_lret X h0 dX7_ways_29 rfl ⟨rfl, rfl⟩
    · have h := if_f h c
      refine am_iload_n X dX7_ways_16 rfl rfl ?_
      refine am_iconst (v := (0 : Int32)) X dX7_ways_17 (by decide) ?_
      refine am_bipush (v := (20 : Int32)) X dX7_ways_18 (by decide) ?_
      obtain ⟨v20, σ20, hc, h⟩ := bd2_some h
      refine am_calls_i3 X dX7_ways_20 cw_X7_84 (ct_X7_in hG N _ _ _ _ _ hc) (Nat.le_of_ble_eq_true rfl) rfl (Nat.le_of_ble_eq_true rfl) ?_
      refine am_if_ne (tgt := 30) X dX7_ways_23 (by decide) (fun c => ?_) (fun c => ?_)
      · have h := if_f h c
        refine am_aload_n X dX7_ways_30 rfl rfl ?_
        refine am_iload_n X dX7_ways_31 rfl rfl ?_
        obtain ⟨σ32, hc, h⟩ := bd_some h
        refine am_callv_v1 X dX7_ways_32 cw_X7_268 (ct_X7_begins hG N _ _ _ hc) (Nat.le_of_ble_eq_true rfl) rfl rfl rfl rfl (Nat.le_of_ble_eq_true rfl) ?_
        refine am_iconst (v := (0 : Int32)) X dX7_ways_35 (by decide) ?_
        refine am_istore (ls' := [some (.ref 60), some (.int x1), some (.int x2), some (.int x3), some (.int (0 : Int32))]) X dX7_ways_36 (by decide)  rfl rfl ?_
        exact am_jump (t_X7_ways_38 hG N N _ _ _ _ _ h K h0 X) rfl ⟨rfl, rfl, rfl, rfl, trivial⟩
      · have h := if_t h c
        refine am_ldc2 (v := (-9223372036854775808 : Int64)) X dX7_ways_26 (wm_r33 _ (List.mem_of_getElem? (i := 17) rfl)) ?_
        obtain rfl := Option.some.inj h
        exact am_lret X h0 dX7_ways_29 rfl ⟨rfl, rfl⟩
set_option maxRecDepth 100000 in
set_option maxHeartbeats 4000000 in
theorem t_X7_wrong_137 {G : Cx} (hG : am_G G) (N : Nat) (x1 : Int32) (x2 : Int32) (x3 : Int32) (σ : Sg) (r : Int32 × Sg) (h : b_X7_wrong_137 N x1 x2 x3 σ = some r) : am_Wp G mX7_wrong 1 (am_qi r.1 r.2) 137 [none, some (.int x1), some (.int x2), some (.int x3), none, none] [] σ := by
  intro K h0 X
  unfold b_X7_wrong_137 at h
  refine am_iload_n X dX7_wrong_137 rfl rfl ?_
  refine am_if_ne (tgt := 145) X dX7_wrong_138 (by decide) (fun c => ?_) (fun c => ?_)
  · have h := if_f h c
    refine am_iload_n X dX7_wrong_145 rfl rfl ?_
    obtain rfl := Option.some.inj h
    exact am_iret X h0 dX7_wrong_146 rfl ⟨rfl, rfl⟩
  · have h := if_t h c
    refine am_iload_n X dX7_wrong_141 rfl rfl ?_
    refine am_goto (tgt := 146) X dX7_wrong_142 (by decide) ?_
    obtain rfl := Option.some.inj h
    exact am_iret X h0 dX7_wrong_146 rfl ⟨rfl, rfl⟩
set_option maxRecDepth 100000 in
set_option maxHeartbeats 4000000 in
theorem t_X7_wrong_129 {G : Cx} (hG : am_G G) (N : Nat) (k59 : Int32 → Int32 → Int32 → Int32 → Sg → Option (Int32 × Sg)) (hk59 : ∀ (x1 : Int32) (x2 : Int32) (x3 : Int32) (x4 : Int32) (σ : Sg) (r : Int32 × Sg), k59 x1 x2 x3 x4 σ = some r → am_Wp G mX7_wrong 1 (am_qi r.1 r.2) 59 [some (.ref 60), some (.int x1), some (.int x2), some (.int x3), some (.int x4), none] [] σ) (x1 : Int32) (x2 : Int32) (x4 : Int32) (s0 : Int32) (s1 : Int32) (σ : Sg) (r : Int32 × Sg) (h : b_X7_wrong_129 N k59 x1 x2 x4 s0 s1 σ = some r) : am_Wp G mX7_wrong 1 (am_qi r.1 r.2) 129 [some (.ref 60), some (.int x1), some (.int x2), none, some (.int x4), none] [.int s1, .int s0] σ := by
  intro K h0 X
  unfold b_X7_wrong_129 at h
  refine am_ior X dX7_wrong_129 ?_
  refine am_topi h (fun x3_130 h => ?_)
  refine am_istore_n (ls' := [some (.ref 60), some (.int x1), some (.int x2), some (.int x3_130), some (.int x4), none]) X dX7_wrong_130 rfl (by decide)  rfl rfl ?_
  refine am_iinc (ls' := fun x4_131 => [some (.ref 60), some (.int x1), some (.int x2), some (.int x3_130), some (.int x4_131), none]) X dX7_wrong_131 rfl h (by decide) (by decide) rfl (fun _ => rfl) (fun x4_131 h => ?_)
  refine am_goto (tgt := 59) X dX7_wrong_134 (by decide) ?_
  exact am_jump (hk59 _ _ _ _ _ _ h K h0 X) rfl ⟨rfl, rfl, rfl, rfl, rfl, trivial⟩
set_option maxRecDepth 100000 in
set_option maxHeartbeats 4000000 in
theorem t_X7_wrong_106 {G : Cx} (hG : am_G G) (N : Nat) (k59 : Int32 → Int32 → Int32 → Int32 → Sg → Option (Int32 × Sg)) (hk59 : ∀ (x1 : Int32) (x2 : Int32) (x3 : Int32) (x4 : Int32) (σ : Sg) (r : Int32 × Sg), k59 x1 x2 x3 x4 σ = some r → am_Wp G mX7_wrong 1 (am_qi r.1 r.2) 59 [some (.ref 60), some (.int x1), some (.int x2), some (.int x3), some (.int x4), none] [] σ) (x1 : Int32) (x2 : Int32) (x3 : Int32) (x4 : Int32) (s0 : Int32) (σ : Sg) (r : Int32 × Sg) (h : b_X7_wrong_106 N k59 x1 x2 x3 x4 s0 σ = some r) : am_Wp G mX7_wrong 1 (am_qi r.1 r.2) 106 [some (.ref 60), some (.int x1), some (.int x2), some (.int x3), some (.int x4), none] [.int s0] σ := by
  intro K h0 X
  unfold b_X7_wrong_106 at h
  refine am_istore (ls' := [some (.ref 60), some (.int x1), some (.int x2), some (.int x3), some (.int x4), some (.int s0)]) X dX7_wrong_106 (by decide)  rfl rfl ?_
  refine am_iload_n X dX7_wrong_108 rfl rfl ?_
  refine am_iload X dX7_wrong_109 rfl ?_
  refine am_iconst (v := (0 : Int32)) X dX7_wrong_111 (by decide) ?_
  refine am_sipush (v := (999 : Int32)) X dX7_wrong_112 (by decide) ?_
  obtain ⟨v115, σ115, hc, h⟩ := bd2_some h
  refine am_calls_i3 X dX7_wrong_115 cw_X7_84 (ct_X7_in hG N _ _ _ _ _ hc) (Nat.le_of_ble_eq_true rfl) rfl (Nat.le_of_ble_eq_true rfl) ?_
  refine am_if_eq (tgt := 128) X dX7_wrong_118 (by decide) (fun c => ?_) (fun c => ?_)
  · have h := if_t h c
    refine am_iconst (v := (0 : Int32)) X dX7_wrong_128 (by decide) ?_
    exact am_jump (t_X7_wrong_129 hG N k59 hk59 _ _ _ _ _ _ _ h K h0 X) rfl ⟨rfl, rfl, rfl, rfl, trivial⟩
  · have h := if_f h c
    refine am_iconst (v := (1 : Int32)) X dX7_wrong_121 (by decide) ?_
    refine am_iload X dX7_wrong_122 rfl ?_
    refine am_ishl X dX7_wrong_124 ?_
    refine am_goto (tgt := 129) X dX7_wrong_125 (by decide) ?_
    exact am_jump (t_X7_wrong_129 hG N k59 hk59 _ _ _ _ _ _ _ h K h0 X) rfl ⟨rfl, rfl, rfl, rfl, trivial⟩
set_option maxRecDepth 100000 in
set_option maxHeartbeats 4000000 in
theorem t_X7_wrong_59b {G : Cx} (hG : am_G G) (N : Nat) (k59 : Int32 → Int32 → Int32 → Int32 → Sg → Option (Int32 × Sg)) (hk59 : ∀ (x1 : Int32) (x2 : Int32) (x3 : Int32) (x4 : Int32) (σ : Sg) (r : Int32 × Sg), k59 x1 x2 x3 x4 σ = some r → am_Wp G mX7_wrong 1 (am_qi r.1 r.2) 59 [some (.ref 60), some (.int x1), some (.int x2), some (.int x3), some (.int x4), none] [] σ) (x1 : Int32) (x2 : Int32) (x3 : Int32) (x4 : Int32) (σ : Sg) (r : Int32 × Sg) (h : b_X7_wrong_59b N k59 x1 x2 x3 x4 σ = some r) : am_Wp G mX7_wrong 1 (am_qi r.1 r.2) 59 [some (.ref 60), some (.int x1), some (.int x2), some (.int x3), some (.int x4), none] [] σ := by
  intro K h0 X
  unfold b_X7_wrong_59b at h
  refine am_iload X dX7_wrong_59 rfl ?_
  refine am_aload_n X dX7_wrong_61 rfl rfl ?_
  refine am_getf (v := .ref 61) X dX7_wrong_62 fl_X7_9 rfl rfl (by decide) ?_
  refine am_iconst (v := (2 : Int32)) X dX7_wrong_65 (by decide) ?_
  obtain ⟨g, h⟩ := gd_some h
  refine am_iald X dX7_wrong_66 rfl g ?_
  refine am_icmp_ge (tgt := 137) X dX7_wrong_67 (by decide) (fun c => ?_) (fun c => ?_)
  · have h := if_t h c
    exact am_jump (t_X7_wrong_137 hG N _ _ _ _ _ h K h0 X) rfl ⟨rfl, rfl, rfl, trivial⟩
  · have h := if_f h c
    refine am_iload_n X dX7_wrong_70 rfl rfl ?_
    refine am_if_eq (tgt := 137) X dX7_wrong_71 (by decide) (fun c => ?_) (fun c => ?_)
    · have h := if_t h c
      exact am_jump (t_X7_wrong_137 hG N _ _ _ _ _ h K h0 X) rfl ⟨rfl, rfl, rfl, trivial⟩
    · have h := if_f h c
      refine am_iload_n X dX7_wrong_74 rfl rfl ?_
      refine am_iconst (v := (1 : Int32)) X dX7_wrong_75 (by decide) ?_
      refine am_icmp_ne (tgt := 94) X dX7_wrong_76 (by decide) (fun c => ?_) (fun c => ?_)
      · have h := if_f h c
        refine am_aload_n X dX7_wrong_94 rfl rfl ?_
        refine am_getf (v := .ref 61) X dX7_wrong_95 fl_X7_9 rfl rfl (by decide) ?_
        refine am_bipush (v := (94 : Int32)) X dX7_wrong_98 (by decide) ?_
        refine am_iload X dX7_wrong_100 rfl ?_
        refine am_iadd X dX7_wrong_102 ?_
        obtain ⟨g, h⟩ := gd_some h
        refine am_iald X dX7_wrong_103 rfl g ?_
        refine am_iload_n X dX7_wrong_104 rfl rfl ?_
        refine am_iadd X dX7_wrong_105 ?_
        exact am_jump (t_X7_wrong_106 hG N k59 hk59 _ _ _ _ _ _ _ h K h0 X) rfl ⟨rfl, rfl, rfl, rfl, rfl, trivial⟩
      · have h := if_t h c
        refine am_aload_n X dX7_wrong_79 rfl rfl ?_
        refine am_getf (v := .ref 61) X dX7_wrong_80 fl_X7_9 rfl rfl (by decide) ?_
        refine am_bipush (v := (87 : Int32)) X dX7_wrong_83 (by decide) ?_
        refine am_iload X dX7_wrong_85 rfl ?_
        refine am_iadd X dX7_wrong_87 ?_
        obtain ⟨g, h⟩ := gd_some h
        refine am_iald X dX7_wrong_88 rfl g ?_
        refine am_iload_n X dX7_wrong_89 rfl rfl ?_
        refine am_isub X dX7_wrong_90 ?_
        refine am_goto (tgt := 106) X dX7_wrong_91 (by decide) ?_
        exact am_jump (t_X7_wrong_106 hG N k59 hk59 _ _ _ _ _ _ _ h K h0 X) rfl ⟨rfl, rfl, rfl, rfl, rfl, trivial⟩
set_option maxRecDepth 100000 in
set_option maxHeartbeats 4000000 in
theorem t_X7_wrong_59 {G : Cx} (hG : am_G G) (N : Nat) : ∀ (n : Nat) (x1 : Int32) (x2 : Int32) (x3 : Int32) (x4 : Int32) (σ : Sg) (r : Int32 × Sg), b_X7_wrong_59 N n x1 x2 x3 x4 σ = some r → am_Wp G mX7_wrong 1 (am_qi r.1 r.2) 59 [some (.ref 60), some (.int x1), some (.int x2), some (.int x3), some (.int x4), none] [] σ := by
  intro n
  induction n with
  | zero => intro x1 x2 x3 x4 σ r h; cases h
  | succ n ih => intro x1 x2 x3 x4 σ r h; exact t_X7_wrong_59b hG N (b_X7_wrong_59 N n) ih x1 x2 x3 x4 σ r h
set_option maxRecDepth 100000 in
set_option maxHeartbeats 4000000 in
theorem t_X7_wrong_16b {G : Cx} (hG : am_G G) (N : Nat) (k16 : Int32 → Int32 → Int32 → Sg → Option (Int32 × Sg)) (hk16 : ∀ (x1 : Int32) (x2 : Int32) (x3 : Int32) (σ : Sg) (r : Int32 × Sg), k16 x1 x2 x3 σ = some r → am_Wp G mX7_wrong 1 (am_qi r.1 r.2) 16 [some (.ref 60), some (.int x1), some (.int x2), some (.int x3), none, none] [] σ) (x1 : Int32) (x2 : Int32) (x3 : Int32) (σ : Sg) (r : Int32 × Sg) (h : b_X7_wrong_16b N k16 x1 x2 x3 σ = some r) : am_Wp G mX7_wrong 1 (am_qi r.1 r.2) 16 [some (.ref 60), some (.int x1), some (.int x2), some (.int x3), none, none] [] σ := by
  intro K h0 X
  unfold b_X7_wrong_16b at h
  refine am_iload_n X dX7_wrong_16 rfl rfl ?_
  refine am_aload_n X dX7_wrong_17 rfl rfl ?_
  refine am_getf (v := .ref 61) X dX7_wrong_18 fl_X7_9 rfl rfl (by decide) ?_
  refine am_iconst (v := (2 : Int32)) X dX7_wrong_21 (by decide) ?_
  obtain ⟨g, h⟩ := gd_some h
  refine am_iald X dX7_wrong_22 rfl g ?_
  refine am_icmp_ge (tgt := 54) X dX7_wrong_23 (by decide) (fun c => ?_) (fun c => ?_)
  · have h := if_t h c
    refine am_iconst (v := (0 : Int32)) X dX7_wrong_54 (by decide) ?_
    refine am_istore_n (ls' := [some (.ref 60), some (.int x1), some (.int x2), some (.int (0 : Int32)), none, none]) X dX7_wrong_55 rfl (by decide)  rfl rfl ?_
    refine am_iconst (v := (0 : Int32)) X dX7_wrong_56 (by decide) ?_
    refine am_istore (ls' := [some (.ref 60), some (.int x1), some (.int x2), some (.int (0 : Int32)), some (.int (0 : Int32)), none]) X dX7_wrong_57 (by decide)  rfl rfl ?_
    exact am_jump (t_X7_wrong_59 hG N N _ _ _ _ _ _ h K h0 X) rfl ⟨rfl, rfl, rfl, rfl, rfl, trivial⟩
  · have h := if_f h c
    refine am_iload_n X dX7_wrong_26 rfl rfl ?_
    refine am_aload_n X dX7_wrong_27 rfl rfl ?_
    refine am_getf (v := .ref 61) X dX7_wrong_28 fl_X7_9 rfl rfl (by decide) ?_
    refine am_bipush (v := (87 : Int32)) X dX7_wrong_31 (by decide) ?_
    refine am_iload_n X dX7_wrong_33 rfl rfl ?_
    refine am_iadd X dX7_wrong_34 ?_
    obtain ⟨g, h⟩ := gd_some h
    refine am_iald X dX7_wrong_35 rfl g ?_
    refine am_aload_n X dX7_wrong_36 rfl rfl ?_
    refine am_getf (v := .ref 61) X dX7_wrong_37 fl_X7_9 rfl rfl (by decide) ?_
    refine am_bipush (v := (94 : Int32)) X dX7_wrong_40 (by decide) ?_
    refine am_iload_n X dX7_wrong_42 rfl rfl ?_
    refine am_iadd X dX7_wrong_43 ?_
    obtain ⟨g, h⟩ := gd_some h
    refine am_iald X dX7_wrong_44 rfl g ?_
    refine am_isub X dX7_wrong_45 ?_
    refine am_iadd X dX7_wrong_46 ?_
    refine am_topi h (fun x2_47 h => ?_)
    refine am_istore_n (ls' := [some (.ref 60), some (.int x1), some (.int x2_47), some (.int x3), none, none]) X dX7_wrong_47 rfl (by decide)  rfl rfl ?_
    refine am_iinc (ls' := fun x3_48 => [some (.ref 60), some (.int x1), some (.int x2_47), some (.int x3_48), none, none]) X dX7_wrong_48 rfl h (by decide) (by decide) rfl (fun _ => rfl) (fun x3_48 h => ?_)
    refine am_goto (tgt := 16) X dX7_wrong_51 (by decide) ?_
    exact am_jump (hk16 _ _ _ _ _ h K h0 X) rfl ⟨rfl, rfl, rfl, rfl, trivial⟩
set_option maxRecDepth 100000 in
set_option maxHeartbeats 4000000 in
theorem t_X7_wrong_16 {G : Cx} (hG : am_G G) (N : Nat) : ∀ (n : Nat) (x1 : Int32) (x2 : Int32) (x3 : Int32) (σ : Sg) (r : Int32 × Sg), b_X7_wrong_16 N n x1 x2 x3 σ = some r → am_Wp G mX7_wrong 1 (am_qi r.1 r.2) 16 [some (.ref 60), some (.int x1), some (.int x2), some (.int x3), none, none] [] σ := by
  intro n
  induction n with
  | zero => intro x1 x2 x3 σ r h; cases h
  | succ n ih => intro x1 x2 x3 σ r h; exact t_X7_wrong_16b hG N (b_X7_wrong_16 N n) ih x1 x2 x3 σ r h
set_option maxRecDepth 100000 in
set_option maxHeartbeats 4000000 in
theorem ct_X7_wrong {G : Cx} (hG : am_G G) (N : Nat) (x1 : Int32) (σ : Sg) (r : Int32 × Sg) (h : f_X7_wrong N x1 σ = some r) : am_Ct G 2 yX7_wrong mX7_wrong [.ref 60, .int x1] σ (am_qi r.1 r.2) := by
  refine am_enter hG rfl rfl (Nat.le_of_ble_eq_true rfl) ?_
  intro K h0 X
  unfold f_X7_wrong at h
  refine am_jump (pc' := 0) (ls' := [some (.ref 60), some (.int x1), none, none, none, none]) ?_ rfl ⟨rfl, rfl, trivial⟩
  refine am_iload_n X dX7_wrong_0 rfl rfl ?_
  refine am_iconst (v := (0 : Int32)) X dX7_wrong_1 (by decide) ?_
  refine am_iconst (v := (2 : Int32)) X dX7_wrong_2 (by decide) ?_
  obtain ⟨v3, σ3, hc, h⟩ := bd2_some h
  refine am_calls_i3 X dX7_wrong_3 cw_X7_84 (ct_X7_in hG N _ _ _ _ _ hc) (Nat.le_of_ble_eq_true rfl) rfl (Nat.le_of_ble_eq_true rfl) ?_
  refine am_if_ne (tgt := 12) X dX7_wrong_6 (by decide) (fun c => ?_) (fun c => ?_)
  · have h := if_f h c
    refine am_iconst (v := (0 : Int32)) X dX7_wrong_12 (by decide) ?_
    refine am_istore_n (ls' := [some (.ref 60), some (.int x1), some (.int (0 : Int32)), none, none, none]) X dX7_wrong_13 rfl (by decide)  rfl rfl ?_
    refine am_iconst (v := (0 : Int32)) X dX7_wrong_14 (by decide) ?_
    refine am_istore_n (ls' := [some (.ref 60), some (.int x1), some (.int (0 : Int32)), some (.int (0 : Int32)), none, none]) X dX7_wrong_15 rfl (by decide)  rfl rfl ?_
    exact am_jump (t_X7_wrong_16 hG N N _ _ _ _ _ h K h0 X) rfl ⟨rfl, rfl, rfl, rfl, trivial⟩
  · have h := if_t h c
    refine am_ldc (v := (-1000001 : Int32)) X dX7_wrong_9 (wm_r20 _ (List.mem_of_getElem? (i := 3) rfl)) ?_
    obtain rfl := Option.some.inj h
    exact am_iret X h0 dX7_wrong_11 rfl ⟨rfl, rfl⟩
