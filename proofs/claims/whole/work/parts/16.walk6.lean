set_option maxRecDepth 100000 in
set_option maxHeartbeats 4000000 in
theorem t_X7_looksForWays_188 {G : Cx} (hG : am_G G) (N : Nat) (k87 : Int32 → Sg → Option (Sg)) (k99 : Int32 → Int32 → Sg → Option (Sg)) (k111 : Int32 → Int32 → Int32 → Sg → Option (Sg)) (hk87 : ∀ (x1 : Int32) (σ : Sg) (r : Sg), k87 x1 σ = some r → am_Wp G mX7_looksForWays 4 (am_qv r) 87 [some (.ref 60), some (.int x1), none, none, none] [] σ) (hk99 : ∀ (x1 : Int32) (x2 : Int32) (σ : Sg) (r : Sg), k99 x1 x2 σ = some r → am_Wp G mX7_looksForWays 4 (am_qv r) 99 [some (.ref 60), some (.int x1), some (.int x2), none, none] [] σ) (hk111 : ∀ (x1 : Int32) (x2 : Int32) (x3 : Int32) (σ : Sg) (r : Sg), k111 x1 x2 x3 σ = some r → am_Wp G mX7_looksForWays 4 (am_qv r) 111 [some (.ref 60), some (.int x1), some (.int x2), some (.int x3), none] [] σ) (x1 : Int32) (x2 : Int32) (x3 : Int32) (s1 : Int32) (s2 : Int32) (σ : Sg) (r : Sg) (h : b_X7_looksForWays_188 N k87 k99 k111 x1 x2 x3 s1 s2 σ = some r) : am_Wp G mX7_looksForWays 4 (am_qv r) 188 [some (.ref 60), some (.int x1), some (.int x2), some (.int x3), none] [.int s2, .int s1, .ref 77] σ := by
  intro K h0 X
  unfold b_X7_looksForWays_188 at h
  obtain ⟨g, h⟩ := gd_some h
  refine am_iast X dX7_looksForWays_188 rfl g ?_
  refine am_tops h (fun σ188 h => ?_)
  refine am_iinc (ls' := fun x3_189 => [some (.ref 60), some (.int x1), some (.int x2), some (.int x3_189), none]) X dX7_looksForWays_189 rfl h (by decide) (by decide) rfl (fun _ => rfl) (fun x3_189 h => ?_)
  refine am_goto (tgt := 111) X dX7_looksForWays_192 (by decide) ?_
  exact am_jump (hk111 _ _ _ _ _ h K h0 X) rfl ⟨rfl, rfl, rfl, rfl, trivial⟩
set_option maxRecDepth 100000 in
set_option maxHeartbeats 4000000 in
theorem t_X7_looksForWays_111b {G : Cx} (hG : am_G G) (N : Nat) (k87 : Int32 → Sg → Option (Sg)) (k99 : Int32 → Int32 → Sg → Option (Sg)) (k111 : Int32 → Int32 → Int32 → Sg → Option (Sg)) (hk87 : ∀ (x1 : Int32) (σ : Sg) (r : Sg), k87 x1 σ = some r → am_Wp G mX7_looksForWays 4 (am_qv r) 87 [some (.ref 60), some (.int x1), none, none, none] [] σ) (hk99 : ∀ (x1 : Int32) (x2 : Int32) (σ : Sg) (r : Sg), k99 x1 x2 σ = some r → am_Wp G mX7_looksForWays 4 (am_qv r) 99 [some (.ref 60), some (.int x1), some (.int x2), none, none] [] σ) (hk111 : ∀ (x1 : Int32) (x2 : Int32) (x3 : Int32) (σ : Sg) (r : Sg), k111 x1 x2 x3 σ = some r → am_Wp G mX7_looksForWays 4 (am_qv r) 111 [some (.ref 60), some (.int x1), some (.int x2), some (.int x3), none] [] σ) (x1 : Int32) (x2 : Int32) (x3 : Int32) (σ : Sg) (r : Sg) (h : b_X7_looksForWays_111b N k87 k99 k111 x1 x2 x3 σ = some r) : am_Wp G mX7_looksForWays 4 (am_qv r) 111 [some (.ref 60), some (.int x1), some (.int x2), some (.int x3), none] [] σ := by
  intro K h0 X
  unfold b_X7_looksForWays_111b at h
  refine am_iload_n X dX7_looksForWays_111 rfl rfl ?_
  refine am_aload_n X dX7_looksForWays_112 rfl rfl ?_
  refine am_getf (v := .ref 61) X dX7_looksForWays_113 fl_X7_9 rfl rfl (by decide) ?_
  refine am_iconst (v := (0 : Int32)) X dX7_looksForWays_116 (by decide) ?_
  obtain ⟨g, h⟩ := gd_some h
  refine am_iald X dX7_looksForWays_117 rfl g ?_
  refine am_icmp_ge (tgt := 195) X dX7_looksForWays_118 (by decide) (fun c => ?_) (fun c => ?_)
  · have h := if_t h c
    refine am_iinc (ls' := fun x2_195 => [some (.ref 60), some (.int x1), some (.int x2_195), some (.int x3), none]) X dX7_looksForWays_195 rfl h (by decide) (by decide) rfl (fun _ => rfl) (fun x2_195 h => ?_)
    refine am_goto (tgt := 99) X dX7_looksForWays_198 (by decide) ?_
    exact am_jump (hk99 _ _ _ _ h K h0 X) rfl ⟨rfl, rfl, rfl, trivial⟩
  · have h := if_f h c
    refine am_aload_n X dX7_looksForWays_121 rfl rfl ?_
    refine am_getf (v := .ref 77) X dX7_looksForWays_122 fl_X7_61 rfl rfl (by decide) ?_
    refine am_bipush (v := (7 : Int32)) X dX7_looksForWays_125 (by decide) ?_
    refine am_iload_n X dX7_looksForWays_127 rfl rfl ?_
    refine am_imul X dX7_looksForWays_128 ?_
    refine am_iload_n X dX7_looksForWays_129 rfl rfl ?_
    refine am_iadd X dX7_looksForWays_130 ?_
    obtain ⟨g, h⟩ := gd_some h
    refine am_iald X dX7_looksForWays_131 rfl g ?_
    refine am_aload_n X dX7_looksForWays_132 rfl rfl ?_
    refine am_getf (v := .ref 77) X dX7_looksForWays_133 fl_X7_61 rfl rfl (by decide) ?_
    refine am_bipush (v := (7 : Int32)) X dX7_looksForWays_136 (by decide) ?_
    refine am_iload_n X dX7_looksForWays_138 rfl rfl ?_
    refine am_imul X dX7_looksForWays_139 ?_
    refine am_iload_n X dX7_looksForWays_140 rfl rfl ?_
    refine am_iadd X dX7_looksForWays_141 ?_
    obtain ⟨g, h⟩ := gd_some h
    refine am_iald X dX7_looksForWays_142 rfl g ?_
    refine am_iadd X dX7_looksForWays_143 ?_
    refine am_topi h (fun x4_144 h => ?_)
    refine am_istore (ls' := [some (.ref 60), some (.int x1), some (.int x2), some (.int x3), some (.int x4_144)]) X dX7_looksForWays_144 (by decide)  rfl rfl ?_
    refine am_aload_n X dX7_looksForWays_146 rfl rfl ?_
    refine am_getf (v := .ref 77) X dX7_looksForWays_147 fl_X7_61 rfl rfl (by decide) ?_
    refine am_bipush (v := (7 : Int32)) X dX7_looksForWays_150 (by decide) ?_
    refine am_iload_n X dX7_looksForWays_152 rfl rfl ?_
    refine am_imul X dX7_looksForWays_153 ?_
    refine am_iload_n X dX7_looksForWays_154 rfl rfl ?_
    refine am_iadd X dX7_looksForWays_155 ?_
    refine am_iload X dX7_looksForWays_156 rfl ?_
    refine am_aload_n X dX7_looksForWays_158 rfl rfl ?_
    refine am_getf (v := .ref 77) X dX7_looksForWays_159 fl_X7_61 rfl rfl (by decide) ?_
    refine am_bipush (v := (7 : Int32)) X dX7_looksForWays_162 (by decide) ?_
    refine am_iload_n X dX7_looksForWays_164 rfl rfl ?_
    refine am_imul X dX7_looksForWays_165 ?_
    refine am_iload_n X dX7_looksForWays_166 rfl rfl ?_
    refine am_iadd X dX7_looksForWays_167 ?_
    obtain ⟨g, h⟩ := gd_some h
    refine am_iald X dX7_looksForWays_168 rfl g ?_
    refine am_icmp_ge (tgt := 177) X dX7_looksForWays_169 (by decide) (fun c => ?_) (fun c => ?_)
    · have h := if_t h c
      refine am_aload_n X dX7_looksForWays_177 rfl rfl ?_
      refine am_getf (v := .ref 77) X dX7_looksForWays_178 fl_X7_61 rfl rfl (by decide) ?_
      refine am_bipush (v := (7 : Int32)) X dX7_looksForWays_181 (by decide) ?_
      refine am_iload_n X dX7_looksForWays_183 rfl rfl ?_
      refine am_imul X dX7_looksForWays_184 ?_
      refine am_iload_n X dX7_looksForWays_185 rfl rfl ?_
      refine am_iadd X dX7_looksForWays_186 ?_
      obtain ⟨g, h⟩ := gd_some h
      refine am_iald X dX7_looksForWays_187 rfl g ?_
      exact am_jump (t_X7_looksForWays_188 hG N k87 k99 k111 hk87 hk99 hk111 _ _ _ _ _ _ _ h K h0 X) rfl ⟨rfl, rfl, rfl, rfl, trivial⟩
    · have h := if_f h c
      refine am_iload X dX7_looksForWays_172 rfl ?_
      refine am_goto (tgt := 188) X dX7_looksForWays_174 (by decide) ?_
      exact am_jump (t_X7_looksForWays_188 hG N k87 k99 k111 hk87 hk99 hk111 _ _ _ _ _ _ _ h K h0 X) rfl ⟨rfl, rfl, rfl, rfl, trivial⟩
set_option maxRecDepth 100000 in
set_option maxHeartbeats 4000000 in
theorem t_X7_looksForWays_111 {G : Cx} (hG : am_G G) (N : Nat) (k87 : Int32 → Sg → Option (Sg)) (k99 : Int32 → Int32 → Sg → Option (Sg)) (hk87 : ∀ (x1 : Int32) (σ : Sg) (r : Sg), k87 x1 σ = some r → am_Wp G mX7_looksForWays 4 (am_qv r) 87 [some (.ref 60), some (.int x1), none, none, none] [] σ) (hk99 : ∀ (x1 : Int32) (x2 : Int32) (σ : Sg) (r : Sg), k99 x1 x2 σ = some r → am_Wp G mX7_looksForWays 4 (am_qv r) 99 [some (.ref 60), some (.int x1), some (.int x2), none, none] [] σ) : ∀ (n : Nat) (x1 : Int32) (x2 : Int32) (x3 : Int32) (σ : Sg) (r : Sg), b_X7_looksForWays_111 N k87 k99 n x1 x2 x3 σ = some r → am_Wp G mX7_looksForWays 4 (am_qv r) 111 [some (.ref 60), some (.int x1), some (.int x2), some (.int x3), none] [] σ := by
  intro n
  induction n with
  | zero => intro x1 x2 x3 σ r h; cases h
  | succ n ih => intro x1 x2 x3 σ r h; exact t_X7_looksForWays_111b hG N k87 k99 (b_X7_looksForWays_111 N k87 k99 n) hk87 hk99 ih x1 x2 x3 σ r h
set_option maxRecDepth 100000 in
set_option maxHeartbeats 4000000 in
theorem t_X7_looksForWays_99b {G : Cx} (hG : am_G G) (N : Nat) (k87 : Int32 → Sg → Option (Sg)) (k99 : Int32 → Int32 → Sg → Option (Sg)) (hk87 : ∀ (x1 : Int32) (σ : Sg) (r : Sg), k87 x1 σ = some r → am_Wp G mX7_looksForWays 4 (am_qv r) 87 [some (.ref 60), some (.int x1), none, none, none] [] σ) (hk99 : ∀ (x1 : Int32) (x2 : Int32) (σ : Sg) (r : Sg), k99 x1 x2 σ = some r → am_Wp G mX7_looksForWays 4 (am_qv r) 99 [some (.ref 60), some (.int x1), some (.int x2), none, none] [] σ) (x1 : Int32) (x2 : Int32) (σ : Sg) (r : Sg) (h : b_X7_looksForWays_99b N k87 k99 x1 x2 σ = some r) : am_Wp G mX7_looksForWays 4 (am_qv r) 99 [some (.ref 60), some (.int x1), some (.int x2), none, none] [] σ := by
  intro K h0 X
  unfold b_X7_looksForWays_99b at h
  refine am_iload_n X dX7_looksForWays_99 rfl rfl ?_
  refine am_aload_n X dX7_looksForWays_100 rfl rfl ?_
  refine am_getf (v := .ref 61) X dX7_looksForWays_101 fl_X7_9 rfl rfl (by decide) ?_
  refine am_iconst (v := (0 : Int32)) X dX7_looksForWays_104 (by decide) ?_
  obtain ⟨g, h⟩ := gd_some h
  refine am_iald X dX7_looksForWays_105 rfl g ?_
  refine am_icmp_ge (tgt := 201) X dX7_looksForWays_106 (by decide) (fun c => ?_) (fun c => ?_)
  · have h := if_t h c
    refine am_iinc (ls' := fun x1_201 => [some (.ref 60), some (.int x1_201), some (.int x2), none, none]) X dX7_looksForWays_201 rfl h (by decide) (by decide) rfl (fun _ => rfl) (fun x1_201 h => ?_)
    refine am_goto (tgt := 87) X dX7_looksForWays_204 (by decide) ?_
    exact am_jump (hk87 _ _ _ h K h0 X) rfl ⟨rfl, rfl, trivial⟩
  · have h := if_f h c
    refine am_iconst (v := (0 : Int32)) X dX7_looksForWays_109 (by decide) ?_
    refine am_istore_n (ls' := [some (.ref 60), some (.int x1), some (.int x2), some (.int (0 : Int32)), none]) X dX7_looksForWays_110 rfl (by decide)  rfl rfl ?_
    exact am_jump (t_X7_looksForWays_111 hG N k87 k99 hk87 hk99 N _ _ _ _ _ h K h0 X) rfl ⟨rfl, rfl, rfl, rfl, trivial⟩
set_option maxRecDepth 100000 in
set_option maxHeartbeats 4000000 in
theorem t_X7_looksForWays_99 {G : Cx} (hG : am_G G) (N : Nat) (k87 : Int32 → Sg → Option (Sg)) (hk87 : ∀ (x1 : Int32) (σ : Sg) (r : Sg), k87 x1 σ = some r → am_Wp G mX7_looksForWays 4 (am_qv r) 87 [some (.ref 60), some (.int x1), none, none, none] [] σ) : ∀ (n : Nat) (x1 : Int32) (x2 : Int32) (σ : Sg) (r : Sg), b_X7_looksForWays_99 N k87 n x1 x2 σ = some r → am_Wp G mX7_looksForWays 4 (am_qv r) 99 [some (.ref 60), some (.int x1), some (.int x2), none, none] [] σ := by
  intro n
  induction n with
  | zero => intro x1 x2 σ r h; cases h
  | succ n ih => intro x1 x2 σ r h; exact t_X7_looksForWays_99b hG N k87 (b_X7_looksForWays_99 N k87 n) hk87 ih x1 x2 σ r h
set_option maxRecDepth 100000 in
set_option maxHeartbeats 4000000 in
theorem t_X7_looksForWays_87b {G : Cx} (hG : am_G G) (N : Nat) (k87 : Int32 → Sg → Option (Sg)) (hk87 : ∀ (x1 : Int32) (σ : Sg) (r : Sg), k87 x1 σ = some r → am_Wp G mX7_looksForWays 4 (am_qv r) 87 [some (.ref 60), some (.int x1), none, none, none] [] σ) (x1 : Int32) (σ : Sg) (r : Sg) (h : b_X7_looksForWays_87b N k87 x1 σ = some r) : am_Wp G mX7_looksForWays 4 (am_qv r) 87 [some (.ref 60), some (.int x1), none, none, none] [] σ := by
  intro K h0 X
  unfold b_X7_looksForWays_87b at h
  refine am_iload_n X dX7_looksForWays_87 rfl rfl ?_
  refine am_aload_n X dX7_looksForWays_88 rfl rfl ?_
  refine am_getf (v := .ref 61) X dX7_looksForWays_89 fl_X7_9 rfl rfl (by decide) ?_
  refine am_iconst (v := (0 : Int32)) X dX7_looksForWays_92 (by decide) ?_
  obtain ⟨g, h⟩ := gd_some h
  refine am_iald X dX7_looksForWays_93 rfl g ?_
  refine am_icmp_ge (tgt := 207) X dX7_looksForWays_94 (by decide) (fun c => ?_) (fun c => ?_)
  · have h := if_t h c
    obtain rfl := Option.some.inj h
    exact am_vret X h0 dX7_looksForWays_207 rfl ⟨rfl, rfl⟩
  · have h := if_f h c
    refine am_iconst (v := (0 : Int32)) X dX7_looksForWays_97 (by decide) ?_
    refine am_istore_n (ls' := [some (.ref 60), some (.int x1), some (.int (0 : Int32)), none, none]) X dX7_looksForWays_98 rfl (by decide)  rfl rfl ?_
    exact am_jump (t_X7_looksForWays_99 hG N k87 hk87 N _ _ _ _ h K h0 X) rfl ⟨rfl, rfl, rfl, trivial⟩
set_option maxRecDepth 100000 in
set_option maxHeartbeats 4000000 in
theorem t_X7_looksForWays_87 {G : Cx} (hG : am_G G) (N : Nat) : ∀ (n : Nat) (x1 : Int32) (σ : Sg) (r : Sg), b_X7_looksForWays_87 N n x1 σ = some r → am_Wp G mX7_looksForWays 4 (am_qv r) 87 [some (.ref 60), some (.int x1), none, none, none] [] σ := by
  intro n
  induction n with
  | zero => intro x1 σ r h; cases h
  | succ n ih => intro x1 σ r h; exact t_X7_looksForWays_87b hG N (b_X7_looksForWays_87 N n) ih x1 σ r h
set_option maxRecDepth 100000 in
set_option maxHeartbeats 4000000 in
theorem t_X7_looksForWays_72 {G : Cx} (hG : am_G G) (N : Nat) (k6 : Int32 → Sg → Option (Sg)) (k18 : Int32 → Int32 → Sg → Option (Sg)) (hk6 : ∀ (x1 : Int32) (σ : Sg) (r : Sg), k6 x1 σ = some r → am_Wp G mX7_looksForWays 4 (am_qv r) 6 [some (.ref 60), some (.int x1), none, none, none] [] σ) (hk18 : ∀ (x1 : Int32) (x2 : Int32) (σ : Sg) (r : Sg), k18 x1 x2 σ = some r → am_Wp G mX7_looksForWays 4 (am_qv r) 18 [some (.ref 60), some (.int x1), some (.int x2), none, none] [] σ) (x1 : Int32) (x2 : Int32) (s1 : Int32) (s2 : Int32) (σ : Sg) (r : Sg) (h : b_X7_looksForWays_72 N k6 k18 x1 x2 s1 s2 σ = some r) : am_Wp G mX7_looksForWays 4 (am_qv r) 72 [some (.ref 60), some (.int x1), some (.int x2), none, none] [.int s2, .int s1, .ref 77] σ := by
  intro K h0 X
  unfold b_X7_looksForWays_72 at h
  obtain ⟨g, h⟩ := gd_some h
  refine am_iast X dX7_looksForWays_72 rfl g ?_
  refine am_tops h (fun σ72 h => ?_)
  refine am_iinc (ls' := fun x2_73 => [some (.ref 60), some (.int x1), some (.int x2_73), none, none]) X dX7_looksForWays_73 rfl h (by decide) (by decide) rfl (fun _ => rfl) (fun x2_73 h => ?_)
  refine am_goto (tgt := 18) X dX7_looksForWays_76 (by decide) ?_
  exact am_jump (hk18 _ _ _ _ h K h0 X) rfl ⟨rfl, rfl, rfl, trivial⟩
set_option maxRecDepth 100000 in
set_option maxHeartbeats 4000000 in
theorem t_X7_looksForWays_18b {G : Cx} (hG : am_G G) (N : Nat) (k6 : Int32 → Sg → Option (Sg)) (k18 : Int32 → Int32 → Sg → Option (Sg)) (hk6 : ∀ (x1 : Int32) (σ : Sg) (r : Sg), k6 x1 σ = some r → am_Wp G mX7_looksForWays 4 (am_qv r) 6 [some (.ref 60), some (.int x1), none, none, none] [] σ) (hk18 : ∀ (x1 : Int32) (x2 : Int32) (σ : Sg) (r : Sg), k18 x1 x2 σ = some r → am_Wp G mX7_looksForWays 4 (am_qv r) 18 [some (.ref 60), some (.int x1), some (.int x2), none, none] [] σ) (x1 : Int32) (x2 : Int32) (σ : Sg) (r : Sg) (h : b_X7_looksForWays_18b N k6 k18 x1 x2 σ = some r) : am_Wp G mX7_looksForWays 4 (am_qv r) 18 [some (.ref 60), some (.int x1), some (.int x2), none, none] [] σ := by
  intro K h0 X
  unfold b_X7_looksForWays_18b at h
  refine am_iload_n X dX7_looksForWays_18 rfl rfl ?_
  refine am_aload_n X dX7_looksForWays_19 rfl rfl ?_
  refine am_getf (v := .ref 61) X dX7_looksForWays_20 fl_X7_9 rfl rfl (by decide) ?_
  refine am_iconst (v := (0 : Int32)) X dX7_looksForWays_23 (by decide) ?_
  obtain ⟨g, h⟩ := gd_some h
  refine am_iald X dX7_looksForWays_24 rfl g ?_
  refine am_icmp_ge (tgt := 79) X dX7_looksForWays_25 (by decide) (fun c => ?_) (fun c => ?_)
  · have h := if_t h c
    refine am_iinc (ls' := fun x1_79 => [some (.ref 60), some (.int x1_79), some (.int x2), none, none]) X dX7_looksForWays_79 rfl h (by decide) (by decide) rfl (fun _ => rfl) (fun x1_79 h => ?_)
    refine am_goto (tgt := 6) X dX7_looksForWays_82 (by decide) ?_
    exact am_jump (hk6 _ _ _ h K h0 X) rfl ⟨rfl, rfl, trivial⟩
  · have h := if_f h c
    refine am_aload_n X dX7_looksForWays_28 rfl rfl ?_
    refine am_getf (v := .ref 77) X dX7_looksForWays_29 fl_X7_61 rfl rfl (by decide) ?_
    refine am_bipush (v := (7 : Int32)) X dX7_looksForWays_32 (by decide) ?_
    refine am_iload_n X dX7_looksForWays_34 rfl rfl ?_
    refine am_imul X dX7_looksForWays_35 ?_
    refine am_iload_n X dX7_looksForWays_36 rfl rfl ?_
    refine am_iadd X dX7_looksForWays_37 ?_
    refine am_iload_n X dX7_looksForWays_38 rfl rfl ?_
    refine am_iload_n X dX7_looksForWays_39 rfl rfl ?_
    refine am_icmp_ne (tgt := 47) X dX7_looksForWays_40 (by decide) (fun c => ?_) (fun c => ?_)
    · have h := if_f h c
      refine am_aload_n X dX7_looksForWays_47 rfl rfl ?_
      refine am_getf (v := .ref 76) X dX7_looksForWays_48 fl_X7_58 rfl rfl (by decide) ?_
      refine am_bipush (v := (7 : Int32)) X dX7_looksForWays_51 (by decide) ?_
      refine am_iload_n X dX7_looksForWays_53 rfl rfl ?_
      refine am_imul X dX7_looksForWays_54 ?_
      refine am_iload_n X dX7_looksForWays_55 rfl rfl ?_
      refine am_iadd X dX7_looksForWays_56 ?_
      obtain ⟨g, h⟩ := gd_some h
      refine am_zald X dX7_looksForWays_57 rfl g ?_
      refine am_if_eq (tgt := 70) X dX7_looksForWays_58 (by decide) (fun c => ?_) (fun c => ?_)
      · have h := if_t h c
        refine am_ldc (v := (1000000000 : Int32)) X dX7_looksForWays_70 (wm_r27 _ (List.mem_of_getElem? (i := 1) rfl)) ?_
        exact am_jump (t_X7_looksForWays_72 hG N k6 k18 hk6 hk18 _ _ _ _ _ _ h K h0 X) rfl ⟨rfl, rfl, rfl, trivial⟩
      · have h := if_f h c
        refine am_aload_n X dX7_looksForWays_61 rfl rfl ?_
        refine am_getf (v := .ref 75) X dX7_looksForWays_62 fl_X7_55 rfl rfl (by decide) ?_
        refine am_iload_n X dX7_looksForWays_65 rfl rfl ?_
        obtain ⟨g, h⟩ := gd_some h
        refine am_iald X dX7_looksForWays_66 rfl g ?_
        refine am_goto (tgt := 72) X dX7_looksForWays_67 (by decide) ?_
        exact am_jump (t_X7_looksForWays_72 hG N k6 k18 hk6 hk18 _ _ _ _ _ _ h K h0 X) rfl ⟨rfl, rfl, rfl, trivial⟩
    · have h := if_t h c
      refine am_iconst (v := (0 : Int32)) X dX7_looksForWays_43 (by decide) ?_
      refine am_goto (tgt := 72) X dX7_looksForWays_44 (by decide) ?_
      exact am_jump (t_X7_looksForWays_72 hG N k6 k18 hk6 hk18 _ _ _ _ _ _ h K h0 X) rfl ⟨rfl, rfl, rfl, trivial⟩
set_option maxRecDepth 100000 in
set_option maxHeartbeats 4000000 in
theorem t_X7_looksForWays_18 {G : Cx} (hG : am_G G) (N : Nat) (k6 : Int32 → Sg → Option (Sg)) (hk6 : ∀ (x1 : Int32) (σ : Sg) (r : Sg), k6 x1 σ = some r → am_Wp G mX7_looksForWays 4 (am_qv r) 6 [some (.ref 60), some (.int x1), none, none, none] [] σ) : ∀ (n : Nat) (x1 : Int32) (x2 : Int32) (σ : Sg) (r : Sg), b_X7_looksForWays_18 N k6 n x1 x2 σ = some r → am_Wp G mX7_looksForWays 4 (am_qv r) 18 [some (.ref 60), some (.int x1), some (.int x2), none, none] [] σ := by
  intro n
  induction n with
  | zero => intro x1 x2 σ r h; cases h
  | succ n ih => intro x1 x2 σ r h; exact t_X7_looksForWays_18b hG N k6 (b_X7_looksForWays_18 N k6 n) hk6 ih x1 x2 σ r h
set_option maxRecDepth 100000 in
set_option maxHeartbeats 4000000 in
theorem t_X7_looksForWays_6b {G : Cx} (hG : am_G G) (N : Nat) (k6 : Int32 → Sg → Option (Sg)) (hk6 : ∀ (x1 : Int32) (σ : Sg) (r : Sg), k6 x1 σ = some r → am_Wp G mX7_looksForWays 4 (am_qv r) 6 [some (.ref 60), some (.int x1), none, none, none] [] σ) (x1 : Int32) (σ : Sg) (r : Sg) (h : b_X7_looksForWays_6b N k6 x1 σ = some r) : am_Wp G mX7_looksForWays 4 (am_qv r) 6 [some (.ref 60), some (.int x1), none, none, none] [] σ := by
  intro K h0 X
  unfold b_X7_looksForWays_6b at h
  refine am_iload_n X dX7_looksForWays_6 rfl rfl ?_
  refine am_aload_n X dX7_looksForWays_7 rfl rfl ?_
  refine am_getf (v := .ref 61) X dX7_looksForWays_8 fl_X7_9 rfl rfl (by decide) ?_
  refine am_iconst (v := (0 : Int32)) X dX7_looksForWays_11 (by decide) ?_
  obtain ⟨g, h⟩ := gd_some h
  refine am_iald X dX7_looksForWays_12 rfl g ?_
  refine am_icmp_ge (tgt := 85) X dX7_looksForWays_13 (by decide) (fun c => ?_) (fun c => ?_)
  · have h := if_t h c
    refine am_iconst (v := (0 : Int32)) X dX7_looksForWays_85 (by decide) ?_
    refine am_istore_n (ls' := [some (.ref 60), some (.int (0 : Int32)), none, none, none]) X dX7_looksForWays_86 rfl (by decide)  rfl rfl ?_
    exact am_jump (t_X7_looksForWays_87 hG N N _ _ _ h K h0 X) rfl ⟨rfl, rfl, trivial⟩
  · have h := if_f h c
    refine am_iconst (v := (0 : Int32)) X dX7_looksForWays_16 (by decide) ?_
    refine am_istore_n (ls' := [some (.ref 60), some (.int x1), some (.int (0 : Int32)), none, none]) X dX7_looksForWays_17 rfl (by decide)  rfl rfl ?_
    exact am_jump (t_X7_looksForWays_18 hG N k6 hk6 N _ _ _ _ h K h0 X) rfl ⟨rfl, rfl, rfl, trivial⟩
set_option maxRecDepth 100000 in
set_option maxHeartbeats 4000000 in
theorem t_X7_looksForWays_6 {G : Cx} (hG : am_G G) (N : Nat) : ∀ (n : Nat) (x1 : Int32) (σ : Sg) (r : Sg), b_X7_looksForWays_6 N n x1 σ = some r → am_Wp G mX7_looksForWays 4 (am_qv r) 6 [some (.ref 60), some (.int x1), none, none, none] [] σ := by
  intro n
  induction n with
  | zero => intro x1 σ r h; cases h
  | succ n ih => intro x1 σ r h; exact t_X7_looksForWays_6b hG N (b_X7_looksForWays_6 N n) ih x1 σ r h
set_option maxRecDepth 100000 in
set_option maxHeartbeats 4000000 in
theorem ct_X7_looksForWays {G : Cx} (hG : am_G G) (N : Nat) (σ : Sg) (r : Sg) (h : f_X7_looksForWays N σ = some r) : am_Ct G 5 yX7_looksForWays mX7_looksForWays [.ref 60] σ (am_qv r) := by
  refine am_enter hG rfl rfl (Nat.le_of_ble_eq_true rfl) ?_
  intro K h0 X
  unfold f_X7_looksForWays at h
  refine am_jump (pc' := 0) (ls' := [some (.ref 60), none, none, none, none]) ?_ rfl ⟨rfl, trivial⟩
  refine am_aload_n X dX7_looksForWays_0 rfl rfl ?_
  obtain ⟨σ1, hc, h⟩ := bd_some h
  refine am_callv_v0 X dX7_looksForWays_1 cw_X7_243 (ct_X7_looksForAll hG N _ _ hc) (Nat.le_of_ble_eq_true rfl) rfl rfl rfl rfl (Nat.le_of_ble_eq_true rfl) ?_
  refine am_iconst (v := (0 : Int32)) X dX7_looksForWays_4 (by decide) ?_
  refine am_istore_n (ls' := [some (.ref 60), some (.int (0 : Int32)), none, none, none]) X dX7_looksForWays_5 rfl (by decide)  rfl rfl ?_
  exact am_jump (t_X7_looksForWays_6 hG N N _ _ _ h K h0 X) rfl ⟨rfl, rfl, trivial⟩
set_option maxRecDepth 100000 in
set_option maxHeartbeats 4000000 in
theorem t_X7_ordersFrom_172 {G : Cx} (hG : am_G G) (N : Nat) (dk : Nat) (hdk : 2 ≤ dk) (kr : Int32 → Int32 → Int32 → Int32 → Int32 → Sg → Option (Sg)) (hkr : ∀ (x1 : Int32) (x2 : Int32) (x3 : Int32) (x4 : Int32) (x5 : Int32) (σ : Sg) (r : Sg), kr x1 x2 x3 x4 x5 σ = some r → am_Ct G dk yX7_ordersFrom mX7_ordersFrom [.ref 60, .int x1, .int x2, .int x3, .int x4, .int x5] σ (am_qv r)) (k91 : Int32 → Int32 → Int32 → Int32 → Int32 → Int32 → Sg → Option (Sg)) (hk91 : ∀ (x1 : Int32) (x2 : Int32) (x3 : Int32) (x4 : Int32) (x5 : Int32) (x6 : Int32) (σ : Sg) (r : Sg), k91 x1 x2 x3 x4 x5 x6 σ = some r → am_Wp G mX7_ordersFrom dk (am_qv r) 91 [some (.ref 60), some (.int x1), some (.int x2), some (.int x3), some (.int x4), some (.int x5), some (.int x6), none] [] σ) (x1 : Int32) (x2 : Int32) (x3 : Int32) (x4 : Int32) (x5 : Int32) (x6 : Int32) (σ : Sg) (r : Sg) (h : b_X7_ordersFrom_172 N kr k91 x1 x2 x3 x4 x5 x6 σ = some r) : am_Wp G mX7_ordersFrom dk (am_qv r) 172 [some (.ref 60), some (.int x1), some (.int x2), some (.int x3), some (.int x4), some (.int x5), some (.int x6), none] [] σ := by
  intro K h0 X
  unfold b_X7_ordersFrom_172 at h
  refine am_iinc (ls' := fun x6_172 => [some (.ref 60), some (.int x1), some (.int x2), some (.int x3), some (.int x4), some (.int x5), some (.int x6_172), none]) X dX7_ordersFrom_172 rfl h (by decide) (by decide) rfl (fun _ => rfl) (fun x6_172 h => ?_)
  refine am_goto (tgt := 91) X dX7_ordersFrom_175 (by decide) ?_
  exact am_jump (hk91 _ _ _ _ _ _ _ _ h K h0 X) rfl ⟨rfl, rfl, rfl, rfl, rfl, rfl, rfl, trivial⟩
set_option maxRecDepth 100000 in
set_option maxHeartbeats 4000000 in
theorem t_X7_ordersFrom_91b {G : Cx} (hG : am_G G) (N : Nat) (dk : Nat) (hdk : 2 ≤ dk) (kr : Int32 → Int32 → Int32 → Int32 → Int32 → Sg → Option (Sg)) (hkr : ∀ (x1 : Int32) (x2 : Int32) (x3 : Int32) (x4 : Int32) (x5 : Int32) (σ : Sg) (r : Sg), kr x1 x2 x3 x4 x5 σ = some r → am_Ct G dk yX7_ordersFrom mX7_ordersFrom [.ref 60, .int x1, .int x2, .int x3, .int x4, .int x5] σ (am_qv r)) (k91 : Int32 → Int32 → Int32 → Int32 → Int32 → Int32 → Sg → Option (Sg)) (hk91 : ∀ (x1 : Int32) (x2 : Int32) (x3 : Int32) (x4 : Int32) (x5 : Int32) (x6 : Int32) (σ : Sg) (r : Sg), k91 x1 x2 x3 x4 x5 x6 σ = some r → am_Wp G mX7_ordersFrom dk (am_qv r) 91 [some (.ref 60), some (.int x1), some (.int x2), some (.int x3), some (.int x4), some (.int x5), some (.int x6), none] [] σ) (x1 : Int32) (x2 : Int32) (x3 : Int32) (x4 : Int32) (x5 : Int32) (x6 : Int32) (σ : Sg) (r : Sg) (h : b_X7_ordersFrom_91b N kr k91 x1 x2 x3 x4 x5 x6 σ = some r) : am_Wp G mX7_ordersFrom dk (am_qv r) 91 [some (.ref 60), some (.int x1), some (.int x2), some (.int x3), some (.int x4), some (.int x5), some (.int x6), none] [] σ := by
  intro K h0 X
  unfold b_X7_ordersFrom_91b at h
  refine am_iload X dX7_ordersFrom_91 rfl ?_
  refine am_aload_n X dX7_ordersFrom_93 rfl rfl ?_
  refine am_getf (v := .ref 61) X dX7_ordersFrom_94 fl_X7_9 rfl rfl (by decide) ?_
  refine am_iconst (v := (0 : Int32)) X dX7_ordersFrom_97 (by decide) ?_
  obtain ⟨g, h⟩ := gd_some h
  refine am_iald X dX7_ordersFrom_98 rfl g ?_
  refine am_icmp_ge (tgt := 178) X dX7_ordersFrom_99 (by decide) (fun c => ?_) (fun c => ?_)
  · have h := if_t h c
    obtain rfl := Option.some.inj h
    exact am_vret X h0 dX7_ordersFrom_178 rfl ⟨rfl, rfl⟩
  · have h := if_f h c
    refine am_iload_n X dX7_ordersFrom_102 rfl rfl ?_
    refine am_iload X dX7_ordersFrom_103 rfl ?_
    refine am_ishr X dX7_ordersFrom_105 ?_
    refine am_iconst (v := (1 : Int32)) X dX7_ordersFrom_106 (by decide) ?_
    refine am_iand X dX7_ordersFrom_107 ?_
    refine am_iconst (v := (1 : Int32)) X dX7_ordersFrom_108 (by decide) ?_
    refine am_icmp_ne (tgt := 172) X dX7_ordersFrom_109 (by decide) (fun c => ?_) (fun c => ?_)
    · have h := if_f h c
      exact am_jump (t_X7_ordersFrom_172 hG N dk hdk kr hkr k91 hk91 _ _ _ _ _ _ _ _ h K h0 X) rfl ⟨rfl, rfl, rfl, rfl, rfl, rfl, rfl, trivial⟩
    · have h := if_t h c
      refine am_aload_n X dX7_ordersFrom_112 rfl rfl ?_
      refine am_getf (v := .ref 77) X dX7_ordersFrom_113 fl_X7_61 rfl rfl (by decide) ?_
      refine am_bipush (v := (7 : Int32)) X dX7_ordersFrom_116 (by decide) ?_
      refine am_iload_n X dX7_ordersFrom_118 rfl rfl ?_
      refine am_imul X dX7_ordersFrom_119 ?_
      refine am_iload X dX7_ordersFrom_120 rfl ?_
      refine am_iadd X dX7_ordersFrom_122 ?_
      obtain ⟨g, h⟩ := gd_some h
      refine am_iald X dX7_ordersFrom_123 rfl g ?_
      refine am_ldc (v := (1000000000 : Int32)) X dX7_ordersFrom_124 (wm_r27 _ (List.mem_of_getElem? (i := 1) rfl)) ?_
      refine am_icmp_ge (tgt := 172) X dX7_ordersFrom_126 (by decide) (fun c => ?_) (fun c => ?_)
      · have h := if_t h c
        exact am_jump (t_X7_ordersFrom_172 hG N dk hdk kr hkr k91 hk91 _ _ _ _ _ _ _ _ h K h0 X) rfl ⟨rfl, rfl, rfl, rfl, rfl, rfl, rfl, trivial⟩
      · have h := if_f h c
        refine am_aload_n X dX7_ordersFrom_129 rfl rfl ?_
        refine am_getf (v := .ref 78) X dX7_ordersFrom_130 fl_X7_64 rfl rfl (by decide) ?_
        refine am_iload X dX7_ordersFrom_133 rfl ?_
        refine am_iload X dX7_ordersFrom_135 rfl ?_
        obtain ⟨g, h⟩ := gd_some h
        refine am_iast X dX7_ordersFrom_137 rfl g ?_
        refine am_tops h (fun σ137 h => ?_)
        refine am_aload_n X dX7_ordersFrom_138 rfl rfl ?_
        refine am_iload_n X dX7_ordersFrom_139 rfl rfl ?_
        refine am_iload X dX7_ordersFrom_140 rfl ?_
        refine am_iload_n X dX7_ordersFrom_142 rfl rfl ?_
        refine am_iconst (v := (1 : Int32)) X dX7_ordersFrom_143 (by decide) ?_
        refine am_iload X dX7_ordersFrom_144 rfl ?_
        refine am_ishl X dX7_ordersFrom_146 ?_
        refine am_iconst (v := (-1 : Int32)) X dX7_ordersFrom_147 (by decide) ?_
        refine am_ixor X dX7_ordersFrom_148 ?_
        refine am_iand X dX7_ordersFrom_149 ?_
        refine am_iload X dX7_ordersFrom_150 rfl ?_
        refine am_iconst (v := (1 : Int32)) X dX7_ordersFrom_152 (by decide) ?_
        refine am_iadd X dX7_ordersFrom_153 ?_
        refine am_iload X dX7_ordersFrom_154 rfl ?_
        refine am_aload_n X dX7_ordersFrom_156 rfl rfl ?_
        refine am_getf (v := .ref 77) X dX7_ordersFrom_157 fl_X7_61 rfl rfl (by decide) ?_
        refine am_bipush (v := (7 : Int32)) X dX7_ordersFrom_160 (by decide) ?_
        refine am_iload_n X dX7_ordersFrom_162 rfl rfl ?_
        refine am_imul X dX7_ordersFrom_163 ?_
        refine am_iload X dX7_ordersFrom_164 rfl ?_
        refine am_iadd X dX7_ordersFrom_166 ?_
        obtain ⟨g, h⟩ := gd_some h
        refine am_iald X dX7_ordersFrom_167 rfl g ?_
        refine am_iadd X dX7_ordersFrom_168 ?_
        obtain ⟨σ169, hc, h⟩ := bd_some h
        refine am_callv_v5 X dX7_ordersFrom_169 cw_X7_260 (hkr _ _ _ _ _ _ _ hc) (by omega) rfl rfl rfl rfl (Nat.le_of_ble_eq_true rfl) ?_
        exact am_jump (t_X7_ordersFrom_172 hG N dk hdk kr hkr k91 hk91 _ _ _ _ _ _ _ _ h K h0 X) rfl ⟨rfl, rfl, rfl, rfl, rfl, rfl, rfl, trivial⟩
set_option maxRecDepth 100000 in
set_option maxHeartbeats 4000000 in
theorem t_X7_ordersFrom_91 {G : Cx} (hG : am_G G) (N : Nat) (dk : Nat) (hdk : 2 ≤ dk) (kr : Int32 → Int32 → Int32 → Int32 → Int32 → Sg → Option (Sg)) (hkr : ∀ (x1 : Int32) (x2 : Int32) (x3 : Int32) (x4 : Int32) (x5 : Int32) (σ : Sg) (r : Sg), kr x1 x2 x3 x4 x5 σ = some r → am_Ct G dk yX7_ordersFrom mX7_ordersFrom [.ref 60, .int x1, .int x2, .int x3, .int x4, .int x5] σ (am_qv r)) : ∀ (n : Nat) (x1 : Int32) (x2 : Int32) (x3 : Int32) (x4 : Int32) (x5 : Int32) (x6 : Int32) (σ : Sg) (r : Sg), b_X7_ordersFrom_91 N kr n x1 x2 x3 x4 x5 x6 σ = some r → am_Wp G mX7_ordersFrom dk (am_qv r) 91 [some (.ref 60), some (.int x1), some (.int x2), some (.int x3), some (.int x4), some (.int x5), some (.int x6), none] [] σ := by
  intro n
  induction n with
  | zero => intro x1 x2 x3 x4 x5 x6 σ r h; cases h
  | succ n ih => intro x1 x2 x3 x4 x5 x6 σ r h; exact t_X7_ordersFrom_91b hG N dk hdk kr hkr (b_X7_ordersFrom_91 N kr n) ih x1 x2 x3 x4 x5 x6 σ r h
set_option maxRecDepth 100000 in
set_option maxHeartbeats 4000000 in
theorem t_X7_ordersFrom_80 {G : Cx} (hG : am_G G) (N : Nat) (dk : Nat) (hdk : 2 ≤ dk) (kr : Int32 → Int32 → Int32 → Int32 → Int32 → Sg → Option (Sg)) (hkr : ∀ (x1 : Int32) (x2 : Int32) (x3 : Int32) (x4 : Int32) (x5 : Int32) (σ : Sg) (r : Sg), kr x1 x2 x3 x4 x5 σ = some r → am_Ct G dk yX7_ordersFrom mX7_ordersFrom [.ref 60, .int x1, .int x2, .int x3, .int x4, .int x5] σ (am_qv r)) (k48 : Int32 → Int32 → Sg → Option (Sg)) (hk48 : ∀ (x4 : Int32) (x7 : Int32) (σ : Sg) (r : Sg), k48 x4 x7 σ = some r → am_Wp G mX7_ordersFrom dk (am_qv r) 48 [some (.ref 60), none, none, none, some (.int x4), none, none, some (.int x7)] [] σ) (x4 : Int32) (x7 : Int32) (s1 : Int32) (s2 : Int32) (σ : Sg) (r : Sg) (h : b_X7_ordersFrom_80 N kr k48 x4 x7 s1 s2 σ = some r) : am_Wp G mX7_ordersFrom dk (am_qv r) 80 [some (.ref 60), none, none, none, some (.int x4), none, none, some (.int x7)] [.int s2, .int s1, .ref 79] σ := by
  intro K h0 X
  unfold b_X7_ordersFrom_80 at h
  obtain ⟨g, h⟩ := gd_some h
  refine am_iast X dX7_ordersFrom_80 rfl g ?_
  refine am_tops h (fun σ80 h => ?_)
  refine am_iinc (ls' := fun x7_81 => [some (.ref 60), none, none, none, some (.int x4), none, none, some (.int x7_81)]) X dX7_ordersFrom_81 rfl h (by decide) (by decide) rfl (fun _ => rfl) (fun x7_81 h => ?_)
  refine am_goto (tgt := 48) X dX7_ordersFrom_84 (by decide) ?_
  exact am_jump (hk48 _ _ _ _ h K h0 X) rfl ⟨rfl, rfl, rfl, trivial⟩
set_option maxRecDepth 100000 in
set_option maxHeartbeats 4000000 in
theorem t_X7_ordersFrom_48b {G : Cx} (hG : am_G G) (N : Nat) (dk : Nat) (hdk : 2 ≤ dk) (kr : Int32 → Int32 → Int32 → Int32 → Int32 → Sg → Option (Sg)) (hkr : ∀ (x1 : Int32) (x2 : Int32) (x3 : Int32) (x4 : Int32) (x5 : Int32) (σ : Sg) (r : Sg), kr x1 x2 x3 x4 x5 σ = some r → am_Ct G dk yX7_ordersFrom mX7_ordersFrom [.ref 60, .int x1, .int x2, .int x3, .int x4, .int x5] σ (am_qv r)) (k48 : Int32 → Int32 → Sg → Option (Sg)) (hk48 : ∀ (x4 : Int32) (x7 : Int32) (σ : Sg) (r : Sg), k48 x4 x7 σ = some r → am_Wp G mX7_ordersFrom dk (am_qv r) 48 [some (.ref 60), none, none, none, some (.int x4), none, none, some (.int x7)] [] σ) (x4 : Int32) (x7 : Int32) (σ : Sg) (r : Sg) (h : b_X7_ordersFrom_48b N kr k48 x4 x7 σ = some r) : am_Wp G mX7_ordersFrom dk (am_qv r) 48 [some (.ref 60), none, none, none, some (.int x4), none, none, some (.int x7)] [] σ := by
  intro K h0 X
  unfold b_X7_ordersFrom_48b at h
  refine am_iload X dX7_ordersFrom_48 rfl ?_
  refine am_bipush (v := (7 : Int32)) X dX7_ordersFrom_50 (by decide) ?_
  refine am_icmp_ge (tgt := 87) X dX7_ordersFrom_52 (by decide) (fun c => ?_) (fun c => ?_)
  · have h := if_t h c
    obtain rfl := Option.some.inj h
    exact am_vret X h0 dX7_ordersFrom_87 rfl ⟨rfl, rfl⟩
  · have h := if_f h c
    refine am_aload_n X dX7_ordersFrom_55 rfl rfl ?_
    refine am_getf (v := .ref 79) X dX7_ordersFrom_56 fl_X7_67 rfl rfl (by decide) ?_
    refine am_iload X dX7_ordersFrom_59 rfl ?_
    refine am_iload X dX7_ordersFrom_61 rfl ?_
    refine am_iload X dX7_ordersFrom_63 rfl ?_
    refine am_icmp_ge (tgt := 78) X dX7_ordersFrom_65 (by decide) (fun c => ?_) (fun c => ?_)
    · have h := if_t h c
      refine am_bipush (v := (-5 : Int32)) X dX7_ordersFrom_78 (by decide) ?_
      exact am_jump (t_X7_ordersFrom_80 hG N dk hdk kr hkr k48 hk48 _ _ _ _ _ _ h K h0 X) rfl ⟨rfl, rfl, rfl, trivial⟩
    · have h := if_f h c
      refine am_aload_n X dX7_ordersFrom_68 rfl rfl ?_
      refine am_getf (v := .ref 78) X dX7_ordersFrom_69 fl_X7_64 rfl rfl (by decide) ?_
      refine am_iload X dX7_ordersFrom_72 rfl ?_
      obtain ⟨g, h⟩ := gd_some h
      refine am_iald X dX7_ordersFrom_74 rfl g ?_
      refine am_goto (tgt := 80) X dX7_ordersFrom_75 (by decide) ?_
      exact am_jump (t_X7_ordersFrom_80 hG N dk hdk kr hkr k48 hk48 _ _ _ _ _ _ h K h0 X) rfl ⟨rfl, rfl, rfl, trivial⟩
set_option maxRecDepth 100000 in
set_option maxHeartbeats 4000000 in
theorem t_X7_ordersFrom_48 {G : Cx} (hG : am_G G) (N : Nat) (dk : Nat) (hdk : 2 ≤ dk) (kr : Int32 → Int32 → Int32 → Int32 → Int32 → Sg → Option (Sg)) (hkr : ∀ (x1 : Int32) (x2 : Int32) (x3 : Int32) (x4 : Int32) (x5 : Int32) (σ : Sg) (r : Sg), kr x1 x2 x3 x4 x5 σ = some r → am_Ct G dk yX7_ordersFrom mX7_ordersFrom [.ref 60, .int x1, .int x2, .int x3, .int x4, .int x5] σ (am_qv r)) : ∀ (n : Nat) (x4 : Int32) (x7 : Int32) (σ : Sg) (r : Sg), b_X7_ordersFrom_48 N kr n x4 x7 σ = some r → am_Wp G mX7_ordersFrom dk (am_qv r) 48 [some (.ref 60), none, none, none, some (.int x4), none, none, some (.int x7)] [] σ := by
  intro n
  induction n with
  | zero => intro x4 x7 σ r h; cases h
  | succ n ih => intro x4 x7 σ r h; exact t_X7_ordersFrom_48b hG N dk hdk kr hkr (b_X7_ordersFrom_48 N kr n) ih x4 x7 σ r h
set_option maxRecDepth 100000 in
set_option maxHeartbeats 4000000 in
theorem ct_X7_ordersFrom_b {G : Cx} (hG : am_G G) (N : Nat) (dk : Nat) (hdk : 2 ≤ dk) (kr : Int32 → Int32 → Int32 → Int32 → Int32 → Sg → Option (Sg)) (hkr : ∀ (x1 : Int32) (x2 : Int32) (x3 : Int32) (x4 : Int32) (x5 : Int32) (σ : Sg) (r : Sg), kr x1 x2 x3 x4 x5 σ = some r → am_Ct G dk yX7_ordersFrom mX7_ordersFrom [.ref 60, .int x1, .int x2, .int x3, .int x4, .int x5] σ (am_qv r)) (x1 : Int32) (x2 : Int32) (x3 : Int32) (x4 : Int32) (x5 : Int32) (σ : Sg) (r : Sg) (h : f_X7_ordersFrom_b N kr x1 x2 x3 x4 x5 σ = some r) : am_Ct G (dk + 1) yX7_ordersFrom mX7_ordersFrom [.ref 60, .int x1, .int x2, .int x3, .int x4, .int x5] σ (am_qv r) := by
  refine am_enter hG rfl rfl (Nat.le_of_ble_eq_true rfl) ?_
  intro K h0 X
  unfold f_X7_ordersFrom_b at h
  refine am_jump (pc' := 0) (ls' := [some (.ref 60), some (.int x1), some (.int x2), some (.int x3), some (.int x4), some (.int x5), none, none]) ?_ rfl ⟨rfl, rfl, rfl, rfl, rfl, rfl, trivial⟩
  refine am_iload X dX7_ordersFrom_0 rfl ?_
  refine am_aload_n X dX7_ordersFrom_2 rfl rfl ?_
  refine am_getf (v := .int (rg σ 60 30)) X dX7_ordersFrom_3 fl_X7_257 rfl rfl (by decide) ?_
  refine am_icmp_lt (tgt := 10) X dX7_ordersFrom_6 (by decide) (fun c => ?_) (fun c => ?_)
  · have h := if_t h c
    refine am_iload_n X dX7_ordersFrom_10 rfl rfl ?_
    refine am_if_ne (tgt := 88) X dX7_ordersFrom_11 (by decide) (fun c => ?_) (fun c => ?_)
    · have h := if_f h c
      refine am_iconst (v := (0 : Int32)) X dX7_ordersFrom_88 (by decide) ?_
      refine am_istore (ls' := [some (.ref 60), some (.int x1), some (.int x2), some (.int x3), some (.int x4), some (.int x5), some (.int (0 : Int32)), none]) X dX7_ordersFrom_89 (by decide)  rfl rfl ?_
      exact am_jump (t_X7_ordersFrom_91 hG N dk hdk kr hkr N _ _ _ _ _ _ _ _ h K h0 X) rfl ⟨rfl, rfl, rfl, rfl, rfl, rfl, rfl, trivial⟩
    · have h := if_t h c
      refine am_iload X dX7_ordersFrom_14 rfl ?_
      refine am_aload_n X dX7_ordersFrom_16 rfl rfl ?_
      refine am_getf (v := .ref 77) X dX7_ordersFrom_17 fl_X7_61 rfl rfl (by decide) ?_
      refine am_bipush (v := (7 : Int32)) X dX7_ordersFrom_20 (by decide) ?_
      refine am_iload_n X dX7_ordersFrom_22 rfl rfl ?_
      refine am_imul X dX7_ordersFrom_23 ?_
      refine am_iload_n X dX7_ordersFrom_24 rfl rfl ?_
      refine am_iadd X dX7_ordersFrom_25 ?_
      obtain ⟨g, h⟩ := gd_some h
      refine am_iald X dX7_ordersFrom_26 rfl g ?_
      refine am_iadd X dX7_ordersFrom_27 ?_
      refine am_topi h (fun x6_28 h => ?_)
      refine am_istore (ls' := [some (.ref 60), some (.int x1), some (.int x2), some (.int x3), some (.int x4), some (.int x5), some (.int x6_28), none]) X dX7_ordersFrom_28 (by decide)  rfl rfl ?_
      refine am_iload X dX7_ordersFrom_30 rfl ?_
      refine am_aload_n X dX7_ordersFrom_32 rfl rfl ?_
      refine am_getf (v := .int (rg σ 60 30)) X dX7_ordersFrom_33 fl_X7_257 rfl rfl (by decide) ?_
      refine am_icmp_ge (tgt := 87) X dX7_ordersFrom_36 (by decide) (fun c => ?_) (fun c => ?_)
      · have h := if_t h c
        obtain rfl := Option.some.inj h
        exact am_vret X h0 dX7_ordersFrom_87 rfl ⟨rfl, rfl⟩
      · have h := if_f h c
        refine am_aload_n X dX7_ordersFrom_39 rfl rfl ?_
        refine am_iload X dX7_ordersFrom_40 rfl ?_
        refine am_putfi X dX7_ordersFrom_42 fp_X7_257 rfl rfl ?_
        refine am_tops h (fun σ42 h => ?_)
        refine am_iconst (v := (0 : Int32)) X dX7_ordersFrom_45 (by decide) ?_
        refine am_istore (ls' := [some (.ref 60), some (.int x1), some (.int x2), some (.int x3), some (.int x4), some (.int x5), some (.int x6_28), some (.int (0 : Int32))]) X dX7_ordersFrom_46 (by decide)  rfl rfl ?_
        exact am_jump (t_X7_ordersFrom_48 hG N dk hdk kr hkr N _ _ _ _ h K h0 X) rfl ⟨rfl, rfl, rfl, trivial⟩
  · have h := if_f h c
    obtain rfl := Option.some.inj h
    exact am_vret X h0 dX7_ordersFrom_9 rfl ⟨rfl, rfl⟩
set_option maxRecDepth 100000 in
set_option maxHeartbeats 4000000 in
theorem ct_X7_ordersFrom {G : Cx} (hG : am_G G) (N : Nat) : ∀ (D : Nat) (x1 : Int32) (x2 : Int32) (x3 : Int32) (x4 : Int32) (x5 : Int32) (σ : Sg) (r : Sg), f_X7_ordersFrom N D x1 x2 x3 x4 x5 σ = some r → am_Ct G (2 + 1 * D) yX7_ordersFrom mX7_ordersFrom [.ref 60, .int x1, .int x2, .int x3, .int x4, .int x5] σ (am_qv r) := by
  intro D
  induction D with
  | zero => intro x1 x2 x3 x4 x5 σ r h; cases h
  | succ D ih => intro x1 x2 x3 x4 x5 σ r h; exact (ct_X7_ordersFrom_b hG N (2 + 1 * D) (by omega) (f_X7_ordersFrom N D) ih x1 x2 x3 x4 x5 σ r h)
set_option maxRecDepth 100000 in
set_option maxHeartbeats 4000000 in
theorem t_X7_errands_51b {G : Cx} (hG : am_G G) (N : Nat) (k51 : Int32 → Int32 → Int32 → Int32 → Sg → Option (Int32 × Sg)) (hk51 : ∀ (x1 : Int32) (x2 : Int32) (x3 : Int32) (x4 : Int32) (σ : Sg) (r : Int32 × Sg), k51 x1 x2 x3 x4 σ = some r → am_Wp G mX7_errands 12 (am_qi r.1 r.2) 51 [some (.ref 60), some (.int x1), some (.int x2), some (.int x3), some (.int x4)] [] σ) (x1 : Int32) (x2 : Int32) (x3 : Int32) (x4 : Int32) (σ : Sg) (r : Int32 × Sg) (h : b_X7_errands_51b N k51 x1 x2 x3 x4 σ = some r) : am_Wp G mX7_errands 12 (am_qi r.1 r.2) 51 [some (.ref 60), some (.int x1), some (.int x2), some (.int x3), some (.int x4)] [] σ := by
  intro K h0 X
  unfold b_X7_errands_51b at h
  refine am_iload X dX7_errands_51 rfl ?_
  refine am_bipush (v := (7 : Int32)) X dX7_errands_53 (by decide) ?_
  refine am_icmp_ge (tgt := 73) X dX7_errands_55 (by decide) (fun c => ?_) (fun c => ?_)
  · have h := if_t h c
    refine am_aload_n X dX7_errands_73 rfl rfl ?_
    refine am_iload_n X dX7_errands_74 rfl rfl ?_
    refine am_iload_n X dX7_errands_75 rfl rfl ?_
    refine am_iload_n X dX7_errands_76 rfl rfl ?_
    refine am_iconst (v := (0 : Int32)) X dX7_errands_77 (by decide) ?_
    refine am_iconst (v := (0 : Int32)) X dX7_errands_78 (by decide) ?_
    obtain ⟨σ79, hc, h⟩ := bd_some h
    refine am_callv_v5 X dX7_errands_79 cw_X7_260 (ct_X7_ordersFrom hG N 10 _ _ _ _ _ _ _ hc) (Nat.le_of_ble_eq_true rfl) rfl rfl rfl rfl (Nat.le_of_ble_eq_true rfl) ?_
    refine am_iload_n X dX7_errands_82 rfl rfl ?_
    refine am_iconst (v := (-1 : Int32)) X dX7_errands_83 (by decide) ?_
    refine am_icmp_ne (tgt := 108) X dX7_errands_84 (by decide) (fun c => ?_) (fun c => ?_)
    · have h := if_f h c
      refine am_aload_n X dX7_errands_108 rfl rfl ?_
      refine am_getf (v := .ref 79) X dX7_errands_109 fl_X7_67 rfl rfl (by decide) ?_
      refine am_iload_n X dX7_errands_112 rfl rfl ?_
      obtain ⟨g, h⟩ := gd_some h
      refine am_iald X dX7_errands_113 rfl g ?_
      obtain rfl := Option.some.inj h
      exact am_iret X h0 dX7_errands_114 rfl ⟨rfl, rfl⟩
    · have h := if_t h c
      refine am_aload_n X dX7_errands_87 rfl rfl ?_
      refine am_getf (v := .int (rg σ79 60 30)) X dX7_errands_88 fl_X7_257 rfl rfl (by decide) ?_
      refine am_ldc (v := (1000000000 : Int32)) X dX7_errands_91 (wm_r27 _ (List.mem_of_getElem? (i := 1) rfl)) ?_
      refine am_icmp_lt (tgt := 101) X dX7_errands_93 (by decide) (fun c => ?_) (fun c => ?_)
      · have h := if_t h c
        refine am_aload_n X dX7_errands_101 rfl rfl ?_
        refine am_getf (v := .int (rg σ79 60 30)) X dX7_errands_102 fl_X7_257 rfl rfl (by decide) ?_
        refine am_goto (tgt := 114) X dX7_errands_105 (by decide) ?_
        obtain rfl := Option.some.inj h
        exact am_iret X h0 dX7_errands_114 rfl ⟨rfl, rfl⟩
      · have h := if_f h c
        refine am_bipush (v := (-5 : Int32)) X dX7_errands_96 (by decide) ?_
        refine am_goto (tgt := 114) X dX7_errands_98 (by decide) ?_
        obtain rfl := Option.some.inj h
        exact am_iret X h0 dX7_errands_114 rfl ⟨rfl, rfl⟩
  · have h := if_f h c
    refine am_aload_n X dX7_errands_58 rfl rfl ?_
    refine am_getf (v := .ref 79) X dX7_errands_59 fl_X7_67 rfl rfl (by decide) ?_
    refine am_iload X dX7_errands_62 rfl ?_
    refine am_bipush (v := (-5 : Int32)) X dX7_errands_64 (by decide) ?_
    obtain ⟨g, h⟩ := gd_some h
    refine am_iast X dX7_errands_66 rfl g ?_
    refine am_tops h (fun σ66 h => ?_)
    refine am_iinc (ls' := fun x4_67 => [some (.ref 60), some (.int x1), some (.int x2), some (.int x3), some (.int x4_67)]) X dX7_errands_67 rfl h (by decide) (by decide) rfl (fun _ => rfl) (fun x4_67 h => ?_)
    refine am_goto (tgt := 51) X dX7_errands_70 (by decide) ?_
    exact am_jump (hk51 _ _ _ _ _ _ h K h0 X) rfl ⟨rfl, rfl, rfl, rfl, rfl, trivial⟩
set_option maxRecDepth 100000 in
set_option maxHeartbeats 4000000 in
theorem t_X7_errands_51 {G : Cx} (hG : am_G G) (N : Nat) : ∀ (n : Nat) (x1 : Int32) (x2 : Int32) (x3 : Int32) (x4 : Int32) (σ : Sg) (r : Int32 × Sg), b_X7_errands_51 N n x1 x2 x3 x4 σ = some r → am_Wp G mX7_errands 12 (am_qi r.1 r.2) 51 [some (.ref 60), some (.int x1), some (.int x2), some (.int x3), some (.int x4)] [] σ := by
  intro n
  induction n with
  | zero => intro x1 x2 x3 x4 σ r h; cases h
  | succ n ih => intro x1 x2 x3 x4 σ r h; exact t_X7_errands_51b hG N (b_X7_errands_51 N n) ih x1 x2 x3 x4 σ r h
set_option maxRecDepth 100000 in
set_option maxHeartbeats 4000000 in
theorem ct_X7_errands {G : Cx} (hG : am_G G) (N : Nat) (x1 : Int32) (x2 : Int32) (x3 : Int32) (σ : Sg) (r : Int32 × Sg) (h : f_X7_errands N x1 x2 x3 σ = some r) : am_Ct G 13 yX7_errands mX7_errands [.ref 60, .int x1, .int x2, .int x3] σ (am_qi r.1 r.2) := by
  refine am_enter hG rfl rfl (Nat.le_of_ble_eq_true rfl) ?_
  intro K h0 X
  unfold f_X7_errands at h
  refine am_jump (pc' := 0) (ls' := [some (.ref 60), some (.int x1), some (.int x2), some (.int x3), none]) ?_ rfl ⟨rfl, rfl, rfl, rfl, trivial⟩
  refine am_aload_n X dX7_errands_0 rfl rfl ?_
  refine am_iload_n X dX7_errands_1 rfl rfl ?_
  obtain ⟨v2, σ2, hc, h⟩ := bd2_some h
  refine am_callv_i1 X dX7_errands_2 cw_X7_161 (ct_X7_isStreet hG N _ _ _ hc) (Nat.le_of_ble_eq_true rfl) rfl rfl rfl rfl (Nat.le_of_ble_eq_true rfl) ?_
  refine am_if_eq (tgt := 18) X dX7_errands_5 (by decide) (fun c => ?_) (fun c => ?_)
  · have h := if_t h c
    refine am_iconst (v := (-1 : Int32)) X dX7_errands_18 (by decide) ?_
    obtain rfl := Option.some.inj h
    exact am_iret X h0 dX7_errands_19 rfl ⟨rfl, rfl⟩
  · have h := if_f h c
    refine am_iload_n X dX7_errands_8 rfl rfl ?_
    refine am_iconst (v := (-1 : Int32)) X dX7_errands_9 (by decide) ?_
    refine am_bipush (v := (6 : Int32)) X dX7_errands_10 (by decide) ?_
    obtain ⟨v12, σ12, hc, h⟩ := bd2_some h
    refine am_calls_i3 X dX7_errands_12 cw_X7_84 (ct_X7_in hG N _ _ _ _ _ hc) (Nat.le_of_ble_eq_true rfl) rfl (Nat.le_of_ble_eq_true rfl) ?_
    refine am_if_ne (tgt := 20) X dX7_errands_15 (by decide) (fun c => ?_) (fun c => ?_)
    · have h := if_f h c
      refine am_iload_n X dX7_errands_20 rfl rfl ?_
      refine am_if_lt (tgt := 35) X dX7_errands_21 (by decide) (fun c => ?_) (fun c => ?_)
      · have h := if_t h c
        refine am_bipush (v := (-2 : Int32)) X dX7_errands_35 (by decide) ?_
        obtain rfl := Option.some.inj h
        exact am_iret X h0 dX7_errands_37 rfl ⟨rfl, rfl⟩
      · have h := if_f h c
        refine am_iload_n X dX7_errands_24 rfl rfl ?_
        refine am_aload_n X dX7_errands_25 rfl rfl ?_
        refine am_getf (v := .ref 61) X dX7_errands_26 fl_X7_9 rfl rfl (by decide) ?_
        refine am_iconst (v := (0 : Int32)) X dX7_errands_29 (by decide) ?_
        obtain ⟨g, h⟩ := gd_some h
        refine am_iald X dX7_errands_30 rfl g ?_
        refine am_ishr X dX7_errands_31 ?_
        refine am_if_eq (tgt := 38) X dX7_errands_32 (by decide) (fun c => ?_) (fun c => ?_)
        · have h := if_t h c
          refine am_aload_n X dX7_errands_38 rfl rfl ?_
          obtain ⟨σ39, hc, h⟩ := bd_some h
          refine am_callv_v0 X dX7_errands_39 cw_X7_254 (ct_X7_looksForWays hG N _ _ hc) (Nat.le_of_ble_eq_true rfl) rfl rfl rfl rfl (Nat.le_of_ble_eq_true rfl) ?_
          refine am_aload_n X dX7_errands_42 rfl rfl ?_
          refine am_ldc (v := (1000000000 : Int32)) X dX7_errands_43 (wm_r27 _ (List.mem_of_getElem? (i := 1) rfl)) ?_
          refine am_putfi X dX7_errands_45 fp_X7_257 rfl rfl ?_
          refine am_tops h (fun σ45 h => ?_)
          refine am_iconst (v := (0 : Int32)) X dX7_errands_48 (by decide) ?_
          refine am_istore (ls' := [some (.ref 60), some (.int x1), some (.int x2), some (.int x3), some (.int (0 : Int32))]) X dX7_errands_49 (by decide)  rfl rfl ?_
          exact am_jump (t_X7_errands_51 hG N N _ _ _ _ _ _ h K h0 X) rfl ⟨rfl, rfl, rfl, rfl, rfl, trivial⟩
        · have h := if_f h c
          refine am_bipush (v := (-2 : Int32)) X dX7_errands_35 (by decide) ?_
          obtain rfl := Option.some.inj h
          exact am_iret X h0 dX7_errands_37 rfl ⟨rfl, rfl⟩
    · have h := if_t h c
      refine am_iconst (v := (-1 : Int32)) X dX7_errands_18 (by decide) ?_
      obtain rfl := Option.some.inj h
      exact am_iret X h0 dX7_errands_19 rfl ⟨rfl, rfl⟩
set_option maxRecDepth 100000 in
set_option maxHeartbeats 4000000 in
theorem ct_X7_feed {G : Cx} (hG : am_G G) (N : Nat) (x1 : Int32) (σ : Sg) (r : Int32 × Sg) (h : f_X7_feed N x1 σ = some r) : am_Ct G 2 yX7_feed mX7_feed [.ref 60, .int x1] σ (am_qi r.1 r.2) := by
  refine am_enter hG rfl rfl (Nat.le_of_ble_eq_true rfl) ?_
  intro K h0 X
  unfold f_X7_feed at h
  refine am_jump (pc' := 0) (ls' := [some (.ref 60), some (.int x1)]) ?_ rfl ⟨rfl, rfl, trivial⟩
  refine am_iload_n X dX7_feed_0 rfl rfl ?_
  refine am_iconst (v := (0 : Int32)) X dX7_feed_1 (by decide) ?_
  refine am_bipush (v := (127 : Int32)) X dX7_feed_2 (by decide) ?_
  obtain ⟨v4, σ4, hc, h⟩ := bd2_some h
  refine am_calls_i3 X dX7_feed_4 cw_X7_84 (ct_X7_in hG N _ _ _ _ _ hc) (Nat.le_of_ble_eq_true rfl) rfl (Nat.le_of_ble_eq_true rfl) ?_
  refine am_if_ne (tgt := 13) X dX7_feed_7 (by decide) (fun c => ?_) (fun c => ?_)
  · have h := if_f h c
    refine am_aload_n X dX7_feed_13 rfl rfl ?_
    refine am_getf (v := .ref 61) X dX7_feed_14 fl_X7_9 rfl rfl (by decide) ?_
    refine am_iconst (v := (3 : Int32)) X dX7_feed_17 (by decide) ?_
    obtain ⟨g, h⟩ := gd_some h
    refine am_iald X dX7_feed_18 rfl g ?_
    refine am_bipush (v := (100 : Int32)) X dX7_feed_19 (by decide) ?_
    refine am_icmp_ne (tgt := 27) X dX7_feed_21 (by decide) (fun c => ?_) (fun c => ?_)
    · have h := if_f h c
      refine am_aload_n X dX7_feed_27 rfl rfl ?_
      refine am_getf (v := .ref 61) X dX7_feed_28 fl_X7_9 rfl rfl (by decide) ?_
      refine am_bipush (v := (101 : Int32)) X dX7_feed_31 (by decide) ?_
      refine am_aload_n X dX7_feed_33 rfl rfl ?_
      refine am_getf (v := .ref 61) X dX7_feed_34 fl_X7_9 rfl rfl (by decide) ?_
      refine am_iconst (v := (3 : Int32)) X dX7_feed_37 (by decide) ?_
      obtain ⟨g, h⟩ := gd_some h
      refine am_iald X dX7_feed_38 rfl g ?_
      refine am_iadd X dX7_feed_39 ?_
      refine am_iload_n X dX7_feed_40 rfl rfl ?_
      obtain ⟨g, h⟩ := gd_some h
      refine am_iast X dX7_feed_41 rfl g ?_
      refine am_tops h (fun σ41 h => ?_)
      refine am_aload_n X dX7_feed_42 rfl rfl ?_
      refine am_getf (v := .ref 61) X dX7_feed_43 fl_X7_9 rfl rfl (by decide) ?_
      refine am_iconst (v := (3 : Int32)) X dX7_feed_46 (by decide) ?_
      refine am_dup2 X dX7_feed_47 rfl rfl ?_
      obtain ⟨g, h⟩ := gd_some h
      refine am_iald X dX7_feed_48 rfl g ?_
      refine am_iconst (v := (1 : Int32)) X dX7_feed_49 (by decide) ?_
      refine am_iadd X dX7_feed_50 ?_
      obtain ⟨g, h⟩ := gd_some h
      refine am_iast X dX7_feed_51 rfl g ?_
      refine am_tops h (fun σ51 h => ?_)
      refine am_aload_n X dX7_feed_52 rfl rfl ?_
      refine am_getf (v := .ref 61) X dX7_feed_53 fl_X7_9 rfl rfl (by decide) ?_
      refine am_iconst (v := (3 : Int32)) X dX7_feed_56 (by decide) ?_
      obtain ⟨g, h⟩ := gd_some h
      refine am_iald X dX7_feed_57 rfl g ?_
      obtain rfl := Option.some.inj h
      exact am_iret X h0 dX7_feed_58 rfl ⟨rfl, rfl⟩
    · have h := if_t h c
      refine am_bipush (v := (-4 : Int32)) X dX7_feed_24 (by decide) ?_
      obtain rfl := Option.some.inj h
      exact am_iret X h0 dX7_feed_26 rfl ⟨rfl, rfl⟩
  · have h := if_t h c
    refine am_bipush (v := (-2 : Int32)) X dX7_feed_10 (by decide) ?_
    obtain rfl := Option.some.inj h
    exact am_iret X h0 dX7_feed_12 rfl ⟨rfl, rfl⟩
set_option maxRecDepth 100000 in
set_option maxHeartbeats 4000000 in
theorem ct_X7_changes {G : Cx} (hG : am_G G) (N : Nat) (x1 : Int32) (x2 : Int32) (x3 : Int32) (σ : Sg) (r : Int32 × Sg) (h : f_X7_changes N x1 x2 x3 σ = some r) : am_Ct G 5 yX7_changes mX7_changes [.ref 60, .int x1, .int x2, .int x3] σ (am_qi r.1 r.2) := by
  refine am_enter hG rfl rfl (Nat.le_of_ble_eq_true rfl) ?_
  intro K h0 X
  unfold f_X7_changes at h
  refine am_jump (pc' := 0) (ls' := [some (.ref 60), some (.int x1), some (.int x2), some (.int x3), none]) ?_ rfl ⟨rfl, rfl, rfl, rfl, trivial⟩
  refine am_aload_n X dX7_changes_0 rfl rfl ?_
  obtain ⟨σ1, hc, h⟩ := bd_some h
  refine am_callv_v0 X dX7_changes_1 cw_X7_243 (ct_X7_looksForAll hG N _ _ hc) (Nat.le_of_ble_eq_true rfl) rfl rfl rfl rfl (Nat.le_of_ble_eq_true rfl) ?_
  refine am_aload_n X dX7_changes_4 rfl rfl ?_
  refine am_iconst (v := (1 : Int32)) X dX7_changes_5 (by decide) ?_
  obtain ⟨v6, σ6, hc, h⟩ := bd2_some h
  refine am_callv_i1 X dX7_changes_6 cw_X7_246 (ct_X7_costBy hG N _ _ _ hc) (Nat.le_of_ble_eq_true rfl) rfl rfl rfl rfl (Nat.le_of_ble_eq_true rfl) ?_
  refine am_istore (ls' := [some (.ref 60), some (.int x1), some (.int x2), some (.int x3), some (.int v6)]) X dX7_changes_9 (by decide)  rfl rfl ?_
  refine am_aload_n X dX7_changes_11 rfl rfl ?_
  refine am_getf (v := .ref 76) X dX7_changes_12 fl_X7_58 rfl rfl (by decide) ?_
  refine am_bipush (v := (7 : Int32)) X dX7_changes_15 (by decide) ?_
  refine am_iload_n X dX7_changes_17 rfl rfl ?_
  refine am_imul X dX7_changes_18 ?_
  refine am_iload_n X dX7_changes_19 rfl rfl ?_
  refine am_iadd X dX7_changes_20 ?_
  refine am_iload_n X dX7_changes_21 rfl rfl ?_
  obtain ⟨g, h⟩ := gd_some h
  refine am_zast X dX7_changes_22 rfl g ?_
  refine am_tops h (fun σ22 h => ?_)
  refine am_iload X dX7_changes_23 rfl ?_
  refine am_aload_n X dX7_changes_25 rfl rfl ?_
  refine am_iconst (v := (1 : Int32)) X dX7_changes_26 (by decide) ?_
  obtain ⟨v27, σ27, hc, h⟩ := bd2_some h
  refine am_callv_i1 X dX7_changes_27 cw_X7_246 (ct_X7_costBy hG N _ _ _ hc) (Nat.le_of_ble_eq_true rfl) rfl rfl rfl rfl (Nat.le_of_ble_eq_true rfl) ?_
  refine am_isub X dX7_changes_30 ?_
  obtain rfl := Option.some.inj h
  exact am_iret X h0 dX7_changes_31 rfl ⟨rfl, rfl⟩
set_option maxRecDepth 100000 in
set_option maxHeartbeats 4000000 in
theorem ct_X7_fresh {G : Cx} (hG : am_G G) (N : Nat) (x1 : Int32) (x2 : Int32) (σ : Sg) (r : Int32 × Sg) (h : f_X7_fresh N x1 x2 σ = some r) : am_Ct G 6 yX7_fresh mX7_fresh [.ref 60, .int x1, .int x2] σ (am_qi r.1 r.2) := by
  refine am_enter hG rfl rfl (Nat.le_of_ble_eq_true rfl) ?_
  intro K h0 X
  unfold f_X7_fresh at h
  refine am_jump (pc' := 0) (ls' := [some (.ref 60), some (.int x1), some (.int x2)]) ?_ rfl ⟨rfl, rfl, rfl, trivial⟩
  refine am_aload_n X dX7_fresh_0 rfl rfl ?_
  refine am_iload_n X dX7_fresh_1 rfl rfl ?_
  obtain ⟨v2, σ2, hc, h⟩ := bd2_some h
  refine am_callv_i1 X dX7_fresh_2 cw_X7_161 (ct_X7_isStreet hG N _ _ _ hc) (Nat.le_of_ble_eq_true rfl) rfl rfl rfl rfl (Nat.le_of_ble_eq_true rfl) ?_
  refine am_if_eq (tgt := 16) X dX7_fresh_5 (by decide) (fun c => ?_) (fun c => ?_)
  · have h := if_t h c
    refine am_iconst (v := (-1 : Int32)) X dX7_fresh_16 (by decide) ?_
    obtain rfl := Option.some.inj h
    exact am_iret X h0 dX7_fresh_17 rfl ⟨rfl, rfl⟩
  · have h := if_f h c
    refine am_aload_n X dX7_fresh_8 rfl rfl ?_
    refine am_iload_n X dX7_fresh_9 rfl rfl ?_
    obtain ⟨v10, σ10, hc, h⟩ := bd2_some h
    refine am_callv_i1 X dX7_fresh_10 cw_X7_161 (ct_X7_isStreet hG N _ _ _ hc) (Nat.le_of_ble_eq_true rfl) rfl rfl rfl rfl (Nat.le_of_ble_eq_true rfl) ?_
    refine am_if_ne (tgt := 18) X dX7_fresh_13 (by decide) (fun c => ?_) (fun c => ?_)
    · have h := if_f h c
      refine am_iload_n X dX7_fresh_18 rfl rfl ?_
      refine am_iload_n X dX7_fresh_19 rfl rfl ?_
      refine am_icmp_ne (tgt := 28) X dX7_fresh_20 (by decide) (fun c => ?_) (fun c => ?_)
      · have h := if_f h c
        refine am_aload_n X dX7_fresh_28 rfl rfl ?_
        refine am_iload_n X dX7_fresh_29 rfl rfl ?_
        refine am_iload_n X dX7_fresh_30 rfl rfl ?_
        refine am_iconst (v := (1 : Int32)) X dX7_fresh_31 (by decide) ?_
        obtain ⟨v32, σ32, hc, h⟩ := bd2_some h
        refine am_callv_i3 X dX7_fresh_32 cw_X7_250 (ct_X7_changes hG N _ _ _ _ _ hc) (Nat.le_of_ble_eq_true rfl) rfl rfl rfl rfl (Nat.le_of_ble_eq_true rfl) ?_
        obtain rfl := Option.some.inj h
        exact am_iret X h0 dX7_fresh_35 rfl ⟨rfl, rfl⟩
      · have h := if_t h c
        refine am_bipush (v := (-2 : Int32)) X dX7_fresh_23 (by decide) ?_
        refine am_goto (tgt := 35) X dX7_fresh_25 (by decide) ?_
        obtain rfl := Option.some.inj h
        exact am_iret X h0 dX7_fresh_35 rfl ⟨rfl, rfl⟩
    · have h := if_t h c
      refine am_iconst (v := (-1 : Int32)) X dX7_fresh_16 (by decide) ?_
      obtain rfl := Option.some.inj h
      exact am_iret X h0 dX7_fresh_17 rfl ⟨rfl, rfl⟩
set_option maxRecDepth 100000 in
set_option maxHeartbeats 4000000 in
theorem ct_X7_gate {G : Cx} (hG : am_G G) (N : Nat) (x1 : Int32) (σ : Sg) (r : Int32 × Sg) (h : f_X7_gate N x1 σ = some r) : am_Ct G 5 yX7_gate mX7_gate [.ref 60, .int x1] σ (am_qi r.1 r.2) := by
  refine am_enter hG rfl rfl (Nat.le_of_ble_eq_true rfl) ?_
  intro K h0 X
  unfold f_X7_gate at h
  refine am_jump (pc' := 0) (ls' := [some (.ref 60), some (.int x1), none]) ?_ rfl ⟨rfl, rfl, trivial⟩
  refine am_aload_n X dX7_gate_0 rfl rfl ?_
  refine am_iload_n X dX7_gate_1 rfl rfl ?_
  obtain ⟨v2, σ2, hc, h⟩ := bd2_some h
  refine am_callv_i1 X dX7_gate_2 cw_X7_161 (ct_X7_isStreet hG N _ _ _ hc) (Nat.le_of_ble_eq_true rfl) rfl rfl rfl rfl (Nat.le_of_ble_eq_true rfl) ?_
  refine am_if_ne (tgt := 10) X dX7_gate_5 (by decide) (fun c => ?_) (fun c => ?_)
  · have h := if_f h c
    refine am_aload_n X dX7_gate_10 rfl rfl ?_
    obtain ⟨σ11, hc, h⟩ := bd_some h
    refine am_callv_v0 X dX7_gate_11 cw_X7_243 (ct_X7_looksForAll hG N _ _ hc) (Nat.le_of_ble_eq_true rfl) rfl rfl rfl rfl (Nat.le_of_ble_eq_true rfl) ?_
    refine am_aload_n X dX7_gate_14 rfl rfl ?_
    refine am_iconst (v := (1 : Int32)) X dX7_gate_15 (by decide) ?_
    obtain ⟨v16, σ16, hc, h⟩ := bd2_some h
    refine am_callv_i1 X dX7_gate_16 cw_X7_246 (ct_X7_costBy hG N _ _ _ hc) (Nat.le_of_ble_eq_true rfl) rfl rfl rfl rfl (Nat.le_of_ble_eq_true rfl) ?_
    refine am_istore_n (ls' := [some (.ref 60), some (.int x1), some (.int v16)]) X dX7_gate_19 rfl (by decide)  rfl rfl ?_
    refine am_aload_n X dX7_gate_20 rfl rfl ?_
    refine am_getf (v := .ref 73) X dX7_gate_21 fl_X7_49 rfl rfl (by decide) ?_
    refine am_iload_n X dX7_gate_24 rfl rfl ?_
    refine am_sipush (v := (9999 : Int32)) X dX7_gate_25 (by decide) ?_
    obtain ⟨g, h⟩ := gd_some h
    refine am_iast X dX7_gate_28 rfl g ?_
    refine am_tops h (fun σ28 h => ?_)
    refine am_iload_n X dX7_gate_29 rfl rfl ?_
    refine am_aload_n X dX7_gate_30 rfl rfl ?_
    refine am_iconst (v := (1 : Int32)) X dX7_gate_31 (by decide) ?_
    obtain ⟨v32, σ32, hc, h⟩ := bd2_some h
    refine am_callv_i1 X dX7_gate_32 cw_X7_246 (ct_X7_costBy hG N _ _ _ hc) (Nat.le_of_ble_eq_true rfl) rfl rfl rfl rfl (Nat.le_of_ble_eq_true rfl) ?_
    refine am_isub X dX7_gate_35 ?_
    obtain rfl := Option.some.inj h
    exact am_iret X h0 dX7_gate_36 rfl ⟨rfl, rfl⟩
  · have h := if_t h c
    refine am_iconst (v := (-1 : Int32)) X dX7_gate_8 (by decide) ?_
    obtain rfl := Option.some.inj h
    exact am_iret X h0 dX7_gate_9 rfl ⟨rfl, rfl⟩
set_option maxRecDepth 100000 in
set_option maxHeartbeats 4000000 in
theorem ct_X7_go {G : Cx} (hG : am_G G) (N : Nat) (x1 : Int32) (x2 : Int32) (x3 : Int32) (σ : Sg) (r : Int32 × Sg) (h : f_X7_go N x1 x2 x3 σ = some r) : am_Ct G 3 yX7_go mX7_go [.ref 60, .int x1, .int x2, .int x3] σ (am_qi r.1 r.2) := by
  refine am_enter hG rfl rfl (Nat.le_of_ble_eq_true rfl) ?_
  intro K h0 X
  unfold f_X7_go at h
  refine am_jump (pc' := 0) (ls' := [some (.ref 60), some (.int x1), some (.int x2), some (.int x3)]) ?_ rfl ⟨rfl, rfl, rfl, rfl, trivial⟩
  refine am_aload_n X dX7_go_0 rfl rfl ?_
  refine am_iload_n X dX7_go_1 rfl rfl ?_
  obtain ⟨v2, σ2, hc, h⟩ := bd2_some h
  refine am_callv_i1 X dX7_go_2 cw_X7_161 (ct_X7_isStreet hG N _ _ _ hc) (Nat.le_of_ble_eq_true rfl) rfl rfl rfl rfl (Nat.le_of_ble_eq_true rfl) ?_
  refine am_if_eq (tgt := 16) X dX7_go_5 (by decide) (fun c => ?_) (fun c => ?_)
  · have h := if_t h c
    refine am_ldc (v := (-1000001 : Int32)) X dX7_go_16 (wm_r20 _ (List.mem_of_getElem? (i := 3) rfl)) ?_
    obtain rfl := Option.some.inj h
    exact am_iret X h0 dX7_go_18 rfl ⟨rfl, rfl⟩
  · have h := if_f h c
    refine am_aload_n X dX7_go_8 rfl rfl ?_
    refine am_iload_n X dX7_go_9 rfl rfl ?_
    obtain ⟨v10, σ10, hc, h⟩ := bd2_some h
    refine am_callv_i1 X dX7_go_10 cw_X7_161 (ct_X7_isStreet hG N _ _ _ hc) (Nat.le_of_ble_eq_true rfl) rfl rfl rfl rfl (Nat.le_of_ble_eq_true rfl) ?_
    refine am_if_ne (tgt := 19) X dX7_go_13 (by decide) (fun c => ?_) (fun c => ?_)
    · have h := if_f h c
      refine am_iload_n X dX7_go_19 rfl rfl ?_
      refine am_iconst (v := (1 : Int32)) X dX7_go_20 (by decide) ?_
      refine am_bipush (v := (9 : Int32)) X dX7_go_21 (by decide) ?_
      obtain ⟨v23, σ23, hc, h⟩ := bd2_some h
      refine am_calls_i3 X dX7_go_23 cw_X7_84 (ct_X7_in hG N _ _ _ _ _ hc) (Nat.le_of_ble_eq_true rfl) rfl (Nat.le_of_ble_eq_true rfl) ?_
      refine am_if_ne (tgt := 32) X dX7_go_26 (by decide) (fun c => ?_) (fun c => ?_)
      · have h := if_f h c
        refine am_aload_n X dX7_go_32 rfl rfl ?_
        refine am_iload_n X dX7_go_33 rfl rfl ?_
        refine am_iload_n X dX7_go_34 rfl rfl ?_
        obtain ⟨v35, σ35, hc, h⟩ := bd2_some h
        refine am_callv_i2 X dX7_go_35 cw_X7_165 (ct_X7_isOpen hG N _ _ _ _ hc) (Nat.le_of_ble_eq_true rfl) rfl rfl rfl rfl (Nat.le_of_ble_eq_true rfl) ?_
        refine am_if_eq (tgt := 75) X dX7_go_38 (by decide) (fun c => ?_) (fun c => ?_)
        · have h := if_t h c
          refine am_ldc (v := (-1000003 : Int32)) X dX7_go_75 (wm_r23 _ (List.mem_of_getElem? (i := 14) rfl)) ?_
          obtain rfl := Option.some.inj h
          exact am_iret X h0 dX7_go_77 rfl ⟨rfl, rfl⟩
        · have h := if_f h c
          refine am_aload_n X dX7_go_41 rfl rfl ?_
          refine am_getf (v := .ref 61) X dX7_go_42 fl_X7_9 rfl rfl (by decide) ?_
          refine am_bipush (v := (31 : Int32)) X dX7_go_45 (by decide) ?_
          refine am_iload_n X dX7_go_47 rfl rfl ?_
          refine am_iadd X dX7_go_48 ?_
          obtain ⟨g, h⟩ := gd_some h
          refine am_iald X dX7_go_49 rfl g ?_
          refine am_iload_n X dX7_go_50 rfl rfl ?_
          refine am_iadd X dX7_go_51 ?_
          refine am_sipush (v := (9999 : Int32)) X dX7_go_52 (by decide) ?_
          refine am_icmp_gt (tgt := 75) X dX7_go_55 (by decide) (fun c => ?_) (fun c => ?_)
          · have h := if_t h c
            refine am_ldc (v := (-1000003 : Int32)) X dX7_go_75 (wm_r23 _ (List.mem_of_getElem? (i := 14) rfl)) ?_
            obtain rfl := Option.some.inj h
            exact am_iret X h0 dX7_go_77 rfl ⟨rfl, rfl⟩
          · have h := if_f h c
            refine am_aload_n X dX7_go_58 rfl rfl ?_
            refine am_getf (v := .ref 61) X dX7_go_59 fl_X7_9 rfl rfl (by decide) ?_
            refine am_bipush (v := (24 : Int32)) X dX7_go_62 (by decide) ?_
            refine am_iload_n X dX7_go_64 rfl rfl ?_
            refine am_iadd X dX7_go_65 ?_
            obtain ⟨g, h⟩ := gd_some h
            refine am_iald X dX7_go_66 rfl g ?_
            refine am_iload_n X dX7_go_67 rfl rfl ?_
            refine am_iadd X dX7_go_68 ?_
            refine am_sipush (v := (9999 : Int32)) X dX7_go_69 (by decide) ?_
            refine am_icmp_le (tgt := 78) X dX7_go_72 (by decide) (fun c => ?_) (fun c => ?_)
            · have h := if_t h c
              refine am_aload_n X dX7_go_78 rfl rfl ?_
              refine am_getf (v := .ref 61) X dX7_go_79 fl_X7_9 rfl rfl (by decide) ?_
              refine am_bipush (v := (31 : Int32)) X dX7_go_82 (by decide) ?_
              refine am_iload_n X dX7_go_84 rfl rfl ?_
              refine am_iadd X dX7_go_85 ?_
              refine am_dup2 X dX7_go_86 rfl rfl ?_
              obtain ⟨g, h⟩ := gd_some h
              refine am_iald X dX7_go_87 rfl g ?_
              refine am_iload_n X dX7_go_88 rfl rfl ?_
              refine am_iadd X dX7_go_89 ?_
              obtain ⟨g, h⟩ := gd_some h
              refine am_iast X dX7_go_90 rfl g ?_
              refine am_tops h (fun σ90 h => ?_)
              refine am_aload_n X dX7_go_91 rfl rfl ?_
              refine am_getf (v := .ref 61) X dX7_go_92 fl_X7_9 rfl rfl (by decide) ?_
              refine am_bipush (v := (24 : Int32)) X dX7_go_95 (by decide) ?_
              refine am_iload_n X dX7_go_97 rfl rfl ?_
              refine am_iadd X dX7_go_98 ?_
              refine am_dup2 X dX7_go_99 rfl rfl ?_
              obtain ⟨g, h⟩ := gd_some h
              refine am_iald X dX7_go_100 rfl g ?_
              refine am_iload_n X dX7_go_101 rfl rfl ?_
              refine am_iadd X dX7_go_102 ?_
              obtain ⟨g, h⟩ := gd_some h
              refine am_iast X dX7_go_103 rfl g ?_
              refine am_tops h (fun σ103 h => ?_)
              refine am_aload_n X dX7_go_104 rfl rfl ?_
              refine am_iload_n X dX7_go_105 rfl rfl ?_
              obtain ⟨v106, σ106, hc, h⟩ := bd2_some h
              refine am_callv_i1 X dX7_go_106 cw_X7_169 (ct_X7_uneven hG N _ _ _ hc) (Nat.le_of_ble_eq_true rfl) rfl rfl rfl rfl (Nat.le_of_ble_eq_true rfl) ?_
              obtain rfl := Option.some.inj h
              exact am_iret X h0 dX7_go_109 rfl ⟨rfl, rfl⟩
            · have h := if_f h c
              refine am_ldc (v := (-1000003 : Int32)) X dX7_go_75 (wm_r23 _ (List.mem_of_getElem? (i := 14) rfl)) ?_
              obtain rfl := Option.some.inj h
              exact am_iret X h0 dX7_go_77 rfl ⟨rfl, rfl⟩
      · have h := if_t h c
        refine am_ldc (v := (-1000002 : Int32)) X dX7_go_29 (wm_r23 _ (List.mem_of_getElem? (i := 13) rfl)) ?_
        obtain rfl := Option.some.inj h
        exact am_iret X h0 dX7_go_31 rfl ⟨rfl, rfl⟩
    · have h := if_t h c
      refine am_ldc (v := (-1000001 : Int32)) X dX7_go_16 (wm_r20 _ (List.mem_of_getElem? (i := 3) rfl)) ?_
      obtain rfl := Option.some.inj h
      exact am_iret X h0 dX7_go_18 rfl ⟨rfl, rfl⟩
set_option maxRecDepth 100000 in
set_option maxHeartbeats 4000000 in
theorem t_X7_image_2b {G : Cx} (hG : am_G G) (N : Nat) (k2 : Int32 → Sg → Option (Int32 × Sg)) (hk2 : ∀ (x1 : Int32) (σ : Sg) (r : Int32 × Sg), k2 x1 σ = some r → am_Wp G mX7_image 0 (am_qi r.1 r.2) 2 [some (.ref 60), some (.int x1)] [] σ) (x1 : Int32) (σ : Sg) (r : Int32 × Sg) (h : b_X7_image_2b N k2 x1 σ = some r) : am_Wp G mX7_image 0 (am_qi r.1 r.2) 2 [some (.ref 60), some (.int x1)] [] σ := by
  intro K h0 X
  unfold b_X7_image_2b at h
  refine am_iload_n X dX7_image_2 rfl rfl ?_
  refine am_sipush (v := (906 : Int32)) X dX7_image_3 (by decide) ?_
  refine am_icmp_ge (tgt := 27) X dX7_image_6 (by decide) (fun c => ?_) (fun c => ?_)
  · have h := if_t h c
    refine am_aload_n X dX7_image_27 rfl rfl ?_
    refine am_iconst (v := (1 : Int32)) X dX7_image_28 (by decide) ?_
    refine am_putfz X dX7_image_29 fp_X7_314 rfl rfl (by decide) ?_
    refine am_tops h (fun σ29 h => ?_)
    refine am_aload_n X dX7_image_32 rfl rfl ?_
    refine am_getf (v := .ref 61) X dX7_image_33 fl_X7_9 rfl rfl (by decide) ?_
    refine am_iconst (v := (0 : Int32)) X dX7_image_36 (by decide) ?_
    obtain ⟨g, h⟩ := gd_some h
    refine am_iald X dX7_image_37 rfl g ?_
    obtain rfl := Option.some.inj h
    exact am_iret X h0 dX7_image_38 rfl ⟨rfl, rfl⟩
  · have h := if_f h c
    refine am_aload_n X dX7_image_9 rfl rfl ?_
    refine am_getf (v := .ref 62) X dX7_image_10 fl_X7_15 rfl rfl (by decide) ?_
    refine am_iload_n X dX7_image_13 rfl rfl ?_
    refine am_aload_n X dX7_image_14 rfl rfl ?_
    refine am_getf (v := .ref 61) X dX7_image_15 fl_X7_9 rfl rfl (by decide) ?_
    refine am_iload_n X dX7_image_18 rfl rfl ?_
    obtain ⟨g, h⟩ := gd_some h
    refine am_iald X dX7_image_19 rfl g ?_
    obtain ⟨g, h⟩ := gd_some h
    refine am_iast X dX7_image_20 rfl g ?_
    refine am_tops h (fun σ20 h => ?_)
    refine am_iinc (ls' := fun x1_21 => [some (.ref 60), some (.int x1_21)]) X dX7_image_21 rfl h (by decide) (by decide) rfl (fun _ => rfl) (fun x1_21 h => ?_)
    refine am_goto (tgt := 2) X dX7_image_24 (by decide) ?_
    exact am_jump (hk2 _ _ _ h K h0 X) rfl ⟨rfl, rfl, trivial⟩
set_option maxRecDepth 100000 in
set_option maxHeartbeats 4000000 in
theorem t_X7_image_2 {G : Cx} (hG : am_G G) (N : Nat) : ∀ (n : Nat) (x1 : Int32) (σ : Sg) (r : Int32 × Sg), b_X7_image_2 N n x1 σ = some r → am_Wp G mX7_image 0 (am_qi r.1 r.2) 2 [some (.ref 60), some (.int x1)] [] σ := by
  intro n
  induction n with
  | zero => intro x1 σ r h; cases h
  | succ n ih => intro x1 σ r h; exact t_X7_image_2b hG N (b_X7_image_2 N n) ih x1 σ r h
set_option maxRecDepth 100000 in
set_option maxHeartbeats 4000000 in
theorem ct_X7_image {G : Cx} (hG : am_G G) (N : Nat) (σ : Sg) (r : Int32 × Sg) (h : f_X7_image N σ = some r) : am_Ct G 1 yX7_image mX7_image [.ref 60] σ (am_qi r.1 r.2) := by
  refine am_enter hG rfl rfl (Nat.le_of_ble_eq_true rfl) ?_
  intro K h0 X
  unfold f_X7_image at h
  refine am_jump (pc' := 0) (ls' := [some (.ref 60), none]) ?_ rfl ⟨rfl, trivial⟩
  refine am_iconst (v := (0 : Int32)) X dX7_image_0 (by decide) ?_
  refine am_istore_n (ls' := [some (.ref 60), some (.int (0 : Int32))]) X dX7_image_1 rfl (by decide)  rfl rfl ?_
  exact am_jump (t_X7_image_2 hG N N _ _ _ h K h0 X) rfl ⟨rfl, rfl, trivial⟩
set_option maxRecDepth 100000 in
set_option maxHeartbeats 4000000 in
theorem ct_X7_lead {G : Cx} (hG : am_G G) (N : Nat) (x1 : Int32) (x2 : Int32) (x3 : Int32) (σ : Sg) (r : Int32 × Sg) (h : f_X7_lead N x1 x2 x3 σ = some r) : am_Ct G 3 yX7_lead mX7_lead [.ref 60, .int x1, .int x2, .int x3] σ (am_qi r.1 r.2) := by
  refine am_enter hG rfl rfl (Nat.le_of_ble_eq_true rfl) ?_
  intro K h0 X
  unfold f_X7_lead at h
  refine am_jump (pc' := 0) (ls' := [some (.ref 60), some (.int x1), some (.int x2), some (.int x3), none]) ?_ rfl ⟨rfl, rfl, rfl, rfl, trivial⟩
  refine am_aload_n X dX7_lead_0 rfl rfl ?_
  refine am_iload_n X dX7_lead_1 rfl rfl ?_
  obtain ⟨v2, σ2, hc, h⟩ := bd2_some h
  refine am_callv_i1 X dX7_lead_2 cw_X7_161 (ct_X7_isStreet hG N _ _ _ hc) (Nat.le_of_ble_eq_true rfl) rfl rfl rfl rfl (Nat.le_of_ble_eq_true rfl) ?_
  refine am_if_eq (tgt := 16) X dX7_lead_5 (by decide) (fun c => ?_) (fun c => ?_)
  · have h := if_t h c
    refine am_iconst (v := (-1 : Int32)) X dX7_lead_16 (by decide) ?_
    obtain rfl := Option.some.inj h
    exact am_iret X h0 dX7_lead_17 rfl ⟨rfl, rfl⟩
  · have h := if_f h c
    refine am_aload_n X dX7_lead_8 rfl rfl ?_
    refine am_iload_n X dX7_lead_9 rfl rfl ?_
    obtain ⟨v10, σ10, hc, h⟩ := bd2_some h
    refine am_callv_i1 X dX7_lead_10 cw_X7_161 (ct_X7_isStreet hG N _ _ _ hc) (Nat.le_of_ble_eq_true rfl) rfl rfl rfl rfl (Nat.le_of_ble_eq_true rfl) ?_
    refine am_if_ne (tgt := 18) X dX7_lead_13 (by decide) (fun c => ?_) (fun c => ?_)
    · have h := if_f h c
      refine am_iload_n X dX7_lead_18 rfl rfl ?_
      refine am_iload_n X dX7_lead_19 rfl rfl ?_
      refine am_icmp_ne (tgt := 26) X dX7_lead_20 (by decide) (fun c => ?_) (fun c => ?_)
      · have h := if_f h c
        refine am_aload_n X dX7_lead_26 rfl rfl ?_
        refine am_getf (v := .ref 61) X dX7_lead_27 fl_X7_9 rfl rfl (by decide) ?_
        refine am_bipush (v := (38 : Int32)) X dX7_lead_30 (by decide) ?_
        refine am_bipush (v := (7 : Int32)) X dX7_lead_32 (by decide) ?_
        refine am_iload_n X dX7_lead_34 rfl rfl ?_
        refine am_imul X dX7_lead_35 ?_
        refine am_iadd X dX7_lead_36 ?_
        refine am_iload_n X dX7_lead_37 rfl rfl ?_
        refine am_iadd X dX7_lead_38 ?_
        obtain ⟨g, h⟩ := gd_some h
        refine am_iald X dX7_lead_39 rfl g ?_
        refine am_topi h (fun x4_40 h => ?_)
        refine am_istore (ls' := [some (.ref 60), some (.int x1), some (.int x2), some (.int x3), some (.int x4_40)]) X dX7_lead_40 (by decide)  rfl rfl ?_
        refine am_aload_n X dX7_lead_42 rfl rfl ?_
        refine am_getf (v := .ref 61) X dX7_lead_43 fl_X7_9 rfl rfl (by decide) ?_
        refine am_bipush (v := (38 : Int32)) X dX7_lead_46 (by decide) ?_
        refine am_bipush (v := (7 : Int32)) X dX7_lead_48 (by decide) ?_
        refine am_iload_n X dX7_lead_50 rfl rfl ?_
        refine am_imul X dX7_lead_51 ?_
        refine am_iadd X dX7_lead_52 ?_
        refine am_iload_n X dX7_lead_53 rfl rfl ?_
        refine am_iadd X dX7_lead_54 ?_
        refine am_iload_n X dX7_lead_55 rfl rfl ?_
        refine am_if_eq (tgt := 63) X dX7_lead_56 (by decide) (fun c => ?_) (fun c => ?_)
        · have h := if_t h c
          refine am_iconst (v := (0 : Int32)) X dX7_lead_63 (by decide) ?_
          obtain ⟨g, h⟩ := gd_some h
          refine am_iast X dX7_lead_64 rfl g ?_
          refine am_tops h (fun σ64 h => ?_)
          refine am_iload X dX7_lead_65 rfl ?_
          obtain rfl := Option.some.inj h
          exact am_iret X h0 dX7_lead_67 rfl ⟨rfl, rfl⟩
        · have h := if_f h c
          refine am_iconst (v := (1 : Int32)) X dX7_lead_59 (by decide) ?_
          refine am_goto (tgt := 64) X dX7_lead_60 (by decide) ?_
          obtain ⟨g, h⟩ := gd_some h
          refine am_iast X dX7_lead_64 rfl g ?_
          refine am_tops h (fun σ64 h => ?_)
          refine am_iload X dX7_lead_65 rfl ?_
          obtain rfl := Option.some.inj h
          exact am_iret X h0 dX7_lead_67 rfl ⟨rfl, rfl⟩
      · have h := if_t h c
        refine am_bipush (v := (-2 : Int32)) X dX7_lead_23 (by decide) ?_
        obtain rfl := Option.some.inj h
        exact am_iret X h0 dX7_lead_25 rfl ⟨rfl, rfl⟩
    · have h := if_t h c
      refine am_iconst (v := (-1 : Int32)) X dX7_lead_16 (by decide) ?_
      obtain rfl := Option.some.inj h
      exact am_iret X h0 dX7_lead_17 rfl ⟨rfl, rfl⟩
set_option maxRecDepth 100000 in
set_option maxHeartbeats 4000000 in
theorem ct_X7_need {G : Cx} (hG : am_G G) (N : Nat) (x1 : Int32) (x2 : Int32) (σ : Sg) (r : Int32 × Sg) (h : f_X7_need N x1 x2 σ = some r) : am_Ct G 6 yX7_need mX7_need [.ref 60, .int x1, .int x2] σ (am_qi r.1 r.2) := by
  refine am_enter hG rfl rfl (Nat.le_of_ble_eq_true rfl) ?_
  intro K h0 X
  unfold f_X7_need at h
  refine am_jump (pc' := 0) (ls' := [some (.ref 60), some (.int x1), some (.int x2)]) ?_ rfl ⟨rfl, rfl, rfl, trivial⟩
  refine am_aload_n X dX7_need_0 rfl rfl ?_
  refine am_iload_n X dX7_need_1 rfl rfl ?_
  obtain ⟨v2, σ2, hc, h⟩ := bd2_some h
  refine am_callv_i1 X dX7_need_2 cw_X7_161 (ct_X7_isStreet hG N _ _ _ hc) (Nat.le_of_ble_eq_true rfl) rfl rfl rfl rfl (Nat.le_of_ble_eq_true rfl) ?_
  refine am_if_eq (tgt := 16) X dX7_need_5 (by decide) (fun c => ?_) (fun c => ?_)
  · have h := if_t h c
    refine am_iconst (v := (-1 : Int32)) X dX7_need_16 (by decide) ?_
    obtain rfl := Option.some.inj h
    exact am_iret X h0 dX7_need_17 rfl ⟨rfl, rfl⟩
  · have h := if_f h c
    refine am_aload_n X dX7_need_8 rfl rfl ?_
    refine am_iload_n X dX7_need_9 rfl rfl ?_
    obtain ⟨v10, σ10, hc, h⟩ := bd2_some h
    refine am_callv_i1 X dX7_need_10 cw_X7_161 (ct_X7_isStreet hG N _ _ _ hc) (Nat.le_of_ble_eq_true rfl) rfl rfl rfl rfl (Nat.le_of_ble_eq_true rfl) ?_
    refine am_if_ne (tgt := 18) X dX7_need_13 (by decide) (fun c => ?_) (fun c => ?_)
    · have h := if_f h c
      refine am_iload_n X dX7_need_18 rfl rfl ?_
      refine am_iload_n X dX7_need_19 rfl rfl ?_
      refine am_icmp_ne (tgt := 28) X dX7_need_20 (by decide) (fun c => ?_) (fun c => ?_)
      · have h := if_f h c
        refine am_aload_n X dX7_need_28 rfl rfl ?_
        refine am_iload_n X dX7_need_29 rfl rfl ?_
        refine am_iload_n X dX7_need_30 rfl rfl ?_
        refine am_iconst (v := (0 : Int32)) X dX7_need_31 (by decide) ?_
        obtain ⟨v32, σ32, hc, h⟩ := bd2_some h
        refine am_callv_i3 X dX7_need_32 cw_X7_250 (ct_X7_changes hG N _ _ _ _ _ hc) (Nat.le_of_ble_eq_true rfl) rfl rfl rfl rfl (Nat.le_of_ble_eq_true rfl) ?_
        refine am_ineg X dX7_need_35 ?_
        obtain rfl := Option.some.inj h
        exact am_iret X h0 dX7_need_36 rfl ⟨rfl, rfl⟩
      · have h := if_t h c
        refine am_bipush (v := (-2 : Int32)) X dX7_need_23 (by decide) ?_
        refine am_goto (tgt := 36) X dX7_need_25 (by decide) ?_
        obtain rfl := Option.some.inj h
        exact am_iret X h0 dX7_need_36 rfl ⟨rfl, rfl⟩
    · have h := if_t h c
      refine am_iconst (v := (-1 : Int32)) X dX7_need_16 (by decide) ?_
      obtain rfl := Option.some.inj h
      exact am_iret X h0 dX7_need_17 rfl ⟨rfl, rfl⟩
set_option maxRecDepth 100000 in
set_option maxHeartbeats 4000000 in
theorem ct_X7_paysOf {G : Cx} (hG : am_G G) (N : Nat) (x1 : Int32) (σ : Sg) (r : Int32 × Sg) (h : f_X7_paysOf N x1 σ = some r) : am_Ct G 4 yX7_paysOf mX7_paysOf [.ref 60, .int x1] σ (am_qi r.1 r.2) := by
  refine am_enter hG rfl rfl (Nat.le_of_ble_eq_true rfl) ?_
  intro K h0 X
  unfold f_X7_paysOf at h
  refine am_jump (pc' := 0) (ls' := [some (.ref 60), some (.int x1), none]) ?_ rfl ⟨rfl, rfl, trivial⟩
  refine am_aload_n X dX7_paysOf_0 rfl rfl ?_
  refine am_iload_n X dX7_paysOf_1 rfl rfl ?_
  obtain ⟨v2, σ2, hc, h⟩ := bd2_some h
  refine am_callv_i1 X dX7_paysOf_2 cw_X7_169 (ct_X7_uneven hG N _ _ _ hc) (Nat.le_of_ble_eq_true rfl) rfl rfl rfl rfl (Nat.le_of_ble_eq_true rfl) ?_
  obtain ⟨v5, σ5, hc, h⟩ := bd2_some h
  refine am_calls_i1 X dX7_paysOf_5 cw_X7_173 (ct_X7_size hG N _ _ _ hc) (Nat.le_of_ble_eq_true rfl) rfl (Nat.le_of_ble_eq_true rfl) ?_
  refine am_aload_n X dX7_paysOf_8 rfl rfl ?_
  refine am_iload_n X dX7_paysOf_9 rfl rfl ?_
  obtain ⟨v10, σ10, hc, h⟩ := bd2_some h
  refine am_callv_i1 X dX7_paysOf_10 cw_X7_194 (ct_X7_allowedOf hG N _ _ _ hc) (Nat.le_of_ble_eq_true rfl) rfl rfl rfl rfl (Nat.le_of_ble_eq_true rfl) ?_
  refine am_isub X dX7_paysOf_13 ?_
  refine am_topi h (fun x2_14 h => ?_)
  refine am_istore_n (ls' := [some (.ref 60), some (.int x1), some (.int x2_14)]) X dX7_paysOf_14 rfl (by decide)  rfl rfl ?_
  refine am_iload_n X dX7_paysOf_15 rfl rfl ?_
  refine am_if_le (tgt := 29) X dX7_paysOf_16 (by decide) (fun c => ?_) (fun c => ?_)
  · have h := if_t h c
    refine am_iconst (v := (0 : Int32)) X dX7_paysOf_29 (by decide) ?_
    obtain rfl := Option.some.inj h
    exact am_iret X h0 dX7_paysOf_30 rfl ⟨rfl, rfl⟩
  · have h := if_f h c
    refine am_aload_n X dX7_paysOf_19 rfl rfl ?_
    refine am_iload_n X dX7_paysOf_20 rfl rfl ?_
    obtain ⟨v21, σ21, hc, h⟩ := bd2_some h
    refine am_callv_i1 X dX7_paysOf_21 cw_X7_197 (ct_X7_fineOf hG N _ _ _ hc) (Nat.le_of_ble_eq_true rfl) rfl rfl rfl rfl (Nat.le_of_ble_eq_true rfl) ?_
    refine am_iload_n X dX7_paysOf_24 rfl rfl ?_
    refine am_imul X dX7_paysOf_25 ?_
    refine am_goto (tgt := 30) X dX7_paysOf_26 (by decide) ?_
    obtain rfl := Option.some.inj h
    exact am_iret X h0 dX7_paysOf_30 rfl ⟨rfl, rfl⟩
set_option maxRecDepth 100000 in
set_option maxHeartbeats 4000000 in
theorem t_X7_openFrom_31 {G : Cx} (hG : am_G G) (N : Nat) (k4 : Int32 → Int32 → Int32 → Sg → Option (Int32 × Sg)) (hk4 : ∀ (x1 : Int32) (x2 : Int32) (x3 : Int32) (σ : Sg) (r : Int32 × Sg), k4 x1 x2 x3 σ = some r → am_Wp G mX7_openFrom 1 (am_qi r.1 r.2) 4 [some (.ref 60), some (.int x1), some (.int x2), some (.int x3)] [] σ) (x1 : Int32) (x3 : Int32) (s0 : Int32) (s1 : Int32) (σ : Sg) (r : Int32 × Sg) (h : b_X7_openFrom_31 N k4 x1 x3 s0 s1 σ = some r) : am_Wp G mX7_openFrom 1 (am_qi r.1 r.2) 31 [some (.ref 60), some (.int x1), none, some (.int x3)] [.int s1, .int s0] σ := by
  intro K h0 X
  unfold b_X7_openFrom_31 at h
  refine am_ior X dX7_openFrom_31 ?_
  refine am_topi h (fun x2_32 h => ?_)
  refine am_istore_n (ls' := [some (.ref 60), some (.int x1), some (.int x2_32), some (.int x3)]) X dX7_openFrom_32 rfl (by decide)  rfl rfl ?_
  refine am_iinc (ls' := fun x3_33 => [some (.ref 60), some (.int x1), some (.int x2_32), some (.int x3_33)]) X dX7_openFrom_33 rfl h (by decide) (by decide) rfl (fun _ => rfl) (fun x3_33 h => ?_)
  refine am_goto (tgt := 4) X dX7_openFrom_36 (by decide) ?_
  exact am_jump (hk4 _ _ _ _ _ h K h0 X) rfl ⟨rfl, rfl, rfl, rfl, trivial⟩
set_option maxRecDepth 100000 in
set_option maxHeartbeats 4000000 in
theorem t_X7_openFrom_4b {G : Cx} (hG : am_G G) (N : Nat) (k4 : Int32 → Int32 → Int32 → Sg → Option (Int32 × Sg)) (hk4 : ∀ (x1 : Int32) (x2 : Int32) (x3 : Int32) (σ : Sg) (r : Int32 × Sg), k4 x1 x2 x3 σ = some r → am_Wp G mX7_openFrom 1 (am_qi r.1 r.2) 4 [some (.ref 60), some (.int x1), some (.int x2), some (.int x3)] [] σ) (x1 : Int32) (x2 : Int32) (x3 : Int32) (σ : Sg) (r : Int32 × Sg) (h : b_X7_openFrom_4b N k4 x1 x2 x3 σ = some r) : am_Wp G mX7_openFrom 1 (am_qi r.1 r.2) 4 [some (.ref 60), some (.int x1), some (.int x2), some (.int x3)] [] σ := by
  intro K h0 X
  unfold b_X7_openFrom_4b at h
  refine am_iload_n X dX7_openFrom_4 rfl rfl ?_
  refine am_aload_n X dX7_openFrom_5 rfl rfl ?_
  refine am_getf (v := .ref 61) X dX7_openFrom_6 fl_X7_9 rfl rfl (by decide) ?_
  refine am_iconst (v := (0 : Int32)) X dX7_openFrom_9 (by decide) ?_
  obtain ⟨g, h⟩ := gd_some h
  refine am_iald X dX7_openFrom_10 rfl g ?_
  refine am_icmp_ge (tgt := 39) X dX7_openFrom_11 (by decide) (fun c => ?_) (fun c => ?_)
  · have h := if_t h c
    refine am_iload_n X dX7_openFrom_39 rfl rfl ?_
    obtain rfl := Option.some.inj h
    exact am_iret X h0 dX7_openFrom_40 rfl ⟨rfl, rfl⟩
  · have h := if_f h c
    refine am_iload_n X dX7_openFrom_14 rfl rfl ?_
    refine am_aload_n X dX7_openFrom_15 rfl rfl ?_
    refine am_iload_n X dX7_openFrom_16 rfl rfl ?_
    refine am_iload_n X dX7_openFrom_17 rfl rfl ?_
    obtain ⟨v18, σ18, hc, h⟩ := bd2_some h
    refine am_callv_i2 X dX7_openFrom_18 cw_X7_165 (ct_X7_isOpen hG N _ _ _ _ hc) (Nat.le_of_ble_eq_true rfl) rfl rfl rfl rfl (Nat.le_of_ble_eq_true rfl) ?_
    refine am_if_eq (tgt := 30) X dX7_openFrom_21 (by decide) (fun c => ?_) (fun c => ?_)
    · have h := if_t h c
      refine am_iconst (v := (0 : Int32)) X dX7_openFrom_30 (by decide) ?_
      exact am_jump (t_X7_openFrom_31 hG N k4 hk4 _ _ _ _ _ _ h K h0 X) rfl ⟨rfl, rfl, rfl, trivial⟩
    · have h := if_f h c
      refine am_iconst (v := (1 : Int32)) X dX7_openFrom_24 (by decide) ?_
      refine am_iload_n X dX7_openFrom_25 rfl rfl ?_
      refine am_ishl X dX7_openFrom_26 ?_
      refine am_goto (tgt := 31) X dX7_openFrom_27 (by decide) ?_
      exact am_jump (t_X7_openFrom_31 hG N k4 hk4 _ _ _ _ _ _ h K h0 X) rfl ⟨rfl, rfl, rfl, trivial⟩
set_option maxRecDepth 100000 in
set_option maxHeartbeats 4000000 in
theorem t_X7_openFrom_4 {G : Cx} (hG : am_G G) (N : Nat) : ∀ (n : Nat) (x1 : Int32) (x2 : Int32) (x3 : Int32) (σ : Sg) (r : Int32 × Sg), b_X7_openFrom_4 N n x1 x2 x3 σ = some r → am_Wp G mX7_openFrom 1 (am_qi r.1 r.2) 4 [some (.ref 60), some (.int x1), some (.int x2), some (.int x3)] [] σ := by
  intro n
  induction n with
  | zero => intro x1 x2 x3 σ r h; cases h
  | succ n ih => intro x1 x2 x3 σ r h; exact t_X7_openFrom_4b hG N (b_X7_openFrom_4 N n) ih x1 x2 x3 σ r h
set_option maxRecDepth 100000 in
set_option maxHeartbeats 4000000 in
theorem ct_X7_openFrom {G : Cx} (hG : am_G G) (N : Nat) (x1 : Int32) (σ : Sg) (r : Int32 × Sg) (h : f_X7_openFrom N x1 σ = some r) : am_Ct G 2 yX7_openFrom mX7_openFrom [.ref 60, .int x1] σ (am_qi r.1 r.2) := by
  refine am_enter hG rfl rfl (Nat.le_of_ble_eq_true rfl) ?_
  intro K h0 X
  unfold f_X7_openFrom at h
  refine am_jump (pc' := 0) (ls' := [some (.ref 60), some (.int x1), none, none]) ?_ rfl ⟨rfl, rfl, trivial⟩
  refine am_iconst (v := (0 : Int32)) X dX7_openFrom_0 (by decide) ?_
  refine am_istore_n (ls' := [some (.ref 60), some (.int x1), some (.int (0 : Int32)), none]) X dX7_openFrom_1 rfl (by decide)  rfl rfl ?_
  refine am_iconst (v := (0 : Int32)) X dX7_openFrom_2 (by decide) ?_
  refine am_istore_n (ls' := [some (.ref 60), some (.int x1), some (.int (0 : Int32)), some (.int (0 : Int32))]) X dX7_openFrom_3 rfl (by decide)  rfl rfl ?_
  exact am_jump (t_X7_openFrom_4 hG N N _ _ _ _ _ h K h0 X) rfl ⟨rfl, rfl, rfl, rfl, trivial⟩
set_option maxRecDepth 100000 in
set_option maxHeartbeats 4000000 in
theorem ct_X7_of {G : Cx} (hG : am_G G) (N : Nat) (x1 : Int32) (x2 : Int32) (σ : Sg) (r : Int32 × Sg) (h : f_X7_of N x1 x2 σ = some r) : am_Ct G 5 yX7_of mX7_of [.ref 60, .int x1, .int x2] σ (am_qi r.1 r.2) := by
  refine am_enter hG rfl rfl (Nat.le_of_ble_eq_true rfl) ?_
  intro K h0 X
  unfold f_X7_of at h
  refine am_jump (pc' := 0) (ls' := [some (.ref 60), some (.int x1), some (.int x2)]) ?_ rfl ⟨rfl, rfl, rfl, trivial⟩
  refine am_aload_n X dX7_of_0 rfl rfl ?_
  refine am_iload_n X dX7_of_1 rfl rfl ?_
  obtain ⟨v2, σ2, hc, h⟩ := bd2_some h
  refine am_callv_i1 X dX7_of_2 cw_X7_161 (ct_X7_isStreet hG N _ _ _ hc) (Nat.le_of_ble_eq_true rfl) rfl rfl rfl rfl (Nat.le_of_ble_eq_true rfl) ?_
  refine am_if_ne (tgt := 11) X dX7_of_5 (by decide) (fun c => ?_) (fun c => ?_)
  · have h := if_f h c
    refine am_iload_n X dX7_of_11 rfl rfl ?_
    by_cases c0 : x2 = (0 : Int32)
    · have h := if_t h c0
      refine am_tabIn (tgt := 72) X dX7_of_12 c0 (by decide) (by decide) rfl (by decide) ?_
      refine am_aload_n X dX7_of_72 rfl rfl ?_
      refine am_getf (v := .ref 61) X dX7_of_73 fl_X7_9 rfl rfl (by decide) ?_
      refine am_bipush (v := (10 : Int32)) X dX7_of_76 (by decide) ?_
      refine am_iload_n X dX7_of_78 rfl rfl ?_
      refine am_iadd X dX7_of_79 ?_
      obtain ⟨g, h⟩ := gd_some h
      refine am_iald X dX7_of_80 rfl g ?_
      obtain rfl := Option.some.inj h
      exact am_iret X h0 dX7_of_81 rfl ⟨rfl, rfl⟩
    have h := if_f h c0
    by_cases c1 : x2 = (1 : Int32)
    · have h := if_t h c1
      refine am_tabIn (tgt := 82) X dX7_of_12 c1 (by decide) (by decide) rfl (by decide) ?_
      refine am_aload_n X dX7_of_82 rfl rfl ?_
      refine am_getf (v := .ref 61) X dX7_of_83 fl_X7_9 rfl rfl (by decide) ?_
      refine am_bipush (v := (17 : Int32)) X dX7_of_86 (by decide) ?_
      refine am_iload_n X dX7_of_88 rfl rfl ?_
      refine am_iadd X dX7_of_89 ?_
      obtain ⟨g, h⟩ := gd_some h
      refine am_iald X dX7_of_90 rfl g ?_
      obtain rfl := Option.some.inj h
      exact am_iret X h0 dX7_of_91 rfl ⟨rfl, rfl⟩
    have h := if_f h c1
    by_cases c2 : x2 = (2 : Int32)
    · have h := if_t h c2
      refine am_tabIn (tgt := 92) X dX7_of_12 c2 (by decide) (by decide) rfl (by decide) ?_
      refine am_aload_n X dX7_of_92 rfl rfl ?_
      refine am_getf (v := .ref 61) X dX7_of_93 fl_X7_9 rfl rfl (by decide) ?_
      refine am_bipush (v := (24 : Int32)) X dX7_of_96 (by decide) ?_
      refine am_iload_n X dX7_of_98 rfl rfl ?_
      refine am_iadd X dX7_of_99 ?_
      obtain ⟨g, h⟩ := gd_some h
      refine am_iald X dX7_of_100 rfl g ?_
      obtain rfl := Option.some.inj h
      exact am_iret X h0 dX7_of_101 rfl ⟨rfl, rfl⟩
    have h := if_f h c2
    by_cases c3 : x2 = (3 : Int32)
    · have h := if_t h c3
      refine am_tabIn (tgt := 102) X dX7_of_12 c3 (by decide) (by decide) rfl (by decide) ?_
      refine am_aload_n X dX7_of_102 rfl rfl ?_
      refine am_getf (v := .ref 61) X dX7_of_103 fl_X7_9 rfl rfl (by decide) ?_
      refine am_bipush (v := (31 : Int32)) X dX7_of_106 (by decide) ?_
      refine am_iload_n X dX7_of_108 rfl rfl ?_
      refine am_iadd X dX7_of_109 ?_
      obtain ⟨g, h⟩ := gd_some h
      refine am_iald X dX7_of_110 rfl g ?_
      obtain rfl := Option.some.inj h
      exact am_iret X h0 dX7_of_111 rfl ⟨rfl, rfl⟩
    have h := if_f h c3
    by_cases c4 : x2 = (4 : Int32)
    · have h := if_t h c4
      refine am_tabIn (tgt := 112) X dX7_of_12 c4 (by decide) (by decide) rfl (by decide) ?_
      refine am_aload_n X dX7_of_112 rfl rfl ?_
      refine am_iload_n X dX7_of_113 rfl rfl ?_
      obtain ⟨v114, σ114, hc, h⟩ := bd2_some h
      refine am_callv_i1 X dX7_of_114 cw_X7_169 (ct_X7_uneven hG N _ _ _ hc) (Nat.le_of_ble_eq_true rfl) rfl rfl rfl rfl (Nat.le_of_ble_eq_true rfl) ?_
      obtain rfl := Option.some.inj h
      exact am_iret X h0 dX7_of_117 rfl ⟨rfl, rfl⟩
    have h := if_f h c4
    by_cases c5 : x2 = (5 : Int32)
    · have h := if_t h c5
      refine am_tabIn (tgt := 118) X dX7_of_12 c5 (by decide) (by decide) rfl (by decide) ?_
      refine am_aload_n X dX7_of_118 rfl rfl ?_
      refine am_iload_n X dX7_of_119 rfl rfl ?_
      obtain ⟨v120, σ120, hc, h⟩ := bd2_some h
      refine am_callv_i1 X dX7_of_120 cw_X7_194 (ct_X7_allowedOf hG N _ _ _ hc) (Nat.le_of_ble_eq_true rfl) rfl rfl rfl rfl (Nat.le_of_ble_eq_true rfl) ?_
      obtain rfl := Option.some.inj h
      exact am_iret X h0 dX7_of_123 rfl ⟨rfl, rfl⟩
    have h := if_f h c5
    by_cases c6 : x2 = (6 : Int32)
    · have h := if_t h c6
      refine am_tabIn (tgt := 124) X dX7_of_12 c6 (by decide) (by decide) rfl (by decide) ?_
      refine am_aload_n X dX7_of_124 rfl rfl ?_
      refine am_iload_n X dX7_of_125 rfl rfl ?_
      obtain ⟨v126, σ126, hc, h⟩ := bd2_some h
      refine am_callv_i1 X dX7_of_126 cw_X7_197 (ct_X7_fineOf hG N _ _ _ hc) (Nat.le_of_ble_eq_true rfl) rfl rfl rfl rfl (Nat.le_of_ble_eq_true rfl) ?_
      obtain rfl := Option.some.inj h
      exact am_iret X h0 dX7_of_129 rfl ⟨rfl, rfl⟩
    have h := if_f h c6
    by_cases c7 : x2 = (7 : Int32)
    · have h := if_t h c7
      refine am_tabIn (tgt := 130) X dX7_of_12 c7 (by decide) (by decide) rfl (by decide) ?_
      refine am_aload_n X dX7_of_130 rfl rfl ?_
      refine am_iload_n X dX7_of_131 rfl rfl ?_
      obtain ⟨v132, σ132, hc, h⟩ := bd2_some h
      refine am_callv_i1 X dX7_of_132 cw_X7_201 (ct_X7_stepOf hG N _ _ _ hc) (Nat.le_of_ble_eq_true rfl) rfl rfl rfl rfl (Nat.le_of_ble_eq_true rfl) ?_
      obtain rfl := Option.some.inj h
      exact am_iret X h0 dX7_of_135 rfl ⟨rfl, rfl⟩
    have h := if_f h c7
    by_cases c8 : x2 = (8 : Int32)
    · have h := if_t h c8
      refine am_tabIn (tgt := 136) X dX7_of_12 c8 (by decide) (by decide) rfl (by decide) ?_
      refine am_aload_n X dX7_of_136 rfl rfl ?_
      refine am_iload_n X dX7_of_137 rfl rfl ?_
      obtain ⟨v138, σ138, hc, h⟩ := bd2_some h
      refine am_callv_i1 X dX7_of_138 cw_X7_204 (ct_X7_paysOf hG N _ _ _ hc) (Nat.le_of_ble_eq_true rfl) rfl rfl rfl rfl (Nat.le_of_ble_eq_true rfl) ?_
      obtain rfl := Option.some.inj h
      exact am_iret X h0 dX7_of_141 rfl ⟨rfl, rfl⟩
    have h := if_f h c8
    by_cases c9 : x2 = (9 : Int32)
    · have h := if_t h c9
      refine am_tabIn (tgt := 142) X dX7_of_12 c9 (by decide) (by decide) rfl (by decide) ?_
      refine am_aload_n X dX7_of_142 rfl rfl ?_
      refine am_iload_n X dX7_of_143 rfl rfl ?_
      obtain ⟨v144, σ144, hc, h⟩ := bd2_some h
      refine am_callv_i1 X dX7_of_144 cw_X7_176 (ct_X7_leadsFrom hG N _ _ _ hc) (Nat.le_of_ble_eq_true rfl) rfl rfl rfl rfl (Nat.le_of_ble_eq_true rfl) ?_
      obtain rfl := Option.some.inj h
      exact am_iret X h0 dX7_of_147 rfl ⟨rfl, rfl⟩
    have h := if_f h c9
    by_cases c10 : x2 = (10 : Int32)
    · have h := if_t h c10
      refine am_tabIn (tgt := 148) X dX7_of_12 c10 (by decide) (by decide) rfl (by decide) ?_
      refine am_aload_n X dX7_of_148 rfl rfl ?_
      refine am_iload_n X dX7_of_149 rfl rfl ?_
      obtain ⟨v150, σ150, hc, h⟩ := bd2_some h
      refine am_callv_i1 X dX7_of_150 cw_X7_207 (ct_X7_openFrom hG N _ _ _ hc) (Nat.le_of_ble_eq_true rfl) rfl rfl rfl rfl (Nat.le_of_ble_eq_true rfl) ?_
      obtain rfl := Option.some.inj h
      exact am_iret X h0 dX7_of_153 rfl ⟨rfl, rfl⟩
    have h := if_f h c10
    refine am_tabOut (tgt := 154) (vs := [(0 : Int32), (1 : Int32), (2 : Int32), (3 : Int32), (4 : Int32), (5 : Int32), (6 : Int32), (7 : Int32), (8 : Int32), (9 : Int32), (10 : Int32)]) X dX7_of_12 (List.forall_mem_cons.mpr ⟨c0, (List.forall_mem_cons.mpr ⟨c1, (List.forall_mem_cons.mpr ⟨c2, (List.forall_mem_cons.mpr ⟨c3, (List.forall_mem_cons.mpr ⟨c4, (List.forall_mem_cons.mpr ⟨c5, (List.forall_mem_cons.mpr ⟨c6, (List.forall_mem_cons.mpr ⟨c7, (List.forall_mem_cons.mpr ⟨c8, (List.forall_mem_cons.mpr ⟨c9, (List.forall_mem_cons.mpr ⟨c10, (fun _ h => absurd h List.not_mem_nil)⟩)⟩)⟩)⟩)⟩)⟩)⟩)⟩)⟩)⟩)⟩) (by decide) (by decide) ?_
    refine am_ldc (v := (-1000001 : Int32)) X dX7_of_154 (wm_r20 _ (List.mem_of_getElem? (i := 3) rfl)) ?_
    obtain rfl := Option.some.inj h
    exact am_iret X h0 dX7_of_156 rfl ⟨rfl, rfl⟩
  · have h := if_t h c
    refine am_ldc (v := (-1000001 : Int32)) X dX7_of_8 (wm_r20 _ (List.mem_of_getElem? (i := 3) rfl)) ?_
    obtain rfl := Option.some.inj h
    exact am_iret X h0 dX7_of_10 rfl ⟨rfl, rfl⟩
set_option maxRecDepth 100000 in
set_option maxHeartbeats 4000000 in
theorem t_X7_paying_30 {G : Cx} (hG : am_G G) (N : Nat) (k4 : Int32 → Int32 → Sg → Option (Int32 × Sg)) (hk4 : ∀ (x1 : Int32) (x2 : Int32) (σ : Sg) (r : Int32 × Sg), k4 x1 x2 σ = some r → am_Wp G mX7_paying 4 (am_qi r.1 r.2) 4 [some (.ref 60), some (.int x1), some (.int x2)] [] σ) (x2 : Int32) (s0 : Int32) (s1 : Int32) (σ : Sg) (r : Int32 × Sg) (h : b_X7_paying_30 N k4 x2 s0 s1 σ = some r) : am_Wp G mX7_paying 4 (am_qi r.1 r.2) 30 [some (.ref 60), none, some (.int x2)] [.int s1, .int s0] σ := by
  intro K h0 X
  unfold b_X7_paying_30 at h
  refine am_ior X dX7_paying_30 ?_
  refine am_topi h (fun x1_31 h => ?_)
  refine am_istore_n (ls' := [some (.ref 60), some (.int x1_31), some (.int x2)]) X dX7_paying_31 rfl (by decide)  rfl rfl ?_
  refine am_iinc (ls' := fun x2_32 => [some (.ref 60), some (.int x1_31), some (.int x2_32)]) X dX7_paying_32 rfl h (by decide) (by decide) rfl (fun _ => rfl) (fun x2_32 h => ?_)
  refine am_goto (tgt := 4) X dX7_paying_35 (by decide) ?_
  exact am_jump (hk4 _ _ _ _ h K h0 X) rfl ⟨rfl, rfl, rfl, trivial⟩
set_option maxRecDepth 100000 in
set_option maxHeartbeats 4000000 in
theorem t_X7_paying_4b {G : Cx} (hG : am_G G) (N : Nat) (k4 : Int32 → Int32 → Sg → Option (Int32 × Sg)) (hk4 : ∀ (x1 : Int32) (x2 : Int32) (σ : Sg) (r : Int32 × Sg), k4 x1 x2 σ = some r → am_Wp G mX7_paying 4 (am_qi r.1 r.2) 4 [some (.ref 60), some (.int x1), some (.int x2)] [] σ) (x1 : Int32) (x2 : Int32) (σ : Sg) (r : Int32 × Sg) (h : b_X7_paying_4b N k4 x1 x2 σ = some r) : am_Wp G mX7_paying 4 (am_qi r.1 r.2) 4 [some (.ref 60), some (.int x1), some (.int x2)] [] σ := by
  intro K h0 X
  unfold b_X7_paying_4b at h
  refine am_iload_n X dX7_paying_4 rfl rfl ?_
  refine am_aload_n X dX7_paying_5 rfl rfl ?_
  refine am_getf (v := .ref 61) X dX7_paying_6 fl_X7_9 rfl rfl (by decide) ?_
  refine am_iconst (v := (0 : Int32)) X dX7_paying_9 (by decide) ?_
  obtain ⟨g, h⟩ := gd_some h
  refine am_iald X dX7_paying_10 rfl g ?_
  refine am_icmp_ge (tgt := 38) X dX7_paying_11 (by decide) (fun c => ?_) (fun c => ?_)
  · have h := if_t h c
    refine am_iload_n X dX7_paying_38 rfl rfl ?_
    obtain rfl := Option.some.inj h
    exact am_iret X h0 dX7_paying_39 rfl ⟨rfl, rfl⟩
  · have h := if_f h c
    refine am_iload_n X dX7_paying_14 rfl rfl ?_
    refine am_aload_n X dX7_paying_15 rfl rfl ?_
    refine am_iload_n X dX7_paying_16 rfl rfl ?_
    obtain ⟨v17, σ17, hc, h⟩ := bd2_some h
    refine am_callv_i1 X dX7_paying_17 cw_X7_204 (ct_X7_paysOf hG N _ _ _ hc) (Nat.le_of_ble_eq_true rfl) rfl rfl rfl rfl (Nat.le_of_ble_eq_true rfl) ?_
    refine am_if_le (tgt := 29) X dX7_paying_20 (by decide) (fun c => ?_) (fun c => ?_)
    · have h := if_t h c
      refine am_iconst (v := (0 : Int32)) X dX7_paying_29 (by decide) ?_
      exact am_jump (t_X7_paying_30 hG N k4 hk4 _ _ _ _ _ h K h0 X) rfl ⟨rfl, rfl, trivial⟩
    · have h := if_f h c
      refine am_iconst (v := (1 : Int32)) X dX7_paying_23 (by decide) ?_
      refine am_iload_n X dX7_paying_24 rfl rfl ?_
      refine am_ishl X dX7_paying_25 ?_
      refine am_goto (tgt := 30) X dX7_paying_26 (by decide) ?_
      exact am_jump (t_X7_paying_30 hG N k4 hk4 _ _ _ _ _ h K h0 X) rfl ⟨rfl, rfl, trivial⟩
set_option maxRecDepth 100000 in
set_option maxHeartbeats 4000000 in
theorem t_X7_paying_4 {G : Cx} (hG : am_G G) (N : Nat) : ∀ (n : Nat) (x1 : Int32) (x2 : Int32) (σ : Sg) (r : Int32 × Sg), b_X7_paying_4 N n x1 x2 σ = some r → am_Wp G mX7_paying 4 (am_qi r.1 r.2) 4 [some (.ref 60), some (.int x1), some (.int x2)] [] σ := by
  intro n
  induction n with
  | zero => intro x1 x2 σ r h; cases h
  | succ n ih => intro x1 x2 σ r h; exact t_X7_paying_4b hG N (b_X7_paying_4 N n) ih x1 x2 σ r h
set_option maxRecDepth 100000 in
set_option maxHeartbeats 4000000 in
theorem ct_X7_paying {G : Cx} (hG : am_G G) (N : Nat) (σ : Sg) (r : Int32 × Sg) (h : f_X7_paying N σ = some r) : am_Ct G 5 yX7_paying mX7_paying [.ref 60] σ (am_qi r.1 r.2) := by
  refine am_enter hG rfl rfl (Nat.le_of_ble_eq_true rfl) ?_
  intro K h0 X
  unfold f_X7_paying at h
  refine am_jump (pc' := 0) (ls' := [some (.ref 60), none, none]) ?_ rfl ⟨rfl, trivial⟩
  refine am_iconst (v := (0 : Int32)) X dX7_paying_0 (by decide) ?_
  refine am_istore_n (ls' := [some (.ref 60), some (.int (0 : Int32)), none]) X dX7_paying_1 rfl (by decide)  rfl rfl ?_
  refine am_iconst (v := (0 : Int32)) X dX7_paying_2 (by decide) ?_
  refine am_istore_n (ls' := [some (.ref 60), some (.int (0 : Int32)), some (.int (0 : Int32))]) X dX7_paying_3 rfl (by decide)  rfl rfl ?_
  exact am_jump (t_X7_paying_4 hG N N _ _ _ _ h K h0 X) rfl ⟨rfl, rfl, rfl, trivial⟩
set_option maxRecDepth 100000 in
set_option maxHeartbeats 4000000 in
theorem t_X7_stand_132 {G : Cx} (hG : am_G G) (N : Nat) (k18 : Int32 → Int32 → Int32 → Int32 → Sg → Option (Int32 × Sg)) (hk18 : ∀ (x1 : Int32) (x2 : Int32) (x3 : Int32) (x4 : Int32) (σ : Sg) (r : Int32 × Sg), k18 x1 x2 x3 x4 σ = some r → am_Wp G mX7_stand 5 (am_qi r.1 r.2) 18 [some (.ref 60), some (.int x1), some (.int x2), some (.int x3), some (.int x4), none, none, none] [] σ) (x1 : Int32) (x2 : Int32) (x4 : Int32) (s0 : Int32) (σ : Sg) (r : Int32 × Sg) (h : b_X7_stand_132 N k18 x1 x2 x4 s0 σ = some r) : am_Wp G mX7_stand 5 (am_qi r.1 r.2) 132 [some (.ref 60), some (.int x1), some (.int x2), none, some (.int x4), none, none, none] [.int s0] σ := by
  intro K h0 X
  unfold b_X7_stand_132 at h
  refine am_istore_n (ls' := [some (.ref 60), some (.int x1), some (.int x2), some (.int s0), some (.int x4), none, none, none]) X dX7_stand_132 rfl (by decide)  rfl rfl ?_
  refine am_iinc (ls' := fun x4_133 => [some (.ref 60), some (.int x1), some (.int x2), some (.int s0), some (.int x4_133), none, none, none]) X dX7_stand_133 rfl h (by decide) (by decide) rfl (fun _ => rfl) (fun x4_133 h => ?_)
  refine am_goto (tgt := 18) X dX7_stand_136 (by decide) ?_
  exact am_jump (hk18 _ _ _ _ _ _ h K h0 X) rfl ⟨rfl, rfl, rfl, rfl, rfl, trivial⟩
set_option maxRecDepth 100000 in
set_option maxHeartbeats 4000000 in
theorem t_X7_stand_119 {G : Cx} (hG : am_G G) (N : Nat) (k18 : Int32 → Int32 → Int32 → Int32 → Sg → Option (Int32 × Sg)) (hk18 : ∀ (x1 : Int32) (x2 : Int32) (x3 : Int32) (x4 : Int32) (σ : Sg) (r : Int32 × Sg), k18 x1 x2 x3 x4 σ = some r → am_Wp G mX7_stand 5 (am_qi r.1 r.2) 18 [some (.ref 60), some (.int x1), some (.int x2), some (.int x3), some (.int x4), none, none, none] [] σ) (x1 : Int32) (x3 : Int32) (x4 : Int32) (x5 : Int32) (s0 : Int32) (σ : Sg) (r : Int32 × Sg) (h : b_X7_stand_119 N k18 x1 x3 x4 x5 s0 σ = some r) : am_Wp G mX7_stand 5 (am_qi r.1 r.2) 119 [some (.ref 60), some (.int x1), none, some (.int x3), some (.int x4), some (.int x5), none, none] [.int s0] σ := by
  intro K h0 X
  unfold b_X7_stand_119 at h
  refine am_istore_n (ls' := [some (.ref 60), some (.int x1), some (.int s0), some (.int x3), some (.int x4), some (.int x5), none, none]) X dX7_stand_119 rfl (by decide)  rfl rfl ?_
  refine am_iload X dX7_stand_120 rfl ?_
  refine am_iload_n X dX7_stand_122 rfl rfl ?_
  refine am_icmp_ge (tgt := 131) X dX7_stand_123 (by decide) (fun c => ?_) (fun c => ?_)
  · have h := if_t h c
    refine am_iload_n X dX7_stand_131 rfl rfl ?_
    exact am_jump (t_X7_stand_132 hG N k18 hk18 _ _ _ _ _ _ h K h0 X) rfl ⟨rfl, rfl, rfl, rfl, trivial⟩
  · have h := if_f h c
    refine am_iload X dX7_stand_126 rfl ?_
    refine am_goto (tgt := 132) X dX7_stand_128 (by decide) ?_
    exact am_jump (t_X7_stand_132 hG N k18 hk18 _ _ _ _ _ _ h K h0 X) rfl ⟨rfl, rfl, rfl, rfl, trivial⟩
set_option maxRecDepth 100000 in
set_option maxHeartbeats 4000000 in
theorem t_X7_stand_99 {G : Cx} (hG : am_G G) (N : Nat) (k18 : Int32 → Int32 → Int32 → Int32 → Sg → Option (Int32 × Sg)) (k35 : Int32 → Int32 → Int32 → Int32 → Int32 → Int32 → Sg → Option (Int32 × Sg)) (hk18 : ∀ (x1 : Int32) (x2 : Int32) (x3 : Int32) (x4 : Int32) (σ : Sg) (r : Int32 × Sg), k18 x1 x2 x3 x4 σ = some r → am_Wp G mX7_stand 5 (am_qi r.1 r.2) 18 [some (.ref 60), some (.int x1), some (.int x2), some (.int x3), some (.int x4), none, none, none] [] σ) (hk35 : ∀ (x1 : Int32) (x2 : Int32) (x3 : Int32) (x4 : Int32) (x5 : Int32) (x6 : Int32) (σ : Sg) (r : Int32 × Sg), k35 x1 x2 x3 x4 x5 x6 σ = some r → am_Wp G mX7_stand 5 (am_qi r.1 r.2) 35 [some (.ref 60), some (.int x1), some (.int x2), some (.int x3), some (.int x4), some (.int x5), some (.int x6), none] [] σ) (x1 : Int32) (x2 : Int32) (x3 : Int32) (x4 : Int32) (x6 : Int32) (s0 : Int32) (σ : Sg) (r : Int32 × Sg) (h : b_X7_stand_99 N k18 k35 x1 x2 x3 x4 x6 s0 σ = some r) : am_Wp G mX7_stand 5 (am_qi r.1 r.2) 99 [some (.ref 60), some (.int x1), some (.int x2), some (.int x3), some (.int x4), none, some (.int x6), none] [.int s0] σ := by
  intro K h0 X
  unfold b_X7_stand_99 at h
  refine am_istore (ls' := [some (.ref 60), some (.int x1), some (.int x2), some (.int x3), some (.int x4), some (.int s0), some (.int x6), none]) X dX7_stand_99 (by decide)  rfl rfl ?_
  refine am_iinc (ls' := fun x6_101 => [some (.ref 60), some (.int x1), some (.int x2), some (.int x3), some (.int x4), some (.int s0), some (.int x6_101), none]) X dX7_stand_101 rfl h (by decide) (by decide) rfl (fun _ => rfl) (fun x6_101 h => ?_)
  refine am_goto (tgt := 35) X dX7_stand_104 (by decide) ?_
  exact am_jump (hk35 _ _ _ _ _ _ _ _ h K h0 X) rfl ⟨rfl, rfl, rfl, rfl, rfl, rfl, rfl, trivial⟩
set_option maxRecDepth 100000 in
set_option maxHeartbeats 4000000 in
theorem t_X7_stand_89 {G : Cx} (hG : am_G G) (N : Nat) (k18 : Int32 → Int32 → Int32 → Int32 → Sg → Option (Int32 × Sg)) (k35 : Int32 → Int32 → Int32 → Int32 → Int32 → Int32 → Sg → Option (Int32 × Sg)) (hk18 : ∀ (x1 : Int32) (x2 : Int32) (x3 : Int32) (x4 : Int32) (σ : Sg) (r : Int32 × Sg), k18 x1 x2 x3 x4 σ = some r → am_Wp G mX7_stand 5 (am_qi r.1 r.2) 18 [some (.ref 60), some (.int x1), some (.int x2), some (.int x3), some (.int x4), none, none, none] [] σ) (hk35 : ∀ (x1 : Int32) (x2 : Int32) (x3 : Int32) (x4 : Int32) (x5 : Int32) (x6 : Int32) (σ : Sg) (r : Int32 × Sg), k35 x1 x2 x3 x4 x5 x6 σ = some r → am_Wp G mX7_stand 5 (am_qi r.1 r.2) 35 [some (.ref 60), some (.int x1), some (.int x2), some (.int x3), some (.int x4), some (.int x5), some (.int x6), none] [] σ) (x1 : Int32) (x2 : Int32) (x3 : Int32) (x4 : Int32) (x6 : Int32) (σ : Sg) (r : Int32 × Sg) (h : b_X7_stand_89 N k18 k35 x1 x2 x3 x4 x6 σ = some r) : am_Wp G mX7_stand 5 (am_qi r.1 r.2) 89 [some (.ref 60), some (.int x1), some (.int x2), some (.int x3), some (.int x4), none, some (.int x6), none] [] σ := by
  intro K h0 X
  unfold b_X7_stand_89 at h
  refine am_ldc (v := (1000000000 : Int32)) X dX7_stand_89 (wm_r27 _ (List.mem_of_getElem? (i := 1) rfl)) ?_
  refine am_goto (tgt := 99) X dX7_stand_91 (by decide) ?_
  exact am_jump (t_X7_stand_99 hG N k18 k35 hk18 hk35 _ _ _ _ _ _ _ _ h K h0 X) rfl ⟨rfl, rfl, rfl, rfl, rfl, rfl, trivial⟩
set_option maxRecDepth 100000 in
set_option maxHeartbeats 4000000 in
theorem t_X7_stand_73 {G : Cx} (hG : am_G G) (N : Nat) (k18 : Int32 → Int32 → Int32 → Int32 → Sg → Option (Int32 × Sg)) (k35 : Int32 → Int32 → Int32 → Int32 → Int32 → Int32 → Sg → Option (Int32 × Sg)) (hk18 : ∀ (x1 : Int32) (x2 : Int32) (x3 : Int32) (x4 : Int32) (σ : Sg) (r : Int32 × Sg), k18 x1 x2 x3 x4 σ = some r → am_Wp G mX7_stand 5 (am_qi r.1 r.2) 18 [some (.ref 60), some (.int x1), some (.int x2), some (.int x3), some (.int x4), none, none, none] [] σ) (hk35 : ∀ (x1 : Int32) (x2 : Int32) (x3 : Int32) (x4 : Int32) (x5 : Int32) (x6 : Int32) (σ : Sg) (r : Int32 × Sg), k35 x1 x2 x3 x4 x5 x6 σ = some r → am_Wp G mX7_stand 5 (am_qi r.1 r.2) 35 [some (.ref 60), some (.int x1), some (.int x2), some (.int x3), some (.int x4), some (.int x5), some (.int x6), none] [] σ) (x1 : Int32) (x2 : Int32) (x3 : Int32) (x4 : Int32) (x5 : Int32) (x6 : Int32) (s0 : Int32) (σ : Sg) (r : Int32 × Sg) (h : b_X7_stand_73 N k18 k35 x1 x2 x3 x4 x5 x6 s0 σ = some r) : am_Wp G mX7_stand 5 (am_qi r.1 r.2) 73 [some (.ref 60), some (.int x1), some (.int x2), some (.int x3), some (.int x4), some (.int x5), some (.int x6), none] [.int s0] σ := by
  intro K h0 X
  unfold b_X7_stand_73 at h
  refine am_istore (ls' := [some (.ref 60), some (.int x1), some (.int x2), some (.int x3), some (.int x4), some (.int x5), some (.int x6), some (.int s0)]) X dX7_stand_73 (by decide)  rfl rfl ?_
  refine am_iload X dX7_stand_75 rfl ?_
  refine am_ldc (v := (1000000000 : Int32)) X dX7_stand_77 (wm_r27 _ (List.mem_of_getElem? (i := 1) rfl)) ?_
  refine am_icmp_ge (tgt := 89) X dX7_stand_79 (by decide) (fun c => ?_) (fun c => ?_)
  · have h := if_t h c
    exact am_jump (t_X7_stand_89 hG N k18 k35 hk18 hk35 _ _ _ _ _ _ _ h K h0 X) rfl ⟨rfl, rfl, rfl, rfl, rfl, rfl, trivial⟩
  · have h := if_f h c
    refine am_iload X dX7_stand_82 rfl ?_
    refine am_ldc (v := (1000000000 : Int32)) X dX7_stand_84 (wm_r27 _ (List.mem_of_getElem? (i := 1) rfl)) ?_
    refine am_icmp_lt (tgt := 94) X dX7_stand_86 (by decide) (fun c => ?_) (fun c => ?_)
    · have h := if_t h c
      refine am_iload X dX7_stand_94 rfl ?_
      refine am_iload X dX7_stand_96 rfl ?_
      refine am_iadd X dX7_stand_98 ?_
      exact am_jump (t_X7_stand_99 hG N k18 k35 hk18 hk35 _ _ _ _ _ _ _ _ h K h0 X) rfl ⟨rfl, rfl, rfl, rfl, rfl, rfl, trivial⟩
    · have h := if_f h c
      exact am_jump (t_X7_stand_89 hG N k18 k35 hk18 hk35 _ _ _ _ _ _ _ h K h0 X) rfl ⟨rfl, rfl, rfl, rfl, rfl, rfl, trivial⟩
set_option maxRecDepth 100000 in
set_option maxHeartbeats 4000000 in
theorem t_X7_stand_35b {G : Cx} (hG : am_G G) (N : Nat) (k18 : Int32 → Int32 → Int32 → Int32 → Sg → Option (Int32 × Sg)) (k35 : Int32 → Int32 → Int32 → Int32 → Int32 → Int32 → Sg → Option (Int32 × Sg)) (hk18 : ∀ (x1 : Int32) (x2 : Int32) (x3 : Int32) (x4 : Int32) (σ : Sg) (r : Int32 × Sg), k18 x1 x2 x3 x4 σ = some r → am_Wp G mX7_stand 5 (am_qi r.1 r.2) 18 [some (.ref 60), some (.int x1), some (.int x2), some (.int x3), some (.int x4), none, none, none] [] σ) (hk35 : ∀ (x1 : Int32) (x2 : Int32) (x3 : Int32) (x4 : Int32) (x5 : Int32) (x6 : Int32) (σ : Sg) (r : Int32 × Sg), k35 x1 x2 x3 x4 x5 x6 σ = some r → am_Wp G mX7_stand 5 (am_qi r.1 r.2) 35 [some (.ref 60), some (.int x1), some (.int x2), some (.int x3), some (.int x4), some (.int x5), some (.int x6), none] [] σ) (x1 : Int32) (x2 : Int32) (x3 : Int32) (x4 : Int32) (x5 : Int32) (x6 : Int32) (σ : Sg) (r : Int32 × Sg) (h : b_X7_stand_35b N k18 k35 x1 x2 x3 x4 x5 x6 σ = some r) : am_Wp G mX7_stand 5 (am_qi r.1 r.2) 35 [some (.ref 60), some (.int x1), some (.int x2), some (.int x3), some (.int x4), some (.int x5), some (.int x6), none] [] σ := by
  intro K h0 X
  unfold b_X7_stand_35b at h
  refine am_iload X dX7_stand_35 rfl ?_
  refine am_aload_n X dX7_stand_37 rfl rfl ?_
  refine am_getf (v := .ref 61) X dX7_stand_38 fl_X7_9 rfl rfl (by decide) ?_
  refine am_iconst (v := (0 : Int32)) X dX7_stand_41 (by decide) ?_
  obtain ⟨g, h⟩ := gd_some h
  refine am_iald X dX7_stand_42 rfl g ?_
  refine am_icmp_ge (tgt := 107) X dX7_stand_43 (by decide) (fun c => ?_) (fun c => ?_)
  · have h := if_t h c
    refine am_iload X dX7_stand_107 rfl ?_
    refine am_iload_n X dX7_stand_109 rfl rfl ?_
    refine am_icmp_ge (tgt := 118) X dX7_stand_110 (by decide) (fun c => ?_) (fun c => ?_)
    · have h := if_t h c
      refine am_iload_n X dX7_stand_118 rfl rfl ?_
      exact am_jump (t_X7_stand_119 hG N k18 hk18 _ _ _ _ _ _ _ h K h0 X) rfl ⟨rfl, rfl, rfl, rfl, rfl, trivial⟩
    · have h := if_f h c
      refine am_iload X dX7_stand_113 rfl ?_
      refine am_goto (tgt := 119) X dX7_stand_115 (by decide) ?_
      exact am_jump (t_X7_stand_119 hG N k18 hk18 _ _ _ _ _ _ _ h K h0 X) rfl ⟨rfl, rfl, rfl, rfl, rfl, trivial⟩
  · have h := if_f h c
    refine am_iload_n X dX7_stand_46 rfl rfl ?_
    refine am_iload X dX7_stand_47 rfl ?_
    refine am_ishr X dX7_stand_49 ?_
    refine am_iconst (v := (1 : Int32)) X dX7_stand_50 (by decide) ?_
    refine am_iand X dX7_stand_51 ?_
    refine am_iconst (v := (1 : Int32)) X dX7_stand_52 (by decide) ?_
    refine am_icmp_ne (tgt := 72) X dX7_stand_53 (by decide) (fun c => ?_) (fun c => ?_)
    · have h := if_f h c
      refine am_iconst (v := (0 : Int32)) X dX7_stand_72 (by decide) ?_
      exact am_jump (t_X7_stand_73 hG N k18 k35 hk18 hk35 _ _ _ _ _ _ _ _ _ h K h0 X) rfl ⟨rfl, rfl, rfl, rfl, rfl, rfl, rfl, trivial⟩
    · have h := if_t h c
      refine am_aload_n X dX7_stand_56 rfl rfl ?_
      refine am_getf (v := .ref 77) X dX7_stand_57 fl_X7_61 rfl rfl (by decide) ?_
      refine am_bipush (v := (7 : Int32)) X dX7_stand_60 (by decide) ?_
      refine am_iload X dX7_stand_62 rfl ?_
      refine am_imul X dX7_stand_64 ?_
      refine am_iload X dX7_stand_65 rfl ?_
      refine am_iadd X dX7_stand_67 ?_
      obtain ⟨g, h⟩ := gd_some h
      refine am_iald X dX7_stand_68 rfl g ?_
      refine am_goto (tgt := 73) X dX7_stand_69 (by decide) ?_
      exact am_jump (t_X7_stand_73 hG N k18 k35 hk18 hk35 _ _ _ _ _ _ _ _ _ h K h0 X) rfl ⟨rfl, rfl, rfl, rfl, rfl, rfl, rfl, trivial⟩
set_option maxRecDepth 100000 in
set_option maxHeartbeats 4000000 in
theorem t_X7_stand_35 {G : Cx} (hG : am_G G) (N : Nat) (k18 : Int32 → Int32 → Int32 → Int32 → Sg → Option (Int32 × Sg)) (hk18 : ∀ (x1 : Int32) (x2 : Int32) (x3 : Int32) (x4 : Int32) (σ : Sg) (r : Int32 × Sg), k18 x1 x2 x3 x4 σ = some r → am_Wp G mX7_stand 5 (am_qi r.1 r.2) 18 [some (.ref 60), some (.int x1), some (.int x2), some (.int x3), some (.int x4), none, none, none] [] σ) : ∀ (n : Nat) (x1 : Int32) (x2 : Int32) (x3 : Int32) (x4 : Int32) (x5 : Int32) (x6 : Int32) (σ : Sg) (r : Int32 × Sg), b_X7_stand_35 N k18 n x1 x2 x3 x4 x5 x6 σ = some r → am_Wp G mX7_stand 5 (am_qi r.1 r.2) 35 [some (.ref 60), some (.int x1), some (.int x2), some (.int x3), some (.int x4), some (.int x5), some (.int x6), none] [] σ := by
  intro n
  induction n with
  | zero => intro x1 x2 x3 x4 x5 x6 σ r h; cases h
  | succ n ih => intro x1 x2 x3 x4 x5 x6 σ r h; exact t_X7_stand_35b hG N k18 (b_X7_stand_35 N k18 n) hk18 ih x1 x2 x3 x4 x5 x6 σ r h
set_option maxRecDepth 100000 in
set_option maxHeartbeats 4000000 in
theorem t_X7_stand_18b {G : Cx} (hG : am_G G) (N : Nat) (k18 : Int32 → Int32 → Int32 → Int32 → Sg → Option (Int32 × Sg)) (hk18 : ∀ (x1 : Int32) (x2 : Int32) (x3 : Int32) (x4 : Int32) (σ : Sg) (r : Int32 × Sg), k18 x1 x2 x3 x4 σ = some r → am_Wp G mX7_stand 5 (am_qi r.1 r.2) 18 [some (.ref 60), some (.int x1), some (.int x2), some (.int x3), some (.int x4), none, none, none] [] σ) (x1 : Int32) (x2 : Int32) (x3 : Int32) (x4 : Int32) (σ : Sg) (r : Int32 × Sg) (h : b_X7_stand_18b N k18 x1 x2 x3 x4 σ = some r) : am_Wp G mX7_stand 5 (am_qi r.1 r.2) 18 [some (.ref 60), some (.int x1), some (.int x2), some (.int x3), some (.int x4), none, none, none] [] σ := by
  intro K h0 X
  unfold b_X7_stand_18b at h
  refine am_iload X dX7_stand_18 rfl ?_
  refine am_aload_n X dX7_stand_20 rfl rfl ?_
  refine am_getf (v := .ref 61) X dX7_stand_21 fl_X7_9 rfl rfl (by decide) ?_
  refine am_iconst (v := (0 : Int32)) X dX7_stand_24 (by decide) ?_
  obtain ⟨g, h⟩ := gd_some h
  refine am_iald X dX7_stand_25 rfl g ?_
  refine am_icmp_ge (tgt := 139) X dX7_stand_26 (by decide) (fun c => ?_) (fun c => ?_)
  · have h := if_t h c
    refine am_iload_n X dX7_stand_139 rfl rfl ?_
    obtain rfl := Option.some.inj h
    exact am_iret X h0 dX7_stand_140 rfl ⟨rfl, rfl⟩
  · have h := if_f h c
    refine am_iconst (v := (0 : Int32)) X dX7_stand_29 (by decide) ?_
    refine am_istore (ls' := [some (.ref 60), some (.int x1), some (.int x2), some (.int x3), some (.int x4), some (.int (0 : Int32)), none, none]) X dX7_stand_30 (by decide)  rfl rfl ?_
    refine am_iconst (v := (0 : Int32)) X dX7_stand_32 (by decide) ?_
    refine am_istore (ls' := [some (.ref 60), some (.int x1), some (.int x2), some (.int x3), some (.int x4), some (.int (0 : Int32)), some (.int (0 : Int32)), none]) X dX7_stand_33 (by decide)  rfl rfl ?_
    exact am_jump (t_X7_stand_35 hG N k18 hk18 N _ _ _ _ _ _ _ _ h K h0 X) rfl ⟨rfl, rfl, rfl, rfl, rfl, rfl, rfl, trivial⟩
set_option maxRecDepth 100000 in
set_option maxHeartbeats 4000000 in
theorem t_X7_stand_18 {G : Cx} (hG : am_G G) (N : Nat) : ∀ (n : Nat) (x1 : Int32) (x2 : Int32) (x3 : Int32) (x4 : Int32) (σ : Sg) (r : Int32 × Sg), b_X7_stand_18 N n x1 x2 x3 x4 σ = some r → am_Wp G mX7_stand 5 (am_qi r.1 r.2) 18 [some (.ref 60), some (.int x1), some (.int x2), some (.int x3), some (.int x4), none, none, none] [] σ := by
  intro n
  induction n with
  | zero => intro x1 x2 x3 x4 σ r h; cases h
  | succ n ih => intro x1 x2 x3 x4 σ r h; exact t_X7_stand_18b hG N (b_X7_stand_18 N n) ih x1 x2 x3 x4 σ r h
set_option maxRecDepth 100000 in
set_option maxHeartbeats 4000000 in
theorem ct_X7_stand {G : Cx} (hG : am_G G) (N : Nat) (σ : Sg) (r : Int32 × Sg) (h : f_X7_stand N σ = some r) : am_Ct G 6 yX7_stand mX7_stand [.ref 60] σ (am_qi r.1 r.2) := by
  refine am_enter hG rfl rfl (Nat.le_of_ble_eq_true rfl) ?_
  intro K h0 X
  unfold f_X7_stand at h
  refine am_jump (pc' := 0) (ls' := [some (.ref 60), none, none, none, none, none, none, none]) ?_ rfl ⟨rfl, trivial⟩
  refine am_aload_n X dX7_stand_0 rfl rfl ?_
  obtain ⟨v1, σ1, hc, h⟩ := bd2_some h
  refine am_callv_i0 X dX7_stand_1 cw_X7_210 (ct_X7_paying hG N _ _ hc) (Nat.le_of_ble_eq_true rfl) rfl rfl rfl rfl (Nat.le_of_ble_eq_true rfl) ?_
  refine am_istore_n (ls' := [some (.ref 60), some (.int v1), none, none, none, none, none, none]) X dX7_stand_4 rfl (by decide)  rfl rfl ?_
  refine am_aload_n X dX7_stand_5 rfl rfl ?_
  obtain ⟨σ6, hc, h⟩ := bd_some h
  refine am_callv_v0 X dX7_stand_6 cw_X7_254 (ct_X7_looksForWays hG N _ _ hc) (Nat.le_of_ble_eq_true rfl) rfl rfl rfl rfl (Nat.le_of_ble_eq_true rfl) ?_
  refine am_bipush (v := (-5 : Int32)) X dX7_stand_9 (by decide) ?_
  refine am_istore_n (ls' := [some (.ref 60), some (.int v1), some (.int (-5 : Int32)), none, none, none, none, none]) X dX7_stand_11 rfl (by decide)  rfl rfl ?_
  refine am_ldc (v := (1000000000 : Int32)) X dX7_stand_12 (wm_r27 _ (List.mem_of_getElem? (i := 1) rfl)) ?_
  refine am_istore_n (ls' := [some (.ref 60), some (.int v1), some (.int (-5 : Int32)), some (.int (1000000000 : Int32)), none, none, none, none]) X dX7_stand_14 rfl (by decide)  rfl rfl ?_
  refine am_iconst (v := (0 : Int32)) X dX7_stand_15 (by decide) ?_
  refine am_istore (ls' := [some (.ref 60), some (.int v1), some (.int (-5 : Int32)), some (.int (1000000000 : Int32)), some (.int (0 : Int32)), none, none, none]) X dX7_stand_16 (by decide)  rfl rfl ?_
  exact am_jump (t_X7_stand_18 hG N N _ _ _ _ _ _ h K h0 X) rfl ⟨rfl, rfl, rfl, rfl, rfl, trivial⟩
set_option maxRecDepth 100000 in
set_option maxHeartbeats 4000000 in
theorem t_X7_begins_23 {G : Cx} (hG : am_G G) (N : Nat) (k2 : Int32 → Int32 → Sg → Option (Sg)) (hk2 : ∀ (x1 : Int32) (x2 : Int32) (σ : Sg) (r : Sg), k2 x1 x2 σ = some r → am_Wp G mX7_begins 0 (am_qv r) 2 [some (.ref 60), some (.int x1), some (.int x2)] [] σ) (x1 : Int32) (x2 : Int32) (s1 : Int32) (s2 : Int64) (σ : Sg) (r : Sg) (h : b_X7_begins_23 N k2 x1 x2 s1 s2 σ = some r) : am_Wp G mX7_begins 0 (am_qv r) 23 [some (.ref 60), some (.int x1), some (.int x2)] [.long s2, .int s1, .ref 80] σ := by
  intro K h0 X
  unfold b_X7_begins_23 at h
  obtain ⟨g, h⟩ := gd_some h
  refine am_last X dX7_begins_23 rfl g ?_
  refine am_tops h (fun σ23 h => ?_)
  refine am_iinc (ls' := fun x2_24 => [some (.ref 60), some (.int x1), some (.int x2_24)]) X dX7_begins_24 rfl h (by decide) (by decide) rfl (fun _ => rfl) (fun x2_24 h => ?_)
  refine am_goto (tgt := 2) X dX7_begins_27 (by decide) ?_
  exact am_jump (hk2 _ _ _ _ h K h0 X) rfl ⟨rfl, rfl, rfl, trivial⟩
set_option maxRecDepth 100000 in
set_option maxHeartbeats 4000000 in
theorem t_X7_begins_2b {G : Cx} (hG : am_G G) (N : Nat) (k2 : Int32 → Int32 → Sg → Option (Sg)) (hk2 : ∀ (x1 : Int32) (x2 : Int32) (σ : Sg) (r : Sg), k2 x1 x2 σ = some r → am_Wp G mX7_begins 0 (am_qv r) 2 [some (.ref 60), some (.int x1), some (.int x2)] [] σ) (x1 : Int32) (x2 : Int32) (σ : Sg) (r : Sg) (h : b_X7_begins_2b N k2 x1 x2 σ = some r) : am_Wp G mX7_begins 0 (am_qv r) 2 [some (.ref 60), some (.int x1), some (.int x2)] [] σ := by
  intro K h0 X
  unfold b_X7_begins_2b at h
  refine am_iload_n X dX7_begins_2 rfl rfl ?_
  refine am_bipush (v := (7 : Int32)) X dX7_begins_3 (by decide) ?_
  refine am_icmp_ge (tgt := 30) X dX7_begins_5 (by decide) (fun c => ?_) (fun c => ?_)
  · have h := if_t h c
    obtain rfl := Option.some.inj h
    exact am_vret X h0 dX7_begins_30 rfl ⟨rfl, rfl⟩
  · have h := if_f h c
    refine am_aload_n X dX7_begins_8 rfl rfl ?_
    refine am_getf (v := .ref 80) X dX7_begins_9 fl_X7_70 rfl rfl (by decide) ?_
    refine am_iload_n X dX7_begins_12 rfl rfl ?_
    refine am_iload_n X dX7_begins_13 rfl rfl ?_
    refine am_iload_n X dX7_begins_14 rfl rfl ?_
    refine am_icmp_ne (tgt := 22) X dX7_begins_15 (by decide) (fun c => ?_) (fun c => ?_)
    · have h := if_f h c
      refine am_lconst (v := (0 : Int64)) X dX7_begins_22 (by decide) ?_
      exact am_jump (t_X7_begins_23 hG N k2 hk2 _ _ _ _ _ _ h K h0 X) rfl ⟨rfl, rfl, rfl, trivial⟩
    · have h := if_t h c
      refine am_lconst (v := (1 : Int64)) X dX7_begins_18 (by decide) ?_
      refine am_goto (tgt := 23) X dX7_begins_19 (by decide) ?_
      exact am_jump (t_X7_begins_23 hG N k2 hk2 _ _ _ _ _ _ h K h0 X) rfl ⟨rfl, rfl, rfl, trivial⟩
set_option maxRecDepth 100000 in
set_option maxHeartbeats 4000000 in
theorem t_X7_begins_2 {G : Cx} (hG : am_G G) (N : Nat) : ∀ (n : Nat) (x1 : Int32) (x2 : Int32) (σ : Sg) (r : Sg), b_X7_begins_2 N n x1 x2 σ = some r → am_Wp G mX7_begins 0 (am_qv r) 2 [some (.ref 60), some (.int x1), some (.int x2)] [] σ := by
  intro n
  induction n with
  | zero => intro x1 x2 σ r h; cases h
  | succ n ih => intro x1 x2 σ r h; exact t_X7_begins_2b hG N (b_X7_begins_2 N n) ih x1 x2 σ r h
set_option maxRecDepth 100000 in
set_option maxHeartbeats 4000000 in
theorem ct_X7_begins {G : Cx} (hG : am_G G) (N : Nat) (x1 : Int32) (σ : Sg) (r : Sg) (h : f_X7_begins N x1 σ = some r) : am_Ct G 1 yX7_begins mX7_begins [.ref 60, .int x1] σ (am_qv r) := by
  refine am_enter hG rfl rfl (Nat.le_of_ble_eq_true rfl) ?_
  intro K h0 X
  unfold f_X7_begins at h
  refine am_jump (pc' := 0) (ls' := [some (.ref 60), some (.int x1), none]) ?_ rfl ⟨rfl, rfl, trivial⟩
  refine am_iconst (v := (0 : Int32)) X dX7_begins_0 (by decide) ?_
  refine am_istore_n (ls' := [some (.ref 60), some (.int x1), some (.int (0 : Int32))]) X dX7_begins_1 rfl (by decide)  rfl rfl ?_
  exact am_jump (t_X7_begins_2 hG N N _ _ _ _ h K h0 X) rfl ⟨rfl, rfl, rfl, trivial⟩
