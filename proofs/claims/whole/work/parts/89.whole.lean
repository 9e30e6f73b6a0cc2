/-! the law from its entry -/
set_option maxRecDepth 100000 in
set_option maxHeartbeats 4000000 in
theorem whole_start {p : Program} {e : Env} {s : State} {m : MethodId} {below : List Frame} {meth : Method} {c : Code} (l : Launch) (hflags : l.flags = flags0) {b L : Nat} {xs : Nat → Int32} (hL : L ≤ 320) (C0 : lw_At p s m meth c b L xs) : W p l e room_1 s m #[Value.ref b] below meth c s.heap [] 0 0 (lw_Z below #[Value.ref b] s) (entryFrame m ([Value.ref b] : List Value).toArray 4) := by
  obtain ⟨hx, hb, hr, hml, hown, hts, hX, hbl, hlocks, hgv⟩ := id C0
  obtain ⟨D, cy, ad, ⟨tA, tB, tq, adK, adV, rfl⟩, hF⟩ := st_all l b hts hgv
  obtain ⟨N, σ', hpure⟩ := pure_law L xs hL
  have hwl : ∀ w ∈ wsL_law, w.before #[Value.ref b] s = true := fun w h => hts w (wsL_law_in w h)
  have hG : am_G (l, D, cy, st_ad s.heap.size tA tB tq b adK adV, s.heap.size) := st_G
  have X : gm_X mL_law 2000 600000 7302250 (p, l, e, room_1, s, m, #[Value.ref b], below, meth, c, D, cy, s.heap.size, .ref b) := ⟨hx, hb, hml, hown, hwl, hr, hlocks, hF.1, Nat.le_refl _, ⟨Nat.le_of_ble_eq_true rfl, Nat.le_of_ble_eq_true rfl, Nat.le_of_ble_eq_true rfl, Nat.le_of_ble_eq_true rfl⟩, fun h => by cases h⟩
  have hl := lv_entry ([Value.ref b]) (n := 4) (Nat.le_of_ble_eq_true rfl)
  rw [lg_entry_eq]
  refine law_made (Qe := lw_Z below #[Value.ref b] s) X ?_ s.heap [] _ va_S.rf (fun k q h => by simp [gm_w] at h) rfl (by rw [hml]; exact ⟨_, hl, fun i v h => (by
      match i, h with
      | 0, h => simp at h
      | 1, h => simp at h
      | 2, h => simp at h
      | 3, h => simp at h
      | i + 4, h => simp at h), by simp [lv_args], rfl⟩)
  refine gm_iconst (v := (0 : Int32)) X dL_law_16 (by decide) ?_
  refine gm_istore_n (ls' := [none, some (.ref 0), some (.ref 60), some (.int 0)]) X dL_law_17 rfl (by decide) (by decide) rfl rfl ?_
  intro H locs lsC hS hP hz hL2
  have hsc : am_Sc (l, D, cy, st_ad s.heap.size tA tB tq b adK adV, s.heap.size) (p, e, room_1, s, m, #[Value.ref b], below, meth, c, 83, 4957) L xs := ⟨hX, hbl, Nat.not_le.mpr hbl, rfl, rfl, hL, Nat.le_of_ble_eq_true rfl, Nat.le_of_ble_eq_true rfl, Nat.le_refl _⟩
  have hXK : am_X (l, D, cy, st_ad s.heap.size tA tB tq b adK adV, s.heap.size) mL_law 2000 (p, e, room_1, s, m, #[Value.ref b], below, meth, c, 83, 4957) := ⟨hx, hb, hml, hown, hwl, hr, hlocks, hF, Nat.le_refl _, ⟨Nat.le_of_ble_eq_true rfl, Nat.le_of_ble_eq_true rfl, Nat.le_of_ble_eq_true rfl, Nat.le_of_ble_eq_true rfl⟩, hG⟩
  refine t_L_law_18 hG N L xs N 0 am_s0 (1, σ') hpure (p, e, room_1, s, m, #[Value.ref b], below, meth, c, 83, 4957) ⟨rfl, hsc⟩ hXK H locs lsC hS (st_P hP) ?_
  obtain ⟨l2, g1, g2, g3, g4⟩ := hL2
  refine ⟨l2, g1, fun i v h => ?_⟩
  match i, h with
  | 0, h => simp at h; subst h; exact g3
  | 1, h => simp at h; subst h; exact g2 1 _ rfl
  | 2, h => simp at h; subst h; exact g2 2 _ rfl
  | 3, h => simp at h; subst h; exact g2 3 _ rfl
  | i + 4, h => simp at h
