/-! What the class and the reference have in common between two calls. -/
def RQ (j : Nat) (x_markCame : Bool) (x_rejectedStreams : Int32) (s_allRows : Int32) (s_allColumns : Int32) (s_rows : Int32) (s_columns : Int32) (s_size : Int32) (s_fields : Int32) (s_cursor : Int32) (s_n : Nat) (s_cells : Nat → Int32) (n_latestKey : Int32) (w_length : Int32) (w_n : Nat) (w_bytes : Nat → Int32) (k_isLocked : Bool) (k_inserts : Bool) (h_spoiled : Bool) (h_position : Int32) (h_place : Int32) (h_signJustPut : Bool) (h_ordersDone : Int32) (h_alarms : Int32) (g_length : Int32) (g_n : Nat) (g_bytes : Nat → Int32) (m_allRows : Int32) (m_allColumns : Int32) (m_rows : Int32) (m_columns : Int32) (m_cells : Int32) (m_cursor : Int32) (m_locked : Bool) (m_insert : Bool) (m_alarms : Int32) (m_rejects : Int32) (m_latest : Int32) (m_thrown : Int32) (m_streamLong : Int32) (m_at : Int32) (m_place : Int32) (m_orders : Int32) (m_escaped : Bool) (m_broken : Bool) (m_signBefore : Bool) (m_free : Bool) (m_waitsLong : Int32) (m_cutOff : Bool) (m_screen : Nat → Int32) (m_stream : Nat → Int32) (m_waits : Nat → Int32) : Prop := ∃ (R0 K0 r k cu gl w : Nat) (sc sb : Nat → Nat), (1 ≤ R0 ∧ R0 ≤ 43 ∧ 1 ≤ K0 ∧ K0 ≤ 132) ∧ (1 ≤ r ∧ r ≤ R0 ∧ 1 ≤ k ∧ k ≤ K0) ∧ cu < r * k ∧ SCR (r * k) s_cells sc ∧ SCR (r * k) m_screen sc ∧ STR gl g_n g_bytes m_stream sb ∧ gl ≤ j ∧ 1 ≤ g_n ∧ w ≤ 22800 ∧ s_allRows = nI R0 ∧ s_allColumns = nI K0 ∧ s_rows = nI r ∧ s_columns = nI k ∧ s_size = nI (r * k) ∧ s_fields = nI (cnt sc 0 (r * k)) ∧ s_cursor = nI cu ∧ s_n = R0 * K0 ∧ g_length = nI gl ∧ m_allRows = nI R0 ∧ m_allColumns = nI K0 ∧ m_rows = nI r ∧ m_columns = nI k ∧ m_cells = nI (r * k) ∧ m_cursor = nI cu ∧ m_streamLong = nI gl ∧ m_waitsLong = nI w ∧ k_isLocked = m_locked ∧ k_inserts = m_insert ∧ h_alarms = m_alarms ∧ x_rejectedStreams = m_rejects ∧ n_latestKey = m_latest ∧ x_markCame = m_escaped ∧ h_spoiled = m_cutOff
theorem byte_back : ∀ x : Fin 256, (vp_nar .byte (nI x.val).toInt8.toInt32) &&& 255 = nI x.val := by decide +kernel
theorem add_same {gl gn : Nat} {gb st : Nat → Int32} {sb : Nat → Nat} (h : STR gl gn gb st sb) (hg : gl < 4096) (h1 : 1 ≤ gn) {x : Nat} (hx : x < 256) : ∃ gn' gb', f_X0_add_oG (nI gl) gn gb (nI x) = (nI (gl + 1), gn', gb') ∧ STR (gl + 1) gn' gb' (upd st gl (nI x)) (upN sb gl x) ∧ 1 ≤ gn' := by
  obtain ⟨g1, g2, g3, g4⟩ := h
  have hst : ∀ i, i < gl + 1 → upd st gl (nI x) i = nI (upN sb gl x i) ∧ upN sb gl x i < 256 := fun i hi => by
    unfold upd upN
    by_cases e : i = gl
    · rw [if_pos e, if_pos e]; exact ⟨rfl, hx⟩
    · rw [if_neg e, if_neg e]; exact ⟨(g4 i (by omega)).2.1, (g4 i (by omega)).2.2⟩
  show ∃ gn' gb', f_badd (nI gl) gn gb (nI x) = _ ∧ _
  unfold f_badd f_bput
  rcases Nat.lt_or_ge gl gn with h2 | h2
  · rw [if_pos ((nI_ltI (by omega) (by omega)).mpr h2), if_neg (nI_nn (by omega)), if_neg (nI_ge h2 (by omega)), nI_1, nI_clamp (by omega)]
    refine ⟨_, _, rfl, ⟨by omega, g2, by omega, fun i hi => ⟨?_, hst i hi⟩⟩, h1⟩
    unfold upd upN
    by_cases e : i = gl
    · rw [if_pos e, if_pos e]; exact byte_back ⟨x, hx⟩
    · rw [if_neg e, if_neg e]; exact (g4 i (by omega)).1
  · have e0 : gl = gn := by omega
    subst e0
    rw [if_neg (fun e => by have := (nI_ltI (by omega) (by omega)).mp e; omega), if_neg (show ¬ (32768 : Int32) ≤ nI gl from nI_ge (b := 32768) (by omega) (by decide)), two_nI, nI_clamp (by omega), if_neg (nI_nn (by omega)), if_neg (nI_ge (show gl < 2 * gl by omega) (by omega)), nI_1, nI_clamp (by omega)]
    refine ⟨_, _, rfl, ⟨by omega, by omega, by omega, fun i hi => ⟨?_, hst i hi⟩⟩, by omega⟩
    unfold upd upN
    by_cases e : i = gl
    · rw [if_pos e, if_pos e]; exact byte_back ⟨x, hx⟩
    · rw [if_neg e, if_neg e, pk_cpy_in (Nat.zero_le _) (by omega)]
      have := (g4 i (by omega)).1
      simpa using this
theorem gat_same {gl gn : Nat} {gb st : Nat → Int32} {sb : Nat → Nat} (h : STR gl gn gb st sb) (hg : gl < 4096) (h1 : 1 ≤ gn) {x : Nat} (hx : x < 256) : ∃ gn' gb', f_X1_gather false (nI gl) gn gb (nI x) = (false, nI (gl + 1), gn', gb') ∧ STR (gl + 1) gn' gb' (upd st gl (nI x)) (upN sb gl x) ∧ 1 ≤ gn' := by
  obtain ⟨gn', gb', k1, k2, k3⟩ := add_same h hg h1 hx
  unfold f_X1_gather
  rw [if_pos (show nI gl < 8192 from (nI_ltI (b := 8192) (by omega) (by decide)).mpr (by omega)), if_pos (show b2i false = 0 from rfl), k1]
  exact ⟨gn', gb', rfl, k2, k3⟩
theorem gat_sp {gl gn : Nat} {gb : Nat → Int32} (hg : gl < 4096) (x : Int32) : f_X1_gather true (nI gl) gn gb x = (true, nI gl, gn, gb) := by
  unfold f_X1_gather
  rw [if_pos (show nI gl < 8192 from (nI_ltI (b := 8192) (by omega) (by decide)).mpr (by omega))]
  rfl
set_option maxHeartbeats 1000000 in
theorem step_out (j : Nat) (x_markCame : Bool) (x_rejectedStreams : Int32) (s_allRows : Int32) (s_allColumns : Int32) (s_rows : Int32) (s_columns : Int32) (s_size : Int32) (s_fields : Int32) (s_cursor : Int32) (s_n : Nat) (s_cells : Nat → Int32) (n_latestKey : Int32) (w_length : Int32) (w_n : Nat) (w_bytes : Nat → Int32) (k_isLocked : Bool) (k_inserts : Bool) (h_spoiled : Bool) (h_position : Int32) (h_place : Int32) (h_signJustPut : Bool) (h_ordersDone : Int32) (h_alarms : Int32) (g_length : Int32) (g_n : Nat) (g_bytes : Nat → Int32) (m_allRows : Int32) (m_allColumns : Int32) (m_rows : Int32) (m_columns : Int32) (m_cells : Int32) (m_cursor : Int32) (m_locked : Bool) (m_insert : Bool) (m_alarms : Int32) (m_rejects : Int32) (m_latest : Int32) (m_thrown : Int32) (m_streamLong : Int32) (m_at : Int32) (m_place : Int32) (m_orders : Int32) (m_escaped : Bool) (m_broken : Bool) (m_signBefore : Bool) (m_free : Bool) (m_waitsLong : Int32) (m_cutOff : Bool) (m_screen : Nat → Int32) (m_stream : Nat → Int32) (m_waits : Nat → Int32) (hj : j ≤ 4000) (h : RQ j x_markCame x_rejectedStreams s_allRows s_allColumns s_rows s_columns s_size s_fields s_cursor s_n s_cells n_latestKey w_length w_n w_bytes k_isLocked k_inserts h_spoiled h_position h_place h_signJustPut h_ordersDone h_alarms g_length g_n g_bytes m_allRows m_allColumns m_rows m_columns m_cells m_cursor m_locked m_insert m_alarms m_rejects m_latest m_thrown m_streamLong m_at m_place m_orders m_escaped m_broken m_signBefore m_free m_waitsLong m_cutOff m_screen m_stream m_waits) (a : Int32) : ∃ (rx : Int32 × Bool × Int32 × Int32 × Int32 × Int32 × Int32 × Int32 × (Nat → Int32) × Int32 × Nat × (Nat → Int32) × Bool × Bool × Int32 × Int32 × Bool × Int32 × Int32 × Int32 × Nat × (Nat → Int32)) (rm : Int32 × Int32 × Int32 × Int32 × Int32 × Bool × Int32 × Int32 × Int32 × Int32 × Int32 × Int32 × Int32 × Bool × Bool × Bool × Bool × Int32 × Bool × (Nat → Int32) × (Nat → Int32) × (Nat → Int32)), f_X5_out x_markCame x_rejectedStreams s_allRows s_allColumns s_rows s_columns s_size s_fields s_cursor s_n s_cells n_latestKey w_length w_n w_bytes k_isLocked h_spoiled h_position h_place h_signJustPut h_ordersDone h_alarms g_length g_n g_bytes a = some rx ∧ f_X6_out m_allRows m_allColumns m_rows m_columns m_cells m_cursor m_locked m_alarms m_rejects m_latest m_thrown m_streamLong m_at m_place m_orders m_escaped m_broken m_signBefore m_free m_waitsLong m_cutOff m_screen m_stream m_waits a = some rm ∧ rx.1 = rm.1 ∧ RQ (j + 1) rx.2.1 rx.2.2.1 s_allRows s_allColumns rx.2.2.2.1 rx.2.2.2.2.1 rx.2.2.2.2.2.1 rx.2.2.2.2.2.2.1 rx.2.2.2.2.2.2.2.1 s_n rx.2.2.2.2.2.2.2.2.1 n_latestKey rx.2.2.2.2.2.2.2.2.2.1 rx.2.2.2.2.2.2.2.2.2.2.1 rx.2.2.2.2.2.2.2.2.2.2.2.1 rx.2.2.2.2.2.2.2.2.2.2.2.2.1 k_inserts rx.2.2.2.2.2.2.2.2.2.2.2.2.2.1 rx.2.2.2.2.2.2.2.2.2.2.2.2.2.2.1 rx.2.2.2.2.2.2.2.2.2.2.2.2.2.2.2.1 rx.2.2.2.2.2.2.2.2.2.2.2.2.2.2.2.2.1 rx.2.2.2.2.2.2.2.2.2.2.2.2.2.2.2.2.2.1 rx.2.2.2.2.2.2.2.2.2.2.2.2.2.2.2.2.2.2.1 rx.2.2.2.2.2.2.2.2.2.2.2.2.2.2.2.2.2.2.2.1 rx.2.2.2.2.2.2.2.2.2.2.2.2.2.2.2.2.2.2.2.2.1 rx.2.2.2.2.2.2.2.2.2.2.2.2.2.2.2.2.2.2.2.2.2 m_allRows m_allColumns rm.2.1 rm.2.2.1 rm.2.2.2.1 rm.2.2.2.2.1 rm.2.2.2.2.2.1 m_insert rm.2.2.2.2.2.2.1 rm.2.2.2.2.2.2.2.1 m_latest rm.2.2.2.2.2.2.2.2.1 rm.2.2.2.2.2.2.2.2.2.1 rm.2.2.2.2.2.2.2.2.2.2.1 rm.2.2.2.2.2.2.2.2.2.2.2.1 rm.2.2.2.2.2.2.2.2.2.2.2.2.1 rm.2.2.2.2.2.2.2.2.2.2.2.2.2.1 rm.2.2.2.2.2.2.2.2.2.2.2.2.2.2.1 rm.2.2.2.2.2.2.2.2.2.2.2.2.2.2.2.1 rm.2.2.2.2.2.2.2.2.2.2.2.2.2.2.2.2.1 rm.2.2.2.2.2.2.2.2.2.2.2.2.2.2.2.2.2.1 rm.2.2.2.2.2.2.2.2.2.2.2.2.2.2.2.2.2.2.1 rm.2.2.2.2.2.2.2.2.2.2.2.2.2.2.2.2.2.2.2.1 rm.2.2.2.2.2.2.2.2.2.2.2.2.2.2.2.2.2.2.2.2.1 rm.2.2.2.2.2.2.2.2.2.2.2.2.2.2.2.2.2.2.2.2.2 := by
  obtain ⟨R0, K0, r, k, cu, gl, w, sc, sb, hR, hr, hcu, hS, hS2, hT, hgl, hgn, hw, rfl, rfl, rfl, rfl, rfl, rfl, rfl, rfl, rfl, rfl, rfl, rfl, rfl, rfl, rfl, rfl, rfl, rfl, rfl, rfl, rfl, rfl, rfl, rfl⟩ := h
  have hn2 : R0 * K0 ≤ 5676 := Nat.le_trans (Nat.mul_le_mul hR.2.1 hR.2.2.2) (by decide)
  have hn : r * k ≤ R0 * K0 := Nat.mul_le_mul hr.2.1 hr.2.2.2
  have hz : 0 < r * k := Nat.mul_pos hr.1 hr.2.2.1
  obtain ⟨x, hx, ex⟩ := pk_andE a (m := 255) 8 (by decide)
  have hx : x < 256 := hx
  unfold f_X5_out f_X6_out
  rw [ex]
  have h103 : ¬ nI gl = 8192 := nI_ne (b := 8192) (by omega) (by decide) (by omega)
  have hin : ¬ (nI gl < 0 ∨ 8192 ≤ (nI gl).toNatClampNeg) := vp_in_nI (n := gl) (N := 8192) (by omega) (by decide)
  cases x_markCame with
  | false =>
    rw [if_pos (show b2i false = 0 from rfl), if_pos (show b2i false = 0 from rfl), if_pos (show b2i false = 0 from rfl)]
    rcases Classical.em (nI x = 255) with e | e
    · rw [if_pos e, if_pos e]
      exact ⟨_, _, rfl, rfl, rfl, ⟨R0, K0, r, k, cu, gl, w, sc, sb, hR, hr, hcu, hS, hS2, hT, (by omega), hgn, hw, rfl, rfl, rfl, rfl, rfl, rfl, rfl, rfl, rfl, rfl, rfl, rfl, rfl, rfl, rfl, rfl, rfl, rfl, rfl, rfl, rfl, rfl, rfl, rfl⟩⟩
    · rw [if_neg e, if_neg e]
      unfold f_X6_out_L89
      rw [if_pos (show b2i false = 0 from rfl)]
      unfold f_X6_out_L103
      rw [if_neg h103]
      cases h_spoiled with
      | true =>
        rw [gat_sp (by omega)]
        exact ⟨_, _, rfl, rfl, rfl, ⟨R0, K0, r, k, cu, gl, w, sc, sb, hR, hr, hcu, hS, hS2, hT, (by omega), hgn, hw, rfl, rfl, rfl, rfl, rfl, rfl, rfl, rfl, rfl, rfl, rfl, rfl, rfl, rfl, rfl, rfl, rfl, rfl, rfl, rfl, rfl, rfl, rfl, rfl⟩⟩
      | false =>
        obtain ⟨gn', gb', k1, k2, k3⟩ := gat_same hT (by omega) hgn hx
        rw [k1, if_pos (show b2i false = 0 from rfl), if_neg hin, nI_clamp (by omega), nI_1]
        exact ⟨_, _, rfl, rfl, rfl, ⟨R0, K0, r, k, cu, gl + 1, w, sc, _, hR, hr, hcu, hS, hS2, k2, (by omega), k3, hw, rfl, rfl, rfl, rfl, rfl, rfl, rfl, rfl, rfl, rfl, rfl, rfl, rfl, rfl, rfl, rfl, rfl, rfl, rfl, rfl, rfl, rfl, rfl, rfl⟩⟩
  | true =>
    rw [if_neg (show ¬ b2i true = 0 by decide), if_neg (show ¬ b2i true = 0 by decide), if_neg (show ¬ b2i true = 0 by decide)]
    rcases Classical.em (nI x = 255) with e | e
    · rw [if_pos e, if_neg (show ¬ nI x = 239 by rw [e]; decide)]
      unfold f_X6_out_L89
      rw [if_neg (show ¬ b2i true = 0 by decide), if_pos e]
      unfold f_X6_out_L103
      rw [if_neg h103]
      cases h_spoiled with
      | true =>
        rw [gat_sp (by omega)]
        exact ⟨_, _, rfl, rfl, rfl, ⟨R0, K0, r, k, cu, gl, w, sc, sb, hR, hr, hcu, hS, hS2, hT, (by omega), hgn, hw, rfl, rfl, rfl, rfl, rfl, rfl, rfl, rfl, rfl, rfl, rfl, rfl, rfl, rfl, rfl, rfl, rfl, rfl, rfl, rfl, rfl, rfl, rfl, rfl⟩⟩
      | false =>
        obtain ⟨gn', gb', k1, k2, k3⟩ := gat_same hT (by omega) hgn hx
        rw [k1, if_pos (show b2i false = 0 from rfl), if_neg hin, nI_clamp (by omega), nI_1]
        exact ⟨_, _, rfl, rfl, rfl, ⟨R0, K0, r, k, cu, gl + 1, w, sc, _, hR, hr, hcu, hS, hS2, k2, (by omega), k3, hw, rfl, rfl, rfl, rfl, rfl, rfl, rfl, rfl, rfl, rfl, rfl, rfl, rfl, rfl, rfl, rfl, rfl, rfl, rfl, rfl, rfl, rfl, rfl, rfl⟩⟩
    · rw [if_neg e]
      rcases Classical.em (nI x = 239) with e2 | e2
      · rw [if_pos e2, if_pos e2]
        obtain ⟨acc, lk', r', k', cu', od', sc', f', g', wl', wn', wb', al', u1, u2, u3, v1, v2, v3, v4, w', wb2', b1, b2, b3, b4, b5, b6, b7⟩ := perf_same hR hr hcu hS hS2 hT h_spoiled n_latestKey w_length w_n w_bytes k_isLocked h_position h_place h_signJustPut h_ordersDone h_alarms x_rejectedStreams m_at m_place m_orders m_broken m_signBefore m_free hw m_waits
        rw [b6, b7, Option.bind_some, Option.bind_some]
        dsimp only [thn]
        have hT0 : STR 0 g_n g_bytes m_stream sb := ⟨Nat.zero_le _, hT.2.1, by omega, fun i hi => by omega⟩
        cases acc with
        | true => exact ⟨_, _, rfl, rfl, rfl, ⟨R0, K0, r', k', cu', 0, w', sc', sb, hR, b1, b2, b3, b4, hT0, (Nat.zero_le _), hgn, b5, rfl, rfl, rfl, rfl, rfl, rfl, rfl, rfl, rfl, rfl, rfl, rfl, rfl, rfl, rfl, rfl, rfl, rfl, rfl, rfl, rfl, rfl, rfl, rfl⟩⟩
        | false => exact ⟨_, _, rfl, rfl, rfl, ⟨R0, K0, r', k', cu', 0, w', sc', sb, hR, b1, b2, b3, b4, hT0, (Nat.zero_le _), hgn, b5, rfl, rfl, rfl, rfl, rfl, rfl, rfl, rfl, rfl, rfl, rfl, rfl, rfl, rfl, rfl, rfl, rfl, rfl, rfl, rfl, rfl, rfl, rfl, rfl⟩⟩
      · rw [if_neg e2, if_neg e2]
        unfold f_X6_out_L89
        rw [if_neg (show ¬ b2i true = 0 by decide), if_neg e]
        exact ⟨_, _, rfl, rfl, rfl, ⟨R0, K0, r, k, cu, gl, w, sc, sb, hR, hr, hcu, hS, hS2, hT, (by omega), hgn, hw, rfl, rfl, rfl, rfl, rfl, rfl, rfl, rfl, rfl, rfl, rfl, rfl, rfl, rfl, rfl, rfl, rfl, rfl, rfl, rfl, rfl, rfl, rfl, rfl⟩⟩
