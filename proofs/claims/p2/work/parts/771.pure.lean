/-! Typing and keys: the step. -/
theorem ty_lt {z : Nat} {s : Nat → Nat} {k x : Nat} (hz : 0 < z) (hk : k < z) (lk ins : Bool) : (tyN z s k x lk ins).2.2.1 < z := by
  unfold tyN
  split
  · exact hk
  · split
    · split
      · split
        · exact hk
        · exact beh_lt hz
      · exact beh_lt hz
    · exact hk
theorem key_few2 : ∀ d : Fin 64, f_X2_byteSentBy (nI d.val) ≠ -1 → (nI d.val < 40 ∧ nI d.val ≠ 51 ∧ nI d.val ≠ 48 ∧ nI d.val ≠ 52 ∧ nI d.val ≠ 49 ∧ nI d.val ≠ 50 ∧ (f_X2_byteSentBy (nI d.val) = 109 ↔ nI d.val = 2) ∧ (f_X6_sendingKey (nI d.val) ≠ -1 → nI d.val ≠ 2)) := by decide +kernel
theorem key_sent {a : Int32} (h : f_X2_byteSentBy a ≠ -1) : a < 40 ∧ a ≠ 51 ∧ a ≠ 48 ∧ a ≠ 52 ∧ a ≠ 49 ∧ a ≠ 50 ∧ (f_X2_byteSentBy a = 109 ↔ a = 2) ∧ (f_X6_sendingKey a ≠ -1 → a ≠ 2) := by
  rcases pk_ix a (n := 64) (by decide) with h1 | h1 | ⟨d, hd, rfl⟩
  · exact absurd (r_shortKey_no (Or.inl h1)).2.2 h
  · exact absurd (r_shortKey_no (a := a) (Or.inr (Int32.lt_of_lt_of_le (by decide) h1))).2.2 h
  · exact key_few2 ⟨d, hd⟩ h
set_option maxHeartbeats 200000 in
theorem step_type (j : Nat) (x_markCame : Bool) (x_rejectedStreams : Int32) (s_allRows : Int32) (s_allColumns : Int32) (s_rows : Int32) (s_columns : Int32) (s_size : Int32) (s_fields : Int32) (s_cursor : Int32) (s_n : Nat) (s_cells : Nat → Int32) (n_latestKey : Int32) (w_length : Int32) (w_n : Nat) (w_bytes : Nat → Int32) (k_isLocked : Bool) (k_inserts : Bool) (h_spoiled : Bool) (h_position : Int32) (h_place : Int32) (h_signJustPut : Bool) (h_ordersDone : Int32) (h_alarms : Int32) (g_length : Int32) (g_n : Nat) (g_bytes : Nat → Int32) (m_allRows : Int32) (m_allColumns : Int32) (m_rows : Int32) (m_columns : Int32) (m_cells : Int32) (m_cursor : Int32) (m_locked : Bool) (m_insert : Bool) (m_alarms : Int32) (m_rejects : Int32) (m_latest : Int32) (m_thrown : Int32) (m_streamLong : Int32) (m_at : Int32) (m_place : Int32) (m_orders : Int32) (m_escaped : Bool) (m_broken : Bool) (m_signBefore : Bool) (m_free : Bool) (m_waitsLong : Int32) (m_cutOff : Bool) (m_screen : Nat → Int32) (m_stream : Nat → Int32) (m_waits : Nat → Int32) (hj : j ≤ 4000) (h : RQ j x_markCame x_rejectedStreams s_allRows s_allColumns s_rows s_columns s_size s_fields s_cursor s_n s_cells n_latestKey w_length w_n w_bytes k_isLocked k_inserts h_spoiled h_position h_place h_signJustPut h_ordersDone h_alarms g_length g_n g_bytes m_allRows m_allColumns m_rows m_columns m_cells m_cursor m_locked m_insert m_alarms m_rejects m_latest m_thrown m_streamLong m_at m_place m_orders m_escaped m_broken m_signBefore m_free m_waitsLong m_cutOff m_screen m_stream m_waits) (a : Int32) : ∃ (rx : Int32 × Int32 × Int32 × (Nat → Int32) × Bool) (rm : Int32 × Int32 × Bool × Int32 × (Nat → Int32)), f_X5_type s_size s_fields s_cursor s_n s_cells k_isLocked k_inserts a = some rx ∧ f_X6_type m_cells m_cursor m_locked m_insert m_thrown m_screen a = some rm ∧ rx.1 = rm.1 ∧ RQ (j + 1) x_markCame x_rejectedStreams s_allRows s_allColumns s_rows s_columns s_size rx.2.1 rx.2.2.1 s_n rx.2.2.2.1 n_latestKey w_length w_n w_bytes rx.2.2.2.2 k_inserts h_spoiled h_position h_place h_signJustPut h_ordersDone h_alarms g_length g_n g_bytes m_allRows m_allColumns m_rows m_columns m_cells rm.2.1 rm.2.2.1 m_insert m_alarms m_rejects m_latest rm.2.2.2.1 m_streamLong m_at m_place m_orders m_escaped m_broken m_signBefore m_free m_waitsLong m_cutOff rm.2.2.2.2 m_stream m_waits := by
  obtain ⟨R0, K0, r, k, cu, gl, w, sc, sb, hR, hr, hcu, hS, hS2, hT, hgl, hgn, hw, rfl, rfl, rfl, rfl, rfl, rfl, rfl, rfl, rfl, rfl, rfl, rfl, rfl, rfl, rfl, rfl, rfl, rfl, rfl, rfl, rfl, rfl, rfl, rfl⟩ := h
  have hn2 : R0 * K0 ≤ 5676 := Nat.le_trans (Nat.mul_le_mul hR.2.1 hR.2.2.2) (by decide)
  have hn : r * k ≤ R0 * K0 := Nat.mul_le_mul hr.2.1 hr.2.2.2
  have hz : 0 < r * k := Nat.mul_pos hr.1 hr.2.2.1
  unfold f_X5_type
  rcases Classical.em (a < 64 ∨ ¬ a ≤ 254) with e | e
  · rw [c_enter_out e, r_type_out e]
    exact ⟨_, _, rfl, rfl, rfl, ⟨R0, K0, r, k, cu, gl, w, sc, sb, hR, hr, hcu, hS, hS2, hT, (by omega), hgn, hw, rfl, rfl, rfl, rfl, rfl, rfl, rfl, rfl, rfl, rfl, rfl, rfl, rfl, rfl, rfl, rfl, rfl, rfl, rfl, rfl, rfl, rfl, rfl, rfl⟩⟩
  · have e1 : ¬ a < nI 64 := fun h => e (Or.inl h)
    have e2 : a ≤ nI 254 := Classical.byContradiction fun h => e (Or.inr h)
    obtain ⟨x, rfl, hx1, hx2⟩ := in_nat (by decide) (by decide) e1 e2
    obtain ⟨f1, h1, h2⟩ := c_enter hz hn hn2 hS hcu hx1 (by omega) k_isLocked k_inserts
    obtain ⟨q1, h3, h4⟩ := r_type hz (by omega) hS2 hcu hx1 (by omega) k_isLocked k_inserts m_thrown
    rw [h1, h3]
    exact ⟨_, _, rfl, rfl, rfl, ⟨R0, K0, r, k, _, gl, w, _, sb, hR, hr, (ty_lt hz hcu _ _), h2, h4, hT, (by omega), hgn, hw, rfl, rfl, rfl, rfl, rfl, rfl, rfl, rfl, rfl, rfl, rfl, rfl, rfl, rfl, rfl, rfl, rfl, rfl, rfl, rfl, rfl, rfl, rfl, rfl⟩⟩
set_option maxHeartbeats 1000000 in
theorem step_key (j : Nat) (x_markCame : Bool) (x_rejectedStreams : Int32) (s_allRows : Int32) (s_allColumns : Int32) (s_rows : Int32) (s_columns : Int32) (s_size : Int32) (s_fields : Int32) (s_cursor : Int32) (s_n : Nat) (s_cells : Nat → Int32) (n_latestKey : Int32) (w_length : Int32) (w_n : Nat) (w_bytes : Nat → Int32) (k_isLocked : Bool) (k_inserts : Bool) (h_spoiled : Bool) (h_position : Int32) (h_place : Int32) (h_signJustPut : Bool) (h_ordersDone : Int32) (h_alarms : Int32) (g_length : Int32) (g_n : Nat) (g_bytes : Nat → Int32) (m_allRows : Int32) (m_allColumns : Int32) (m_rows : Int32) (m_columns : Int32) (m_cells : Int32) (m_cursor : Int32) (m_locked : Bool) (m_insert : Bool) (m_alarms : Int32) (m_rejects : Int32) (m_latest : Int32) (m_thrown : Int32) (m_streamLong : Int32) (m_at : Int32) (m_place : Int32) (m_orders : Int32) (m_escaped : Bool) (m_broken : Bool) (m_signBefore : Bool) (m_free : Bool) (m_waitsLong : Int32) (m_cutOff : Bool) (m_screen : Nat → Int32) (m_stream : Nat → Int32) (m_waits : Nat → Int32) (hj : j ≤ 4000) (h : RQ j x_markCame x_rejectedStreams s_allRows s_allColumns s_rows s_columns s_size s_fields s_cursor s_n s_cells n_latestKey w_length w_n w_bytes k_isLocked k_inserts h_spoiled h_position h_place h_signJustPut h_ordersDone h_alarms g_length g_n g_bytes m_allRows m_allColumns m_rows m_columns m_cells m_cursor m_locked m_insert m_alarms m_rejects m_latest m_thrown m_streamLong m_at m_place m_orders m_escaped m_broken m_signBefore m_free m_waitsLong m_cutOff m_screen m_stream m_waits) (a : Int32) : ∃ (rx : Int32 × Int32 × Int32 × Int32 × Int32 × Int32 × (Nat → Int32) × Int32 × Int32 × Nat × (Nat → Int32) × Bool × Bool) (rm : Int32 × Int32 × Int32 × Int32 × Int32 × Bool × Bool × Int32 × Int32 × Int32 × (Nat → Int32) × (Nat → Int32)), f_X5_key s_allRows s_allColumns s_rows s_columns s_size s_fields s_cursor s_n s_cells n_latestKey w_length w_n w_bytes k_isLocked k_inserts a = some rx ∧ f_X6_key m_allRows m_allColumns m_rows m_columns m_cells m_cursor m_locked m_insert m_latest m_thrown m_waitsLong m_screen m_waits a = some rm ∧ rx.1 = rm.1 ∧ RQ (j + 1) x_markCame x_rejectedStreams s_allRows s_allColumns rx.2.1 rx.2.2.1 rx.2.2.2.1 rx.2.2.2.2.1 rx.2.2.2.2.2.1 s_n rx.2.2.2.2.2.2.1 rx.2.2.2.2.2.2.2.1 rx.2.2.2.2.2.2.2.2.1 rx.2.2.2.2.2.2.2.2.2.1 rx.2.2.2.2.2.2.2.2.2.2.1 rx.2.2.2.2.2.2.2.2.2.2.2.1 rx.2.2.2.2.2.2.2.2.2.2.2.2 h_spoiled h_position h_place h_signJustPut h_ordersDone h_alarms g_length g_n g_bytes m_allRows m_allColumns rm.2.1 rm.2.2.1 rm.2.2.2.1 rm.2.2.2.2.1 rm.2.2.2.2.2.1 rm.2.2.2.2.2.2.1 m_alarms m_rejects rm.2.2.2.2.2.2.2.1 rm.2.2.2.2.2.2.2.2.1 m_streamLong m_at m_place m_orders m_escaped m_broken m_signBefore m_free rm.2.2.2.2.2.2.2.2.2.1 m_cutOff rm.2.2.2.2.2.2.2.2.2.2.1 m_stream rm.2.2.2.2.2.2.2.2.2.2.2 := by
  obtain ⟨R0, K0, r, k, cu, gl, w, sc, sb, hR, hr, hcu, hS, hS2, hT, hgl, hgn, hw, rfl, rfl, rfl, rfl, rfl, rfl, rfl, rfl, rfl, rfl, rfl, rfl, rfl, rfl, rfl, rfl, rfl, rfl, rfl, rfl, rfl, rfl, rfl, rfl⟩ := h
  have hn2 : R0 * K0 ≤ 5676 := Nat.le_trans (Nat.mul_le_mul hR.2.1 hR.2.2.2) (by decide)
  have hn : r * k ≤ R0 * K0 := Nat.mul_le_mul hr.2.1 hr.2.2.2
  have hz : 0 < r * k := Nat.mul_pos hr.1 hr.2.2.1
  have ht := key_tab a
  unfold f_X5_key f_X2_press f_X6_key
  rcases Classical.em (f_X2_byteSentBy a = -1) with hB | hB
  · have h1 : f_X6_sendingKey a = -1 := by
      rcases Classical.em (f_X6_sendingKey a = -1) with e | e
      · exact e
      · rw [if_neg e] at ht; exact ht.symm.trans hB
    have h2 : f_X6_shortKey a = -1 := by rw [if_pos h1] at ht; exact ht.symm.trans hB
    rw [if_pos hB, if_pos h1, if_pos h2]
    rcases Classical.em (a < 40) with e1 | e1
    · rw [if_pos e1, if_pos e1]
      exact ⟨_, _, rfl, rfl, rfl, ⟨R0, K0, r, k, cu, gl, w, sc, sb, hR, hr, hcu, hS, hS2, hT, (by omega), hgn, hw, rfl, rfl, rfl, rfl, rfl, rfl, rfl, rfl, rfl, rfl, rfl, rfl, rfl, rfl, rfl, rfl, rfl, rfl, rfl, rfl, rfl, rfl, rfl, rfl⟩⟩
    rw [if_neg e1, if_neg e1]
    rcases Classical.em (a ≤ 52) with e2 | e2
    · rw [if_pos e2, if_neg (Int32.not_lt.mpr e2)]
      obtain ⟨x, rfl, hx1, hx2⟩ := in_nat (lo := 40) (hi := 52) (by decide) (by decide) e1 e2
      unfold f_X2_press_L24 f_X6_key_L38
      rw [if_neg (show ¬ b2i true = 0 by decide)]
      rcases Classical.em (nI x = 51) with e3 | e3
      · rw [if_pos e3, if_pos e3]
        exact ⟨_, _, rfl, rfl, rfl, ⟨R0, K0, r, k, cu, gl, w, sc, sb, hR, hr, hcu, hS, hS2, hT, (by omega), hgn, hw, rfl, rfl, rfl, rfl, rfl, rfl, rfl, rfl, rfl, rfl, rfl, rfl, rfl, rfl, rfl, rfl, rfl, rfl, rfl, rfl, rfl, rfl, rfl, rfl⟩⟩
      rw [if_neg e3, if_neg e3]
      cases k_isLocked with
      | true =>
        rw [if_neg (show ¬ b2i true = 0 by decide), if_neg (show ¬ b2i true = 0 by decide)]
        exact ⟨_, _, rfl, rfl, rfl, ⟨R0, K0, r, k, cu, gl, w, sc, sb, hR, hr, hcu, hS, hS2, hT, (by omega), hgn, hw, rfl, rfl, rfl, rfl, rfl, rfl, rfl, rfl, rfl, rfl, rfl, rfl, rfl, rfl, rfl, rfl, rfl, rfl, rfl, rfl, rfl, rfl, rfl, rfl⟩⟩
      | false =>
        rw [if_pos (show b2i false = 0 from rfl), if_pos (show b2i false = 0 from rfl), if_pos hB]
        rcases Nat.lt_or_ge x 48 with hx | hx
        · rw [if_neg (show ¬ (47 : Int32) < nI x from fun e => by have := (nI_ltI (a := 47) (by decide) (by omega)).mp e; omega), if_neg (show ¬ nI x = 48 from nI_ne (b := 48) (by omega) (by decide) (by omega)), if_neg (show ¬ nI x = 52 from nI_ne (b := 52) (by omega) (by decide) (by omega)), if_neg (show ¬ nI x = 49 from nI_ne (b := 49) (by omega) (by decide) (by omega)), if_neg (show ¬ nI x = 50 from nI_ne (b := 50) (by omega) (by decide) (by omega)), if_neg e1, c_move hz hn hn2 hS hr.2.2.1 (Nat.mul_comm r k) hcu, r_move hz (by omega) hS2 hr.2.2.1 hr.1 (Nat.mul_comm r k) hcu]
          exact ⟨_, _, rfl, rfl, rfl, ⟨R0, K0, r, k, _, gl, w, sc, sb, hR, hr, (mov_lt hz hr.2.2.1 (Nat.mul_comm r k) hcu _), hS, hS2, hT, (by omega), hgn, hw, rfl, rfl, rfl, rfl, rfl, rfl, rfl, rfl, rfl, rfl, rfl, rfl, rfl, rfl, rfl, rfl, rfl, rfl, rfl, rfl, rfl, rfl, rfl, rfl⟩⟩
        · rw [if_pos (show (47 : Int32) < nI x from (nI_ltI (a := 47) (by decide) (by omega)).mpr (by omega))]
          rcases (show x = 48 ∨ x = 49 ∨ x = 50 ∨ x = 51 ∨ x = 52 by omega) with rfl | rfl | rfl | rfl | rfl
          · rw [show nI 48 = 48 from rfl, if_pos rfl]
            rcases hb : mbt (r * k) sc cu with _ | _
            · rw [c_keyNo hz hn hn2 hS hcu _ _ _ _ (by decide) (by decide) hb, r_key48No hz (by omega) hS2 hcu _ hb]
              exact ⟨_, _, rfl, rfl, rfl, ⟨R0, K0, r, k, cu, gl, w, sc, sb, hR, hr, hcu, hS, hS2, hT, (by omega), hgn, hw, rfl, rfl, rfl, rfl, rfl, rfl, rfl, rfl, rfl, rfl, rfl, rfl, rfl, rfl, rfl, rfl, rfl, rfl, rfl, rfl, rfl, rfl, rfl, rfl⟩⟩
            · obtain ⟨f1, k1, k2⟩ := c_key48 hz hn hn2 hS hcu (nI k) w_length false k_inserts hb
              obtain ⟨q1, k3, k4⟩ := r_key48 hz (by omega) hS2 hcu false hb
              rw [k1, k3]
              exact ⟨_, _, rfl, rfl, rfl, ⟨R0, K0, r, k, cu, gl, w, _, sb, hR, hr, hcu, k2, k4, hT, (by omega), hgn, hw, rfl, rfl, rfl, rfl, rfl, rfl, rfl, rfl, rfl, rfl, rfl, rfl, rfl, rfl, rfl, rfl, rfl, rfl, rfl, rfl, rfl, rfl, rfl, rfl⟩⟩
          · rw [show nI 49 = 49 from rfl, if_neg (show ¬ (49 : Int32) = 48 by decide), if_neg (show ¬ (49 : Int32) = 52 by decide), if_pos rfl]
            obtain ⟨f1, k1, k2⟩ := c_key49 (k := cu) hz hn hn2 hS (nI k) w_length false k_inserts
            obtain ⟨q1, k3, k4⟩ := r_eraseInput hz (by omega) hS2 (nI cu) (nI w)
            rw [k1, k3]
            exact ⟨_, _, rfl, rfl, rfl, ⟨R0, K0, r, k, _, gl, 0, _, sb, hR, hr, (ftt_lt hz), k2, k4, hT, (by omega), hgn, (Nat.zero_le _), rfl, rfl, rfl, rfl, rfl, rfl, rfl, rfl, rfl, rfl, rfl, rfl, rfl, rfl, rfl, rfl, rfl, rfl, rfl, rfl, rfl, rfl, rfl, rfl⟩⟩
          · rw [show nI 50 = 50 from rfl, if_neg (show ¬ (50 : Int32) = 48 by decide), if_neg (show ¬ (50 : Int32) = 52 by decide), if_neg (show ¬ (50 : Int32) = 49 by decide), if_pos rfl, c_key50]
            exact ⟨_, _, rfl, rfl, rfl, ⟨R0, K0, r, k, cu, gl, w, sc, sb, hR, hr, hcu, hS, hS2, hT, (by omega), hgn, hw, rfl, rfl, rfl, rfl, rfl, rfl, rfl, rfl, rfl, rfl, rfl, rfl, rfl, rfl, rfl, rfl, rfl, rfl, rfl, rfl, rfl, rfl, rfl, rfl⟩⟩
          · exact absurd rfl e3
          · rw [show nI 52 = 52 from rfl, if_neg (show ¬ (52 : Int32) = 48 by decide), if_pos rfl]
            rcases hb : mbt (r * k) sc cu with _ | _
            · rw [c_keyNo hz hn hn2 hS hcu _ _ _ _ (by decide) (by decide) hb, r_key52No hz (by omega) hS2 hcu _ _ hb]
              exact ⟨_, _, rfl, rfl, rfl, ⟨R0, K0, r, k, cu, gl, w, sc, sb, hR, hr, hcu, hS, hS2, hT, (by omega), hgn, hw, rfl, rfl, rfl, rfl, rfl, rfl, rfl, rfl, rfl, rfl, rfl, rfl, rfl, rfl, rfl, rfl, rfl, rfl, rfl, rfl, rfl, rfl, rfl, rfl⟩⟩
            · obtain ⟨f1, k1, k2⟩ := c_key52 hz hn hn2 hS hr.2.2.1 (Nat.dvd_mul_left k r) hcu w_length false k_inserts hb
              obtain ⟨q1, k3, k4⟩ := r_key52 hz (by omega) hS2 hr.2.2.1 (Nat.dvd_mul_left k r) hcu false hb
              rw [k1, k3]
              exact ⟨_, _, rfl, rfl, rfl, ⟨R0, K0, r, k, cu, gl, w, _, sb, hR, hr, hcu, k2, k4, hT, (by omega), hgn, hw, rfl, rfl, rfl, rfl, rfl, rfl, rfl, rfl, rfl, rfl, rfl, rfl, rfl, rfl, rfl, rfl, rfl, rfl, rfl, rfl, rfl, rfl, rfl, rfl⟩⟩
    · rw [if_neg e2, if_pos (Int32.not_le.mp e2)]
      exact ⟨_, _, rfl, rfl, rfl, ⟨R0, K0, r, k, cu, gl, w, sc, sb, hR, hr, hcu, hS, hS2, hT, (by omega), hgn, hw, rfl, rfl, rfl, rfl, rfl, rfl, rfl, rfl, rfl, rfl, rfl, rfl, rfl, rfl, rfl, rfl, rfl, rfl, rfl, rfl, rfl, rfl, rfl, rfl⟩⟩
  · obtain ⟨s1, s2, s3, s4, s5, s6, s7, s8⟩ := key_sent hB
    rw [if_neg hB]
    have hk38 : ∀ y, (if f_X6_sendingKey a = -1 then if f_X6_shortKey a = -1 then y else f_X6_key_L38 (nI R0) (nI K0) a true (nI r) (nI k) (nI (r * k)) (nI cu) k_isLocked k_inserts n_latestKey 0 (nI w) m_screen m_waits else f_X6_key_L38 (nI R0) (nI K0) a true (nI r) (nI k) (nI (r * k)) (nI cu) k_isLocked k_inserts n_latestKey 0 (nI w) m_screen m_waits) = f_X6_key_L38 (nI R0) (nI K0) a true (nI r) (nI k) (nI (r * k)) (nI cu) k_isLocked k_inserts n_latestKey 0 (nI w) m_screen m_waits := fun y => by
      rcases Classical.em (f_X6_sendingKey a = -1) with e | e
      · rw [if_pos e, if_neg (fun e2 => hB (by rw [ht, if_pos e]; exact e2))]
      · rw [if_neg e]
    rw [hk38]
    unfold f_X2_press_L24 f_X6_key_L38
    rw [if_neg (show ¬ b2i true = 0 by decide), if_neg s2, if_neg s2]
    cases k_isLocked with
    | true =>
      rw [if_neg (show ¬ b2i true = 0 by decide), if_neg (show ¬ b2i true = 0 by decide)]
      exact ⟨_, _, rfl, rfl, rfl, ⟨R0, K0, r, k, cu, gl, w, sc, sb, hR, hr, hcu, hS, hS2, hT, (by omega), hgn, hw, rfl, rfl, rfl, rfl, rfl, rfl, rfl, rfl, rfl, rfl, rfl, rfl, rfl, rfl, rfl, rfl, rfl, rfl, rfl, rfl, rfl, rfl, rfl, rfl⟩⟩
    | false =>
      rw [if_pos (show b2i false = 0 from rfl), if_pos (show b2i false = 0 from rfl), if_neg hB, if_neg s3, if_neg s4, if_neg s5, if_neg s6, if_pos s1]
      unfold f_X2_send f_X6_press
      obtain ⟨⟨a1, a2, a3⟩, ha⟩ := c_compose hz hn hn2 hS (nI cu) (f_X2_byteSentBy a) w_length w_n w_bytes false
      rw [ha, Option.bind_some]
      dsimp only
      rcases Classical.em (f_X6_sendingKey a = -1) with e | e
      · rw [if_pos e] at ht
        rw [if_pos e, ← ht]
        obtain ⟨w1, wb1, hw1, hw2⟩ := r_shortly (nI w) (f_X2_byteSentBy a) m_waits
        rcases Classical.em (a = 2) with e2 | e2
        · rw [if_pos (s7.mpr e2), if_pos e2]
          have hs1 : 1 ≤ sml R0 24 := by unfold sml; split <;> omega
          have hs2 : 1 ≤ sml K0 80 := by unfold sml; split <;> omega
          obtain ⟨f1, hf1, hS3⟩ := c_eraseToSmall (f := s_cells) hn2 (r := R0) (c := K0) (by omega) (by omega) (Nat.le_refl _) (nI r) (nI k) (nI (r * k)) (nI (cnt sc 0 (r * k))) (nI cu)
          obtain ⟨q1, hq1, hS4⟩ := r_useSmall (f := m_screen) (r := R0) (c := K0) (by omega) (by omega) hn2 (nI r) (nI k) (nI (r * k)) (nI cu)
          rw [hf1, hq1, Option.bind_some, Option.bind_some]
          dsimp only
          rw [hw1, Option.bind_some]
          exact ⟨_, _, rfl, rfl, rfl, ⟨R0, K0, (sml R0 24), (sml K0 80), 0, gl, w1, emp, sb, hR, ⟨hs1, sml_le.1, hs2, sml_le.1⟩, (Nat.mul_pos hs1 hs2), hS3, hS4, hT, (by omega), hgn, hw2, rfl, rfl, rfl, rfl, rfl, (by rw [cnt_emp]; rfl), rfl, rfl, rfl, rfl, rfl, rfl, rfl, rfl, rfl, rfl, rfl, rfl, rfl, rfl, rfl, rfl, rfl, rfl⟩⟩
        · rw [if_neg (fun h => e2 (s7.mp h)), if_neg e2, hw1, Option.bind_some]
          exact ⟨_, _, rfl, rfl, rfl, ⟨R0, K0, r, k, cu, gl, w1, sc, sb, hR, hr, hcu, hS, hS2, hT, (by omega), hgn, hw2, rfl, rfl, rfl, rfl, rfl, rfl, rfl, rfl, rfl, rfl, rfl, rfl, rfl, rfl, rfl, rfl, rfl, rfl, rfl, rfl, rfl, rfl, rfl, rfl⟩⟩
      · rw [if_neg e] at ht
        rw [if_neg (fun h => s8 e (s7.mp h)), if_neg e, ← ht]
        obtain ⟨w1, wb1, hw1, hw2⟩ := r_answer hz (by omega) hS2 hcu (nI w) (f_X2_byteSentBy a) m_waits false
        rw [hw1, Option.bind_some]
        exact ⟨_, _, rfl, rfl, rfl, ⟨R0, K0, r, k, cu, gl, w1, sc, sb, hR, hr, hcu, hS, hS2, hT, (by omega), hgn, hw2, rfl, rfl, rfl, rfl, rfl, rfl, rfl, rfl, rfl, rfl, rfl, rfl, rfl, rfl, rfl, rfl, rfl, rfl, rfl, rfl, rfl, rfl, rfl, rfl⟩⟩
