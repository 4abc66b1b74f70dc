theorem ct_r (a : Int32) {r : Nat} (h : clR a = nI r) (h1 : 1 ≤ r) (h2 : r ≤ 43) : rR a = nI r := by
  rw [← h]
  unfold rR clR
  rcases Classical.em (a < 43) with h3 | h3
  · rw [if_pos h3, if_pos (Int32.le_of_lt h3)]
    rcases Classical.em (1 < a) with h4 | h4
    · rw [if_pos h4, if_pos (Int32.le_of_lt h4)]
    · rw [if_neg h4]
      rcases Classical.em (1 ≤ a) with h5 | h5
      · rw [if_pos h5]
        exact Int32.le_antisymm (Int32.not_lt.mp h4) h5
      · rw [if_neg h5]
  · rw [if_neg h3, if_pos (show (1 : Int32) < 43 by decide), if_pos (Int32.le_trans (by decide) (Int32.not_lt.mp h3))]
    rcases Classical.em (a ≤ 43) with h5 | h5
    · rw [if_pos h5]
      exact Int32.le_antisymm h5 (Int32.not_lt.mp h3)
    · rw [if_neg h5]
theorem ct_c (a : Int32) {r : Nat} (h : clC a = nI r) (h1 : 1 ≤ r) (h2 : r ≤ 132) : rC a = nI r := by
  rw [← h]
  unfold rC clC
  rcases Classical.em (a < 132) with h3 | h3
  · rw [if_pos h3, if_pos (Int32.le_of_lt h3)]
    rcases Classical.em (1 < a) with h4 | h4
    · rw [if_pos h4, if_pos (Int32.le_of_lt h4)]
    · rw [if_neg h4]
      rcases Classical.em (1 ≤ a) with h5 | h5
      · rw [if_pos h5]
        exact Int32.le_antisymm (Int32.not_lt.mp h4) h5
      · rw [if_neg h5]
  · rw [if_neg h3, if_pos (show (1 : Int32) < 132 by decide), if_pos (Int32.le_trans (by decide) (Int32.not_lt.mp h3))]
    rcases Classical.em (a ≤ 132) with h5 | h5
    · rw [if_pos h5]
      exact Int32.le_antisymm h5 (Int32.not_lt.mp h3)
    · rw [if_neg h5]
theorem whole_start {p : Program} {e : Env} {s : State} {m : MethodId} {below : List Frame} {meth : Method} {c : Code} (l : Launch) (hno : l.stackTraces = false) {b L : Nat} {xs : Nat → Int32} (hL : L ≤ 5) (C0 : lw_At p s m meth c b L xs) : W p l e room_1 s m #[Value.ref b] below meth c s.heap [] 0 0 (lw_Z below #[Value.ref b] s) (entryFrame m ([Value.ref b] : List Value).toArray 7) := by
  refine law_start l hno C0 (by omega) RP1 ?_ ?_ ?_ ?_ ?_ ?_ ?_ ?_ ?_ ?_ ?_ ?_ ?_ ?_ ?_
  · intro a1 a2 r k h1 h2 h3 h4 h5 h6
    have hb := p_bnd (r := r) (k := k) ⟨h1, h2, h4, h5⟩
    rw [ct_r a1 h3 h1 h2, ct_c a2 h6 h4 h5]
    obtain ⟨g, hg, hS⟩ := r_useAll (f := fun _ => 0) (r := r) (c := k) hb.1 0 0 0 0
    refine ⟨_, hg, fun _ => ⟨r, k, g, ⟨h1, h2, h4, h5⟩, hS, rfl, rfl, rfl, rfl, rfl, rfl, rfl, rfl, rfl, rfl, rfl, rfl, rfl, rfl, rfl, rfl, rfl, rfl, rfl, rfl, rfl, rfl, rfl, rfl, rfl, rfl, rfl, rfl, rfl, rfl, rfl, rfl, rfl, rfl, rfl, rfl, rfl, rfl, rfl, rfl, rfl, rfl, rfl, rfl, rfl, rfl, rfl, rfl, rfl, rfl, rfl⟩⟩
  · intro j x_markCame x_rejectedStreams s_allRows s_allColumns s_rows s_columns s_size s_fields s_cursor s_n s_cells n_latestKey w_length w_n w_bytes k_isLocked k_inserts h_spoiled h_position h_place h_signJustPut h_ordersDone h_alarms g_length g_n g_bytes m_allRows m_allColumns m_rows m_columns m_cells m_cursor m_locked m_insert m_alarms m_rejects m_latest m_thrown m_streamLong m_at m_place m_orders m_escaped m_broken m_signBefore m_free m_waitsLong m_cutOff m_screen m_stream m_waits hj h
    have hj0 : j = 0 := by omega
    obtain ⟨r, k, f, hr, hS, rfl, rfl, rfl, rfl, rfl, rfl, rfl, rfl, rfl, rfl, rfl, rfl, rfl, rfl, rfl, rfl, rfl, rfl, rfl, rfl, rfl, rfl, rfl, rfl, rfl, rfl, rfl, rfl, rfl, rfl, rfl, rfl, rfl, rfl, rfl, rfl, rfl, rfl, rfl, rfl, rfl, rfl, rfl, rfl, rfl, rfl, rfl, rfl, rfl, rfl, rfl⟩ := h hj0
    subst hj0
    obtain ⟨x, y, h1, h2, h3⟩ := p_out (r := r) (k := k) (f := m_screen) (xs (3 * 0 + 2 + 1)).toInt8.toInt32
    exact ⟨x, h1, y, h2, h3, (fun h => absurd h (Nat.succ_ne_zero _))⟩
  · intro j x_markCame x_rejectedStreams s_allRows s_allColumns s_rows s_columns s_size s_fields s_cursor s_n s_cells n_latestKey w_length w_n w_bytes k_isLocked k_inserts h_spoiled h_position h_place h_signJustPut h_ordersDone h_alarms g_length g_n g_bytes m_allRows m_allColumns m_rows m_columns m_cells m_cursor m_locked m_insert m_alarms m_rejects m_latest m_thrown m_streamLong m_at m_place m_orders m_escaped m_broken m_signBefore m_free m_waitsLong m_cutOff m_screen m_stream m_waits hj h
    have hj0 : j = 0 := by omega
    obtain ⟨r, k, f, hr, hS, rfl, rfl, rfl, rfl, rfl, rfl, rfl, rfl, rfl, rfl, rfl, rfl, rfl, rfl, rfl, rfl, rfl, rfl, rfl, rfl, rfl, rfl, rfl, rfl, rfl, rfl, rfl, rfl, rfl, rfl, rfl, rfl, rfl, rfl, rfl, rfl, rfl, rfl, rfl, rfl, rfl, rfl, rfl, rfl, rfl, rfl, rfl, rfl, rfl, rfl, rfl⟩ := h hj0
    subst hj0
    obtain ⟨y, h1, h2⟩ := p_sign hr hS (xs (3 * 0 + 2 + 1)) (xs (3 * 0 + 2 + 2))
    exact ⟨_, rfl, y, h1, h2, (fun h => absurd h (Nat.succ_ne_zero _))⟩
  · intro j x_markCame x_rejectedStreams s_allRows s_allColumns s_rows s_columns s_size s_fields s_cursor s_n s_cells n_latestKey w_length w_n w_bytes k_isLocked k_inserts h_spoiled h_position h_place h_signJustPut h_ordersDone h_alarms g_length g_n g_bytes m_allRows m_allColumns m_rows m_columns m_cells m_cursor m_locked m_insert m_alarms m_rejects m_latest m_thrown m_streamLong m_at m_place m_orders m_escaped m_broken m_signBefore m_free m_waitsLong m_cutOff m_screen m_stream m_waits hj h
    have hj0 : j = 0 := by omega
    obtain ⟨r, k, f, hr, hS, rfl, rfl, rfl, rfl, rfl, rfl, rfl, rfl, rfl, rfl, rfl, rfl, rfl, rfl, rfl, rfl, rfl, rfl, rfl, rfl, rfl, rfl, rfl, rfl, rfl, rfl, rfl, rfl, rfl, rfl, rfl, rfl, rfl, rfl, rfl, rfl, rfl, rfl, rfl, rfl, rfl, rfl, rfl, rfl, rfl, rfl, rfl, rfl, rfl, rfl, rfl⟩ := h hj0
    subst hj0
    obtain ⟨x, y, h1, h2, h3⟩ := p_attribute hr hS (xs (3 * 0 + 2 + 1)) (xs (3 * 0 + 2 + 2))
    exact ⟨x, h1, y, h2, h3, (fun h => absurd h (Nat.succ_ne_zero _))⟩
  · intro j x_markCame x_rejectedStreams s_allRows s_allColumns s_rows s_columns s_size s_fields s_cursor s_n s_cells n_latestKey w_length w_n w_bytes k_isLocked k_inserts h_spoiled h_position h_place h_signJustPut h_ordersDone h_alarms g_length g_n g_bytes m_allRows m_allColumns m_rows m_columns m_cells m_cursor m_locked m_insert m_alarms m_rejects m_latest m_thrown m_streamLong m_at m_place m_orders m_escaped m_broken m_signBefore m_free m_waitsLong m_cutOff m_screen m_stream m_waits hj h
    have hj0 : j = 0 := by omega
    obtain ⟨r, k, f, hr, hS, rfl, rfl, rfl, rfl, rfl, rfl, rfl, rfl, rfl, rfl, rfl, rfl, rfl, rfl, rfl, rfl, rfl, rfl, rfl, rfl, rfl, rfl, rfl, rfl, rfl, rfl, rfl, rfl, rfl, rfl, rfl, rfl, rfl, rfl, rfl, rfl, rfl, rfl, rfl, rfl, rfl, rfl, rfl, rfl, rfl, rfl, rfl, rfl, rfl, rfl, rfl⟩ := h hj0
    subst hj0
    obtain ⟨x, y, h1, h2, h3⟩ := p_key (r := r) (k := k) (f := m_screen) (xs (3 * 0 + 2 + 1))
    exact ⟨x, h1, y, h2, h3, (fun h => absurd h (Nat.succ_ne_zero _))⟩
  · intro j x_markCame x_rejectedStreams s_allRows s_allColumns s_rows s_columns s_size s_fields s_cursor s_n s_cells n_latestKey w_length w_n w_bytes k_isLocked k_inserts h_spoiled h_position h_place h_signJustPut h_ordersDone h_alarms g_length g_n g_bytes m_allRows m_allColumns m_rows m_columns m_cells m_cursor m_locked m_insert m_alarms m_rejects m_latest m_thrown m_streamLong m_at m_place m_orders m_escaped m_broken m_signBefore m_free m_waitsLong m_cutOff m_screen m_stream m_waits hj h
    have hj0 : j = 0 := by omega
    obtain ⟨r, k, f, hr, hS, rfl, rfl, rfl, rfl, rfl, rfl, rfl, rfl, rfl, rfl, rfl, rfl, rfl, rfl, rfl, rfl, rfl, rfl, rfl, rfl, rfl, rfl, rfl, rfl, rfl, rfl, rfl, rfl, rfl, rfl, rfl, rfl, rfl, rfl, rfl, rfl, rfl, rfl, rfl, rfl, rfl, rfl, rfl, rfl, rfl, rfl, rfl, rfl, rfl, rfl, rfl⟩ := h hj0
    subst hj0
    obtain ⟨x, y, h1, h2, h3⟩ := p_type (r := r) (k := k) (f := m_screen) (xs (3 * 0 + 2 + 1))
    exact ⟨x, h1, y, h2, h3, (fun h => absurd h (Nat.succ_ne_zero _))⟩
  · intro j x_markCame x_rejectedStreams s_allRows s_allColumns s_rows s_columns s_size s_fields s_cursor s_n s_cells n_latestKey w_length w_n w_bytes k_isLocked k_inserts h_spoiled h_position h_place h_signJustPut h_ordersDone h_alarms g_length g_n g_bytes m_allRows m_allColumns m_rows m_columns m_cells m_cursor m_locked m_insert m_alarms m_rejects m_latest m_thrown m_streamLong m_at m_place m_orders m_escaped m_broken m_signBefore m_free m_waitsLong m_cutOff m_screen m_stream m_waits hj h
    have hj0 : j = 0 := by omega
    obtain ⟨r, k, f, hr, hS, rfl, rfl, rfl, rfl, rfl, rfl, rfl, rfl, rfl, rfl, rfl, rfl, rfl, rfl, rfl, rfl, rfl, rfl, rfl, rfl, rfl, rfl, rfl, rfl, rfl, rfl, rfl, rfl, rfl, rfl, rfl, rfl, rfl, rfl, rfl, rfl, rfl, rfl, rfl, rfl, rfl, rfl, rfl, rfl, rfl, rfl, rfl, rfl, rfl, rfl, rfl⟩ := h hj0
    subst hj0
    exact ⟨_, rfl, _, rfl, rfl, (fun h => absurd h (Nat.succ_ne_zero _))⟩
  · intro j x_markCame x_rejectedStreams s_allRows s_allColumns s_rows s_columns s_size s_fields s_cursor s_n s_cells n_latestKey w_length w_n w_bytes k_isLocked k_inserts h_spoiled h_position h_place h_signJustPut h_ordersDone h_alarms g_length g_n g_bytes m_allRows m_allColumns m_rows m_columns m_cells m_cursor m_locked m_insert m_alarms m_rejects m_latest m_thrown m_streamLong m_at m_place m_orders m_escaped m_broken m_signBefore m_free m_waitsLong m_cutOff m_screen m_stream m_waits hj h
    have hj0 : j = 0 := by omega
    obtain ⟨r, k, f, hr, hS, rfl, rfl, rfl, rfl, rfl, rfl, rfl, rfl, rfl, rfl, rfl, rfl, rfl, rfl, rfl, rfl, rfl, rfl, rfl, rfl, rfl, rfl, rfl, rfl, rfl, rfl, rfl, rfl, rfl, rfl, rfl, rfl, rfl, rfl, rfl, rfl, rfl, rfl, rfl, rfl, rfl, rfl, rfl, rfl, rfl, rfl, rfl, rfl, rfl, rfl, rfl⟩ := h hj0
    subst hj0
    obtain ⟨h1, h2⟩ := p_octet (xs (3 * 0 + 2 + 1))
    exact Or.inr ⟨h1, _, h2, _, rfl, rfl, (fun h => absurd h (Nat.succ_ne_zero _))⟩
  · intro j x_markCame x_rejectedStreams s_allRows s_allColumns s_rows s_columns s_size s_fields s_cursor s_n s_cells n_latestKey w_length w_n w_bytes k_isLocked k_inserts h_spoiled h_position h_place h_signJustPut h_ordersDone h_alarms g_length g_n g_bytes m_allRows m_allColumns m_rows m_columns m_cells m_cursor m_locked m_insert m_alarms m_rejects m_latest m_thrown m_streamLong m_at m_place m_orders m_escaped m_broken m_signBefore m_free m_waitsLong m_cutOff m_screen m_stream m_waits hj h
    have hj0 : j = 0 := by omega
    obtain ⟨r, k, f, hr, hS, rfl, rfl, rfl, rfl, rfl, rfl, rfl, rfl, rfl, rfl, rfl, rfl, rfl, rfl, rfl, rfl, rfl, rfl, rfl, rfl, rfl, rfl, rfl, rfl, rfl, rfl, rfl, rfl, rfl, rfl, rfl, rfl, rfl, rfl, rfl, rfl, rfl, rfl, rfl, rfl, rfl, rfl, rfl, rfl, rfl, rfl, rfl, rfl, rfl, rfl, rfl⟩ := h hj0
    subst hj0
    obtain ⟨h1, h2⟩ := p_field hr hS (xs (3 * 0 + 2 + 1)) (xs (3 * 0 + 2 + 2))
    exact ⟨_, h1, _, h2, rfl, (fun h => absurd h (Nat.succ_ne_zero _))⟩
  · intro j x_markCame x_rejectedStreams s_allRows s_allColumns s_rows s_columns s_size s_fields s_cursor s_n s_cells n_latestKey w_length w_n w_bytes k_isLocked k_inserts h_spoiled h_position h_place h_signJustPut h_ordersDone h_alarms g_length g_n g_bytes m_allRows m_allColumns m_rows m_columns m_cells m_cursor m_locked m_insert m_alarms m_rejects m_latest m_thrown m_streamLong m_at m_place m_orders m_escaped m_broken m_signBefore m_free m_waitsLong m_cutOff m_screen m_stream m_waits hj h
    have hj0 : j = 0 := by omega
    obtain ⟨r, k, f, hr, hS, rfl, rfl, rfl, rfl, rfl, rfl, rfl, rfl, rfl, rfl, rfl, rfl, rfl, rfl, rfl, rfl, rfl, rfl, rfl, rfl, rfl, rfl, rfl, rfl, rfl, rfl, rfl, rfl, rfl, rfl, rfl, rfl, rfl, rfl, rfl, rfl, rfl, rfl, rfl, rfl, rfl, rfl, rfl, rfl, rfl, rfl, rfl, rfl, rfl, rfl, rfl⟩ := h hj0
    subst hj0
    exact ⟨_, rfl, _, rfl, rfl, (fun h => absurd h (Nat.succ_ne_zero _))⟩
  · intro j x_markCame x_rejectedStreams s_allRows s_allColumns s_rows s_columns s_size s_fields s_cursor s_n s_cells n_latestKey w_length w_n w_bytes k_isLocked k_inserts h_spoiled h_position h_place h_signJustPut h_ordersDone h_alarms g_length g_n g_bytes m_allRows m_allColumns m_rows m_columns m_cells m_cursor m_locked m_insert m_alarms m_rejects m_latest m_thrown m_streamLong m_at m_place m_orders m_escaped m_broken m_signBefore m_free m_waitsLong m_cutOff m_screen m_stream m_waits hj h
    have hj0 : j = 0 := by omega
    obtain ⟨r, k, f, hr, hS, rfl, rfl, rfl, rfl, rfl, rfl, rfl, rfl, rfl, rfl, rfl, rfl, rfl, rfl, rfl, rfl, rfl, rfl, rfl, rfl, rfl, rfl, rfl, rfl, rfl, rfl, rfl, rfl, rfl, rfl, rfl, rfl, rfl, rfl, rfl, rfl, rfl, rfl, rfl, rfl, rfl, rfl, rfl, rfl, rfl, rfl, rfl, rfl, rfl, rfl, rfl⟩ := h hj0
    subst hj0
    exact ⟨_, rfl, _, rfl, rfl, (fun h => absurd h (Nat.succ_ne_zero _))⟩
  · intro j x_markCame x_rejectedStreams s_allRows s_allColumns s_rows s_columns s_size s_fields s_cursor s_n s_cells n_latestKey w_length w_n w_bytes k_isLocked k_inserts h_spoiled h_position h_place h_signJustPut h_ordersDone h_alarms g_length g_n g_bytes m_allRows m_allColumns m_rows m_columns m_cells m_cursor m_locked m_insert m_alarms m_rejects m_latest m_thrown m_streamLong m_at m_place m_orders m_escaped m_broken m_signBefore m_free m_waitsLong m_cutOff m_screen m_stream m_waits hj h
    have hj0 : j = 0 := by omega
    obtain ⟨r, k, f, hr, hS, rfl, rfl, rfl, rfl, rfl, rfl, rfl, rfl, rfl, rfl, rfl, rfl, rfl, rfl, rfl, rfl, rfl, rfl, rfl, rfl, rfl, rfl, rfl, rfl, rfl, rfl, rfl, rfl, rfl, rfl, rfl, rfl, rfl, rfl, rfl, rfl, rfl, rfl, rfl, rfl, rfl, rfl, rfl, rfl, rfl, rfl, rfl, rfl, rfl, rfl, rfl⟩ := h hj0
    subst hj0
    obtain ⟨h1, h2⟩ := p_modified hr hS (xs (3 * 0 + 2 + 1))
    exact ⟨_, h1, _, h2, rfl, (fun h => absurd h (Nat.succ_ne_zero _))⟩
  · intro j x_markCame x_rejectedStreams s_allRows s_allColumns s_rows s_columns s_size s_fields s_cursor s_n s_cells n_latestKey w_length w_n w_bytes k_isLocked k_inserts h_spoiled h_position h_place h_signJustPut h_ordersDone h_alarms g_length g_n g_bytes m_allRows m_allColumns m_rows m_columns m_cells m_cursor m_locked m_insert m_alarms m_rejects m_latest m_thrown m_streamLong m_at m_place m_orders m_escaped m_broken m_signBefore m_free m_waitsLong m_cutOff m_screen m_stream m_waits hj h
    have hj0 : j = 0 := by omega
    obtain ⟨r, k, f, hr, hS, rfl, rfl, rfl, rfl, rfl, rfl, rfl, rfl, rfl, rfl, rfl, rfl, rfl, rfl, rfl, rfl, rfl, rfl, rfl, rfl, rfl, rfl, rfl, rfl, rfl, rfl, rfl, rfl, rfl, rfl, rfl, rfl, rfl, rfl, rfl, rfl, rfl, rfl, rfl, rfl, rfl, rfl, rfl, rfl, rfl, rfl, rfl, rfl, rfl, rfl, rfl⟩ := h hj0
    subst hj0
    rcases p_cell hr hS (xs (3 * 0 + 2 + 1)) with ⟨h1, h2⟩ | ⟨h1, h2⟩
    · exact Or.inl ⟨_, h1, _, h2, _, rfl, rfl, rfl, (fun h => absurd h (Nat.succ_ne_zero _))⟩
    · exact Or.inr ⟨h1, _, h2, _, rfl, rfl, (fun h => absurd h (Nat.succ_ne_zero _))⟩
  · intro j x_markCame x_rejectedStreams s_allRows s_allColumns s_rows s_columns s_size s_fields s_cursor s_n s_cells n_latestKey w_length w_n w_bytes k_isLocked k_inserts h_spoiled h_position h_place h_signJustPut h_ordersDone h_alarms g_length g_n g_bytes m_allRows m_allColumns m_rows m_columns m_cells m_cursor m_locked m_insert m_alarms m_rejects m_latest m_thrown m_streamLong m_at m_place m_orders m_escaped m_broken m_signBefore m_free m_waitsLong m_cutOff m_screen m_stream m_waits hj h
    have hj0 : j = 0 := by omega
    obtain ⟨r, k, f, hr, hS, rfl, rfl, rfl, rfl, rfl, rfl, rfl, rfl, rfl, rfl, rfl, rfl, rfl, rfl, rfl, rfl, rfl, rfl, rfl, rfl, rfl, rfl, rfl, rfl, rfl, rfl, rfl, rfl, rfl, rfl, rfl, rfl, rfl, rfl, rfl, rfl, rfl, rfl, rfl, rfl, rfl, rfl, rfl, rfl, rfl, rfl, rfl, rfl, rfl, rfl, rfl⟩ := h hj0
    subst hj0
    obtain ⟨y, h1, h2⟩ := p_count hr hS (xs (3 * 0 + 2 + 1))
    exact ⟨_, rfl, y, h1, h2, (fun h => absurd h (Nat.succ_ne_zero _))⟩
  · intro j x_markCame x_rejectedStreams s_allRows s_allColumns s_rows s_columns s_size s_fields s_cursor s_n s_cells n_latestKey w_length w_n w_bytes k_isLocked k_inserts h_spoiled h_position h_place h_signJustPut h_ordersDone h_alarms g_length g_n g_bytes m_allRows m_allColumns m_rows m_columns m_cells m_cursor m_locked m_insert m_alarms m_rejects m_latest m_thrown m_streamLong m_at m_place m_orders m_escaped m_broken m_signBefore m_free m_waitsLong m_cutOff m_screen m_stream m_waits hj h
    exact (fun h => absurd h (Nat.succ_ne_zero _))
