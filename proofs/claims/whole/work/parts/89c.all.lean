/-! every call keeps the relation, and answers alike -/
def RR (N : Nat) (σ τ : xS) : Prop := Rtape σ τ ∧ Rfault σ τ ∧ Rform σ τ ∧ Rdraw N σ τ ∧ Rwear σ τ ∧ Rord σ τ ∧ Rrow σ τ ∧ Rcast σ τ ∧ wds τ ∧ no2 σ
theorem s_0 {N : Nat} (hN : 100000 < N) (hN2 : N < 1000000000) : ∀ (a0 a1 a2 a3 a4 : Int32) (σX σM : xS), RR N σX σM → ∃ (r : Int32) (σX' σM' : xS), cw_feed N a0 a1 a2 a3 a4 σX = some (r, σX') ∧ m_feed N a0 a1 a2 a3 a4 σM = some (r, σM') ∧ RR N σX' σM' := by
  intro a0 a1 a2 a3 a4 σ τ h
  obtain ⟨h1, h2, h3, h4, h5, h6, h7, h8, h9, h10⟩ := id h
  obtain ⟨r, σ1, τ1, x, m, g⟩ := sim_feed (N := N) (by omega) a0 a1 a2 a3 a4 h1
  have fx := f_cw_feed x
  have fm := f_m_feed m
  exact ⟨r, σ1, τ1, x, m, g, Rfault_fr h2 fx fm (by decide) (by decide), Rform_fr h3 fx fm (by decide) (by decide) (by decide) (by decide), Rdraw_fr h4 fx fm (by decide) (by decide) (by decide) (by decide), Rwear_fr h5 fx fm (by decide) (by decide) (by decide) (by decide), Rord_fr h6 fx fm (by decide) (by decide) (by decide) (by decide), Rrow_fr h7 fx fm (by decide) (by decide) (by decide) (by decide), Rcast_fr h8 fx fm (by decide) (by decide) (by decide) (by decide), wds_fr h9 fm (by decide), no2_fr h10 fx (by decide)⟩
theorem s_1 {N : Nat} (hN : 100000 < N) (hN2 : N < 1000000000) : ∀ (a0 : Int32) (σX σM : xS), RR N σX σM → ∃ (r : Int32) (σX' σM' : xS), cw_end N a0 σX = some (r, σX') ∧ m_end N a0 σM = some (r, σM') ∧ RR N σX' σM' := by
  intro a0 σ τ h
  obtain ⟨h1, h2, h3, h4, h5, h6, h7, h8, h9, h10⟩ := id h
  obtain ⟨r, σ1, τ1, x, m, g⟩ := sim_end (N := N) a0 h1
  have fx := f_cw_end x
  have fm := f_m_end m
  exact ⟨r, σ1, τ1, x, m, g, Rfault_fr h2 fx fm (by decide) (by decide), Rform_fr h3 fx fm (by decide) (by decide) (by decide) (by decide), Rdraw_fr h4 fx fm (by decide) (by decide) (by decide) (by decide), Rwear_fr h5 fx fm (by decide) (by decide) (by decide) (by decide), Rord_fr h6 fx fm (by decide) (by decide) (by decide) (by decide), Rrow_fr h7 fx fm (by decide) (by decide) (by decide) (by decide), Rcast_fr h8 fx fm (by decide) (by decide) (by decide) (by decide), wds_fr h9 fm (by decide), no2_fr h10 fx (by decide)⟩
theorem s_2 {N : Nat} (hN : 100000 < N) (hN2 : N < 1000000000) : ∀ (a0 a1 a2 : Int32) (σX σM : xS), RR N σX σM → ∃ (r : Int32) (σX' σM' : xS), cw_form N a0 a1 a2 σX = some (r, σX') ∧ m_form N a0 a1 a2 σM = some (r, σM') ∧ RR N σX' σM' := by
  intro a0 a1 a2 σ τ h
  obtain ⟨h1, h2, h3, h4, h5, h6, h7, h8, h9, h10⟩ := id h
  obtain ⟨r, σ1, τ1, x, m, g⟩ := sim_form (N := N) (by omega) a0 a1 a2 h1 h9
  rcases g with ⟨rfl, rfl⟩ | ⟨g1, g2, fx, fm⟩ | ⟨g1, g2, g3, g4, g5, g6⟩
  · exact ⟨r, _, _, x, m, h⟩
  · exact ⟨r, σ1, τ1, x, m, g1, g2, Rform_fr h3 fx fm (by decide) (by decide) (by decide) (by decide), Rdraw_fr h4 fx fm (by decide) (by decide) (by decide) (by decide), Rwear_fr h5 fx fm (by decide) (by decide) (by decide) (by decide), Rord_fr h6 fx fm (by decide) (by decide) (by decide) (by decide), Rrow_fr h7 fx fm (by decide) (by decide) (by decide) (by decide), Rcast_fr h8 fx fm (by decide) (by decide) (by decide) (by decide), wds_fr h9 fm (by decide), no2_fr h10 fx (by decide)⟩
  · have fx := f_cw_form x
    have fm := f_m_form m
    obtain ⟨n0, sz, tc, po, life, price, ok, hx, hm, hp⟩ := h5
    have nw : Rwear σ1 τ1 := ⟨0, fun _ => 0, fun _ => 0, fun _ => 0, life, price, ⟨by omega, fun p hp => absurd hp (Nat.not_lt_zero p), ok.2.2⟩, ⟨g4, by rw [fx.1 12 (by decide)]; exact hx.2.1, by rw [fx.1 13 (by decide)]; exact hx.2.2.1, fun p hp => absurd hp (Nat.not_lt_zero p)⟩, ⟨by rw [if_pos rfl]; exact g6, fun q => absurd q (Nat.lt_irrefl 0), by rw [fm.1 19 (by decide)]; exact hm.2.2.1, by rw [fm.1 20 (by decide)]; exact hm.2.2.2.1, fun p hp => absurd hp (Nat.not_lt_zero p)⟩, fun p hp => absurd hp (Nat.not_lt_zero p)⟩
    exact ⟨r, σ1, τ1, x, m, g1, g2, g3, Or.inl ⟨g5, g4, g6⟩, nw, Rord_fr h6 fx fm (by decide) (by decide) (by decide) (by decide), Rrow_fr h7 fx fm (by decide) (by decide) (by decide) (by decide), Rcast_fr h8 fx fm (by decide) (by decide) (by decide) (by decide), wds_fr h9 fm (by decide), no2_fr h10 fx (by decide)⟩
theorem s_3 {N : Nat} (hN : 100000 < N) (hN2 : N < 1000000000) : ∀ (a0 : Int32) (σX σM : xS), RR N σX σM → ∃ (r : Int32) (σX' σM' : xS), cw_fault N a0 σX = some (r, σX') ∧ m_fault N a0 σM = some (r, σM') ∧ RR N σX' σM' := by
  intro a0 σ τ h
  obtain ⟨h1, h2, h3, h4, h5, h6, h7, h8, h9, h10⟩ := id h
  obtain ⟨r, σ1, τ1, x, m, g⟩ := sim_fault (N := N) a0 h2
  have fx := f_cw_fault x
  have fm := f_m_fault m
  exact ⟨r, σ1, τ1, x, m, Rtape_fr h1 fx fm (by decide) (by decide) (by decide) (by decide), g, Rform_fr h3 fx fm (by decide) (by decide) (by decide) (by decide), Rdraw_fr h4 fx fm (by decide) (by decide) (by decide) (by decide), Rwear_fr h5 fx fm (by decide) (by decide) (by decide) (by decide), Rord_fr h6 fx fm (by decide) (by decide) (by decide) (by decide), Rrow_fr h7 fx fm (by decide) (by decide) (by decide) (by decide), Rcast_fr h8 fx fm (by decide) (by decide) (by decide) (by decide), wds_fr h9 fm (by decide), no2_fr h10 fx (by decide)⟩
theorem s_4 {N : Nat} (hN : 100000 < N) (hN2 : N < 1000000000) : ∀ (a0 a1 a2 : Int32) (σX σM : xS), RR N σX σM → ∃ (r : Int32) (σX' σM' : xS), cw_solid N a0 a1 a2 σX = some (r, σX') ∧ m_solid N a0 a1 a2 σM = some (r, σM') ∧ RR N σX' σM' := by
  intro a0 a1 a2 σ τ h
  obtain ⟨h1, h2, h3, h4, h5, h6, h7, h8, h9, h10⟩ := id h
  obtain ⟨r, x, m⟩ := sim_solid (N := N) a0 a1 a2 h3
  exact ⟨r, σ, τ, x, m, h⟩
theorem s_5 {N : Nat} (hN : 100000 < N) (hN2 : N < 1000000000) : ∀ (a0 a1 a2 : Int32) (σX σM : xS), RR N σX σM → ∃ (r : Int32) (σX' σM' : xS), cw_free N a0 a1 a2 σX = some (r, σX') ∧ m_free N a0 a1 a2 σM = some (r, σM') ∧ RR N σX' σM' := by
  intro a0 a1 a2 σ τ h
  obtain ⟨h1, h2, h3, h4, h5, h6, h7, h8, h9, h10⟩ := id h
  obtain ⟨r, x, m⟩ := sim_free (N := N) a0 a1 a2 h3
  exact ⟨r, σ, τ, x, m, h⟩
theorem s_6 {N : Nat} (hN : 100000 < N) (hN2 : N < 1000000000) : ∀ (σX σM : xS), RR N σX σM → ∃ (r : Int32) (σX' σM' : xS), cw_shut N σX = some (r, σX') ∧ m_shut N σM = some (r, σM') ∧ RR N σX' σM' := by
  intro σ τ h
  obtain ⟨h1, h2, h3, h4, h5, h6, h7, h8, h9, h10⟩ := id h
  obtain ⟨r, x, m⟩ := sim_shut (N := N) (by omega) h3
  exact ⟨r, σ, τ, x, m, h⟩
theorem s_7 {N : Nat} (hN : 100000 < N) (hN2 : N < 1000000000) : ∀ (σX σM : xS), RR N σX σM → ∃ (r : Int32) (σX' σM' : xS), cw_draw N σX = some (r, σX') ∧ m_draw N σM = some (r, σM') ∧ RR N σX' σM' := by
  intro σ τ h
  obtain ⟨h1, h2, h3, h4, h5, h6, h7, h8, h9, h10⟩ := id h
  obtain ⟨r, σ1, τ1, x, m, g1, g2, g3⟩ := sim_draw (N := N) hN h3 h4 h5 h10
  have fx := f_cw_draw x
  have fm := f_m_draw m
  exact ⟨r, σ1, τ1, x, m, Rtape_fr h1 fx fm (by decide) (by decide) (by decide) (by decide), Rfault_fr h2 fx fm (by decide) (by decide), Rform_fr h3 fx fm (by decide) (by decide) (by decide) (by decide), g1, g2, Rord_fr h6 fx fm (by decide) (by decide) (by decide) (by decide), Rrow_fr h7 fx fm (by decide) (by decide) (by decide) (by decide), Rcast_fr h8 fx fm (by decide) (by decide) (by decide) (by decide), wds_fr h9 fm (by decide), g3⟩
theorem s_8 {N : Nat} (hN : 100000 < N) (hN2 : N < 1000000000) : ∀ (a0 : Int32) (σX σM : xS), RR N σX σM → ∃ (r : Int32) (σX' σM' : xS), cw_way N a0 σX = some (r, σX') ∧ m_way N a0 σM = some (r, σM') ∧ RR N σX' σM' := by
  intro a0 σ τ h
  obtain ⟨h1, h2, h3, h4, h5, h6, h7, h8, h9, h10⟩ := id h
  obtain ⟨r, x, m⟩ := sim_way (N := N) a0 h4
  exact ⟨r, σ, τ, x, m, h⟩
theorem s_9 {N : Nat} (hN : 100000 < N) (hN2 : N < 1000000000) : ∀ (a0 a1 a2 : Int32) (σX σM : xS), RR N σX σM → ∃ (r : Int32) (σX' σM' : xS), cw_pieceAt N a0 a1 a2 σX = some (r, σX') ∧ m_pieceAt N a0 a1 a2 σM = some (r, σM') ∧ RR N σX' σM' := by
  intro a0 a1 a2 σ τ h
  obtain ⟨h1, h2, h3, h4, h5, h6, h7, h8, h9, h10⟩ := id h
  obtain ⟨r, x, m⟩ := sim_pieceAt (N := N) a0 a1 a2 h3 h4
  exact ⟨r, σ, τ, x, m, h⟩
theorem s_10 {N : Nat} (hN : 100000 < N) (hN2 : N < 1000000000) : ∀ (a0 a1 : Int32) (σX σM : xS), RR N σX σM → ∃ (r : Int32) (σX' σM' : xS), cw_piece N a0 a1 σX = some (r, σX') ∧ m_piece N a0 a1 σM = some (r, σM') ∧ RR N σX' σM' := by
  intro a0 a1 σ τ h
  obtain ⟨h1, h2, h3, h4, h5, h6, h7, h8, h9, h10⟩ := id h
  obtain ⟨r, σ1, τ1, x, m, g⟩ := sim_piece (N := N) a0 a1 h5
  have fx := f_cw_piece x
  have fm := f_m_piece m
  exact ⟨r, σ1, τ1, x, m, Rtape_fr h1 fx fm (by decide) (by decide) (by decide) (by decide), Rfault_fr h2 fx fm (by decide) (by decide), Rform_fr h3 fx fm (by decide) (by decide) (by decide) (by decide), Rdraw_fr h4 fx fm (by decide) (by decide) (by decide) (by decide), g, Rord_fr h6 fx fm (by decide) (by decide) (by decide) (by decide), Rrow_fr h7 fx fm (by decide) (by decide) (by decide) (by decide), Rcast_fr h8 fx fm (by decide) (by decide) (by decide) (by decide), wds_fr h9 fm (by decide), no2_fr h10 fx (by decide)⟩
theorem s_11 {N : Nat} (hN : 100000 < N) (hN2 : N < 1000000000) : ∀ (a0 a1 : Int32) (σX σM : xS), RR N σX σM → ∃ (r : Int32) (σX' σM' : xS), cw_wear N a0 a1 σX = some (r, σX') ∧ m_wear N a0 a1 σM = some (r, σM') ∧ RR N σX' σM' := by
  intro a0 a1 σ τ h
  obtain ⟨h1, h2, h3, h4, h5, h6, h7, h8, h9, h10⟩ := id h
  obtain ⟨r, σ1, τ1, x, m, g⟩ := sim_wear (N := N) a0 a1 h5
  have fx := f_cw_wear x
  have fm := f_m_wear m
  exact ⟨r, σ1, τ1, x, m, Rtape_fr h1 fx fm (by decide) (by decide) (by decide) (by decide), Rfault_fr h2 fx fm (by decide) (by decide), Rform_fr h3 fx fm (by decide) (by decide) (by decide) (by decide), Rdraw_fr h4 fx fm (by decide) (by decide) (by decide) (by decide), g, Rord_fr h6 fx fm (by decide) (by decide) (by decide) (by decide), Rrow_fr h7 fx fm (by decide) (by decide) (by decide) (by decide), Rcast_fr h8 fx fm (by decide) (by decide) (by decide) (by decide), wds_fr h9 fm (by decide), no2_fr h10 fx (by decide)⟩
theorem s_12 {N : Nat} (hN : 100000 < N) (hN2 : N < 1000000000) : ∀ (a0 : Int32) (σX σM : xS), RR N σX σM → ∃ (r : Int32) (σX' σM' : xS), cw_pour N a0 σX = some (r, σX') ∧ m_pour N a0 σM = some (r, σM') ∧ RR N σX' σM' := by
  intro a0 σ τ h
  obtain ⟨h1, h2, h3, h4, h5, h6, h7, h8, h9, h10⟩ := id h
  obtain ⟨r, σ1, τ1, x, m, g⟩ := sim_pour (N := N) (by omega) a0 h5
  have fx := f_cw_pour x
  have fm := f_m_pour m
  exact ⟨r, σ1, τ1, x, m, Rtape_fr h1 fx fm (by decide) (by decide) (by decide) (by decide), Rfault_fr h2 fx fm (by decide) (by decide), Rform_fr h3 fx fm (by decide) (by decide) (by decide) (by decide), Rdraw_fr h4 fx fm (by decide) (by decide) (by decide) (by decide), g, Rord_fr h6 fx fm (by decide) (by decide) (by decide) (by decide), Rrow_fr h7 fx fm (by decide) (by decide) (by decide) (by decide), Rcast_fr h8 fx fm (by decide) (by decide) (by decide) (by decide), wds_fr h9 fm (by decide), no2_fr h10 fx (by decide)⟩
theorem s_13 {N : Nat} (hN : 100000 < N) (hN2 : N < 1000000000) : ∀ (a0 : Int32) (σX σM : xS), RR N σX σM → ∃ (r : Int32) (σX' σM' : xS), cw_mend N a0 σX = some (r, σX') ∧ m_mend N a0 σM = some (r, σM') ∧ RR N σX' σM' := by
  intro a0 σ τ h
  obtain ⟨h1, h2, h3, h4, h5, h6, h7, h8, h9, h10⟩ := id h
  obtain ⟨r, σ1, τ1, x, m, g⟩ := sim_mend (N := N) a0 h5
  have fx := f_cw_mend x
  have fm := f_m_mend m
  exact ⟨r, σ1, τ1, x, m, Rtape_fr h1 fx fm (by decide) (by decide) (by decide) (by decide), Rfault_fr h2 fx fm (by decide) (by decide), Rform_fr h3 fx fm (by decide) (by decide) (by decide) (by decide), Rdraw_fr h4 fx fm (by decide) (by decide) (by decide) (by decide), g, Rord_fr h6 fx fm (by decide) (by decide) (by decide) (by decide), Rrow_fr h7 fx fm (by decide) (by decide) (by decide) (by decide), Rcast_fr h8 fx fm (by decide) (by decide) (by decide) (by decide), wds_fr h9 fm (by decide), no2_fr h10 fx (by decide)⟩
theorem s_14 {N : Nat} (hN : 100000 < N) (hN2 : N < 1000000000) : ∀ (a0 : Int32) (σX σM : xS), RR N σX σM → ∃ (r : Int32) (σX' σM' : xS), cw_run N a0 σX = some (r, σX') ∧ m_run N a0 σM = some (r, σM') ∧ RR N σX' σM' := by
  intro a0 σ τ h
  obtain ⟨h1, h2, h3, h4, h5, h6, h7, h8, h9, h10⟩ := id h
  obtain ⟨r, σ1, τ1, x, m, g⟩ := sim_run (N := N) (by omega) a0 h5
  have fx := f_cw_run x
  have fm := f_m_run m
  exact ⟨r, σ1, τ1, x, m, Rtape_fr h1 fx fm (by decide) (by decide) (by decide) (by decide), Rfault_fr h2 fx fm (by decide) (by decide), Rform_fr h3 fx fm (by decide) (by decide) (by decide) (by decide), Rdraw_fr h4 fx fm (by decide) (by decide) (by decide) (by decide), g, Rord_fr h6 fx fm (by decide) (by decide) (by decide) (by decide), Rrow_fr h7 fx fm (by decide) (by decide) (by decide) (by decide), Rcast_fr h8 fx fm (by decide) (by decide) (by decide) (by decide), wds_fr h9 fm (by decide), no2_fr h10 fx (by decide)⟩
theorem s_15 {N : Nat} (hN : 100000 < N) (hN2 : N < 1000000000) : ∀ (a0 : Int32) (σX σM : xS), RR N σX σM → ∃ (r : Int32) (σX' σM' : xS), cw_dry N a0 σX = some (r, σX') ∧ m_dry N a0 σM = some (r, σM') ∧ RR N σX' σM' := by
  intro a0 σ τ h
  obtain ⟨h1, h2, h3, h4, h5, h6, h7, h8, h9, h10⟩ := id h
  obtain ⟨r, σ1, τ1, x, m, g⟩ := sim_dry (N := N) a0 h6
  have fx := f_cw_dry x
  have fm := f_m_dry m
  exact ⟨r, σ1, τ1, x, m, Rtape_fr h1 fx fm (by decide) (by decide) (by decide) (by decide), Rfault_fr h2 fx fm (by decide) (by decide), Rform_fr h3 fx fm (by decide) (by decide) (by decide) (by decide), Rdraw_fr h4 fx fm (by decide) (by decide) (by decide) (by decide), Rwear_fr h5 fx fm (by decide) (by decide) (by decide) (by decide), g, Rrow_fr h7 fx fm (by decide) (by decide) (by decide) (by decide), Rcast_fr h8 fx fm (by decide) (by decide) (by decide) (by decide), wds_fr h9 fm (by decide), no2_fr h10 fx (by decide)⟩
theorem s_16 {N : Nat} (hN : 100000 < N) (hN2 : N < 1000000000) : ∀ (a0 a1 a2 : Int32) (σX σM : xS), RR N σX σM → ∃ (r : Int32) (σX' σM' : xS), cw_order N a0 a1 a2 σX = some (r, σX') ∧ m_order N a0 a1 a2 σM = some (r, σM') ∧ RR N σX' σM' := by
  intro a0 a1 a2 σ τ h
  obtain ⟨h1, h2, h3, h4, h5, h6, h7, h8, h9, h10⟩ := id h
  obtain ⟨r, σ1, τ1, x, m, g⟩ := sim_order (N := N) (by omega) a0 a1 a2 h6
  have fx := f_cw_order x
  have fm := f_m_order m
  exact ⟨r, σ1, τ1, x, m, Rtape_fr h1 fx fm (by decide) (by decide) (by decide) (by decide), Rfault_fr h2 fx fm (by decide) (by decide), Rform_fr h3 fx fm (by decide) (by decide) (by decide) (by decide), Rdraw_fr h4 fx fm (by decide) (by decide) (by decide) (by decide), Rwear_fr h5 fx fm (by decide) (by decide) (by decide) (by decide), g, Rrow_fr h7 fx fm (by decide) (by decide) (by decide) (by decide), Rcast_fr h8 fx fm (by decide) (by decide) (by decide) (by decide), wds_fr h9 fm (by decide), no2_fr h10 fx (by decide)⟩
theorem s_17 {N : Nat} (hN : 100000 < N) (hN2 : N < 1000000000) : ∀ (a0 : Int32) (σX σM : xS), RR N σX σM → ∃ (r : Int32) (σX' σM' : xS), cw_cancel N a0 σX = some (r, σX') ∧ m_cancel N a0 σM = some (r, σM') ∧ RR N σX' σM' := by
  intro a0 σ τ h
  obtain ⟨h1, h2, h3, h4, h5, h6, h7, h8, h9, h10⟩ := id h
  obtain ⟨r, σ1, τ1, x, m, g⟩ := sim_cancel (N := N) a0 h6
  have fx := f_cw_cancel x
  have fm := f_m_cancel m
  exact ⟨r, σ1, τ1, x, m, Rtape_fr h1 fx fm (by decide) (by decide) (by decide) (by decide), Rfault_fr h2 fx fm (by decide) (by decide), Rform_fr h3 fx fm (by decide) (by decide) (by decide) (by decide), Rdraw_fr h4 fx fm (by decide) (by decide) (by decide) (by decide), Rwear_fr h5 fx fm (by decide) (by decide) (by decide) (by decide), g, Rrow_fr h7 fx fm (by decide) (by decide) (by decide) (by decide), Rcast_fr h8 fx fm (by decide) (by decide) (by decide) (by decide), wds_fr h9 fm (by decide), no2_fr h10 fx (by decide)⟩
theorem s_18 {N : Nat} (hN : 100000 < N) (hN2 : N < 1000000000) : ∀ (σX σM : xS), RR N σX σM → ∃ (r : Int32) (σX' σM' : xS), cw_row N σX = some (r, σX') ∧ m_row N σM = some (r, σM') ∧ RR N σX' σM' := by
  intro σ τ h
  obtain ⟨h1, h2, h3, h4, h5, h6, h7, h8, h9, h10⟩ := id h
  obtain ⟨r, σ1, τ1, x, m, g1, g2⟩ := sim_row (N := N) (by omega) h6 h7
  have fx := f_cw_row x
  have fm := f_m_row m
  exact ⟨r, σ1, τ1, x, m, Rtape_fr h1 fx fm (by decide) (by decide) (by decide) (by decide), Rfault_fr h2 fx fm (by decide) (by decide), Rform_fr h3 fx fm (by decide) (by decide) (by decide) (by decide), Rdraw_fr h4 fx fm (by decide) (by decide) (by decide) (by decide), Rwear_fr h5 fx fm (by decide) (by decide) (by decide) (by decide), g1, g2, Rcast_fr h8 fx fm (by decide) (by decide) (by decide) (by decide), wds_fr h9 fm (by decide), no2_fr h10 fx (by decide)⟩
theorem s_19 {N : Nat} (hN : 100000 < N) (hN2 : N < 1000000000) : ∀ (a0 : Int32) (σX σM : xS), RR N σX σM → ∃ (r : Int32) (σX' σM' : xS), cw_next N a0 σX = some (r, σX') ∧ m_next_ N a0 σM = some (r, σM') ∧ RR N σX' σM' := by
  intro a0 σ τ h
  obtain ⟨h1, h2, h3, h4, h5, h6, h7, h8, h9, h10⟩ := id h
  obtain ⟨r, σ1, τ1, x, m, g⟩ := sim_next (N := N) a0 h7
  have fx := f_cw_next x
  have fm := f_m_next_ m
  exact ⟨r, σ1, τ1, x, m, Rtape_fr h1 fx fm (by decide) (by decide) (by decide) (by decide), Rfault_fr h2 fx fm (by decide) (by decide), Rform_fr h3 fx fm (by decide) (by decide) (by decide) (by decide), Rdraw_fr h4 fx fm (by decide) (by decide) (by decide) (by decide), Rwear_fr h5 fx fm (by decide) (by decide) (by decide) (by decide), Rord_fr h6 fx fm (by decide) (by decide) (by decide) (by decide), g, Rcast_fr h8 fx fm (by decide) (by decide) (by decide) (by decide), wds_fr h9 fm (by decide), no2_fr h10 fx (by decide)⟩
theorem s_20 {N : Nat} (hN : 100000 < N) (hN2 : N < 1000000000) : ∀ (a0 : Int32) (σX σM : xS), RR N σX σM → ∃ (r : Int32) (σX' σM' : xS), cw_late N a0 σX = some (r, σX') ∧ m_late N a0 σM = some (r, σM') ∧ RR N σX' σM' := by
  intro a0 σ τ h
  obtain ⟨h1, h2, h3, h4, h5, h6, h7, h8, h9, h10⟩ := id h
  obtain ⟨r, σ1, τ1, x, m, g⟩ := sim_late (N := N) a0 h7
  have fx := f_cw_late x
  have fm := f_m_late m
  exact ⟨r, σ1, τ1, x, m, Rtape_fr h1 fx fm (by decide) (by decide) (by decide) (by decide), Rfault_fr h2 fx fm (by decide) (by decide), Rform_fr h3 fx fm (by decide) (by decide) (by decide) (by decide), Rdraw_fr h4 fx fm (by decide) (by decide) (by decide) (by decide), Rwear_fr h5 fx fm (by decide) (by decide) (by decide) (by decide), Rord_fr h6 fx fm (by decide) (by decide) (by decide) (by decide), g, Rcast_fr h8 fx fm (by decide) (by decide) (by decide) (by decide), wds_fr h9 fm (by decide), no2_fr h10 fx (by decide)⟩
theorem s_21 {N : Nat} (hN : 100000 < N) (hN2 : N < 1000000000) : ∀ (a0 a1 a2 : Int32) (σX σM : xS), RR N σX σM → ∃ (r : Int32) (σX' σM' : xS), cw_cast N a0 a1 a2 σX = some (r, σX') ∧ m_cast N a0 a1 a2 σM = some (r, σM') ∧ RR N σX' σM' := by
  intro a0 a1 a2 σ τ h
  obtain ⟨h1, h2, h3, h4, h5, h6, h7, h8, h9, h10⟩ := id h
  obtain ⟨r, σ1, τ1, x, m, g⟩ := sim_cast (N := N) a0 a1 a2 h8
  have fx := f_cw_cast x
  have fm := f_m_cast m
  exact ⟨r, σ1, τ1, x, m, Rtape_fr h1 fx fm (by decide) (by decide) (by decide) (by decide), Rfault_fr h2 fx fm (by decide) (by decide), Rform_fr h3 fx fm (by decide) (by decide) (by decide) (by decide), Rdraw_fr h4 fx fm (by decide) (by decide) (by decide) (by decide), Rwear_fr h5 fx fm (by decide) (by decide) (by decide) (by decide), Rord_fr h6 fx fm (by decide) (by decide) (by decide) (by decide), Rrow_fr h7 fx fm (by decide) (by decide) (by decide) (by decide), g, wds_fr h9 fm (by decide), no2_fr h10 fx (by decide)⟩
theorem s_22 {N : Nat} (hN : 100000 < N) (hN2 : N < 1000000000) : ∀ (a0 a1 a2 : Int32) (σX σM : xS), RR N σX σM → ∃ (r : Int32) (σX' σM' : xS), cw_copies N a0 a1 a2 σX = some (r, σX') ∧ m_copies N a0 a1 a2 σM = some (r, σM') ∧ RR N σX' σM' := by
  intro a0 a1 a2 σ τ h
  obtain ⟨h1, h2, h3, h4, h5, h6, h7, h8, h9, h10⟩ := id h
  obtain ⟨r, σ1, τ1, x, m, g⟩ := sim_copies (N := N) a0 a1 a2 h8
  have fx := f_cw_copies x
  have fm := f_m_copies m
  exact ⟨r, σ1, τ1, x, m, Rtape_fr h1 fx fm (by decide) (by decide) (by decide) (by decide), Rfault_fr h2 fx fm (by decide) (by decide), Rform_fr h3 fx fm (by decide) (by decide) (by decide) (by decide), Rdraw_fr h4 fx fm (by decide) (by decide) (by decide) (by decide), Rwear_fr h5 fx fm (by decide) (by decide) (by decide) (by decide), Rord_fr h6 fx fm (by decide) (by decide) (by decide) (by decide), Rrow_fr h7 fx fm (by decide) (by decide) (by decide) (by decide), g, wds_fr h9 fm (by decide), no2_fr h10 fx (by decide)⟩
theorem s_23 {N : Nat} (hN : 100000 < N) (hN2 : N < 1000000000) : ∀ (a0 : Int32) (σX σM : xS), RR N σX σM → ∃ (r : Int32) (σX' σM' : xS), cw_mother N a0 σX = some (r, σX') ∧ m_mother N a0 σM = some (r, σM') ∧ RR N σX' σM' := by
  intro a0 σ τ h
  obtain ⟨h1, h2, h3, h4, h5, h6, h7, h8, h9, h10⟩ := id h
  obtain ⟨r, σ1, τ1, x, m, g⟩ := sim_mother (N := N) (by omega) a0 h8
  have fx := f_cw_mother x
  have fm := f_m_mother m
  exact ⟨r, σ1, τ1, x, m, Rtape_fr h1 fx fm (by decide) (by decide) (by decide) (by decide), Rfault_fr h2 fx fm (by decide) (by decide), Rform_fr h3 fx fm (by decide) (by decide) (by decide) (by decide), Rdraw_fr h4 fx fm (by decide) (by decide) (by decide) (by decide), Rwear_fr h5 fx fm (by decide) (by decide) (by decide) (by decide), Rord_fr h6 fx fm (by decide) (by decide) (by decide) (by decide), Rrow_fr h7 fx fm (by decide) (by decide) (by decide) (by decide), g, wds_fr h9 fm (by decide), no2_fr h10 fx (by decide)⟩
theorem s_24 {N : Nat} (hN : 100000 < N) (hN2 : N < 1000000000) : ∀ (a0 : Int32) (σX σM : xS), RR N σX σM → ∃ (r : Int32) (σX' σM' : xS), cw_steps N a0 σX = some (r, σX') ∧ m_steps N a0 σM = some (r, σM') ∧ RR N σX' σM' := by
  intro a0 σ τ h
  obtain ⟨h1, h2, h3, h4, h5, h6, h7, h8, h9, h10⟩ := id h
  obtain ⟨r, σ1, τ1, x, m, g⟩ := sim_steps (N := N) (by omega) hN2 a0 h8
  have fx := f_cw_steps x
  have fm := f_m_steps m
  exact ⟨r, σ1, τ1, x, m, Rtape_fr h1 fx fm (by decide) (by decide) (by decide) (by decide), Rfault_fr h2 fx fm (by decide) (by decide), Rform_fr h3 fx fm (by decide) (by decide) (by decide) (by decide), Rdraw_fr h4 fx fm (by decide) (by decide) (by decide) (by decide), Rwear_fr h5 fx fm (by decide) (by decide) (by decide) (by decide), Rord_fr h6 fx fm (by decide) (by decide) (by decide) (by decide), Rrow_fr h7 fx fm (by decide) (by decide) (by decide) (by decide), g, wds_fr h9 fm (by decide), no2_fr h10 fx (by decide)⟩
theorem s_25 {N : Nat} (hN : 100000 < N) (hN2 : N < 1000000000) : ∀ (a0 : Int32) (σX σM : xS), RR N σX σM → ∃ (r : Int32) (σX' σM' : xS), cw_told N a0 σX = some (r, σX') ∧ m_told N a0 σM = some (r, σM') ∧ RR N σX' σM' := by
  intro a0 σ τ h
  obtain ⟨h1, h2, h3, h4, h5, h6, h7, h8, h9, h10⟩ := id h
  obtain ⟨r, σ1, τ1, x, m, g⟩ := sim_told (N := N) (by omega) a0 h8
  have fx := f_cw_told x
  have fm := f_m_told m
  exact ⟨r, σ1, τ1, x, m, Rtape_fr h1 fx fm (by decide) (by decide) (by decide) (by decide), Rfault_fr h2 fx fm (by decide) (by decide), Rform_fr h3 fx fm (by decide) (by decide) (by decide) (by decide), Rdraw_fr h4 fx fm (by decide) (by decide) (by decide) (by decide), Rwear_fr h5 fx fm (by decide) (by decide) (by decide) (by decide), Rord_fr h6 fx fm (by decide) (by decide) (by decide) (by decide), Rrow_fr h7 fx fm (by decide) (by decide) (by decide) (by decide), g, wds_fr h9 fm (by decide), no2_fr h10 fx (by decide)⟩
theorem sim_ok {N : Nat} (hN : 100000 < N) (hN2 : N < 1000000000) : simOk N (RR N) := fun j => match j with
  | 0 => s_0 hN hN2
  | 1 => s_1 hN hN2
  | 2 => s_2 hN hN2
  | 3 => s_3 hN hN2
  | 4 => s_4 hN hN2
  | 5 => s_5 hN hN2
  | 6 => s_6 hN hN2
  | 7 => s_7 hN hN2
  | 8 => s_8 hN hN2
  | 9 => s_9 hN hN2
  | 10 => s_10 hN hN2
  | 11 => s_11 hN hN2
  | 12 => s_12 hN hN2
  | 13 => s_13 hN hN2
  | 14 => s_14 hN hN2
  | 15 => s_15 hN hN2
  | 16 => s_16 hN hN2
  | 17 => s_17 hN hN2
  | 18 => s_18 hN hN2
  | 19 => s_19 hN hN2
  | 20 => s_20 hN hN2
  | 21 => s_21 hN hN2
  | 22 => s_22 hN hN2
  | 23 => s_23 hN hN2
  | 24 => s_24 hN hN2
  | 25 => s_25 hN hN2
  | _ + 26 => trivial
theorem wds_0 : wds m0 := by
  unfold wds
  decide +kernel
theorem sim_0 (N : Nat) : RR N x0 m0 := by
  refine ⟨⟨0, by omega, rfl, rfl, fun i hi => absurd hi (Nat.not_lt_zero i)⟩, ⟨rfl, rfl⟩, Or.inl ⟨rfl, rfl⟩, Or.inl ⟨rfl, rfl, rfl⟩, ⟨0, fun _ => 0, fun _ => 0, fun _ => 0, 20, 1, ⟨by omega, fun p hp => absurd hp (Nat.not_lt_zero p), by omega, by omega, by omega, by omega⟩, ⟨rfl, rfl, rfl, fun p hp => absurd hp (Nat.not_lt_zero p)⟩, ⟨rfl, fun q => absurd q (Nat.lt_irrefl 0), rfl, rfl, fun p hp => absurd hp (Nat.not_lt_zero p)⟩, fun p hp => absurd hp (Nat.not_lt_zero p)⟩, ⟨(fun _ => 0, fun _ => 0, fun _ => 0, 2), ⟨fun o _ => ⟨Int.le_refl 0, by show (0 : Int) ≤ 50; omega, fun q => absurd q (Int.lt_irrefl 0)⟩, by show (0 : Int) ≤ 2; omega, by show (2 : Int) ≤ 100; omega⟩, ⟨fun o _ => ⟨rfl, fun q => absurd q (Int.lt_irrefl 0)⟩, rfl⟩, ⟨fun o _ => ⟨rfl, fun q => absurd q (Int.lt_irrefl 0)⟩, rfl⟩⟩, ⟨0, by omega, rfl, rfl, fun i hi => absurd hi (Nat.not_lt_zero i)⟩, ⟨(fun _ => 0, fun _ => 0, 990, 950, 50), ⟨fun c _ => ⟨Int.le_refl 0, by show (0 : Int) ≤ 100000; omega, fun q => absurd q (Int.lt_irrefl 0)⟩, by show (900 : Int) ≤ 990; omega, by show (990 : Int) ≤ 1000; omega, by show (0 : Int) ≤ 950; omega, by show (950 : Int) ≤ 1000; omega, by show (0 : Int) ≤ 50; omega, by show (50 : Int) ≤ 100000; omega⟩, ⟨fun c _ => ⟨rfl, fun q => absurd q (Int.lt_irrefl 0)⟩, rfl, rfl, rfl⟩, ⟨fun c _ => ⟨rfl, fun q => absurd q (Int.lt_irrefl 0)⟩, rfl, rfl, rfl⟩⟩, wds_0, fun e _ => by show (0 : Int32) ≠ iI (-2); decide⟩
theorem sim_all : ∃ (N : Nat) (R : xS → xS → Prop), simOk N R ∧ R x0 m0 := ⟨100001, RR 100001, sim_ok (by omega) (by omega), sim_0 100001⟩
