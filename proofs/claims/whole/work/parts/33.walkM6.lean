set_option maxRecDepth 100000 in
set_option maxHeartbeats 4000000 in
theorem c_m_next_ {l : Launch} {E : mE} {N : Nat} (hG : xOk (GM E)) {l1 : Int32} {σ : xS} {r : Int32} {σ' : xS} (hf : m_next_ N l1 σ = some (r, σ')) : xMet l (GM E) yX10_next_ cX10_next_ 2 (some .int) (k2_rm 0 0) [.ref (E.2.2.1 0), .int l1] σ (some (.int r)) σ' := by
  refine x_met (own := RX10) (by decide +kernel) hG rfl (Nat.le_of_ble_eq_true rfl) (fun C hl hC => ?_)
  subst hl
  show xw C (GM E) 2 (xq C (GM E) (some (.int r)) σ') σ 0 [(0, .ref (E.2.2.1 0)), (1, .int l1)] []
  unfold m_next_ at hf
  refine xr_iload_n (pc' := 1) 1 hC dX10_next__0 rfl rfl rfl ?_
  refine xr_if_lt (pc' := 4) 21 hC dX10_next__1 rfl (by decide) hf (fun hf => ?_) (fun hf => ?_)
  · refine xr_iconst (pc' := 22) (-1 : Int32) hC dX10_next__21 rfl (by decide) ?_
    exact xr_ireturn hC dX10_next__22 hf
  refine xr_iload_n (pc' := 5) 1 hC dX10_next__4 rfl rfl rfl ?_
  refine xr_aload_n (pc' := 6) 0 hC dX10_next__5 rfl rfl rfl ?_
  refine gX10_m_rows (pc' := 9) hC dX10_next__6 rfl ?_
  refine xr_icmp_ge (pc' := 12) 21 hC dX10_next__9 rfl (by decide) hf (fun hf => ?_) (fun hf => ?_)
  · refine xr_iconst (pc' := 22) (-1 : Int32) hC dX10_next__21 rfl (by decide) ?_
    exact xr_ireturn hC dX10_next__22 hf
  refine xr_aload_n (pc' := 13) 0 hC dX10_next__12 rfl rfl rfl ?_
  refine gX10_m_rowOrder (pc' := 16) hC dX10_next__13 rfl ?_
  refine xr_iload_n (pc' := 17) 1 hC dX10_next__16 rfl rfl rfl ?_
  refine lM_23 (pc' := 18) hC dX10_next__17 rfl hf (fun v1 hf => ?_)
  refine xr_goto 22 hC dX10_next__18 (by decide) ?_
  exact xr_ireturn hC dX10_next__22 hf

set_option maxRecDepth 100000 in
set_option maxHeartbeats 4000000 in
theorem c_m_late {l : Launch} {E : mE} {N : Nat} (hG : xOk (GM E)) {l1 : Int32} {σ : xS} {r : Int32} {σ' : xS} (hf : m_late N l1 σ = some (r, σ')) : xMet l (GM E) yX10_late cX10_late 2 (some .int) (k2_rm 0 0) [.ref (E.2.2.1 0), .int l1] σ (some (.int r)) σ' := by
  refine x_met (own := RX10) (by decide +kernel) hG rfl (Nat.le_of_ble_eq_true rfl) (fun C hl hC => ?_)
  subst hl
  show xw C (GM E) 2 (xq C (GM E) (some (.int r)) σ') σ 0 [(0, .ref (E.2.2.1 0)), (1, .int l1)] []
  unfold m_late at hf
  refine xr_iload_n (pc' := 1) 1 hC dX10_late_0 rfl rfl rfl ?_
  refine xr_if_lt (pc' := 4) 21 hC dX10_late_1 rfl (by decide) hf (fun hf => ?_) (fun hf => ?_)
  · refine xr_iconst (pc' := 22) (-1 : Int32) hC dX10_late_21 rfl (by decide) ?_
    exact xr_ireturn hC dX10_late_22 hf
  refine xr_iload_n (pc' := 5) 1 hC dX10_late_4 rfl rfl rfl ?_
  refine xr_aload_n (pc' := 6) 0 hC dX10_late_5 rfl rfl rfl ?_
  refine gX10_m_rows (pc' := 9) hC dX10_late_6 rfl ?_
  refine xr_icmp_ge (pc' := 12) 21 hC dX10_late_9 rfl (by decide) hf (fun hf => ?_) (fun hf => ?_)
  · refine xr_iconst (pc' := 22) (-1 : Int32) hC dX10_late_21 rfl (by decide) ?_
    exact xr_ireturn hC dX10_late_22 hf
  refine xr_aload_n (pc' := 13) 0 hC dX10_late_12 rfl rfl rfl ?_
  refine gX10_m_rowLate (pc' := 16) hC dX10_late_13 rfl ?_
  refine xr_iload_n (pc' := 17) 1 hC dX10_late_16 rfl rfl rfl ?_
  refine lM_24 (pc' := 18) hC dX10_late_17 rfl hf (fun v1 hf => ?_)
  refine xr_goto 22 hC dX10_late_18 (by decide) ?_
  exact xr_ireturn hC dX10_late_22 hf

set_option maxRecDepth 100000 in
set_option maxHeartbeats 4000000 in
theorem c_m_cast {l : Launch} {E : mE} {N : Nat} (hG : xOk (GM E)) {l1 l2 l3 : Int32} {σ : xS} {r : Int32} {σ' : xS} (hf : m_cast N l1 l2 l3 σ = some (r, σ')) : xMet l (GM E) yX10_cast cX10_cast 4 (some .boolean) (k2_rm 1 22) [.ref (E.2.2.1 0), .int l1, .int l2, .int l3] σ (some (.int r)) σ' := by
  refine x_met (own := RX10) (by decide +kernel) hG rfl (Nat.le_of_ble_eq_true rfl) (fun C hl hC => ?_)
  subst hl
  show xw C (GM E) 4 (xq C (GM E) (some (.int r)) σ') σ 0 [(0, .ref (E.2.2.1 0)), (1, .int l1), (2, .int l2), (3, .int l3)] []
  unfold m_cast at hf
  refine xr_iload_n (pc' := 1) 1 hC dX10_cast_0 rfl rfl rfl ?_
  refine xr_if_lt (pc' := 4) 36 hC dX10_cast_1 rfl (by decide) hf (fun hf => ?_) (fun hf => ?_)
  · refine xr_iconst (pc' := 37) (0 : Int32) hC dX10_cast_36 rfl (by decide) ?_
    exact xr_zreturn hC dX10_cast_37 rfl hf
  refine xr_iload_n (pc' := 5) 1 hC dX10_cast_4 rfl rfl rfl ?_
  refine xr_bipush (pc' := 7) (12 : Int32) hC dX10_cast_5 rfl (by decide) ?_
  refine xr_icmp_ge (pc' := 10) 36 hC dX10_cast_7 rfl (by decide) hf (fun hf => ?_) (fun hf => ?_)
  · refine xr_iconst (pc' := 37) (0 : Int32) hC dX10_cast_36 rfl (by decide) ?_
    exact xr_zreturn hC dX10_cast_37 rfl hf
  refine xr_iload_n (pc' := 11) 2 hC dX10_cast_10 rfl rfl rfl ?_
  refine xr_iconst (pc' := 12) (0 : Int32) hC dX10_cast_11 rfl (by decide) ?_
  refine xr_ldc_w (pc' := 15) (100000 : Int32) hC dX10_cast_12 rfl qX10_285 ?_
  refine xr_callS (pc' := 18) (rmy := k2_rm 0 0) [.int l2, .int (0 : Int32), .int (100000 : Int32)] hC dX10_cast_15 rfl kX10_196 rfl rfl rfl ⟨Nat.le_of_ble_eq_true rfl, Nat.le_of_ble_eq_true rfl⟩ rfl (Nat.le_of_ble_eq_true rfl) hf (fun _ _ h => c_m_isIn (xc_ok hC) h) (fun v1 σ2 hf => ?_)
  refine xr_if_eq (pc' := 21) 36 hC dX10_cast_18 rfl (by decide) hf (fun hf => ?_) (fun hf => ?_)
  · refine xr_iconst (pc' := 37) (0 : Int32) hC dX10_cast_36 rfl (by decide) ?_
    exact xr_zreturn hC dX10_cast_37 rfl hf
  refine xr_iload_n (pc' := 22) 2 hC dX10_cast_21 rfl rfl rfl ?_
  refine xr_if_le (pc' := 25) 38 hC dX10_cast_22 rfl (by decide) hf (fun hf => ?_) (fun hf => ?_)
  · refine xr_aload_n (pc' := 39) 0 hC dX10_cast_38 rfl rfl rfl ?_
    refine gX10_m_castSize (pc' := 42) hC dX10_cast_39 rfl ?_
    refine xr_iload_n (pc' := 43) 1 hC dX10_cast_42 rfl rfl rfl ?_
    refine xr_iload_n (pc' := 44) 2 hC dX10_cast_43 rfl rfl rfl ?_
    refine sM_25 (pc' := 45) hC dX10_cast_44 rfl hf (fun σ3 hf => ?_)
    refine xr_aload_n (pc' := 46) 0 hC dX10_cast_45 rfl rfl rfl ?_
    refine gX10_m_detail (pc' := 49) hC dX10_cast_46 rfl ?_
    refine xr_iload_n (pc' := 50) 1 hC dX10_cast_49 rfl rfl rfl ?_
    refine xr_iload_n (pc' := 51) 3 hC dX10_cast_50 rfl rfl rfl ?_
    refine sM_26 (pc' := 52) hC dX10_cast_51 rfl hf (fun σ4 hf => ?_)
    refine xr_iconst (pc' := 53) (1 : Int32) hC dX10_cast_52 rfl (by decide) ?_
    exact xr_zreturn hC dX10_cast_53 rfl hf
  refine xr_iload_n (pc' := 26) 3 hC dX10_cast_25 rfl rfl rfl ?_
  refine xr_iconst (pc' := 27) (0 : Int32) hC dX10_cast_26 rfl (by decide) ?_
  refine xr_sipush (pc' := 30) (1000 : Int32) hC dX10_cast_27 rfl (by decide) ?_
  refine xr_callS (pc' := 33) (rmy := k2_rm 0 0) [.int l3, .int (0 : Int32), .int (1000 : Int32)] hC dX10_cast_30 rfl kX10_196 rfl rfl rfl ⟨Nat.le_of_ble_eq_true rfl, Nat.le_of_ble_eq_true rfl⟩ rfl (Nat.le_of_ble_eq_true rfl) hf (fun _ _ h => c_m_isIn (xc_ok hC) h) (fun v5 σ6 hf => ?_)
  refine xr_if_ne (pc' := 36) 38 hC dX10_cast_33 rfl (by decide) hf (fun hf => ?_) (fun hf => ?_)
  · refine xr_aload_n (pc' := 39) 0 hC dX10_cast_38 rfl rfl rfl ?_
    refine gX10_m_castSize (pc' := 42) hC dX10_cast_39 rfl ?_
    refine xr_iload_n (pc' := 43) 1 hC dX10_cast_42 rfl rfl rfl ?_
    refine xr_iload_n (pc' := 44) 2 hC dX10_cast_43 rfl rfl rfl ?_
    refine sM_25 (pc' := 45) hC dX10_cast_44 rfl hf (fun σ7 hf => ?_)
    refine xr_aload_n (pc' := 46) 0 hC dX10_cast_45 rfl rfl rfl ?_
    refine gX10_m_detail (pc' := 49) hC dX10_cast_46 rfl ?_
    refine xr_iload_n (pc' := 50) 1 hC dX10_cast_49 rfl rfl rfl ?_
    refine xr_iload_n (pc' := 51) 3 hC dX10_cast_50 rfl rfl rfl ?_
    refine sM_26 (pc' := 52) hC dX10_cast_51 rfl hf (fun σ8 hf => ?_)
    refine xr_iconst (pc' := 53) (1 : Int32) hC dX10_cast_52 rfl (by decide) ?_
    exact xr_zreturn hC dX10_cast_53 rfl hf
  refine xr_iconst (pc' := 37) (0 : Int32) hC dX10_cast_36 rfl (by decide) ?_
  exact xr_zreturn hC dX10_cast_37 rfl hf

set_option maxRecDepth 100000 in
set_option maxHeartbeats 4000000 in
theorem c_m_copies {l : Launch} {E : mE} {N : Nat} (hG : xOk (GM E)) {l1 l2 l3 : Int32} {σ : xS} {r : Int32} {σ' : xS} (hf : m_copies N l1 l2 l3 σ = some (r, σ')) : xMet l (GM E) yX10_copies cX10_copies 4 (some .boolean) (k2_rm 1 22) [.ref (E.2.2.1 0), .int l1, .int l2, .int l3] σ (some (.int r)) σ' := by
  refine x_met (own := RX10) (by decide +kernel) hG rfl (Nat.le_of_ble_eq_true rfl) (fun C hl hC => ?_)
  subst hl
  show xw C (GM E) 4 (xq C (GM E) (some (.int r)) σ') σ 0 [(0, .ref (E.2.2.1 0)), (1, .int l1), (2, .int l2), (3, .int l3)] []
  unfold m_copies at hf
  refine xr_iload_n (pc' := 1) 1 hC dX10_copies_0 rfl rfl rfl ?_
  refine xr_sipush (pc' := 4) (900 : Int32) hC dX10_copies_1 rfl (by decide) ?_
  refine xr_sipush (pc' := 7) (1000 : Int32) hC dX10_copies_4 rfl (by decide) ?_
  refine xr_callS (pc' := 10) (rmy := k2_rm 0 0) [.int l1, .int (900 : Int32), .int (1000 : Int32)] hC dX10_copies_7 rfl kX10_196 rfl rfl rfl ⟨Nat.le_of_ble_eq_true rfl, Nat.le_of_ble_eq_true rfl⟩ rfl (Nat.le_of_ble_eq_true rfl) hf (fun _ _ h => c_m_isIn (xc_ok hC) h) (fun v1 σ2 hf => ?_)
  refine xr_if_eq (pc' := 13) 35 hC dX10_copies_10 rfl (by decide) hf (fun hf => ?_) (fun hf => ?_)
  · refine xr_iconst (pc' := 36) (0 : Int32) hC dX10_copies_35 rfl (by decide) ?_
    exact xr_zreturn hC dX10_copies_36 rfl hf
  refine xr_iload_n (pc' := 14) 2 hC dX10_copies_13 rfl rfl rfl ?_
  refine xr_iconst (pc' := 15) (0 : Int32) hC dX10_copies_14 rfl (by decide) ?_
  refine xr_sipush (pc' := 18) (1000 : Int32) hC dX10_copies_15 rfl (by decide) ?_
  refine xr_callS (pc' := 21) (rmy := k2_rm 0 0) [.int l2, .int (0 : Int32), .int (1000 : Int32)] hC dX10_copies_18 rfl kX10_196 rfl rfl rfl ⟨Nat.le_of_ble_eq_true rfl, Nat.le_of_ble_eq_true rfl⟩ rfl (Nat.le_of_ble_eq_true rfl) hf (fun _ _ h => c_m_isIn (xc_ok hC) h) (fun v3 σ4 hf => ?_)
  refine xr_if_eq (pc' := 24) 35 hC dX10_copies_21 rfl (by decide) hf (fun hf => ?_) (fun hf => ?_)
  · refine xr_iconst (pc' := 36) (0 : Int32) hC dX10_copies_35 rfl (by decide) ?_
    exact xr_zreturn hC dX10_copies_36 rfl hf
  refine xr_iload_n (pc' := 25) 3 hC dX10_copies_24 rfl rfl rfl ?_
  refine xr_iconst (pc' := 26) (0 : Int32) hC dX10_copies_25 rfl (by decide) ?_
  refine xr_ldc_w (pc' := 29) (100000 : Int32) hC dX10_copies_26 rfl qX10_285 ?_
  refine xr_callS (pc' := 32) (rmy := k2_rm 0 0) [.int l3, .int (0 : Int32), .int (100000 : Int32)] hC dX10_copies_29 rfl kX10_196 rfl rfl rfl ⟨Nat.le_of_ble_eq_true rfl, Nat.le_of_ble_eq_true rfl⟩ rfl (Nat.le_of_ble_eq_true rfl) hf (fun _ _ h => c_m_isIn (xc_ok hC) h) (fun v5 σ6 hf => ?_)
  refine xr_if_ne (pc' := 35) 37 hC dX10_copies_32 rfl (by decide) hf (fun hf => ?_) (fun hf => ?_)
  · refine xr_aload_n (pc' := 38) 0 hC dX10_copies_37 rfl rfl rfl ?_
    refine xr_iload_n (pc' := 39) 1 hC dX10_copies_38 rfl rfl rfl ?_
    refine pX10_m_shrink (pc' := 42) hC dX10_copies_39 rfl hf (fun σ7 hf => ?_)
    refine xr_aload_n (pc' := 43) 0 hC dX10_copies_42 rfl rfl rfl ?_
    refine xr_iload_n (pc' := 44) 2 hC dX10_copies_43 rfl rfl rfl ?_
    refine pX10_m_blur (pc' := 47) hC dX10_copies_44 rfl hf (fun σ8 hf => ?_)
    refine xr_aload_n (pc' := 48) 0 hC dX10_copies_47 rfl rfl rfl ?_
    refine xr_iload_n (pc' := 49) 3 hC dX10_copies_48 rfl rfl rfl ?_
    refine pX10_m_bound (pc' := 52) hC dX10_copies_49 rfl hf (fun σ9 hf => ?_)
    refine xr_iconst (pc' := 53) (1 : Int32) hC dX10_copies_52 rfl (by decide) ?_
    exact xr_zreturn hC dX10_copies_53 rfl hf
  refine xr_iconst (pc' := 36) (0 : Int32) hC dX10_copies_35 rfl (by decide) ?_
  exact xr_zreturn hC dX10_copies_36 rfl hf

set_option maxRecDepth 100000 in
set_option maxHeartbeats 4000000 in
theorem c_m_isCast {l : Launch} {E : mE} {N : Nat} (hG : xOk (GM E)) {l1 : Int32} {σ : xS} {r : Int32} {σ' : xS} (hf : m_isCast N l1 σ = some (r, σ')) : xMet l (GM E) yX10_isCast cX10_isCast 2 (some .boolean) (k2_rm 0 0) [.ref (E.2.2.1 0), .int l1] σ (some (.int r)) σ' := by
  refine x_met (own := RX10) (by decide +kernel) hG rfl (Nat.le_of_ble_eq_true rfl) (fun C hl hC => ?_)
  subst hl
  show xw C (GM E) 2 (xq C (GM E) (some (.int r)) σ') σ 0 [(0, .ref (E.2.2.1 0)), (1, .int l1)] []
  unfold m_isCast at hf
  refine xr_iload_n (pc' := 1) 1 hC dX10_isCast_0 rfl rfl rfl ?_
  refine xr_if_lt (pc' := 4) 23 hC dX10_isCast_1 rfl (by decide) hf (fun hf => ?_) (fun hf => ?_)
  · refine xr_iconst (pc' := 24) (0 : Int32) hC dX10_isCast_23 rfl (by decide) ?_
    exact xr_zreturn hC dX10_isCast_24 rfl hf
  refine xr_iload_n (pc' := 5) 1 hC dX10_isCast_4 rfl rfl rfl ?_
  refine xr_bipush (pc' := 7) (12 : Int32) hC dX10_isCast_5 rfl (by decide) ?_
  refine xr_icmp_ge (pc' := 10) 23 hC dX10_isCast_7 rfl (by decide) hf (fun hf => ?_) (fun hf => ?_)
  · refine xr_iconst (pc' := 24) (0 : Int32) hC dX10_isCast_23 rfl (by decide) ?_
    exact xr_zreturn hC dX10_isCast_24 rfl hf
  refine xr_aload_n (pc' := 11) 0 hC dX10_isCast_10 rfl rfl rfl ?_
  refine gX10_m_castSize (pc' := 14) hC dX10_isCast_11 rfl ?_
  refine xr_iload_n (pc' := 15) 1 hC dX10_isCast_14 rfl rfl rfl ?_
  refine lM_25 (pc' := 16) hC dX10_isCast_15 rfl hf (fun v1 hf => ?_)
  refine xr_if_le (pc' := 19) 23 hC dX10_isCast_16 rfl (by decide) hf (fun hf => ?_) (fun hf => ?_)
  · refine xr_iconst (pc' := 24) (0 : Int32) hC dX10_isCast_23 rfl (by decide) ?_
    exact xr_zreturn hC dX10_isCast_24 rfl hf
  refine xr_iconst (pc' := 20) (1 : Int32) hC dX10_isCast_19 rfl (by decide) ?_
  refine xr_goto 24 hC dX10_isCast_20 (by decide) ?_
  exact xr_zreturn hC dX10_isCast_24 rfl hf

set_option maxRecDepth 100000 in
set_option maxHeartbeats 4000000 in
theorem c_m_far {l : Launch} {E : mE} {N : Nat} (hG : xOk (GM E)) {l0 l1 : Int32} {σ : xS} {r : Int32} {σ' : xS} (hf : m_far N l0 l1 σ = some (r, σ')) : xMet l (GM E) yX10_far cX10_far 2 (some .int) (k2_rm 0 0) [.int l0, .int l1] σ (some (.int r)) σ' := by
  refine x_met (own := RX10) (by decide +kernel) hG rfl (Nat.le_of_ble_eq_true rfl) (fun C hl hC => ?_)
  subst hl
  show xw C (GM E) 2 (xq C (GM E) (some (.int r)) σ') σ 0 [(0, .int l0), (1, .int l1)] []
  unfold m_far at hf
  refine xr_iload_n (pc' := 1) 0 hC dX10_far_0 rfl rfl rfl ?_
  refine xr_iload_n (pc' := 2) 1 hC dX10_far_1 rfl rfl rfl ?_
  refine xr_icmp_ge (pc' := 5) 11 hC dX10_far_2 rfl (by decide) hf (fun hf => ?_) (fun hf => ?_)
  · refine xr_iload_n (pc' := 12) 0 hC dX10_far_11 rfl rfl rfl ?_
    refine xr_iload_n (pc' := 13) 1 hC dX10_far_12 rfl rfl rfl ?_
    refine xr_isub (pc' := 14) hC dX10_far_13 rfl ?_
    exact xr_ireturn hC dX10_far_14 hf
  refine xr_iload_n (pc' := 6) 1 hC dX10_far_5 rfl rfl rfl ?_
  refine xr_iload_n (pc' := 7) 0 hC dX10_far_6 rfl rfl rfl ?_
  refine xr_isub (pc' := 8) hC dX10_far_7 rfl ?_
  refine xr_goto 14 hC dX10_far_8 (by decide) ?_
  exact xr_ireturn hC dX10_far_14 hf

set_option maxRecDepth 100000 in
set_option maxHeartbeats 4000000 in
theorem c_m_quarrel {l : Launch} {E : mE} {N : Nat} (hG : xOk (GM E)) {l1 l2 : Int32} {σ : xS} {r : Int32} {σ' : xS} (hf : m_quarrel N l1 l2 σ = some (r, σ')) : xMet l (GM E) yX10_quarrel cX10_quarrel 3 (some .int) (k2_rm 1 21) [.ref (E.2.2.1 0), .int l1, .int l2] σ (some (.int r)) σ' := by
  refine x_met (own := RX10) (by decide +kernel) hG rfl (Nat.le_of_ble_eq_true rfl) (fun C hl hC => ?_)
  subst hl
  show xw C (GM E) 3 (xq C (GM E) (some (.int r)) σ') σ 0 [(0, .ref (E.2.2.1 0)), (1, .int l1), (2, .int l2)] []
  unfold m_quarrel at hf
  refine xr_aload_n (pc' := 1) 0 hC dX10_quarrel_0 rfl rfl rfl ?_
  refine gX10_m_castSize (pc' := 4) hC dX10_quarrel_1 rfl ?_
  refine xr_iload_n (pc' := 5) 1 hC dX10_quarrel_4 rfl rfl rfl ?_
  refine lM_25 (pc' := 6) hC dX10_quarrel_5 rfl hf (fun v1 hf => ?_)
  refine xr_aload_n (pc' := 7) 0 hC dX10_quarrel_6 rfl rfl rfl ?_
  refine gX10_m_castSize (pc' := 10) hC dX10_quarrel_7 rfl ?_
  refine xr_iload_n (pc' := 11) 2 hC dX10_quarrel_10 rfl rfl rfl ?_
  refine lM_25 (pc' := 12) hC dX10_quarrel_11 rfl hf (fun v2 hf => ?_)
  refine xr_aload_n (pc' := 13) 0 hC dX10_quarrel_12 rfl rfl rfl ?_
  refine gX10_m_shrink (pc' := 16) hC dX10_quarrel_13 rfl ?_
  refine xr_imul (pc' := 17) hC dX10_quarrel_16 rfl ?_
  refine xr_sipush (pc' := 20) (1000 : Int32) hC dX10_quarrel_17 rfl (by decide) ?_
  refine xr_idiv (pc' := 21) hC dX10_quarrel_20 rfl hf (fun hf => ?_)
  refine xr_callS (pc' := 24) (rmy := k2_rm 0 0) [.int v1, .int ((v2 * (σ.1 23)) / (1000 : Int32))] hC dX10_quarrel_21 rfl kX10_286 rfl rfl rfl ⟨Nat.le_of_ble_eq_true rfl, Nat.le_of_ble_eq_true rfl⟩ rfl (Nat.le_of_ble_eq_true rfl) hf (fun _ _ h => c_m_far (xc_ok hC) h) (fun v3 σ4 hf => ?_)
  refine xr_aload_n (pc' := 25) 0 hC dX10_quarrel_24 rfl rfl rfl ?_
  refine gX10_m_detail (pc' := 28) hC dX10_quarrel_25 rfl ?_
  refine xr_iload_n (pc' := 29) 1 hC dX10_quarrel_28 rfl rfl rfl ?_
  refine lM_26 (pc' := 30) hC dX10_quarrel_29 rfl hf (fun v5 hf => ?_)
  refine xr_aload_n (pc' := 31) 0 hC dX10_quarrel_30 rfl rfl rfl ?_
  refine gX10_m_detail (pc' := 34) hC dX10_quarrel_31 rfl ?_
  refine xr_iload_n (pc' := 35) 2 hC dX10_quarrel_34 rfl rfl rfl ?_
  refine lM_26 (pc' := 36) hC dX10_quarrel_35 rfl hf (fun v6 hf => ?_)
  refine xr_aload_n (pc' := 37) 0 hC dX10_quarrel_36 rfl rfl rfl ?_
  refine gX10_m_blur (pc' := 40) hC dX10_quarrel_37 rfl ?_
  refine xr_imul (pc' := 41) hC dX10_quarrel_40 rfl ?_
  refine xr_sipush (pc' := 44) (1000 : Int32) hC dX10_quarrel_41 rfl (by decide) ?_
  refine xr_idiv (pc' := 45) hC dX10_quarrel_44 rfl hf (fun hf => ?_)
  refine xr_callS (pc' := 48) (rmy := k2_rm 0 0) [.int v5, .int ((v6 * (σ4.1 24)) / (1000 : Int32))] hC dX10_quarrel_45 rfl kX10_286 rfl rfl rfl ⟨Nat.le_of_ble_eq_true rfl, Nat.le_of_ble_eq_true rfl⟩ rfl (Nat.le_of_ble_eq_true rfl) hf (fun _ _ h => c_m_far (xc_ok hC) h) (fun v7 σ8 hf => ?_)
  refine xr_iadd (pc' := 49) hC dX10_quarrel_48 rfl ?_
  exact xr_ireturn hC dX10_quarrel_49 hf

set_option maxRecDepth 100000 in
set_option maxHeartbeats 4000000 in
theorem w_m_mother_b77 {C : xT} {E : mE} {N : Nat} {r : Int32} {σ' : xS} (hC : xc C (GM E) RX10 cX10_mother 4 (some .int) (k2_rm 2 43)) (K15 : Int32 → Int32 → Int32 → xS → Option (Int32 × xS)) (hK15 : ∀ (l1 l2 l3 : Int32) (σ : xS), K15 l1 l2 l3 σ = some (r, σ') → xw C (GM E) 4 (xq C (GM E) (some (.int r)) σ') σ 15 [(0, .ref (E.2.2.1 0)), (1, .int l1), (2, .int l2), (3, .int l3)] []) : ∀ (l1 l2 l3 : Int32) (σ : xS), m_mother_b77 N K15 l1 l2 l3 σ = some (r, σ') → xw C (GM E) 4 (xq C (GM E) (some (.int r)) σ') σ 77 [(0, .ref (E.2.2.1 0)), (1, .int l1), (2, .int l2), (3, .int l3)] [] := by
  intro l1 l2 l3 σ hf
  unfold m_mother_b77 at hf
  refine xr_aload_n (pc' := 78) 0 hC dX10_mother_77 rfl rfl rfl ?_
  refine xr_iload_n (pc' := 79) 1 hC dX10_mother_78 rfl rfl rfl ?_
  refine xr_iload_n (pc' := 80) 3 hC dX10_mother_79 rfl rfl rfl ?_
  refine xr_callV (pc' := 83) (rmy := k2_rm 1 21) [.int l1, .int l3] 0 hC dX10_mother_80 rfl kX10_292 rfl rfl rfl rfl rfl ⟨Nat.le_of_ble_eq_true rfl, Nat.le_of_ble_eq_true rfl⟩ rfl (Nat.le_of_ble_eq_true rfl) hf (fun _ _ h => c_m_quarrel (xc_ok hC) h) (fun v11 σ12 hf => ?_)
  refine xr_aload_n (pc' := 84) 0 hC dX10_mother_83 rfl rfl rfl ?_
  refine gX10_m_bound (pc' := 87) hC dX10_mother_84 rfl ?_
  refine xr_icmp_gt (pc' := 90) 113 hC dX10_mother_87 rfl (by decide) hf (fun hf => ?_) (fun hf => ?_)
  · refine xr_iinc (pc' := 116) hC dX10_mother_113 rfl _ rfl hf 3 rfl (by decide) [1, 2, 3, 0] (fun l3_13 => [(0, .ref (E.2.2.1 0)), (1, .int l1), (2, .int l2), (3, .int l3_13)]) (fun _ => rfl) (fun l3_13 hf => ?_)
    refine xr_goto 15 hC dX10_mother_116 (by decide) ?_
    exact hK15 _ _ _ _ hf
  refine xr_iload_n (pc' := 91) 2 hC dX10_mother_90 rfl rfl rfl ?_
  refine xr_bipush (pc' := 93) (-2 : Int32) hC dX10_mother_91 rfl (by decide) ?_
  refine xr_icmp_eq (pc' := 96) 111 hC dX10_mother_93 rfl (by decide) hf (fun hf => ?_) (fun hf => ?_)
  · refine xr_iload_n (pc' := 112) 3 hC dX10_mother_111 rfl rfl rfl ?_
    refine xr_istore_n (pc' := 113) (lv' := [(0, .ref (E.2.2.1 0)), (1, .int l1), (2, .int l3), (3, .int l3)]) hC dX10_mother_112 rfl rfl (by decide) [1, 2, 0, 3] rfl ?_
    refine xr_iinc (pc' := 116) hC dX10_mother_113 rfl _ rfl hf 3 rfl (by decide) [1, 2, 3, 0] (fun l3_14 => [(0, .ref (E.2.2.1 0)), (1, .int l1), (2, .int l3), (3, .int l3_14)]) (fun _ => rfl) (fun l3_14 hf => ?_)
    refine xr_goto 15 hC dX10_mother_116 (by decide) ?_
    exact hK15 _ _ _ _ hf
  refine xr_aload_n (pc' := 97) 0 hC dX10_mother_96 rfl rfl rfl ?_
  refine xr_iload_n (pc' := 98) 1 hC dX10_mother_97 rfl rfl rfl ?_
  refine xr_iload_n (pc' := 99) 3 hC dX10_mother_98 rfl rfl rfl ?_
  refine xr_callV (pc' := 102) (rmy := k2_rm 1 21) [.int l1, .int l3] 0 hC dX10_mother_99 rfl kX10_292 rfl rfl rfl rfl rfl ⟨Nat.le_of_ble_eq_true rfl, Nat.le_of_ble_eq_true rfl⟩ rfl (Nat.le_of_ble_eq_true rfl) hf (fun _ _ h => c_m_quarrel (xc_ok hC) h) (fun v15 σ16 hf => ?_)
  refine xr_aload_n (pc' := 103) 0 hC dX10_mother_102 rfl rfl rfl ?_
  refine xr_iload_n (pc' := 104) 1 hC dX10_mother_103 rfl rfl rfl ?_
  refine xr_iload_n (pc' := 105) 2 hC dX10_mother_104 rfl rfl rfl ?_
  refine xr_callV (pc' := 108) (rmy := k2_rm 1 21) [.int l1, .int l2] 0 hC dX10_mother_105 rfl kX10_292 rfl rfl rfl rfl rfl ⟨Nat.le_of_ble_eq_true rfl, Nat.le_of_ble_eq_true rfl⟩ rfl (Nat.le_of_ble_eq_true rfl) hf (fun _ _ h => c_m_quarrel (xc_ok hC) h) (fun v17 σ18 hf => ?_)
  refine xr_icmp_ge (pc' := 111) 113 hC dX10_mother_108 rfl (by decide) hf (fun hf => ?_) (fun hf => ?_)
  · refine xr_iinc (pc' := 116) hC dX10_mother_113 rfl _ rfl hf 3 rfl (by decide) [1, 2, 3, 0] (fun l3_19 => [(0, .ref (E.2.2.1 0)), (1, .int l1), (2, .int l2), (3, .int l3_19)]) (fun _ => rfl) (fun l3_19 hf => ?_)
    refine xr_goto 15 hC dX10_mother_116 (by decide) ?_
    exact hK15 _ _ _ _ hf
  refine xr_iload_n (pc' := 112) 3 hC dX10_mother_111 rfl rfl rfl ?_
  refine xr_istore_n (pc' := 113) (lv' := [(0, .ref (E.2.2.1 0)), (1, .int l1), (2, .int l3), (3, .int l3)]) hC dX10_mother_112 rfl rfl (by decide) [1, 2, 0, 3] rfl ?_
  refine xr_iinc (pc' := 116) hC dX10_mother_113 rfl _ rfl hf 3 rfl (by decide) [1, 2, 3, 0] (fun l3_20 => [(0, .ref (E.2.2.1 0)), (1, .int l1), (2, .int l3), (3, .int l3_20)]) (fun _ => rfl) (fun l3_20 hf => ?_)
  refine xr_goto 15 hC dX10_mother_116 (by decide) ?_
  exact hK15 _ _ _ _ hf

set_option maxRecDepth 100000 in
set_option maxHeartbeats 4000000 in
theorem w_m_mother_b15 {C : xT} {E : mE} {N : Nat} {r : Int32} {σ' : xS} (hC : xc C (GM E) RX10 cX10_mother 4 (some .int) (k2_rm 2 43)) : ∀ (n : Nat) (l1 l2 l3 : Int32) (σ : xS), m_mother_b15 N n l1 l2 l3 σ = some (r, σ') → xw C (GM E) 4 (xq C (GM E) (some (.int r)) σ') σ 15 [(0, .ref (E.2.2.1 0)), (1, .int l1), (2, .int l2), (3, .int l3)] [] := by
  intro n
  induction n with
  | zero =>
    intro l1 l2 l3 σ hf
    rw [m_mother_b15] at hf
    cases hf
  | succ n ih =>
    intro l1 l2 l3 σ hf
    rw [m_mother_b15] at hf
    refine xr_iload_n (pc' := 16) 3 hC dX10_mother_15 rfl rfl rfl ?_
    refine xr_bipush (pc' := 18) (12 : Int32) hC dX10_mother_16 rfl (by decide) ?_
    refine xr_icmp_ge (pc' := 21) 119 hC dX10_mother_18 rfl (by decide) hf (fun hf => ?_) (fun hf => ?_)
    · refine xr_iload_n (pc' := 120) 2 hC dX10_mother_119 rfl rfl rfl ?_
      exact xr_ireturn hC dX10_mother_120 hf
    refine xr_aload_n (pc' := 22) 0 hC dX10_mother_21 rfl rfl rfl ?_
    refine xr_iload_n (pc' := 23) 3 hC dX10_mother_22 rfl rfl rfl ?_
    refine xr_callV (pc' := 26) (rmy := k2_rm 0 0) [.int l3] 0 hC dX10_mother_23 rfl kX10_289 rfl rfl rfl rfl rfl ⟨Nat.le_of_ble_eq_true rfl, Nat.le_of_ble_eq_true rfl⟩ rfl (Nat.le_of_ble_eq_true rfl) hf (fun _ _ h => c_m_isCast (xc_ok hC) h) (fun v3 σ4 hf => ?_)
    refine xr_if_eq (pc' := 29) 113 hC dX10_mother_26 rfl (by decide) hf (fun hf => ?_) (fun hf => ?_)
    · refine xr_iinc (pc' := 116) hC dX10_mother_113 rfl _ rfl hf 3 rfl (by decide) [1, 2, 3, 0] (fun l3_5 => [(0, .ref (E.2.2.1 0)), (1, .int l1), (2, .int l2), (3, .int l3_5)]) (fun _ => rfl) (fun l3_5 hf => ?_)
      refine xr_goto 15 hC dX10_mother_116 (by decide) ?_
      exact ih _ _ _ _ hf
    refine xr_aload_n (pc' := 30) 0 hC dX10_mother_29 rfl rfl rfl ?_
    refine gX10_m_castSize (pc' := 33) hC dX10_mother_30 rfl ?_
    refine xr_iload_n (pc' := 34) 3 hC dX10_mother_33 rfl rfl rfl ?_
    refine lM_25 (pc' := 35) hC dX10_mother_34 rfl hf (fun v6 hf => ?_)
    refine xr_aload_n (pc' := 36) 0 hC dX10_mother_35 rfl rfl rfl ?_
    refine gX10_m_castSize (pc' := 39) hC dX10_mother_36 rfl ?_
    refine xr_iload_n (pc' := 40) 1 hC dX10_mother_39 rfl rfl rfl ?_
    refine lM_25 (pc' := 41) hC dX10_mother_40 rfl hf (fun v7 hf => ?_)
    refine xr_icmp_lt (pc' := 44) 113 hC dX10_mother_41 rfl (by decide) hf (fun hf => ?_) (fun hf => ?_)
    · refine xr_iinc (pc' := 116) hC dX10_mother_113 rfl _ rfl hf 3 rfl (by decide) [1, 2, 3, 0] (fun l3_8 => [(0, .ref (E.2.2.1 0)), (1, .int l1), (2, .int l2), (3, .int l3_8)]) (fun _ => rfl) (fun l3_8 hf => ?_)
      refine xr_goto 15 hC dX10_mother_116 (by decide) ?_
      exact ih _ _ _ _ hf
    refine xr_aload_n (pc' := 45) 0 hC dX10_mother_44 rfl rfl rfl ?_
    refine gX10_m_castSize (pc' := 48) hC dX10_mother_45 rfl ?_
    refine xr_iload_n (pc' := 49) 3 hC dX10_mother_48 rfl rfl rfl ?_
    refine lM_25 (pc' := 50) hC dX10_mother_49 rfl hf (fun v9 hf => ?_)
    refine xr_aload_n (pc' := 51) 0 hC dX10_mother_50 rfl rfl rfl ?_
    refine gX10_m_castSize (pc' := 54) hC dX10_mother_51 rfl ?_
    refine xr_iload_n (pc' := 55) 1 hC dX10_mother_54 rfl rfl rfl ?_
    refine lM_25 (pc' := 56) hC dX10_mother_55 rfl hf (fun v10 hf => ?_)
    refine xr_icmp_ne (pc' := 59) 77 hC dX10_mother_56 rfl (by decide) hf (fun hf => ?_) (fun hf => ?_)
    · exact w_m_mother_b77 hC (m_mother_b15 N n) ih _ _ _ _ hf
    refine xr_aload_n (pc' := 60) 0 hC dX10_mother_59 rfl rfl rfl ?_
    refine gX10_m_detail (pc' := 63) hC dX10_mother_60 rfl ?_
    refine xr_iload_n (pc' := 64) 3 hC dX10_mother_63 rfl rfl rfl ?_
    refine lM_26 (pc' := 65) hC dX10_mother_64 rfl hf (fun v21 hf => ?_)
    refine xr_aload_n (pc' := 66) 0 hC dX10_mother_65 rfl rfl rfl ?_
    refine gX10_m_detail (pc' := 69) hC dX10_mother_66 rfl ?_
    refine xr_iload_n (pc' := 70) 1 hC dX10_mother_69 rfl rfl rfl ?_
    refine lM_26 (pc' := 71) hC dX10_mother_70 rfl hf (fun v22 hf => ?_)
    refine xr_icmp_gt (pc' := 74) 77 hC dX10_mother_71 rfl (by decide) hf (fun hf => ?_) (fun hf => ?_)
    · exact w_m_mother_b77 hC (m_mother_b15 N n) ih _ _ _ _ hf
    refine xr_goto 113 hC dX10_mother_74 (by decide) ?_
    refine xr_iinc (pc' := 116) hC dX10_mother_113 rfl _ rfl hf 3 rfl (by decide) [1, 2, 3, 0] (fun l3_23 => [(0, .ref (E.2.2.1 0)), (1, .int l1), (2, .int l2), (3, .int l3_23)]) (fun _ => rfl) (fun l3_23 hf => ?_)
    refine xr_goto 15 hC dX10_mother_116 (by decide) ?_
    exact ih _ _ _ _ hf

set_option maxRecDepth 100000 in
set_option maxHeartbeats 4000000 in
theorem c_m_mother {l : Launch} {E : mE} {N : Nat} (hG : xOk (GM E)) {l1 : Int32} {σ : xS} {r : Int32} {σ' : xS} (hf : m_mother N l1 σ = some (r, σ')) : xMet l (GM E) yX10_mother cX10_mother 4 (some .int) (k2_rm 2 43) [.ref (E.2.2.1 0), .int l1] σ (some (.int r)) σ' := by
  refine x_met (own := RX10) (by decide +kernel) hG rfl (Nat.le_of_ble_eq_true rfl) (fun C hl hC => ?_)
  subst hl
  show xw C (GM E) 4 (xq C (GM E) (some (.int r)) σ') σ 0 [(0, .ref (E.2.2.1 0)), (1, .int l1)] []
  unfold m_mother at hf
  refine xr_aload_n (pc' := 1) 0 hC dX10_mother_0 rfl rfl rfl ?_
  refine xr_iload_n (pc' := 2) 1 hC dX10_mother_1 rfl rfl rfl ?_
  refine xr_callV (pc' := 5) (rmy := k2_rm 0 0) [.int l1] 0 hC dX10_mother_2 rfl kX10_289 rfl rfl rfl rfl rfl ⟨Nat.le_of_ble_eq_true rfl, Nat.le_of_ble_eq_true rfl⟩ rfl (Nat.le_of_ble_eq_true rfl) hf (fun _ _ h => c_m_isCast (xc_ok hC) h) (fun v1 σ2 hf => ?_)
  refine xr_if_ne (pc' := 8) 10 hC dX10_mother_5 rfl (by decide) hf (fun hf => ?_) (fun hf => ?_)
  · refine xr_bipush (pc' := 12) (-2 : Int32) hC dX10_mother_10 rfl (by decide) ?_
    refine xr_istore_n (pc' := 13) (lv' := [(0, .ref (E.2.2.1 0)), (1, .int l1), (2, .int (-2 : Int32))]) hC dX10_mother_12 rfl rfl (by decide) [1, 2, 0] rfl ?_
    refine xr_iconst (pc' := 14) (0 : Int32) hC dX10_mother_13 rfl (by decide) ?_
    refine xr_istore_n (pc' := 15) (lv' := [(0, .ref (E.2.2.1 0)), (1, .int l1), (2, .int (-2 : Int32)), (3, .int (0 : Int32))]) hC dX10_mother_14 rfl rfl (by decide) [1, 2, 3, 0] rfl ?_
    exact w_m_mother_b15 hC N _ _ _ _ hf
  refine xr_iconst (pc' := 9) (-1 : Int32) hC dX10_mother_8 rfl (by decide) ?_
  exact xr_ireturn hC dX10_mother_9 hf

set_option maxRecDepth 100000 in
set_option maxHeartbeats 4000000 in
theorem w_m_steps_b18 {C : xT} {E : mE} {N : Nat} {r : Int32} {σ' : xS} (hC : xc C (GM E) RX10 cX10_steps 4 (some .int) (k2_rm 3 66)) : ∀ (n : Nat) (l2 l3 : Int32) (σ : xS), m_steps_b18 N n l2 l3 σ = some (r, σ') → xw C (GM E) 4 (xq C (GM E) (some (.int r)) σ') σ 18 [(0, .ref (E.2.2.1 0)), (2, .int l2), (3, .int l3)] [] := by
  intro n
  induction n with
  | zero =>
    intro l2 l3 σ hf
    rw [m_steps_b18] at hf
    cases hf
  | succ n ih =>
    intro l2 l3 σ hf
    rw [m_steps_b18] at hf
    refine xr_iload_n (pc' := 19) 2 hC dX10_steps_18 rfl rfl rfl ?_
    refine xr_if_lt (pc' := 22) 34 hC dX10_steps_19 rfl (by decide) hf (fun hf => ?_) (fun hf => ?_)
    · refine xr_iload_n (pc' := 35) 1 hC dX10_steps_34 rfl rfl rfl ?_
      exact xr_ireturn hC dX10_steps_35 hf
    refine xr_iinc (pc' := 25) hC dX10_steps_22 rfl _ rfl hf 1 rfl (by decide) [1, 0, 2] (fun l2_5 => [(0, .ref (E.2.2.1 0)), (2, .int l2_5), (3, .int l3)]) (fun _ => rfl) (fun l2_5 hf => ?_)
    refine xr_aload_n (pc' := 26) 0 hC dX10_steps_25 rfl rfl rfl ?_
    refine xr_iload_n (pc' := 27) 2 hC dX10_steps_26 rfl rfl rfl ?_
    refine xr_callV (pc' := 30) (rmy := k2_rm 2 43) [.int l3] 0 hC dX10_steps_27 rfl kX10_295 rfl rfl rfl rfl rfl ⟨Nat.le_of_ble_eq_true rfl, Nat.le_of_ble_eq_true rfl⟩ rfl (Nat.le_of_ble_eq_true rfl) hf (fun _ _ h => c_m_mother (xc_ok hC) h) (fun v6 σ7 hf => ?_)
    refine xr_istore_n (pc' := 31) (lv' := [(0, .ref (E.2.2.1 0)), (2, .int l2_5), (3, .int v6)]) hC dX10_steps_30 rfl rfl (by decide) [1, 2, 0] rfl ?_
    refine xr_goto 18 hC dX10_steps_31 (by decide) ?_
    exact ih _ _ _ hf

set_option maxRecDepth 100000 in
set_option maxHeartbeats 4000000 in
theorem c_m_steps {l : Launch} {E : mE} {N : Nat} (hG : xOk (GM E)) {l1 : Int32} {σ : xS} {r : Int32} {σ' : xS} (hf : m_steps N l1 σ = some (r, σ')) : xMet l (GM E) yX10_steps cX10_steps 4 (some .int) (k2_rm 3 66) [.ref (E.2.2.1 0), .int l1] σ (some (.int r)) σ' := by
  refine x_met (own := RX10) (by decide +kernel) hG rfl (Nat.le_of_ble_eq_true rfl) (fun C hl hC => ?_)
  subst hl
  show xw C (GM E) 4 (xq C (GM E) (some (.int r)) σ') σ 0 [(0, .ref (E.2.2.1 0)), (1, .int l1)] []
  unfold m_steps at hf
  refine xr_aload_n (pc' := 1) 0 hC dX10_steps_0 rfl rfl rfl ?_
  refine xr_iload_n (pc' := 2) 1 hC dX10_steps_1 rfl rfl rfl ?_
  refine xr_callV (pc' := 5) (rmy := k2_rm 0 0) [.int l1] 0 hC dX10_steps_2 rfl kX10_289 rfl rfl rfl rfl rfl ⟨Nat.le_of_ble_eq_true rfl, Nat.le_of_ble_eq_true rfl⟩ rfl (Nat.le_of_ble_eq_true rfl) hf (fun _ _ h => c_m_isCast (xc_ok hC) h) (fun v1 σ2 hf => ?_)
  refine xr_if_ne (pc' := 8) 10 hC dX10_steps_5 rfl (by decide) hf (fun hf => ?_) (fun hf => ?_)
  · refine xr_iconst (pc' := 11) (0 : Int32) hC dX10_steps_10 rfl (by decide) ?_
    refine xr_istore_n (pc' := 12) (lv' := [(0, .ref (E.2.2.1 0)), (1, .int l1), (2, .int (0 : Int32))]) hC dX10_steps_11 rfl rfl (by decide) [1, 2, 0] rfl ?_
    refine xr_aload_n (pc' := 13) 0 hC dX10_steps_12 rfl rfl rfl ?_
    refine xr_iload_n (pc' := 14) 1 hC dX10_steps_13 rfl rfl rfl ?_
    refine xr_callV (pc' := 17) (rmy := k2_rm 2 43) [.int l1] 0 hC dX10_steps_14 rfl kX10_295 rfl rfl rfl rfl rfl ⟨Nat.le_of_ble_eq_true rfl, Nat.le_of_ble_eq_true rfl⟩ rfl (Nat.le_of_ble_eq_true rfl) hf (fun _ _ h => c_m_mother (xc_ok hC) h) (fun v3 σ4 hf => ?_)
    refine xr_istore_n (pc' := 18) (lv' := [(0, .ref (E.2.2.1 0)), (1, .int l1), (2, .int (0 : Int32)), (3, .int v3)]) hC dX10_steps_17 rfl rfl (by decide) [1, 2, 3, 0] rfl ?_
    refine x_lv [0, 2, 3] rfl ?_
    exact w_m_steps_b18 hC N _ _ _ hf
  refine xr_iconst (pc' := 9) (-1 : Int32) hC dX10_steps_8 rfl (by decide) ?_
  exact xr_ireturn hC dX10_steps_9 hf

set_option maxRecDepth 100000 in
set_option maxHeartbeats 4000000 in
theorem w_m_told_b51 {C : xT} {E : mE} {N : Nat} {r : Int32} {σ' : xS} (hC : xc C (GM E) RX10 cX10_told 5 (some .int) (k2_rm 3 66)) (K15 : Int32 → Int32 → Int32 → xS → Option (Int32 × xS)) (hK15 : ∀ (l1 l2 l3 : Int32) (σ : xS), K15 l1 l2 l3 σ = some (r, σ') → xw C (GM E) 5 (xq C (GM E) (some (.int r)) σ') σ 15 [(0, .ref (E.2.2.1 0)), (1, .int l1), (2, .int l2), (3, .int l3)] []) : ∀ (l1 l2 l3 l4 : Int32) (σ : xS), m_told_b51 N K15 l1 l2 l3 l4 σ = some (r, σ') → xw C (GM E) 5 (xq C (GM E) (some (.int r)) σ') σ 51 [(0, .ref (E.2.2.1 0)), (1, .int l1), (2, .int l2), (3, .int l3), (4, .int l4)] [] := by
  intro l1 l2 l3 l4 σ hf
  unfold m_told_b51 at hf
  refine xr_iload_n (pc' := 52) 1 hC dX10_told_51 rfl rfl rfl ?_
  refine xr_iconst (pc' := 53) (1 : Int32) hC dX10_told_52 rfl (by decide) ?_
  refine xr_icmp_ne (pc' := 56) 71 hC dX10_told_53 rfl (by decide) hf (fun hf => ?_) (fun hf => ?_)
  · refine xr_iinc (pc' := 74) hC dX10_told_71 rfl _ rfl hf 3 rfl (by decide) [1, 2, 3, 0, 4] (fun l3_5 => [(0, .ref (E.2.2.1 0)), (1, .int l1), (2, .int l2), (3, .int l3_5), (4, .int l4)]) (fun _ => rfl) (fun l3_5 hf => ?_)
    refine xr_goto 15 hC dX10_told_74 (by decide) ?_
    refine x_lv [0, 1, 2, 3] rfl ?_
    exact hK15 _ _ _ _ hf
  refine xr_iload (pc' := 58) 4 hC dX10_told_56 rfl rfl ?_
  refine xr_if_lt (pc' := 61) 71 hC dX10_told_58 rfl (by decide) hf (fun hf => ?_) (fun hf => ?_)
  · refine xr_iinc (pc' := 74) hC dX10_told_71 rfl _ rfl hf 3 rfl (by decide) [1, 2, 3, 0, 4] (fun l3_6 => [(0, .ref (E.2.2.1 0)), (1, .int l1), (2, .int l2), (3, .int l3_6), (4, .int l4)]) (fun _ => rfl) (fun l3_6 hf => ?_)
    refine xr_goto 15 hC dX10_told_74 (by decide) ?_
    refine x_lv [0, 1, 2, 3] rfl ?_
    exact hK15 _ _ _ _ hf
  refine xr_iload_n (pc' := 62) 2 hC dX10_told_61 rfl rfl rfl ?_
  refine xr_aload_n (pc' := 63) 0 hC dX10_told_62 rfl rfl rfl ?_
  refine xr_iload_n (pc' := 64) 3 hC dX10_told_63 rfl rfl rfl ?_
  refine xr_iload (pc' := 66) 4 hC dX10_told_64 rfl rfl ?_
  refine xr_callV (pc' := 69) (rmy := k2_rm 1 21) [.int l3, .int l4] 0 hC dX10_told_66 rfl kX10_292 rfl rfl rfl rfl rfl ⟨Nat.le_of_ble_eq_true rfl, Nat.le_of_ble_eq_true rfl⟩ rfl (Nat.le_of_ble_eq_true rfl) hf (fun _ _ h => c_m_quarrel (xc_ok hC) h) (fun v7 σ8 hf => ?_)
  refine xr_iadd (pc' := 70) hC dX10_told_69 rfl ?_
  refine xr_istoreb_n (pc' := 71) hC dX10_told_70 rfl hf rfl (by decide) [1, 2, 0, 3, 4] (fun l2_9 => [(0, .ref (E.2.2.1 0)), (1, .int l1), (2, .int l2_9), (3, .int l3), (4, .int l4)]) (fun _ => rfl) (fun l2_9 hf => ?_)
  refine xr_iinc (pc' := 74) hC dX10_told_71 rfl _ rfl hf 3 rfl (by decide) [1, 2, 3, 0, 4] (fun l3_10 => [(0, .ref (E.2.2.1 0)), (1, .int l1), (2, .int l2_9), (3, .int l3_10), (4, .int l4)]) (fun _ => rfl) (fun l3_10 hf => ?_)
  refine xr_goto 15 hC dX10_told_74 (by decide) ?_
  refine x_lv [0, 1, 2, 3] rfl ?_
  exact hK15 _ _ _ _ hf

set_option maxRecDepth 100000 in
set_option maxHeartbeats 4000000 in
theorem w_m_told_b15 {C : xT} {E : mE} {N : Nat} {r : Int32} {σ' : xS} (hC : xc C (GM E) RX10 cX10_told 5 (some .int) (k2_rm 3 66)) : ∀ (n : Nat) (l1 l2 l3 : Int32) (σ : xS), m_told_b15 N n l1 l2 l3 σ = some (r, σ') → xw C (GM E) 5 (xq C (GM E) (some (.int r)) σ') σ 15 [(0, .ref (E.2.2.1 0)), (1, .int l1), (2, .int l2), (3, .int l3)] [] := by
  intro n
  induction n with
  | zero =>
    intro l1 l2 l3 σ hf
    rw [m_told_b15] at hf
    cases hf
  | succ n ih =>
    intro l1 l2 l3 σ hf
    rw [m_told_b15] at hf
    refine xr_iload_n (pc' := 16) 3 hC dX10_told_15 rfl rfl rfl ?_
    refine xr_bipush (pc' := 18) (12 : Int32) hC dX10_told_16 rfl (by decide) ?_
    refine xr_icmp_ge (pc' := 21) 77 hC dX10_told_18 rfl (by decide) hf (fun hf => ?_) (fun hf => ?_)
    · refine xr_iload_n (pc' := 78) 2 hC dX10_told_77 rfl rfl rfl ?_
      exact xr_ireturn hC dX10_told_78 hf
    refine xr_aload_n (pc' := 22) 0 hC dX10_told_21 rfl rfl rfl ?_
    refine xr_iload_n (pc' := 23) 3 hC dX10_told_22 rfl rfl rfl ?_
    refine xr_callV (pc' := 26) (rmy := k2_rm 0 0) [.int l3] 0 hC dX10_told_23 rfl kX10_289 rfl rfl rfl rfl rfl ⟨Nat.le_of_ble_eq_true rfl, Nat.le_of_ble_eq_true rfl⟩ rfl (Nat.le_of_ble_eq_true rfl) hf (fun _ _ h => c_m_isCast (xc_ok hC) h) (fun v1 σ2 hf => ?_)
    refine xr_if_ne (pc' := 29) 32 hC dX10_told_26 rfl (by decide) hf (fun hf => ?_) (fun hf => ?_)
    · refine xr_aload_n (pc' := 33) 0 hC dX10_told_32 rfl rfl rfl ?_
      refine xr_iload_n (pc' := 34) 3 hC dX10_told_33 rfl rfl rfl ?_
      refine xr_callV (pc' := 37) (rmy := k2_rm 2 43) [.int l3] 0 hC dX10_told_34 rfl kX10_295 rfl rfl rfl rfl rfl ⟨Nat.le_of_ble_eq_true rfl, Nat.le_of_ble_eq_true rfl⟩ rfl (Nat.le_of_ble_eq_true rfl) hf (fun _ _ h => c_m_mother (xc_ok hC) h) (fun v3 σ4 hf => ?_)
      refine xr_istore (pc' := 39) (lv' := [(0, .ref (E.2.2.1 0)), (1, .int l1), (2, .int l2), (3, .int l3), (4, .int v3)]) hC dX10_told_37 rfl (by decide) [1, 2, 3, 4, 0] rfl ?_
      refine xr_iload_n (pc' := 40) 1 hC dX10_told_39 rfl rfl rfl ?_
      refine xr_if_ne (pc' := 43) 51 hC dX10_told_40 rfl (by decide) hf (fun hf => ?_) (fun hf => ?_)
      · exact w_m_told_b51 hC (m_told_b15 N n) ih _ _ _ _ _ hf
      refine xr_iload (pc' := 45) 4 hC dX10_told_43 rfl rfl ?_
      refine xr_if_ge (pc' := 48) 51 hC dX10_told_45 rfl (by decide) hf (fun hf => ?_) (fun hf => ?_)
      · exact w_m_told_b51 hC (m_told_b15 N n) ih _ _ _ _ _ hf
      refine xr_iinc (pc' := 51) hC dX10_told_48 rfl _ rfl hf 2 rfl (by decide) [1, 2, 0, 3, 4] (fun l2_11 => [(0, .ref (E.2.2.1 0)), (1, .int l1), (2, .int l2_11), (3, .int l3), (4, .int v3)]) (fun _ => rfl) (fun l2_11 hf => ?_)
      exact w_m_told_b51 hC (m_told_b15 N n) ih _ _ _ _ _ hf
    refine xr_goto 71 hC dX10_told_29 (by decide) ?_
    refine xr_iinc (pc' := 74) hC dX10_told_71 rfl _ rfl hf 3 rfl (by decide) [1, 2, 3, 0] (fun l3_12 => [(0, .ref (E.2.2.1 0)), (1, .int l1), (2, .int l2), (3, .int l3_12)]) (fun _ => rfl) (fun l3_12 hf => ?_)
    refine xr_goto 15 hC dX10_told_74 (by decide) ?_
    exact ih _ _ _ _ hf

set_option maxRecDepth 100000 in
set_option maxHeartbeats 4000000 in
theorem c_m_told {l : Launch} {E : mE} {N : Nat} (hG : xOk (GM E)) {l1 : Int32} {σ : xS} {r : Int32} {σ' : xS} (hf : m_told N l1 σ = some (r, σ')) : xMet l (GM E) yX10_told cX10_told 5 (some .int) (k2_rm 3 66) [.ref (E.2.2.1 0), .int l1] σ (some (.int r)) σ' := by
  refine x_met (own := RX10) (by decide +kernel) hG rfl (Nat.le_of_ble_eq_true rfl) (fun C hl hC => ?_)
  subst hl
  show xw C (GM E) 5 (xq C (GM E) (some (.int r)) σ') σ 0 [(0, .ref (E.2.2.1 0)), (1, .int l1)] []
  unfold m_told at hf
  refine xr_iload_n (pc' := 1) 1 hC dX10_told_0 rfl rfl rfl ?_
  refine xr_if_eq (pc' := 4) 11 hC dX10_told_1 rfl (by decide) hf (fun hf => ?_) (fun hf => ?_)
  · refine xr_iconst (pc' := 12) (0 : Int32) hC dX10_told_11 rfl (by decide) ?_
    refine xr_istore_n (pc' := 13) (lv' := [(0, .ref (E.2.2.1 0)), (1, .int l1), (2, .int (0 : Int32))]) hC dX10_told_12 rfl rfl (by decide) [1, 2, 0] rfl ?_
    refine xr_iconst (pc' := 14) (0 : Int32) hC dX10_told_13 rfl (by decide) ?_
    refine xr_istore_n (pc' := 15) (lv' := [(0, .ref (E.2.2.1 0)), (1, .int l1), (2, .int (0 : Int32)), (3, .int (0 : Int32))]) hC dX10_told_14 rfl rfl (by decide) [1, 2, 3, 0] rfl ?_
    exact w_m_told_b15 hC N _ _ _ _ hf
  refine xr_iload_n (pc' := 5) 1 hC dX10_told_4 rfl rfl rfl ?_
  refine xr_iconst (pc' := 6) (1 : Int32) hC dX10_told_5 rfl (by decide) ?_
  refine xr_icmp_eq (pc' := 9) 11 hC dX10_told_6 rfl (by decide) hf (fun hf => ?_) (fun hf => ?_)
  · refine xr_iconst (pc' := 12) (0 : Int32) hC dX10_told_11 rfl (by decide) ?_
    refine xr_istore_n (pc' := 13) (lv' := [(0, .ref (E.2.2.1 0)), (1, .int l1), (2, .int (0 : Int32))]) hC dX10_told_12 rfl rfl (by decide) [1, 2, 0] rfl ?_
    refine xr_iconst (pc' := 14) (0 : Int32) hC dX10_told_13 rfl (by decide) ?_
    refine xr_istore_n (pc' := 15) (lv' := [(0, .ref (E.2.2.1 0)), (1, .int l1), (2, .int (0 : Int32)), (3, .int (0 : Int32))]) hC dX10_told_14 rfl rfl (by decide) [1, 2, 3, 0] rfl ?_
    exact w_m_told_b15 hC N _ _ _ _ hf
  refine xr_iconst (pc' := 10) (-1 : Int32) hC dX10_told_9 rfl (by decide) ?_
  exact xr_ireturn hC dX10_told_10 hf

