set_option maxRecDepth 100000 in
set_option maxHeartbeats 4000000 in
theorem c_tape_hasRoomForTwenty {l : Launch} {E : xE} {N : Nat} (hG : xOk (GX E)) {σ : xS} {r : Int32} {σ' : xS} (hf : tape_hasRoomForTwenty N σ = some (r, σ')) : xMet l (GX E) yX7_hasRoomForTwenty cX7_hasRoomForTwenty 1 (some .boolean) (k2_rm 0 0) [.ref (E.2.2.1 1)] σ (some (.int r)) σ' := by
  refine x_met (own := RX7) (by decide +kernel) hG rfl (Nat.le_of_ble_eq_true rfl) (fun C hl hC => ?_)
  subst hl
  show xw C (GX E) 1 (xq C (GX E) (some (.int r)) σ') σ 0 [(0, .ref (E.2.2.1 1))] []
  unfold tape_hasRoomForTwenty at hf
  refine xr_aload_n (pc' := 1) 0 hC dX7_hasRoomForTwenty_0 rfl rfl rfl ?_
  refine gX7_tape_length (pc' := 4) hC dX7_hasRoomForTwenty_1 rfl ?_
  refine xr_sipush (pc' := 7) (380 : Int32) hC dX7_hasRoomForTwenty_4 rfl (by decide) ?_
  refine xr_icmp_gt (pc' := 10) 14 hC dX7_hasRoomForTwenty_7 rfl (by decide) hf (fun hf => ?_) (fun hf => ?_)
  · refine xr_iconst (pc' := 15) (0 : Int32) hC dX7_hasRoomForTwenty_14 rfl (by decide) ?_
    exact xr_zreturn hC dX7_hasRoomForTwenty_15 rfl hf
  refine xr_iconst (pc' := 11) (1 : Int32) hC dX7_hasRoomForTwenty_10 rfl (by decide) ?_
  refine xr_goto 15 hC dX7_hasRoomForTwenty_11 (by decide) ?_
  exact xr_zreturn hC dX7_hasRoomForTwenty_15 rfl hf

set_option maxRecDepth 100000 in
set_option maxHeartbeats 4000000 in
theorem w_tape_addFour_b3 {C : xT} {E : xE} {N : Nat} {r : Int32} {σ' : xS} (hC : xc C (GX E) RX7 cX7_addFour 3 none (k2_rm 0 0)) : ∀ (n : Nat) (l1 l2 : Int32) (σ : xS), tape_addFour_b3 N n l1 l2 σ = some (r, σ') → xw C (GX E) 3 (xq C (GX E) none σ') σ 3 [(0, .ref (E.2.2.1 1)), (1, .int l1), (2, .int l2)] [] := by
  intro n
  induction n with
  | zero =>
    intro l1 l2 σ hf
    rw [tape_addFour_b3] at hf
    cases hf
  | succ n ih =>
    intro l1 l2 σ hf
    rw [tape_addFour_b3] at hf
    refine xr_iload_n (pc' := 4) 2 hC dX7_addFour_3 rfl rfl rfl ?_
    refine xr_if_lt (pc' := 7) 49 hC dX7_addFour_4 rfl (by decide) hf (fun hf => ?_) (fun hf => ?_)
    · exact xr_return hC dX7_addFour_49 hf
    refine xr_aload_n (pc' := 8) 0 hC dX7_addFour_7 rfl rfl rfl ?_
    refine gX7_tape_length (pc' := 11) hC dX7_addFour_8 rfl ?_
    refine xr_sipush (pc' := 14) (400 : Int32) hC dX7_addFour_11 rfl (by decide) ?_
    refine xr_icmp_ge (pc' := 17) 49 hC dX7_addFour_14 rfl (by decide) hf (fun hf => ?_) (fun hf => ?_)
    · exact xr_return hC dX7_addFour_49 hf
    refine xr_aload_n (pc' := 18) 0 hC dX7_addFour_17 rfl rfl rfl ?_
    refine gX7_tape_bytes (pc' := 21) hC dX7_addFour_18 rfl ?_
    refine xr_aload_n (pc' := 22) 0 hC dX7_addFour_21 rfl rfl rfl ?_
    refine gX7_tape_length (pc' := 25) hC dX7_addFour_22 rfl ?_
    refine xr_iload_n (pc' := 26) 1 hC dX7_addFour_25 rfl rfl rfl ?_
    refine xr_iload_n (pc' := 27) 2 hC dX7_addFour_26 rfl rfl rfl ?_
    refine xr_iushr (pc' := 28) hC dX7_addFour_27 rfl ?_
    refine xr_sipush (pc' := 31) (255 : Int32) hC dX7_addFour_28 rfl (by decide) ?_
    refine xr_iand (pc' := 32) hC dX7_addFour_31 rfl ?_
    refine sX_0 (pc' := 33) hC dX7_addFour_32 rfl hf (fun σ1 hf => ?_)
    refine xr_aload_n (pc' := 34) 0 hC dX7_addFour_33 rfl rfl rfl ?_
    refine xr_dup (pc' := 35) hC dX7_addFour_34 rfl rfl ?_
    refine gX7_tape_length (pc' := 38) hC dX7_addFour_35 rfl ?_
    refine xr_iconst (pc' := 39) (1 : Int32) hC dX7_addFour_38 rfl (by decide) ?_
    refine xr_iadd (pc' := 40) hC dX7_addFour_39 rfl ?_
    refine pX7_tape_length (pc' := 43) hC dX7_addFour_40 rfl hf (fun σ2 hf => ?_)
    refine xr_iinc (pc' := 46) hC dX7_addFour_43 rfl _ rfl hf 2 rfl (by decide) [1, 2, 0] (fun l2_3 => [(0, .ref (E.2.2.1 1)), (1, .int l1), (2, .int l2_3)]) (fun _ => rfl) (fun l2_3 hf => ?_)
    refine xr_goto 3 hC dX7_addFour_46 (by decide) ?_
    exact ih _ _ _ hf

set_option maxRecDepth 100000 in
set_option maxHeartbeats 4000000 in
theorem c_tape_addFour {l : Launch} {E : xE} {N : Nat} (hG : xOk (GX E)) {l1 : Int32} {σ : xS} {r : Int32} {σ' : xS} (hf : tape_addFour N l1 σ = some (r, σ')) : xMet l (GX E) yX7_addFour cX7_addFour 3 none (k2_rm 0 0) [.ref (E.2.2.1 1), .int l1] σ none σ' := by
  refine x_met (own := RX7) (by decide +kernel) hG rfl (Nat.le_of_ble_eq_true rfl) (fun C hl hC => ?_)
  subst hl
  show xw C (GX E) 3 (xq C (GX E) none σ') σ 0 [(0, .ref (E.2.2.1 1)), (1, .int l1)] []
  unfold tape_addFour at hf
  refine xr_bipush (pc' := 2) (24 : Int32) hC dX7_addFour_0 rfl (by decide) ?_
  refine xr_istore_n (pc' := 3) (lv' := [(0, .ref (E.2.2.1 1)), (1, .int l1), (2, .int (24 : Int32))]) hC dX7_addFour_2 rfl rfl (by decide) [1, 2, 0] rfl ?_
  exact w_tape_addFour_b3 hC N _ _ _ hf

set_option maxRecDepth 100000 in
set_option maxHeartbeats 4000000 in
theorem c_tape_size {l : Launch} {E : xE} {N : Nat} (hG : xOk (GX E)) {σ : xS} {r : Int32} {σ' : xS} (hf : tape_size N σ = some (r, σ')) : xMet l (GX E) yX7_size cX7_size 1 (some .int) (k2_rm 0 0) [.ref (E.2.2.1 1)] σ (some (.int r)) σ' := by
  refine x_met (own := RX7) (by decide +kernel) hG rfl (Nat.le_of_ble_eq_true rfl) (fun C hl hC => ?_)
  subst hl
  show xw C (GX E) 1 (xq C (GX E) (some (.int r)) σ') σ 0 [(0, .ref (E.2.2.1 1))] []
  unfold tape_size at hf
  refine xr_aload_n (pc' := 1) 0 hC dX7_size_0 rfl rfl rfl ?_
  refine gX7_tape_length (pc' := 4) hC dX7_size_1 rfl ?_
  exact xr_ireturn hC dX7_size_4 hf

set_option maxRecDepth 100000 in
set_option maxHeartbeats 4000000 in
theorem c_cw_feed {l : Launch} {E : xE} {N : Nat} (hG : xOk (GX E)) {l1 l2 l3 l4 l5 : Int32} {σ : xS} {r : Int32} {σ' : xS} (hf : cw_feed N l1 l2 l3 l4 l5 σ = some (r, σ')) : xMet l (GX E) yX9_feed cX9_feed 6 (some .int) (k2_rm 1 22) [.ref (E.2.2.1 0), .int l1, .int l2, .int l3, .int l4, .int l5] σ (some (.int r)) σ' := by
  refine x_met (own := RX9) (by decide +kernel) hG rfl (Nat.le_of_ble_eq_true rfl) (fun C hl hC => ?_)
  subst hl
  show xw C (GX E) 6 (xq C (GX E) (some (.int r)) σ') σ 0 [(0, .ref (E.2.2.1 0)), (1, .int l1), (2, .int l2), (3, .int l3), (4, .int l4), (5, .int l5)] []
  unfold cw_feed at hf
  refine xr_aload_n (pc' := 1) 0 hC dX9_feed_0 rfl rfl rfl ?_
  refine gX9_cw_tape (pc' := 4) hC dX9_feed_1 rfl ?_
  refine xr_callV (pc' := 7) (rmy := k2_rm 0 0) [] 1 hC dX9_feed_4 rfl kX9_74 rfl rfl rfl rfl rfl ⟨Nat.le_of_ble_eq_true rfl, Nat.le_of_ble_eq_true rfl⟩ rfl (Nat.le_of_ble_eq_true rfl) hf (fun _ _ h => c_tape_hasRoomForTwenty (xc_ok hC) h) (fun v1 σ2 hf => ?_)
  refine xr_if_ne (pc' := 10) 12 hC dX9_feed_7 rfl (by decide) hf (fun hf => ?_) (fun hf => ?_)
  · refine xr_aload_n (pc' := 13) 0 hC dX9_feed_12 rfl rfl rfl ?_
    refine gX9_cw_tape (pc' := 16) hC dX9_feed_13 rfl ?_
    refine xr_iload_n (pc' := 17) 1 hC dX9_feed_16 rfl rfl rfl ?_
    refine xr_callVv (pc' := 20) (rmy := k2_rm 0 0) [.int l1] 1 hC dX9_feed_17 rfl kX9_78 rfl rfl rfl rfl rfl ⟨Nat.le_of_ble_eq_true rfl, Nat.le_of_ble_eq_true rfl⟩ rfl (Nat.le_of_ble_eq_true rfl) hf (fun _ _ h => c_tape_addFour (xc_ok hC) h) (fun v3 σ4 hf => ?_)
    refine xr_aload_n (pc' := 21) 0 hC dX9_feed_20 rfl rfl rfl ?_
    refine gX9_cw_tape (pc' := 24) hC dX9_feed_21 rfl ?_
    refine xr_iload_n (pc' := 25) 2 hC dX9_feed_24 rfl rfl rfl ?_
    refine xr_callVv (pc' := 28) (rmy := k2_rm 0 0) [.int l2] 1 hC dX9_feed_25 rfl kX9_78 rfl rfl rfl rfl rfl ⟨Nat.le_of_ble_eq_true rfl, Nat.le_of_ble_eq_true rfl⟩ rfl (Nat.le_of_ble_eq_true rfl) hf (fun _ _ h => c_tape_addFour (xc_ok hC) h) (fun v5 σ6 hf => ?_)
    refine xr_aload_n (pc' := 29) 0 hC dX9_feed_28 rfl rfl rfl ?_
    refine gX9_cw_tape (pc' := 32) hC dX9_feed_29 rfl ?_
    refine xr_iload_n (pc' := 33) 3 hC dX9_feed_32 rfl rfl rfl ?_
    refine xr_callVv (pc' := 36) (rmy := k2_rm 0 0) [.int l3] 1 hC dX9_feed_33 rfl kX9_78 rfl rfl rfl rfl rfl ⟨Nat.le_of_ble_eq_true rfl, Nat.le_of_ble_eq_true rfl⟩ rfl (Nat.le_of_ble_eq_true rfl) hf (fun _ _ h => c_tape_addFour (xc_ok hC) h) (fun v7 σ8 hf => ?_)
    refine xr_aload_n (pc' := 37) 0 hC dX9_feed_36 rfl rfl rfl ?_
    refine gX9_cw_tape (pc' := 40) hC dX9_feed_37 rfl ?_
    refine xr_iload (pc' := 42) 4 hC dX9_feed_40 rfl rfl ?_
    refine xr_callVv (pc' := 45) (rmy := k2_rm 0 0) [.int l4] 1 hC dX9_feed_42 rfl kX9_78 rfl rfl rfl rfl rfl ⟨Nat.le_of_ble_eq_true rfl, Nat.le_of_ble_eq_true rfl⟩ rfl (Nat.le_of_ble_eq_true rfl) hf (fun _ _ h => c_tape_addFour (xc_ok hC) h) (fun v9 σ10 hf => ?_)
    refine xr_aload_n (pc' := 46) 0 hC dX9_feed_45 rfl rfl rfl ?_
    refine gX9_cw_tape (pc' := 49) hC dX9_feed_46 rfl ?_
    refine xr_iload (pc' := 51) 5 hC dX9_feed_49 rfl rfl ?_
    refine xr_callVv (pc' := 54) (rmy := k2_rm 0 0) [.int l5] 1 hC dX9_feed_51 rfl kX9_78 rfl rfl rfl rfl rfl ⟨Nat.le_of_ble_eq_true rfl, Nat.le_of_ble_eq_true rfl⟩ rfl (Nat.le_of_ble_eq_true rfl) hf (fun _ _ h => c_tape_addFour (xc_ok hC) h) (fun v11 σ12 hf => ?_)
    refine xr_aload_n (pc' := 55) 0 hC dX9_feed_54 rfl rfl rfl ?_
    refine gX9_cw_tape (pc' := 58) hC dX9_feed_55 rfl ?_
    refine xr_callV (pc' := 61) (rmy := k2_rm 0 0) [] 1 hC dX9_feed_58 rfl kX9_82 rfl rfl rfl rfl rfl ⟨Nat.le_of_ble_eq_true rfl, Nat.le_of_ble_eq_true rfl⟩ rfl (Nat.le_of_ble_eq_true rfl) hf (fun _ _ h => c_tape_size (xc_ok hC) h) (fun v13 σ14 hf => ?_)
    exact xr_ireturn hC dX9_feed_61 hf
  refine xr_iconst (pc' := 11) (-1 : Int32) hC dX9_feed_10 rfl (by decide) ?_
  exact xr_ireturn hC dX9_feed_11 hf

set_option maxRecDepth 100000 in
set_option maxHeartbeats 4000000 in
theorem c_tape_keepFirst {l : Launch} {E : xE} {N : Nat} (hG : xOk (GX E)) {l1 : Int32} {σ : xS} {r : Int32} {σ' : xS} (hf : tape_keepFirst N l1 σ = some (r, σ')) : xMet l (GX E) yX7_keepFirst cX7_keepFirst 2 (some .boolean) (k2_rm 0 0) [.ref (E.2.2.1 1), .int l1] σ (some (.int r)) σ' := by
  refine x_met (own := RX7) (by decide +kernel) hG rfl (Nat.le_of_ble_eq_true rfl) (fun C hl hC => ?_)
  subst hl
  show xw C (GX E) 2 (xq C (GX E) (some (.int r)) σ') σ 0 [(0, .ref (E.2.2.1 1)), (1, .int l1)] []
  unfold tape_keepFirst at hf
  refine xr_iload_n (pc' := 1) 1 hC dX7_keepFirst_0 rfl rfl rfl ?_
  refine xr_if_lt (pc' := 4) 12 hC dX7_keepFirst_1 rfl (by decide) hf (fun hf => ?_) (fun hf => ?_)
  · refine xr_iconst (pc' := 13) (0 : Int32) hC dX7_keepFirst_12 rfl (by decide) ?_
    exact xr_zreturn hC dX7_keepFirst_13 rfl hf
  refine xr_iload_n (pc' := 5) 1 hC dX7_keepFirst_4 rfl rfl rfl ?_
  refine xr_aload_n (pc' := 6) 0 hC dX7_keepFirst_5 rfl rfl rfl ?_
  refine gX7_tape_length (pc' := 9) hC dX7_keepFirst_6 rfl ?_
  refine xr_icmp_le (pc' := 12) 14 hC dX7_keepFirst_9 rfl (by decide) hf (fun hf => ?_) (fun hf => ?_)
  · refine xr_aload_n (pc' := 15) 0 hC dX7_keepFirst_14 rfl rfl rfl ?_
    refine xr_iload_n (pc' := 16) 1 hC dX7_keepFirst_15 rfl rfl rfl ?_
    refine pX7_tape_length (pc' := 19) hC dX7_keepFirst_16 rfl hf (fun σ1 hf => ?_)
    refine xr_iconst (pc' := 20) (1 : Int32) hC dX7_keepFirst_19 rfl (by decide) ?_
    exact xr_zreturn hC dX7_keepFirst_20 rfl hf
  refine xr_iconst (pc' := 13) (0 : Int32) hC dX7_keepFirst_12 rfl (by decide) ?_
  exact xr_zreturn hC dX7_keepFirst_13 rfl hf

set_option maxRecDepth 100000 in
set_option maxHeartbeats 4000000 in
theorem c_cw_end {l : Launch} {E : xE} {N : Nat} (hG : xOk (GX E)) {l1 : Int32} {σ : xS} {r : Int32} {σ' : xS} (hf : cw_end N l1 σ = some (r, σ')) : xMet l (GX E) yX9_end cX9_end 2 (some .boolean) (k2_rm 1 21) [.ref (E.2.2.1 0), .int l1] σ (some (.int r)) σ' := by
  refine x_met (own := RX9) (by decide +kernel) hG rfl (Nat.le_of_ble_eq_true rfl) (fun C hl hC => ?_)
  subst hl
  show xw C (GX E) 2 (xq C (GX E) (some (.int r)) σ') σ 0 [(0, .ref (E.2.2.1 0)), (1, .int l1)] []
  unfold cw_end at hf
  refine xr_aload_n (pc' := 1) 0 hC dX9_end_0 rfl rfl rfl ?_
  refine gX9_cw_tape (pc' := 4) hC dX9_end_1 rfl ?_
  refine xr_iload_n (pc' := 5) 1 hC dX9_end_4 rfl rfl rfl ?_
  refine xr_callV (pc' := 8) (rmy := k2_rm 0 0) [.int l1] 1 hC dX9_end_5 rfl kX9_86 rfl rfl rfl rfl rfl ⟨Nat.le_of_ble_eq_true rfl, Nat.le_of_ble_eq_true rfl⟩ rfl (Nat.le_of_ble_eq_true rfl) hf (fun _ _ h => c_tape_keepFirst (xc_ok hC) h) (fun v1 σ2 hf => ?_)
  exact xr_breturn hC dX9_end_8 hf

set_option maxRecDepth 100000 in
set_option maxHeartbeats 4000000 in
theorem c_cl_canBeSide {l : Launch} {E : xE} {N : Nat} (hG : xOk (GX E)) {l0 : Int32} {σ : xS} {r : Int32} {σ' : xS} (hf : cl_canBeSide N l0 σ = some (r, σ')) : xMet l (GX E) yX0_canBeSide cX0_canBeSide 1 (some .boolean) (k2_rm 0 0) [.int l0] σ (some (.int r)) σ' := by
  refine x_met (own := RX0) (by decide +kernel) hG rfl (Nat.le_of_ble_eq_true rfl) (fun C hl hC => ?_)
  subst hl
  show xw C (GX E) 1 (xq C (GX E) (some (.int r)) σ') σ 0 [(0, .int l0)] []
  unfold cl_canBeSide at hf
  refine xr_iload_n (pc' := 1) 0 hC dX0_canBeSide_0 rfl rfl rfl ?_
  refine xr_iconst (pc' := 2) (1 : Int32) hC dX0_canBeSide_1 rfl (by decide) ?_
  refine xr_icmp_lt (pc' := 5) 15 hC dX0_canBeSide_2 rfl (by decide) hf (fun hf => ?_) (fun hf => ?_)
  · refine xr_iconst (pc' := 16) (0 : Int32) hC dX0_canBeSide_15 rfl (by decide) ?_
    exact xr_zreturn hC dX0_canBeSide_16 rfl hf
  refine xr_iload_n (pc' := 6) 0 hC dX0_canBeSide_5 rfl rfl rfl ?_
  refine xr_bipush (pc' := 8) (8 : Int32) hC dX0_canBeSide_6 rfl (by decide) ?_
  refine xr_icmp_gt (pc' := 11) 15 hC dX0_canBeSide_8 rfl (by decide) hf (fun hf => ?_) (fun hf => ?_)
  · refine xr_iconst (pc' := 16) (0 : Int32) hC dX0_canBeSide_15 rfl (by decide) ?_
    exact xr_zreturn hC dX0_canBeSide_16 rfl hf
  refine xr_iconst (pc' := 12) (1 : Int32) hC dX0_canBeSide_11 rfl (by decide) ?_
  refine xr_goto 16 hC dX0_canBeSide_12 (by decide) ?_
  exact xr_zreturn hC dX0_canBeSide_16 rfl hf

set_option maxRecDepth 100000 in
set_option maxHeartbeats 4000000 in
theorem w_ju_fill_solidCells_b5 {C : xT} {E : xE} {N : Nat} {r : Int32} {σ' : xS} (hC : xc C (GX E) RJ7 cJ7_fill_53178 4 none (k2_rm 0 0)) : ∀ (n : Nat) (l1 l2 l3 : Int32) (σ : xS), ju_fill_b5 4 1000 N n l1 l2 l3 σ = some (r, σ') → xw C (GX E) 4 (xq C (GX E) none σ') σ 5 [(0, .ref (E.2.2.1 15)), (1, .int l1), (2, .int l2), (3, .int l3)] [] := by
  intro n
  induction n with
  | zero =>
    intro l1 l2 l3 σ hf
    rw [ju_fill_b5] at hf
    cases hf
  | succ n ih =>
    intro l1 l2 l3 σ hf
    rw [ju_fill_b5] at hf
    refine xr_iload_n (pc' := 6) 2 hC dJ7_fill_53178_5 rfl rfl rfl ?_
    refine xr_iload_n (pc' := 7) 3 hC dJ7_fill_53178_6 rfl rfl rfl ?_
    refine xr_icmp_ge (pc' := 10) 20 hC dJ7_fill_53178_7 rfl (by decide) hf (fun hf => ?_) (fun hf => ?_)
    · exact xr_return hC dJ7_fill_53178_20 hf
    refine xr_aload_n (pc' := 11) 0 hC dJ7_fill_53178_10 rfl rfl rfl ?_
    refine xr_iload_n (pc' := 12) 2 hC dJ7_fill_53178_11 rfl rfl rfl ?_
    refine xr_iload_n (pc' := 13) 1 hC dJ7_fill_53178_12 rfl rfl rfl ?_
    refine sX_4 (pc' := 14) hC dJ7_fill_53178_13 rfl hf (fun σ2 hf => ?_)
    refine xr_iinc (pc' := 17) hC dJ7_fill_53178_14 rfl _ rfl hf 2 rfl (by decide) [1, 2, 0, 3] (fun l2_3 => [(0, .ref (E.2.2.1 15)), (1, .int l1), (2, .int l2_3), (3, .int l3)]) (fun _ => rfl) (fun l2_3 hf => ?_)
    refine xr_goto 5 hC dJ7_fill_53178_17 (by decide) ?_
    exact ih _ _ _ _ hf

set_option maxRecDepth 100000 in
set_option maxHeartbeats 4000000 in
theorem c_ju_fill_solidCells {l : Launch} {E : xE} {N : Nat} (hG : xOk (GX E)) {l1 : Int32} {σ : xS} {r : Int32} {σ' : xS} (hf : ju_fill 4 1000 N l1 σ = some (r, σ')) : xMet l (GX E) yJ7_fill_53178 cJ7_fill_53178 4 none (k2_rm 0 0) [.ref (E.2.2.1 15), .int l1] σ none σ' := by
  refine x_met (own := RJ7) (by decide +kernel) hG rfl (Nat.le_of_ble_eq_true rfl) (fun C hl hC => ?_)
  subst hl
  show xw C (GX E) 4 (xq C (GX E) none σ') σ 0 [(0, .ref (E.2.2.1 15)), (1, .int l1)] []
  unfold ju_fill at hf
  refine xr_iconst (pc' := 1) (0 : Int32) hC dJ7_fill_53178_0 rfl (by decide) ?_
  refine xr_istore_n (pc' := 2) (lv' := [(0, .ref (E.2.2.1 15)), (1, .int l1), (2, .int (0 : Int32))]) hC dJ7_fill_53178_1 rfl rfl (by decide) [1, 2, 0] rfl ?_
  refine xr_aload_n (pc' := 3) 0 hC dJ7_fill_53178_2 rfl rfl rfl ?_
  refine nX_4 (pc' := 4) hC dJ7_fill_53178_3 rfl ?_
  refine xr_istoreb_n (pc' := 5) hC dJ7_fill_53178_4 rfl hf rfl (by decide) [1, 2, 3, 0] (fun l3_1 => [(0, .ref (E.2.2.1 15)), (1, .int l1), (2, .int (0 : Int32)), (3, .int l3_1)]) (fun _ => rfl) (fun l3_1 hf => ?_)
  exact w_ju_fill_solidCells_b5 hC N _ _ _ _ hf

set_option maxRecDepth 100000 in
set_option maxHeartbeats 4000000 in
theorem c_draft_begin {l : Launch} {E : xE} {N : Nat} (hG : xOk (GX E)) {l1 l2 l3 : Int32} {σ : xS} {r : Int32} {σ' : xS} (hf : draft_begin N l1 l2 l3 σ = some (r, σ')) : xMet l (GX E) yX0_begin cX0_begin 4 none (k2_rm 1 23) [.ref (E.2.2.1 4), .int l1, .int l2, .int l3] σ none σ' := by
  refine x_met (own := RX0) (by decide +kernel) hG rfl (Nat.le_of_ble_eq_true rfl) (fun C hl hC => ?_)
  subst hl
  show xw C (GX E) 4 (xq C (GX E) none σ') σ 0 [(0, .ref (E.2.2.1 4)), (1, .int l1), (2, .int l2), (3, .int l3)] []
  unfold draft_begin at hf
  refine xr_aload_n (pc' := 1) 0 hC dX0_begin_0 rfl rfl rfl ?_
  refine xr_iload_n (pc' := 2) 1 hC dX0_begin_1 rfl rfl rfl ?_
  refine pX0_draft_wide (pc' := 5) hC dX0_begin_2 rfl hf (fun σ1 hf => ?_)
  refine xr_aload_n (pc' := 6) 0 hC dX0_begin_5 rfl rfl rfl ?_
  refine xr_iload_n (pc' := 7) 2 hC dX0_begin_6 rfl rfl rfl ?_
  refine pX0_draft_high (pc' := 10) hC dX0_begin_7 rfl hf (fun σ2 hf => ?_)
  refine xr_aload_n (pc' := 11) 0 hC dX0_begin_10 rfl rfl rfl ?_
  refine xr_iload_n (pc' := 12) 3 hC dX0_begin_11 rfl rfl rfl ?_
  refine pX0_draft_deep (pc' := 15) hC dX0_begin_12 rfl hf (fun σ3 hf => ?_)
  refine xr_aload_n (pc' := 16) 0 hC dX0_begin_15 rfl rfl rfl ?_
  refine gX0_draft_solidCells (pc' := 19) hC dX0_begin_16 rfl ?_
  refine xr_iconst (pc' := 20) (0 : Int32) hC dX0_begin_19 rfl (by decide) ?_
  refine xr_callSv (pc' := 23) (rmy := k2_rm 0 0) [.ref (E.2.2.1 15), .int (0 : Int32)] hC dX0_begin_20 rfl kX0_26 rfl rfl rfl ⟨Nat.le_of_ble_eq_true rfl, Nat.le_of_ble_eq_true rfl⟩ rfl (Nat.le_of_ble_eq_true rfl) hf (fun _ _ h => c_ju_fill_solidCells (xc_ok hC) h) (fun v4 σ5 hf => ?_)
  exact xr_return hC dX0_begin_23 hf

set_option maxRecDepth 100000 in
set_option maxHeartbeats 4000000 in
theorem c_tape_byteAt {l : Launch} {E : xE} {N : Nat} (hG : xOk (GX E)) {l1 : Int32} {σ : xS} {r : Int32} {σ' : xS} (hf : tape_byteAt N l1 σ = some (r, σ')) : xMet l (GX E) yX7_byteAt cX7_byteAt 2 (some .int) (k2_rm 0 0) [.ref (E.2.2.1 1), .int l1] σ (some (.int r)) σ' := by
  refine x_met (own := RX7) (by decide +kernel) hG rfl (Nat.le_of_ble_eq_true rfl) (fun C hl hC => ?_)
  subst hl
  show xw C (GX E) 2 (xq C (GX E) (some (.int r)) σ') σ 0 [(0, .ref (E.2.2.1 1)), (1, .int l1)] []
  unfold tape_byteAt at hf
  refine xr_iload_n (pc' := 1) 1 hC dX7_byteAt_0 rfl rfl rfl ?_
  refine xr_if_lt (pc' := 4) 21 hC dX7_byteAt_1 rfl (by decide) hf (fun hf => ?_) (fun hf => ?_)
  · refine xr_iconst (pc' := 22) (-1 : Int32) hC dX7_byteAt_21 rfl (by decide) ?_
    exact xr_ireturn hC dX7_byteAt_22 hf
  refine xr_iload_n (pc' := 5) 1 hC dX7_byteAt_4 rfl rfl rfl ?_
  refine xr_aload_n (pc' := 6) 0 hC dX7_byteAt_5 rfl rfl rfl ?_
  refine gX7_tape_length (pc' := 9) hC dX7_byteAt_6 rfl ?_
  refine xr_icmp_ge (pc' := 12) 21 hC dX7_byteAt_9 rfl (by decide) hf (fun hf => ?_) (fun hf => ?_)
  · refine xr_iconst (pc' := 22) (-1 : Int32) hC dX7_byteAt_21 rfl (by decide) ?_
    exact xr_ireturn hC dX7_byteAt_22 hf
  refine xr_aload_n (pc' := 13) 0 hC dX7_byteAt_12 rfl rfl rfl ?_
  refine gX7_tape_bytes (pc' := 16) hC dX7_byteAt_13 rfl ?_
  refine xr_iload_n (pc' := 17) 1 hC dX7_byteAt_16 rfl rfl rfl ?_
  refine lX_0 (pc' := 18) hC dX7_byteAt_17 rfl hf (fun v1 hf => ?_)
  refine xr_goto 22 hC dX7_byteAt_18 (by decide) ?_
  exact xr_ireturn hC dX7_byteAt_22 hf

set_option maxRecDepth 100000 in
set_option maxHeartbeats 4000000 in
theorem c_rd_isBlank {l : Launch} {E : xE} {N : Nat} (hG : xOk (GX E)) {l0 : Int32} {σ : xS} {r : Int32} {σ' : xS} (hf : rd_isBlank N l0 σ = some (r, σ')) : xMet l (GX E) yX8_isBlank cX8_isBlank 1 (some .boolean) (k2_rm 0 0) [.int l0] σ (some (.int r)) σ' := by
  refine x_met (own := RX8) (by decide +kernel) hG rfl (Nat.le_of_ble_eq_true rfl) (fun C hl hC => ?_)
  subst hl
  show xw C (GX E) 1 (xq C (GX E) (some (.int r)) σ') σ 0 [(0, .int l0)] []
  unfold rd_isBlank at hf
  refine xr_iload_n (pc' := 1) 0 hC dX8_isBlank_0 rfl rfl rfl ?_
  refine xr_bipush (pc' := 3) (10 : Int32) hC dX8_isBlank_1 rfl (by decide) ?_
  refine xr_icmp_eq (pc' := 6) 12 hC dX8_isBlank_3 rfl (by decide) hf (fun hf => ?_) (fun hf => ?_)
  · refine xr_iconst (pc' := 13) (1 : Int32) hC dX8_isBlank_12 rfl (by decide) ?_
    refine xr_goto 17 hC dX8_isBlank_13 (by decide) ?_
    exact xr_zreturn hC dX8_isBlank_17 rfl hf
  refine xr_iload_n (pc' := 7) 0 hC dX8_isBlank_6 rfl rfl rfl ?_
  refine xr_bipush (pc' := 9) (32 : Int32) hC dX8_isBlank_7 rfl (by decide) ?_
  refine xr_icmp_ne (pc' := 12) 16 hC dX8_isBlank_9 rfl (by decide) hf (fun hf => ?_) (fun hf => ?_)
  · refine xr_iconst (pc' := 17) (0 : Int32) hC dX8_isBlank_16 rfl (by decide) ?_
    exact xr_zreturn hC dX8_isBlank_17 rfl hf
  refine xr_iconst (pc' := 13) (1 : Int32) hC dX8_isBlank_12 rfl (by decide) ?_
  refine xr_goto 17 hC dX8_isBlank_13 (by decide) ?_
  exact xr_zreturn hC dX8_isBlank_17 rfl hf

set_option maxRecDepth 100000 in
set_option maxHeartbeats 4000000 in
theorem w_reader_skipBlanks_b0 {C : xT} {E : xE} {N : Nat} {r : Int32} {σ' : xS} (hC : xc C (GX E) RX8 cX8_skipBlanks 1 none (k2_rm 1 21)) : ∀ (n : Nat) (σ : xS), reader_skipBlanks_b0 N n σ = some (r, σ') → xw C (GX E) 1 (xq C (GX E) none σ') σ 0 [(0, .ref (E.2.2.1 2))] [] := by
  intro n
  induction n with
  | zero =>
    intro σ hf
    rw [reader_skipBlanks_b0] at hf
    cases hf
  | succ n ih =>
    intro σ hf
    rw [reader_skipBlanks_b0] at hf
    refine xr_aload_n (pc' := 1) 0 hC dX8_skipBlanks_0 rfl rfl rfl ?_
    refine gX8_reader_place (pc' := 4) hC dX8_skipBlanks_1 rfl ?_
    refine xr_aload_n (pc' := 5) 0 hC dX8_skipBlanks_4 rfl rfl rfl ?_
    refine gX8_reader_tape (pc' := 8) hC dX8_skipBlanks_5 rfl ?_
    refine xr_callV (pc' := 11) (rmy := k2_rm 0 0) [] 1 hC dX8_skipBlanks_8 rfl kX8_34 rfl rfl rfl rfl rfl ⟨Nat.le_of_ble_eq_true rfl, Nat.le_of_ble_eq_true rfl⟩ rfl (Nat.le_of_ble_eq_true rfl) hf (fun _ _ h => c_tape_size (xc_ok hC) h) (fun v1 σ2 hf => ?_)
    refine xr_icmp_ge (pc' := 14) 44 hC dX8_skipBlanks_11 rfl (by decide) hf (fun hf => ?_) (fun hf => ?_)
    · exact xr_return hC dX8_skipBlanks_44 hf
    refine xr_aload_n (pc' := 15) 0 hC dX8_skipBlanks_14 rfl rfl rfl ?_
    refine gX8_reader_tape (pc' := 18) hC dX8_skipBlanks_15 rfl ?_
    refine xr_aload_n (pc' := 19) 0 hC dX8_skipBlanks_18 rfl rfl rfl ?_
    refine gX8_reader_place (pc' := 22) hC dX8_skipBlanks_19 rfl ?_
    refine xr_callV (pc' := 25) (rmy := k2_rm 0 0) [.int (σ2.1 1)] 1 hC dX8_skipBlanks_22 rfl kX8_81 rfl rfl rfl rfl rfl ⟨Nat.le_of_ble_eq_true rfl, Nat.le_of_ble_eq_true rfl⟩ rfl (Nat.le_of_ble_eq_true rfl) hf (fun _ _ h => c_tape_byteAt (xc_ok hC) h) (fun v3 σ4 hf => ?_)
    refine xr_callS (pc' := 28) (rmy := k2_rm 0 0) [.int v3] hC dX8_skipBlanks_25 rfl kX8_117 rfl rfl rfl ⟨Nat.le_of_ble_eq_true rfl, Nat.le_of_ble_eq_true rfl⟩ rfl (Nat.le_of_ble_eq_true rfl) hf (fun _ _ h => c_rd_isBlank (xc_ok hC) h) (fun v5 σ6 hf => ?_)
    refine xr_if_eq (pc' := 31) 44 hC dX8_skipBlanks_28 rfl (by decide) hf (fun hf => ?_) (fun hf => ?_)
    · exact xr_return hC dX8_skipBlanks_44 hf
    refine xr_aload_n (pc' := 32) 0 hC dX8_skipBlanks_31 rfl rfl rfl ?_
    refine xr_dup (pc' := 33) hC dX8_skipBlanks_32 rfl rfl ?_
    refine gX8_reader_place (pc' := 36) hC dX8_skipBlanks_33 rfl ?_
    refine xr_iconst (pc' := 37) (1 : Int32) hC dX8_skipBlanks_36 rfl (by decide) ?_
    refine xr_iadd (pc' := 38) hC dX8_skipBlanks_37 rfl ?_
    refine pX8_reader_place (pc' := 41) hC dX8_skipBlanks_38 rfl hf (fun σ7 hf => ?_)
    refine xr_goto 0 hC dX8_skipBlanks_41 (by decide) ?_
    exact ih _ hf

set_option maxRecDepth 100000 in
set_option maxHeartbeats 4000000 in
theorem c_reader_skipBlanks {l : Launch} {E : xE} {N : Nat} (hG : xOk (GX E)) {σ : xS} {r : Int32} {σ' : xS} (hf : reader_skipBlanks N σ = some (r, σ')) : xMet l (GX E) yX8_skipBlanks cX8_skipBlanks 1 none (k2_rm 1 21) [.ref (E.2.2.1 2)] σ none σ' := by
  refine x_met (own := RX8) (by decide +kernel) hG rfl (Nat.le_of_ble_eq_true rfl) (fun C hl hC => ?_)
  subst hl
  show xw C (GX E) 1 (xq C (GX E) none σ') σ 0 [(0, .ref (E.2.2.1 2))] []
  unfold reader_skipBlanks at hf
  exact w_reader_skipBlanks_b0 hC N _ hf

set_option maxRecDepth 100000 in
set_option maxHeartbeats 4000000 in
theorem c_rd_isLetter {l : Launch} {E : xE} {N : Nat} (hG : xOk (GX E)) {l0 : Int32} {σ : xS} {r : Int32} {σ' : xS} (hf : rd_isLetter N l0 σ = some (r, σ')) : xMet l (GX E) yX8_isLetter cX8_isLetter 1 (some .boolean) (k2_rm 0 0) [.int l0] σ (some (.int r)) σ' := by
  refine x_met (own := RX8) (by decide +kernel) hG rfl (Nat.le_of_ble_eq_true rfl) (fun C hl hC => ?_)
  subst hl
  show xw C (GX E) 1 (xq C (GX E) (some (.int r)) σ') σ 0 [(0, .int l0)] []
  unfold rd_isLetter at hf
  refine xr_iload_n (pc' := 1) 0 hC dX8_isLetter_0 rfl rfl rfl ?_
  refine xr_bipush (pc' := 3) (97 : Int32) hC dX8_isLetter_1 rfl (by decide) ?_
  refine xr_icmp_lt (pc' := 6) 16 hC dX8_isLetter_3 rfl (by decide) hf (fun hf => ?_) (fun hf => ?_)
  · refine xr_iconst (pc' := 17) (0 : Int32) hC dX8_isLetter_16 rfl (by decide) ?_
    exact xr_zreturn hC dX8_isLetter_17 rfl hf
  refine xr_iload_n (pc' := 7) 0 hC dX8_isLetter_6 rfl rfl rfl ?_
  refine xr_bipush (pc' := 9) (122 : Int32) hC dX8_isLetter_7 rfl (by decide) ?_
  refine xr_icmp_gt (pc' := 12) 16 hC dX8_isLetter_9 rfl (by decide) hf (fun hf => ?_) (fun hf => ?_)
  · refine xr_iconst (pc' := 17) (0 : Int32) hC dX8_isLetter_16 rfl (by decide) ?_
    exact xr_zreturn hC dX8_isLetter_17 rfl hf
  refine xr_iconst (pc' := 13) (1 : Int32) hC dX8_isLetter_12 rfl (by decide) ?_
  refine xr_goto 17 hC dX8_isLetter_13 (by decide) ?_
  exact xr_zreturn hC dX8_isLetter_17 rfl hf

set_option maxRecDepth 100000 in
set_option maxHeartbeats 4000000 in
theorem w_reader_takeWord_b7 {C : xT} {E : xE} {N : Nat} {r : Int32} {σ' : xS} {w : Nat} (hC : xc C (GX E) RX8 cX8_takeWord 4 (some .boolean) (k2_rm 4 85)) (hw : w < 7) : ∀ (n : Nat) (l2 l3 : Int32) (σ : xS), reader_takeWord_b7 w N n l2 l3 σ = some (r, σ') → xw C (GX E) 4 (xq C (GX E) (some (.int r)) σ') σ 7 [(0, .ref (E.2.2.1 2)), (1, .ref (E.2.2.2.2.1 w)), (2, .int l2), (3, .int l3)] [] := by
  intro n
  induction n with
  | zero =>
    intro l2 l3 σ hf
    rw [reader_takeWord_b7] at hf
    cases hf
  | succ n ih =>
    intro l2 l3 σ hf
    rw [reader_takeWord_b7] at hf
    refine xr_iload_n (pc' := 8) 3 hC dX8_takeWord_7 rfl rfl rfl ?_
    refine xr_iload_n (pc' := 9) 2 hC dX8_takeWord_8 rfl rfl rfl ?_
    refine xr_icmp_ge (pc' := 12) 41 hC dX8_takeWord_9 rfl (by decide) hf (fun hf => ?_) (fun hf => ?_)
    · refine xr_aload_n (pc' := 42) 0 hC dX8_takeWord_41 rfl rfl rfl ?_
      refine gX8_reader_tape (pc' := 45) hC dX8_takeWord_42 rfl ?_
      refine xr_aload_n (pc' := 46) 0 hC dX8_takeWord_45 rfl rfl rfl ?_
      refine gX8_reader_place (pc' := 49) hC dX8_takeWord_46 rfl ?_
      refine xr_iload_n (pc' := 50) 2 hC dX8_takeWord_49 rfl rfl rfl ?_
      refine xr_iadd (pc' := 51) hC dX8_takeWord_50 rfl ?_
      refine xr_callV (pc' := 54) (rmy := k2_rm 0 0) [.int ((σ.1 1) + l2)] 1 hC dX8_takeWord_51 rfl kX8_81 rfl rfl rfl rfl rfl ⟨Nat.le_of_ble_eq_true rfl, Nat.le_of_ble_eq_true rfl⟩ rfl (Nat.le_of_ble_eq_true rfl) hf (fun _ _ h => c_tape_byteAt (xc_ok hC) h) (fun v3 σ4 hf => ?_)
      refine xr_callS (pc' := 57) (rmy := k2_rm 0 0) [.int v3] hC dX8_takeWord_54 rfl kX8_113 rfl rfl rfl ⟨Nat.le_of_ble_eq_true rfl, Nat.le_of_ble_eq_true rfl⟩ rfl (Nat.le_of_ble_eq_true rfl) hf (fun _ _ h => c_rd_isLetter (xc_ok hC) h) (fun v5 σ6 hf => ?_)
      refine xr_if_eq (pc' := 60) 62 hC dX8_takeWord_57 rfl (by decide) hf (fun hf => ?_) (fun hf => ?_)
      · refine xr_aload_n (pc' := 63) 0 hC dX8_takeWord_62 rfl rfl rfl ?_
        refine xr_dup (pc' := 64) hC dX8_takeWord_63 rfl rfl ?_
        refine gX8_reader_place (pc' := 67) hC dX8_takeWord_64 rfl ?_
        refine xr_iload_n (pc' := 68) 2 hC dX8_takeWord_67 rfl rfl rfl ?_
        refine xr_iadd (pc' := 69) hC dX8_takeWord_68 rfl ?_
        refine pX8_reader_place (pc' := 72) hC dX8_takeWord_69 rfl hf (fun σ7 hf => ?_)
        refine xr_iconst (pc' := 73) (1 : Int32) hC dX8_takeWord_72 rfl (by decide) ?_
        exact xr_zreturn hC dX8_takeWord_73 rfl hf
      refine xr_iconst (pc' := 61) (0 : Int32) hC dX8_takeWord_60 rfl (by decide) ?_
      exact xr_zreturn hC dX8_takeWord_61 rfl hf
    refine xr_aload_n (pc' := 13) 0 hC dX8_takeWord_12 rfl rfl rfl ?_
    refine gX8_reader_tape (pc' := 16) hC dX8_takeWord_13 rfl ?_
    refine xr_aload_n (pc' := 17) 0 hC dX8_takeWord_16 rfl rfl rfl ?_
    refine gX8_reader_place (pc' := 20) hC dX8_takeWord_17 rfl ?_
    refine xr_iload_n (pc' := 21) 3 hC dX8_takeWord_20 rfl rfl rfl ?_
    refine xr_iadd (pc' := 22) hC dX8_takeWord_21 rfl ?_
    refine xr_callV (pc' := 25) (rmy := k2_rm 0 0) [.int ((σ.1 1) + l3)] 1 hC dX8_takeWord_22 rfl kX8_81 rfl rfl rfl rfl rfl ⟨Nat.le_of_ble_eq_true rfl, Nat.le_of_ble_eq_true rfl⟩ rfl (Nat.le_of_ble_eq_true rfl) hf (fun _ _ h => c_tape_byteAt (xc_ok hC) h) (fun v8 σ9 hf => ?_)
    refine xr_aload_n (pc' := 26) 1 hC dX8_takeWord_25 rfl rfl rfl ?_
    refine xr_iload_n (pc' := 27) 3 hC dX8_takeWord_26 rfl rfl rfl ?_
    refine xr_schar (pc' := 30) hC dX8_takeWord_27 rfl hw (Nat.le_of_ble_eq_true rfl) (Nat.le_of_ble_eq_true rfl) (Nat.le_of_ble_eq_true rfl) hf (fun v10 hf => ?_)
    refine xr_icmp_eq (pc' := 33) 35 hC dX8_takeWord_30 rfl (by decide) hf (fun hf => ?_) (fun hf => ?_)
    · refine xr_iinc (pc' := 38) hC dX8_takeWord_35 rfl _ rfl hf 3 rfl (by decide) [1, 2, 3, 0] (fun l3_11 => [(0, .ref (E.2.2.1 2)), (1, .ref (E.2.2.2.2.1 w)), (2, .int l2), (3, .int l3_11)]) (fun _ => rfl) (fun l3_11 hf => ?_)
      refine xr_goto 7 hC dX8_takeWord_38 (by decide) ?_
      exact ih _ _ _ hf
    refine xr_iconst (pc' := 34) (0 : Int32) hC dX8_takeWord_33 rfl (by decide) ?_
    exact xr_zreturn hC dX8_takeWord_34 rfl hf

set_option maxRecDepth 100000 in
set_option maxHeartbeats 4000000 in
theorem c_reader_takeWord {w : Nat} (hw : w < 7) {l : Launch} {E : xE} {N : Nat} (hG : xOk (GX E)) {σ : xS} {r : Int32} {σ' : xS} (hf : reader_takeWord w N σ = some (r, σ')) : xMet l (GX E) yX8_takeWord cX8_takeWord 4 (some .boolean) (k2_rm 4 85) [.ref (E.2.2.1 2), .ref (E.2.2.2.2.1 w)] σ (some (.int r)) σ' := by
  refine x_met (own := RX8) (by decide +kernel) hG rfl (Nat.le_of_ble_eq_true rfl) (fun C hl hC => ?_)
  subst hl
  show xw C (GX E) 4 (xq C (GX E) (some (.int r)) σ') σ 0 [(0, .ref (E.2.2.1 2)), (1, .ref (E.2.2.2.2.1 w))] []
  unfold reader_takeWord at hf
  refine xr_aload_n (pc' := 1) 1 hC dX8_takeWord_0 rfl rfl rfl ?_
  refine xr_slen (pc' := 4) hC dX8_takeWord_1 rfl hw (Nat.le_of_ble_eq_true rfl) (Nat.le_of_ble_eq_true rfl) (Nat.le_of_ble_eq_true rfl) ?_
  refine xr_istoreb_n (pc' := 5) hC dX8_takeWord_4 rfl hf rfl (by decide) [1, 2, 0] (fun l2_2 => [(0, .ref (E.2.2.1 2)), (1, .ref (E.2.2.2.2.1 w)), (2, .int l2_2)]) (fun _ => rfl) (fun l2_2 hf => ?_)
  refine xr_iconst (pc' := 6) (0 : Int32) hC dX8_takeWord_5 rfl (by decide) ?_
  refine xr_istore_n (pc' := 7) (lv' := [(0, .ref (E.2.2.1 2)), (1, .ref (E.2.2.2.2.1 w)), (2, .int l2_2), (3, .int (0 : Int32))]) hC dX8_takeWord_6 rfl rfl (by decide) [1, 2, 3, 0] rfl ?_
  exact w_reader_takeWord_b7 hC hw N _ _ _ hf

set_option maxRecDepth 100000 in
set_option maxHeartbeats 4000000 in
theorem c_reader_refuse {l : Launch} {E : xE} {N : Nat} (hG : xOk (GX E)) {l1 l2 : Int32} {σ : xS} {r : Int32} {σ' : xS} (hf : reader_refuse N l1 l2 σ = some (r, σ')) : xMet l (GX E) yX8_refuse cX8_refuse 3 none (k2_rm 0 0) [.ref (E.2.2.1 2), .int l1, .int l2] σ none σ' := by
  refine x_met (own := RX8) (by decide +kernel) hG rfl (Nat.le_of_ble_eq_true rfl) (fun C hl hC => ?_)
  subst hl
  show xw C (GX E) 3 (xq C (GX E) none σ') σ 0 [(0, .ref (E.2.2.1 2)), (1, .int l1), (2, .int l2)] []
  unfold reader_refuse at hf
  refine xr_aload_n (pc' := 1) 0 hC dX8_refuse_0 rfl rfl rfl ?_
  refine gX8_reader_kind (pc' := 4) hC dX8_refuse_1 rfl ?_
  refine xr_if_ne (pc' := 7) 17 hC dX8_refuse_4 rfl (by decide) hf (fun hf => ?_) (fun hf => ?_)
  · exact xr_return hC dX8_refuse_17 hf
  refine xr_aload_n (pc' := 8) 0 hC dX8_refuse_7 rfl rfl rfl ?_
  refine xr_iload_n (pc' := 9) 1 hC dX8_refuse_8 rfl rfl rfl ?_
  refine pX8_reader_kind (pc' := 12) hC dX8_refuse_9 rfl hf (fun σ1 hf => ?_)
  refine xr_aload_n (pc' := 13) 0 hC dX8_refuse_12 rfl rfl rfl ?_
  refine xr_iload_n (pc' := 14) 2 hC dX8_refuse_13 rfl rfl rfl ?_
  refine pX8_reader_kindPlace (pc' := 17) hC dX8_refuse_14 rfl hf (fun σ2 hf => ?_)
  exact xr_return hC dX8_refuse_17 hf

set_option maxRecDepth 100000 in
set_option maxHeartbeats 4000000 in
theorem c_draft_canTurn {l : Launch} {E : xE} {N : Nat} (hG : xOk (GX E)) {σ : xS} {r : Int32} {σ' : xS} (hf : draft_canTurn N σ = some (r, σ')) : xMet l (GX E) yX0_canTurn cX0_canTurn 1 (some .boolean) (k2_rm 0 0) [.ref (E.2.2.1 4)] σ (some (.int r)) σ' := by
  refine x_met (own := RX0) (by decide +kernel) hG rfl (Nat.le_of_ble_eq_true rfl) (fun C hl hC => ?_)
  subst hl
  show xw C (GX E) 1 (xq C (GX E) (some (.int r)) σ') σ 0 [(0, .ref (E.2.2.1 4))] []
  unfold draft_canTurn at hf
  refine xr_aload_n (pc' := 1) 0 hC dX0_canTurn_0 rfl rfl rfl ?_
  refine gX0_draft_wide (pc' := 4) hC dX0_canTurn_1 rfl ?_
  refine xr_aload_n (pc' := 5) 0 hC dX0_canTurn_4 rfl rfl rfl ?_
  refine gX0_draft_high (pc' := 8) hC dX0_canTurn_5 rfl ?_
  refine xr_icmp_ne (pc' := 11) 15 hC dX0_canTurn_8 rfl (by decide) hf (fun hf => ?_) (fun hf => ?_)
  · refine xr_iconst (pc' := 16) (0 : Int32) hC dX0_canTurn_15 rfl (by decide) ?_
    exact xr_zreturn hC dX0_canTurn_16 rfl hf
  refine xr_iconst (pc' := 12) (1 : Int32) hC dX0_canTurn_11 rfl (by decide) ?_
  refine xr_goto 16 hC dX0_canTurn_12 (by decide) ?_
  exact xr_zreturn hC dX0_canTurn_16 rfl hf

set_option maxRecDepth 100000 in
set_option maxHeartbeats 4000000 in
theorem c_reader_readSemicolon {l : Launch} {E : xE} {N : Nat} (hG : xOk (GX E)) {σ : xS} {r : Int32} {σ' : xS} (hf : reader_readSemicolon N σ = some (r, σ')) : xMet l (GX E) yX8_readSemicolon cX8_readSemicolon 1 none (k2_rm 2 41) [.ref (E.2.2.1 2)] σ none σ' := by
  refine x_met (own := RX8) (by decide +kernel) hG rfl (Nat.le_of_ble_eq_true rfl) (fun C hl hC => ?_)
  subst hl
  show xw C (GX E) 1 (xq C (GX E) none σ') σ 0 [(0, .ref (E.2.2.1 2))] []
  unfold reader_readSemicolon at hf
  refine xr_aload_n (pc' := 1) 0 hC dX8_readSemicolon_0 rfl rfl rfl ?_
  refine xr_callVv (pc' := 4) (rmy := k2_rm 1 21) [] 2 hC dX8_readSemicolon_1 rfl kX8_29 rfl rfl rfl rfl rfl ⟨Nat.le_of_ble_eq_true rfl, Nat.le_of_ble_eq_true rfl⟩ rfl (Nat.le_of_ble_eq_true rfl) hf (fun _ _ h => c_reader_skipBlanks (xc_ok hC) h) (fun v1 σ2 hf => ?_)
  refine xr_aload_n (pc' := 5) 0 hC dX8_readSemicolon_4 rfl rfl rfl ?_
  refine gX8_reader_tape (pc' := 8) hC dX8_readSemicolon_5 rfl ?_
  refine xr_aload_n (pc' := 9) 0 hC dX8_readSemicolon_8 rfl rfl rfl ?_
  refine gX8_reader_place (pc' := 12) hC dX8_readSemicolon_9 rfl ?_
  refine xr_callV (pc' := 15) (rmy := k2_rm 0 0) [.int (σ2.1 1)] 1 hC dX8_readSemicolon_12 rfl kX8_81 rfl rfl rfl rfl rfl ⟨Nat.le_of_ble_eq_true rfl, Nat.le_of_ble_eq_true rfl⟩ rfl (Nat.le_of_ble_eq_true rfl) hf (fun _ _ h => c_tape_byteAt (xc_ok hC) h) (fun v3 σ4 hf => ?_)
  refine xr_bipush (pc' := 17) (59 : Int32) hC dX8_readSemicolon_15 rfl (by decide) ?_
  refine xr_icmp_ne (pc' := 20) 33 hC dX8_readSemicolon_17 rfl (by decide) hf (fun hf => ?_) (fun hf => ?_)
  · refine xr_aload_n (pc' := 34) 0 hC dX8_readSemicolon_33 rfl rfl rfl ?_
    refine xr_iconst (pc' := 35) (1 : Int32) hC dX8_readSemicolon_34 rfl (by decide) ?_
    refine xr_aload_n (pc' := 36) 0 hC dX8_readSemicolon_35 rfl rfl rfl ?_
    refine gX8_reader_place (pc' := 39) hC dX8_readSemicolon_36 rfl ?_
    refine xr_callVv (pc' := 42) (rmy := k2_rm 0 0) [.int (1 : Int32), .int (σ4.1 1)] 2 hC dX8_readSemicolon_39 rfl kX8_64 rfl rfl rfl rfl rfl ⟨Nat.le_of_ble_eq_true rfl, Nat.le_of_ble_eq_true rfl⟩ rfl (Nat.le_of_ble_eq_true rfl) hf (fun _ _ h => c_reader_refuse (xc_ok hC) h) (fun v5 σ6 hf => ?_)
    exact xr_return hC dX8_readSemicolon_42 hf
  refine xr_aload_n (pc' := 21) 0 hC dX8_readSemicolon_20 rfl rfl rfl ?_
  refine xr_dup (pc' := 22) hC dX8_readSemicolon_21 rfl rfl ?_
  refine gX8_reader_place (pc' := 25) hC dX8_readSemicolon_22 rfl ?_
  refine xr_iconst (pc' := 26) (1 : Int32) hC dX8_readSemicolon_25 rfl (by decide) ?_
  refine xr_iadd (pc' := 27) hC dX8_readSemicolon_26 rfl ?_
  refine pX8_reader_place (pc' := 30) hC dX8_readSemicolon_27 rfl hf (fun σ7 hf => ?_)
  refine xr_goto 42 hC dX8_readSemicolon_30 (by decide) ?_
  exact xr_return hC dX8_readSemicolon_42 hf

set_option maxRecDepth 100000 in
set_option maxHeartbeats 4000000 in
theorem c_cl_indexOf {l : Launch} {E : xE} {N : Nat} (hG : xOk (GX E)) {l0 l1 l2 : Int32} {σ : xS} {r : Int32} {σ' : xS} (hf : cl_indexOf N l0 l1 l2 σ = some (r, σ')) : xMet l (GX E) yX0_indexOf cX0_indexOf 3 (some .int) (k2_rm 0 0) [.int l0, .int l1, .int l2] σ (some (.int r)) σ' := by
  refine x_met (own := RX0) (by decide +kernel) hG rfl (Nat.le_of_ble_eq_true rfl) (fun C hl hC => ?_)
  subst hl
  show xw C (GX E) 3 (xq C (GX E) (some (.int r)) σ') σ 0 [(0, .int l0), (1, .int l1), (2, .int l2)] []
  unfold cl_indexOf at hf
  refine xr_iload_n (pc' := 1) 2 hC dX0_indexOf_0 rfl rfl rfl ?_
  refine xr_iconst (pc' := 2) (1 : Int32) hC dX0_indexOf_1 rfl (by decide) ?_
  refine xr_iadd (pc' := 3) hC dX0_indexOf_2 rfl ?_
  refine xr_bipush (pc' := 5) (100 : Int32) hC dX0_indexOf_3 rfl (by decide) ?_
  refine xr_imul (pc' := 6) hC dX0_indexOf_5 rfl ?_
  refine xr_iload_n (pc' := 7) 1 hC dX0_indexOf_6 rfl rfl rfl ?_
  refine xr_iconst (pc' := 8) (1 : Int32) hC dX0_indexOf_7 rfl (by decide) ?_
  refine xr_iadd (pc' := 9) hC dX0_indexOf_8 rfl ?_
  refine xr_bipush (pc' := 11) (10 : Int32) hC dX0_indexOf_9 rfl (by decide) ?_
  refine xr_imul (pc' := 12) hC dX0_indexOf_11 rfl ?_
  refine xr_iadd (pc' := 13) hC dX0_indexOf_12 rfl ?_
  refine xr_iload_n (pc' := 14) 0 hC dX0_indexOf_13 rfl rfl rfl ?_
  refine xr_iadd (pc' := 15) hC dX0_indexOf_14 rfl ?_
  refine xr_iconst (pc' := 16) (1 : Int32) hC dX0_indexOf_15 rfl (by decide) ?_
  refine xr_iadd (pc' := 17) hC dX0_indexOf_16 rfl ?_
  exact xr_ireturn hC dX0_indexOf_17 hf

set_option maxRecDepth 100000 in
set_option maxHeartbeats 4000000 in
theorem c_cl_isSolid_draft {l : Launch} {E : xE} {N : Nat} (hG : xOk (GX E)) {l1 : Int32} {σ : xS} {r : Int32} {σ' : xS} (hf : cl_isSolid 4 N l1 σ = some (r, σ')) : xMet l (GX E) yX0_isSolid cX0_isSolid 2 (some .boolean) (k2_rm 0 0) [.ref (E.2.2.1 4), .int l1] σ (some (.int r)) σ' := by
  refine x_met (own := RX0) (by decide +kernel) hG rfl (Nat.le_of_ble_eq_true rfl) (fun C hl hC => ?_)
  subst hl
  show xw C (GX E) 2 (xq C (GX E) (some (.int r)) σ') σ 0 [(0, .ref (E.2.2.1 4)), (1, .int l1)] []
  unfold cl_isSolid at hf
  refine xr_iload_n (pc' := 1) 1 hC dX0_isSolid_0 rfl rfl rfl ?_
  refine xr_if_lt (pc' := 4) 25 hC dX0_isSolid_1 rfl (by decide) hf (fun hf => ?_) (fun hf => ?_)
  · refine xr_iconst (pc' := 26) (0 : Int32) hC dX0_isSolid_25 rfl (by decide) ?_
    exact xr_zreturn hC dX0_isSolid_26 rfl hf
  refine xr_iload_n (pc' := 5) 1 hC dX0_isSolid_4 rfl rfl rfl ?_
  refine xr_sipush (pc' := 8) (1000 : Int32) hC dX0_isSolid_5 rfl (by decide) ?_
  refine xr_icmp_ge (pc' := 11) 25 hC dX0_isSolid_8 rfl (by decide) hf (fun hf => ?_) (fun hf => ?_)
  · refine xr_iconst (pc' := 26) (0 : Int32) hC dX0_isSolid_25 rfl (by decide) ?_
    exact xr_zreturn hC dX0_isSolid_26 rfl hf
  refine xr_aload_n (pc' := 12) 0 hC dX0_isSolid_11 rfl rfl rfl ?_
  refine gX0_draft_solidCells (pc' := 15) hC dX0_isSolid_12 rfl ?_
  refine xr_iload_n (pc' := 16) 1 hC dX0_isSolid_15 rfl rfl rfl ?_
  refine lX_4 (pc' := 17) hC dX0_isSolid_16 rfl hf (fun v1 hf => ?_)
  refine xr_iconst (pc' := 18) (1 : Int32) hC dX0_isSolid_17 rfl (by decide) ?_
  refine xr_icmp_ne (pc' := 21) 25 hC dX0_isSolid_18 rfl (by decide) hf (fun hf => ?_) (fun hf => ?_)
  · refine xr_iconst (pc' := 26) (0 : Int32) hC dX0_isSolid_25 rfl (by decide) ?_
    exact xr_zreturn hC dX0_isSolid_26 rfl hf
  refine xr_iconst (pc' := 22) (1 : Int32) hC dX0_isSolid_21 rfl (by decide) ?_
  refine xr_goto 26 hC dX0_isSolid_22 (by decide) ?_
  exact xr_zreturn hC dX0_isSolid_26 rfl hf

set_option maxRecDepth 100000 in
set_option maxHeartbeats 4000000 in
theorem w_draft_keepLayer_b18 {C : xT} {E : xE} {N : Nat} {r : Int32} {σ' : xS} (hC : xc C (GX E) RX0 cX0_keepLayer 4 none (k2_rm 1 22)) (K2 : Int32 → Int32 → xS → Option (Int32 × xS)) (hK2 : ∀ (l1 l2 : Int32) (σ : xS), K2 l1 l2 σ = some (r, σ') → xw C (GX E) 4 (xq C (GX E) none σ') σ 2 [(0, .ref (E.2.2.1 4)), (1, .int l1), (2, .int l2)] []) : ∀ (n : Nat) (l1 l2 l3 : Int32) (σ : xS), draft_keepLayer_b18 N K2 n l1 l2 l3 σ = some (r, σ') → xw C (GX E) 4 (xq C (GX E) none σ') σ 18 [(0, .ref (E.2.2.1 4)), (1, .int l1), (2, .int l2), (3, .int l3)] [] := by
  intro n
  induction n with
  | zero =>
    intro l1 l2 l3 σ hf
    rw [draft_keepLayer_b18] at hf
    cases hf
  | succ n ih =>
    intro l1 l2 l3 σ hf
    rw [draft_keepLayer_b18] at hf
    refine xr_iload_n (pc' := 19) 3 hC dX0_keepLayer_18 rfl rfl rfl ?_
    refine xr_aload_n (pc' := 20) 0 hC dX0_keepLayer_19 rfl rfl rfl ?_
    refine gX0_draft_wide (pc' := 23) hC dX0_keepLayer_20 rfl ?_
    refine xr_icmp_ge (pc' := 26) 67 hC dX0_keepLayer_23 rfl (by decide) hf (fun hf => ?_) (fun hf => ?_)
    · refine xr_iinc (pc' := 70) hC dX0_keepLayer_67 rfl _ rfl hf 2 rfl (by decide) [1, 2, 0, 3] (fun l2_1 => [(0, .ref (E.2.2.1 4)), (1, .int l1), (2, .int l2_1), (3, .int l3)]) (fun _ => rfl) (fun l2_1 hf => ?_)
      refine xr_goto 2 hC dX0_keepLayer_70 (by decide) ?_
      refine x_lv [0, 1, 2] rfl ?_
      exact hK2 _ _ _ hf
    refine xr_iload_n (pc' := 27) 3 hC dX0_keepLayer_26 rfl rfl rfl ?_
    refine xr_bipush (pc' := 29) (8 : Int32) hC dX0_keepLayer_27 rfl (by decide) ?_
    refine xr_icmp_ge (pc' := 32) 67 hC dX0_keepLayer_29 rfl (by decide) hf (fun hf => ?_) (fun hf => ?_)
    · refine xr_iinc (pc' := 70) hC dX0_keepLayer_67 rfl _ rfl hf 2 rfl (by decide) [1, 2, 0, 3] (fun l2_2 => [(0, .ref (E.2.2.1 4)), (1, .int l1), (2, .int l2_2), (3, .int l3)]) (fun _ => rfl) (fun l2_2 hf => ?_)
      refine xr_goto 2 hC dX0_keepLayer_70 (by decide) ?_
      refine x_lv [0, 1, 2] rfl ?_
      exact hK2 _ _ _ hf
    refine xr_aload_n (pc' := 33) 0 hC dX0_keepLayer_32 rfl rfl rfl ?_
    refine gX0_draft_layer (pc' := 36) hC dX0_keepLayer_33 rfl ?_
    refine xr_iload_n (pc' := 37) 2 hC dX0_keepLayer_36 rfl rfl rfl ?_
    refine xr_bipush (pc' := 39) (8 : Int32) hC dX0_keepLayer_37 rfl (by decide) ?_
    refine xr_imul (pc' := 40) hC dX0_keepLayer_39 rfl ?_
    refine xr_iload_n (pc' := 41) 3 hC dX0_keepLayer_40 rfl rfl rfl ?_
    refine xr_iadd (pc' := 42) hC dX0_keepLayer_41 rfl ?_
    refine xr_aload_n (pc' := 43) 0 hC dX0_keepLayer_42 rfl rfl rfl ?_
    refine xr_iload_n (pc' := 44) 3 hC dX0_keepLayer_43 rfl rfl rfl ?_
    refine xr_iload_n (pc' := 45) 2 hC dX0_keepLayer_44 rfl rfl rfl ?_
    refine xr_iload_n (pc' := 46) 1 hC dX0_keepLayer_45 rfl rfl rfl ?_
    refine xr_callS (pc' := 49) (rmy := k2_rm 0 0) [.int l3, .int l2, .int l1] hC dX0_keepLayer_46 rfl kX0_48 rfl rfl rfl ⟨Nat.le_of_ble_eq_true rfl, Nat.le_of_ble_eq_true rfl⟩ rfl (Nat.le_of_ble_eq_true rfl) hf (fun _ _ h => c_cl_indexOf (xc_ok hC) h) (fun v3 σ4 hf => ?_)
    refine xr_callV (pc' := 52) (rmy := k2_rm 0 0) [.int v3] 4 hC dX0_keepLayer_49 rfl kX0_52 rfl rfl rfl rfl rfl ⟨Nat.le_of_ble_eq_true rfl, Nat.le_of_ble_eq_true rfl⟩ rfl (Nat.le_of_ble_eq_true rfl) hf (fun _ _ h => c_cl_isSolid_draft (xc_ok hC) h) (fun v5 σ6 hf => ?_)
    refine xr_if_eq (pc' := 55) 59 hC dX0_keepLayer_52 rfl (by decide) hf (fun hf => ?_) (fun hf => ?_)
    · refine xr_iconst (pc' := 60) (0 : Int32) hC dX0_keepLayer_59 rfl (by decide) ?_
      refine sX_5 (pc' := 61) hC dX0_keepLayer_60 rfl hf (fun σ7 hf => ?_)
      refine xr_iinc (pc' := 64) hC dX0_keepLayer_61 rfl _ rfl hf 3 rfl (by decide) [1, 2, 3, 0] (fun l3_8 => [(0, .ref (E.2.2.1 4)), (1, .int l1), (2, .int l2), (3, .int l3_8)]) (fun _ => rfl) (fun l3_8 hf => ?_)
      refine xr_goto 18 hC dX0_keepLayer_64 (by decide) ?_
      exact ih _ _ _ _ hf
    refine xr_iconst (pc' := 56) (1 : Int32) hC dX0_keepLayer_55 rfl (by decide) ?_
    refine xr_goto 60 hC dX0_keepLayer_56 (by decide) ?_
    refine sX_5 (pc' := 61) hC dX0_keepLayer_60 rfl hf (fun σ9 hf => ?_)
    refine xr_iinc (pc' := 64) hC dX0_keepLayer_61 rfl _ rfl hf 3 rfl (by decide) [1, 2, 3, 0] (fun l3_10 => [(0, .ref (E.2.2.1 4)), (1, .int l1), (2, .int l2), (3, .int l3_10)]) (fun _ => rfl) (fun l3_10 hf => ?_)
    refine xr_goto 18 hC dX0_keepLayer_64 (by decide) ?_
    exact ih _ _ _ _ hf

set_option maxRecDepth 100000 in
set_option maxHeartbeats 4000000 in
theorem w_draft_keepLayer_b2 {C : xT} {E : xE} {N : Nat} {r : Int32} {σ' : xS} (hC : xc C (GX E) RX0 cX0_keepLayer 4 none (k2_rm 1 22)) : ∀ (n : Nat) (l1 l2 : Int32) (σ : xS), draft_keepLayer_b2 N n l1 l2 σ = some (r, σ') → xw C (GX E) 4 (xq C (GX E) none σ') σ 2 [(0, .ref (E.2.2.1 4)), (1, .int l1), (2, .int l2)] [] := by
  intro n
  induction n with
  | zero =>
    intro l1 l2 σ hf
    rw [draft_keepLayer_b2] at hf
    cases hf
  | succ n ih =>
    intro l1 l2 σ hf
    rw [draft_keepLayer_b2] at hf
    refine xr_iload_n (pc' := 3) 2 hC dX0_keepLayer_2 rfl rfl rfl ?_
    refine xr_aload_n (pc' := 4) 0 hC dX0_keepLayer_3 rfl rfl rfl ?_
    refine gX0_draft_high (pc' := 7) hC dX0_keepLayer_4 rfl ?_
    refine xr_icmp_ge (pc' := 10) 73 hC dX0_keepLayer_7 rfl (by decide) hf (fun hf => ?_) (fun hf => ?_)
    · exact xr_return hC dX0_keepLayer_73 hf
    refine xr_iload_n (pc' := 11) 2 hC dX0_keepLayer_10 rfl rfl rfl ?_
    refine xr_bipush (pc' := 13) (8 : Int32) hC dX0_keepLayer_11 rfl (by decide) ?_
    refine xr_icmp_ge (pc' := 16) 73 hC dX0_keepLayer_13 rfl (by decide) hf (fun hf => ?_) (fun hf => ?_)
    · exact xr_return hC dX0_keepLayer_73 hf
    refine xr_iconst (pc' := 17) (0 : Int32) hC dX0_keepLayer_16 rfl (by decide) ?_
    refine xr_istore_n (pc' := 18) (lv' := [(0, .ref (E.2.2.1 4)), (1, .int l1), (2, .int l2), (3, .int (0 : Int32))]) hC dX0_keepLayer_17 rfl rfl (by decide) [1, 2, 3, 0] rfl ?_
    exact w_draft_keepLayer_b18 hC (draft_keepLayer_b2 N n) ih N _ _ _ _ hf

set_option maxRecDepth 100000 in
set_option maxHeartbeats 4000000 in
theorem c_draft_keepLayer {l : Launch} {E : xE} {N : Nat} (hG : xOk (GX E)) {l1 : Int32} {σ : xS} {r : Int32} {σ' : xS} (hf : draft_keepLayer N l1 σ = some (r, σ')) : xMet l (GX E) yX0_keepLayer cX0_keepLayer 4 none (k2_rm 1 22) [.ref (E.2.2.1 4), .int l1] σ none σ' := by
  refine x_met (own := RX0) (by decide +kernel) hG rfl (Nat.le_of_ble_eq_true rfl) (fun C hl hC => ?_)
  subst hl
  show xw C (GX E) 4 (xq C (GX E) none σ') σ 0 [(0, .ref (E.2.2.1 4)), (1, .int l1)] []
  unfold draft_keepLayer at hf
  refine xr_iconst (pc' := 1) (0 : Int32) hC dX0_keepLayer_0 rfl (by decide) ?_
  refine xr_istore_n (pc' := 2) (lv' := [(0, .ref (E.2.2.1 4)), (1, .int l1), (2, .int (0 : Int32))]) hC dX0_keepLayer_1 rfl rfl (by decide) [1, 2, 0] rfl ?_
  exact w_draft_keepLayer_b2 hC N _ _ _ hf

set_option maxRecDepth 100000 in
set_option maxHeartbeats 4000000 in
theorem c_cl_areWithin_draft {l : Launch} {E : xE} {N : Nat} (hG : xOk (GX E)) {l1 l2 l3 l4 : Int32} {σ : xS} {r : Int32} {σ' : xS} (hf : cl_areWithin 7 8 9 N l1 l2 l3 l4 σ = some (r, σ')) : xMet l (GX E) yX0_areWithin cX0_areWithin 5 (some .boolean) (k2_rm 0 0) [.ref (E.2.2.1 4), .int l1, .int l2, .int l3, .int l4] σ (some (.int r)) σ' := by
  refine x_met (own := RX0) (by decide +kernel) hG rfl (Nat.le_of_ble_eq_true rfl) (fun C hl hC => ?_)
  subst hl
  show xw C (GX E) 5 (xq C (GX E) (some (.int r)) σ') σ 0 [(0, .ref (E.2.2.1 4)), (1, .int l1), (2, .int l2), (3, .int l3), (4, .int l4)] []
  unfold cl_areWithin at hf
  refine xr_aload_n (pc' := 1) 0 hC dX0_areWithin_0 rfl rfl rfl ?_
  refine gX0_draft_wide (pc' := 4) hC dX0_areWithin_1 rfl ?_
  refine xr_if_le (pc' := 7) 65 hC dX0_areWithin_4 rfl (by decide) hf (fun hf => ?_) (fun hf => ?_)
  · refine xr_iconst (pc' := 66) (0 : Int32) hC dX0_areWithin_65 rfl (by decide) ?_
    exact xr_zreturn hC dX0_areWithin_66 rfl hf
  refine xr_iload_n (pc' := 8) 1 hC dX0_areWithin_7 rfl rfl rfl ?_
  refine xr_iload (pc' := 10) 4 hC dX0_areWithin_8 rfl rfl ?_
  refine xr_ineg (pc' := 11) hC dX0_areWithin_10 rfl ?_
  refine xr_icmp_lt (pc' := 14) 65 hC dX0_areWithin_11 rfl (by decide) hf (fun hf => ?_) (fun hf => ?_)
  · refine xr_iconst (pc' := 66) (0 : Int32) hC dX0_areWithin_65 rfl (by decide) ?_
    exact xr_zreturn hC dX0_areWithin_66 rfl hf
  refine xr_iload_n (pc' := 15) 1 hC dX0_areWithin_14 rfl rfl rfl ?_
  refine xr_aload_n (pc' := 16) 0 hC dX0_areWithin_15 rfl rfl rfl ?_
  refine gX0_draft_wide (pc' := 19) hC dX0_areWithin_16 rfl ?_
  refine xr_iload (pc' := 21) 4 hC dX0_areWithin_19 rfl rfl ?_
  refine xr_iadd (pc' := 22) hC dX0_areWithin_21 rfl ?_
  refine xr_icmp_ge (pc' := 25) 65 hC dX0_areWithin_22 rfl (by decide) hf (fun hf => ?_) (fun hf => ?_)
  · refine xr_iconst (pc' := 66) (0 : Int32) hC dX0_areWithin_65 rfl (by decide) ?_
    exact xr_zreturn hC dX0_areWithin_66 rfl hf
  refine xr_iload_n (pc' := 26) 2 hC dX0_areWithin_25 rfl rfl rfl ?_
  refine xr_iload (pc' := 28) 4 hC dX0_areWithin_26 rfl rfl ?_
  refine xr_ineg (pc' := 29) hC dX0_areWithin_28 rfl ?_
  refine xr_icmp_lt (pc' := 32) 65 hC dX0_areWithin_29 rfl (by decide) hf (fun hf => ?_) (fun hf => ?_)
  · refine xr_iconst (pc' := 66) (0 : Int32) hC dX0_areWithin_65 rfl (by decide) ?_
    exact xr_zreturn hC dX0_areWithin_66 rfl hf
  refine xr_iload_n (pc' := 33) 2 hC dX0_areWithin_32 rfl rfl rfl ?_
  refine xr_aload_n (pc' := 34) 0 hC dX0_areWithin_33 rfl rfl rfl ?_
  refine gX0_draft_high (pc' := 37) hC dX0_areWithin_34 rfl ?_
  refine xr_iload (pc' := 39) 4 hC dX0_areWithin_37 rfl rfl ?_
  refine xr_iadd (pc' := 40) hC dX0_areWithin_39 rfl ?_
  refine xr_icmp_ge (pc' := 43) 65 hC dX0_areWithin_40 rfl (by decide) hf (fun hf => ?_) (fun hf => ?_)
  · refine xr_iconst (pc' := 66) (0 : Int32) hC dX0_areWithin_65 rfl (by decide) ?_
    exact xr_zreturn hC dX0_areWithin_66 rfl hf
  refine xr_iload_n (pc' := 44) 3 hC dX0_areWithin_43 rfl rfl rfl ?_
  refine xr_iload (pc' := 46) 4 hC dX0_areWithin_44 rfl rfl ?_
  refine xr_ineg (pc' := 47) hC dX0_areWithin_46 rfl ?_
  refine xr_icmp_lt (pc' := 50) 65 hC dX0_areWithin_47 rfl (by decide) hf (fun hf => ?_) (fun hf => ?_)
  · refine xr_iconst (pc' := 66) (0 : Int32) hC dX0_areWithin_65 rfl (by decide) ?_
    exact xr_zreturn hC dX0_areWithin_66 rfl hf
  refine xr_iload_n (pc' := 51) 3 hC dX0_areWithin_50 rfl rfl rfl ?_
  refine xr_aload_n (pc' := 52) 0 hC dX0_areWithin_51 rfl rfl rfl ?_
  refine gX0_draft_deep (pc' := 55) hC dX0_areWithin_52 rfl ?_
  refine xr_iload (pc' := 57) 4 hC dX0_areWithin_55 rfl rfl ?_
  refine xr_iadd (pc' := 58) hC dX0_areWithin_57 rfl ?_
  refine xr_icmp_ge (pc' := 61) 65 hC dX0_areWithin_58 rfl (by decide) hf (fun hf => ?_) (fun hf => ?_)
  · refine xr_iconst (pc' := 66) (0 : Int32) hC dX0_areWithin_65 rfl (by decide) ?_
    exact xr_zreturn hC dX0_areWithin_66 rfl hf
  refine xr_iconst (pc' := 62) (1 : Int32) hC dX0_areWithin_61 rfl (by decide) ?_
  refine xr_goto 66 hC dX0_areWithin_62 (by decide) ?_
  exact xr_zreturn hC dX0_areWithin_66 rfl hf

set_option maxRecDepth 100000 in
set_option maxHeartbeats 4000000 in
theorem c_draft_put {l : Launch} {E : xE} {N : Nat} (hG : xOk (GX E)) {l1 l2 l3 l4 : Int32} {σ : xS} {r : Int32} {σ' : xS} (hf : draft_put N l1 l2 l3 l4 σ = some (r, σ')) : xMet l (GX E) yX0_put cX0_put 5 none (k2_rm 1 24) [.ref (E.2.2.1 4), .int l1, .int l2, .int l3, .int l4] σ none σ' := by
  refine x_met (own := RX0) (by decide +kernel) hG rfl (Nat.le_of_ble_eq_true rfl) (fun C hl hC => ?_)
  subst hl
  show xw C (GX E) 5 (xq C (GX E) none σ') σ 0 [(0, .ref (E.2.2.1 4)), (1, .int l1), (2, .int l2), (3, .int l3), (4, .int l4)] []
  unfold draft_put at hf
  refine xr_aload_n (pc' := 1) 0 hC dX0_put_0 rfl rfl rfl ?_
  refine xr_iload_n (pc' := 2) 1 hC dX0_put_1 rfl rfl rfl ?_
  refine xr_iload_n (pc' := 3) 2 hC dX0_put_2 rfl rfl rfl ?_
  refine xr_iload_n (pc' := 4) 3 hC dX0_put_3 rfl rfl rfl ?_
  refine xr_iconst (pc' := 5) (0 : Int32) hC dX0_put_4 rfl (by decide) ?_
  refine xr_callV (pc' := 8) (rmy := k2_rm 0 0) [.int l1, .int l2, .int l3, .int (0 : Int32)] 4 hC dX0_put_5 rfl kX0_64 rfl rfl rfl rfl rfl ⟨Nat.le_of_ble_eq_true rfl, Nat.le_of_ble_eq_true rfl⟩ rfl (Nat.le_of_ble_eq_true rfl) hf (fun _ _ h => c_cl_areWithin_draft (xc_ok hC) h) (fun v1 σ2 hf => ?_)
  refine xr_if_eq (pc' := 11) 24 hC dX0_put_8 rfl (by decide) hf (fun hf => ?_) (fun hf => ?_)
  · exact xr_return hC dX0_put_24 hf
  refine xr_aload_n (pc' := 12) 0 hC dX0_put_11 rfl rfl rfl ?_
  refine gX0_draft_solidCells (pc' := 15) hC dX0_put_12 rfl ?_
  refine xr_iload_n (pc' := 16) 1 hC dX0_put_15 rfl rfl rfl ?_
  refine xr_iload_n (pc' := 17) 2 hC dX0_put_16 rfl rfl rfl ?_
  refine xr_iload_n (pc' := 18) 3 hC dX0_put_17 rfl rfl rfl ?_
  refine xr_callS (pc' := 21) (rmy := k2_rm 0 0) [.int l1, .int l2, .int l3] hC dX0_put_18 rfl kX0_48 rfl rfl rfl ⟨Nat.le_of_ble_eq_true rfl, Nat.le_of_ble_eq_true rfl⟩ rfl (Nat.le_of_ble_eq_true rfl) hf (fun _ _ h => c_cl_indexOf (xc_ok hC) h) (fun v3 σ4 hf => ?_)
  refine xr_iload (pc' := 23) 4 hC dX0_put_21 rfl rfl ?_
  refine sX_4 (pc' := 24) hC dX0_put_23 rfl hf (fun σ5 hf => ?_)
  exact xr_return hC dX0_put_24 hf

set_option maxRecDepth 100000 in
set_option maxHeartbeats 4000000 in
theorem w_draft_turnOnce_b40 {C : xT} {E : xE} {N : Nat} {r : Int32} {σ' : xS} (hC : xc C (GX E) RX0 cX0_turnOnce 4 none (k2_rm 2 48)) (K2 : Int32 → xS → Option (Int32 × xS)) (hK2 : ∀ (l1 : Int32) (σ : xS), K2 l1 σ = some (r, σ') → xw C (GX E) 4 (xq C (GX E) none σ') σ 2 [(0, .ref (E.2.2.1 4)), (1, .int l1)] []) (K24 : Int32 → Int32 → xS → Option (Int32 × xS)) (hK24 : ∀ (l1 l2 : Int32) (σ : xS), K24 l1 l2 σ = some (r, σ') → xw C (GX E) 4 (xq C (GX E) none σ') σ 24 [(0, .ref (E.2.2.1 4)), (1, .int l1), (2, .int l2)] []) : ∀ (n : Nat) (l1 l2 l3 : Int32) (σ : xS), draft_turnOnce_b40 N K2 K24 n l1 l2 l3 σ = some (r, σ') → xw C (GX E) 4 (xq C (GX E) none σ') σ 40 [(0, .ref (E.2.2.1 4)), (1, .int l1), (2, .int l2), (3, .int l3)] [] := by
  intro n
  induction n with
  | zero =>
    intro l1 l2 l3 σ hf
    rw [draft_turnOnce_b40] at hf
    cases hf
  | succ n ih =>
    intro l1 l2 l3 σ hf
    rw [draft_turnOnce_b40] at hf
    refine xr_iload_n (pc' := 41) 3 hC dX0_turnOnce_40 rfl rfl rfl ?_
    refine xr_aload_n (pc' := 42) 0 hC dX0_turnOnce_41 rfl rfl rfl ?_
    refine gX0_draft_wide (pc' := 45) hC dX0_turnOnce_42 rfl ?_
    refine xr_icmp_ge (pc' := 48) 85 hC dX0_turnOnce_45 rfl (by decide) hf (fun hf => ?_) (fun hf => ?_)
    · refine xr_iinc (pc' := 88) hC dX0_turnOnce_85 rfl _ rfl hf 2 rfl (by decide) [1, 2, 0, 3] (fun l2_7 => [(0, .ref (E.2.2.1 4)), (1, .int l1), (2, .int l2_7), (3, .int l3)]) (fun _ => rfl) (fun l2_7 hf => ?_)
      refine xr_goto 24 hC dX0_turnOnce_88 (by decide) ?_
      refine x_lv [0, 1, 2] rfl ?_
      exact hK24 _ _ _ hf
    refine xr_iload_n (pc' := 49) 3 hC dX0_turnOnce_48 rfl rfl rfl ?_
    refine xr_bipush (pc' := 51) (8 : Int32) hC dX0_turnOnce_49 rfl (by decide) ?_
    refine xr_icmp_ge (pc' := 54) 85 hC dX0_turnOnce_51 rfl (by decide) hf (fun hf => ?_) (fun hf => ?_)
    · refine xr_iinc (pc' := 88) hC dX0_turnOnce_85 rfl _ rfl hf 2 rfl (by decide) [1, 2, 0, 3] (fun l2_8 => [(0, .ref (E.2.2.1 4)), (1, .int l1), (2, .int l2_8), (3, .int l3)]) (fun _ => rfl) (fun l2_8 hf => ?_)
      refine xr_goto 24 hC dX0_turnOnce_88 (by decide) ?_
      refine x_lv [0, 1, 2] rfl ?_
      exact hK24 _ _ _ hf
    refine xr_aload_n (pc' := 55) 0 hC dX0_turnOnce_54 rfl rfl rfl ?_
    refine xr_iload_n (pc' := 56) 2 hC dX0_turnOnce_55 rfl rfl rfl ?_
    refine xr_aload_n (pc' := 57) 0 hC dX0_turnOnce_56 rfl rfl rfl ?_
    refine gX0_draft_wide (pc' := 60) hC dX0_turnOnce_57 rfl ?_
    refine xr_iconst (pc' := 61) (1 : Int32) hC dX0_turnOnce_60 rfl (by decide) ?_
    refine xr_isub (pc' := 62) hC dX0_turnOnce_61 rfl ?_
    refine xr_iload_n (pc' := 63) 3 hC dX0_turnOnce_62 rfl rfl rfl ?_
    refine xr_isub (pc' := 64) hC dX0_turnOnce_63 rfl ?_
    refine xr_iload_n (pc' := 65) 1 hC dX0_turnOnce_64 rfl rfl rfl ?_
    refine xr_aload_n (pc' := 66) 0 hC dX0_turnOnce_65 rfl rfl rfl ?_
    refine gX0_draft_layer (pc' := 69) hC dX0_turnOnce_66 rfl ?_
    refine xr_iload_n (pc' := 70) 2 hC dX0_turnOnce_69 rfl rfl rfl ?_
    refine xr_bipush (pc' := 72) (8 : Int32) hC dX0_turnOnce_70 rfl (by decide) ?_
    refine xr_imul (pc' := 73) hC dX0_turnOnce_72 rfl ?_
    refine xr_iload_n (pc' := 74) 3 hC dX0_turnOnce_73 rfl rfl rfl ?_
    refine xr_iadd (pc' := 75) hC dX0_turnOnce_74 rfl ?_
    refine lX_5 (pc' := 76) hC dX0_turnOnce_75 rfl hf (fun v9 hf => ?_)
    refine xr_callVv (pc' := 79) (rmy := k2_rm 1 24) [.int l2, .int (((σ.1 7) - (1 : Int32)) - l3), .int l1, .int v9] 4 hC dX0_turnOnce_76 rfl kX0_44 rfl rfl rfl rfl rfl ⟨Nat.le_of_ble_eq_true rfl, Nat.le_of_ble_eq_true rfl⟩ rfl (Nat.le_of_ble_eq_true rfl) hf (fun _ _ h => c_draft_put (xc_ok hC) h) (fun v10 σ11 hf => ?_)
    refine xr_iinc (pc' := 82) hC dX0_turnOnce_79 rfl _ rfl hf 3 rfl (by decide) [1, 2, 3, 0] (fun l3_12 => [(0, .ref (E.2.2.1 4)), (1, .int l1), (2, .int l2), (3, .int l3_12)]) (fun _ => rfl) (fun l3_12 hf => ?_)
    refine xr_goto 40 hC dX0_turnOnce_82 (by decide) ?_
    exact ih _ _ _ _ hf

set_option maxRecDepth 100000 in
set_option maxHeartbeats 4000000 in
theorem w_draft_turnOnce_b24 {C : xT} {E : xE} {N : Nat} {r : Int32} {σ' : xS} (hC : xc C (GX E) RX0 cX0_turnOnce 4 none (k2_rm 2 48)) (K2 : Int32 → xS → Option (Int32 × xS)) (hK2 : ∀ (l1 : Int32) (σ : xS), K2 l1 σ = some (r, σ') → xw C (GX E) 4 (xq C (GX E) none σ') σ 2 [(0, .ref (E.2.2.1 4)), (1, .int l1)] []) : ∀ (n : Nat) (l1 l2 : Int32) (σ : xS), draft_turnOnce_b24 N K2 n l1 l2 σ = some (r, σ') → xw C (GX E) 4 (xq C (GX E) none σ') σ 24 [(0, .ref (E.2.2.1 4)), (1, .int l1), (2, .int l2)] [] := by
  intro n
  induction n with
  | zero =>
    intro l1 l2 σ hf
    rw [draft_turnOnce_b24] at hf
    cases hf
  | succ n ih =>
    intro l1 l2 σ hf
    rw [draft_turnOnce_b24] at hf
    refine xr_iload_n (pc' := 25) 2 hC dX0_turnOnce_24 rfl rfl rfl ?_
    refine xr_aload_n (pc' := 26) 0 hC dX0_turnOnce_25 rfl rfl rfl ?_
    refine gX0_draft_high (pc' := 29) hC dX0_turnOnce_26 rfl ?_
    refine xr_icmp_ge (pc' := 32) 91 hC dX0_turnOnce_29 rfl (by decide) hf (fun hf => ?_) (fun hf => ?_)
    · refine xr_iinc (pc' := 94) hC dX0_turnOnce_91 rfl _ rfl hf 1 rfl (by decide) [1, 0, 2] (fun l1_5 => [(0, .ref (E.2.2.1 4)), (1, .int l1_5), (2, .int l2)]) (fun _ => rfl) (fun l1_5 hf => ?_)
      refine xr_goto 2 hC dX0_turnOnce_94 (by decide) ?_
      refine x_lv [0, 1] rfl ?_
      exact hK2 _ _ hf
    refine xr_iload_n (pc' := 33) 2 hC dX0_turnOnce_32 rfl rfl rfl ?_
    refine xr_bipush (pc' := 35) (8 : Int32) hC dX0_turnOnce_33 rfl (by decide) ?_
    refine xr_icmp_ge (pc' := 38) 91 hC dX0_turnOnce_35 rfl (by decide) hf (fun hf => ?_) (fun hf => ?_)
    · refine xr_iinc (pc' := 94) hC dX0_turnOnce_91 rfl _ rfl hf 1 rfl (by decide) [1, 0, 2] (fun l1_6 => [(0, .ref (E.2.2.1 4)), (1, .int l1_6), (2, .int l2)]) (fun _ => rfl) (fun l1_6 hf => ?_)
      refine xr_goto 2 hC dX0_turnOnce_94 (by decide) ?_
      refine x_lv [0, 1] rfl ?_
      exact hK2 _ _ hf
    refine xr_iconst (pc' := 39) (0 : Int32) hC dX0_turnOnce_38 rfl (by decide) ?_
    refine xr_istore_n (pc' := 40) (lv' := [(0, .ref (E.2.2.1 4)), (1, .int l1), (2, .int l2), (3, .int (0 : Int32))]) hC dX0_turnOnce_39 rfl rfl (by decide) [1, 2, 3, 0] rfl ?_
    exact w_draft_turnOnce_b40 hC (K2) hK2 (draft_turnOnce_b24 N K2 n) ih N _ _ _ _ hf

set_option maxRecDepth 100000 in
set_option maxHeartbeats 4000000 in
theorem w_draft_turnOnce_b2 {C : xT} {E : xE} {N : Nat} {r : Int32} {σ' : xS} (hC : xc C (GX E) RX0 cX0_turnOnce 4 none (k2_rm 2 48)) : ∀ (n : Nat) (l1 : Int32) (σ : xS), draft_turnOnce_b2 N n l1 σ = some (r, σ') → xw C (GX E) 4 (xq C (GX E) none σ') σ 2 [(0, .ref (E.2.2.1 4)), (1, .int l1)] [] := by
  intro n
  induction n with
  | zero =>
    intro l1 σ hf
    rw [draft_turnOnce_b2] at hf
    cases hf
  | succ n ih =>
    intro l1 σ hf
    rw [draft_turnOnce_b2] at hf
    refine xr_iload_n (pc' := 3) 1 hC dX0_turnOnce_2 rfl rfl rfl ?_
    refine xr_aload_n (pc' := 4) 0 hC dX0_turnOnce_3 rfl rfl rfl ?_
    refine gX0_draft_deep (pc' := 7) hC dX0_turnOnce_4 rfl ?_
    refine xr_icmp_ge (pc' := 10) 97 hC dX0_turnOnce_7 rfl (by decide) hf (fun hf => ?_) (fun hf => ?_)
    · exact xr_return hC dX0_turnOnce_97 hf
    refine xr_aload_n (pc' := 11) 0 hC dX0_turnOnce_10 rfl rfl rfl ?_
    refine xr_callV (pc' := 14) (rmy := k2_rm 0 0) [] 4 hC dX0_turnOnce_11 rfl kX0_56 rfl rfl rfl rfl rfl ⟨Nat.le_of_ble_eq_true rfl, Nat.le_of_ble_eq_true rfl⟩ rfl (Nat.le_of_ble_eq_true rfl) hf (fun _ _ h => c_draft_canTurn (xc_ok hC) h) (fun v1 σ2 hf => ?_)
    refine xr_if_eq (pc' := 17) 97 hC dX0_turnOnce_14 rfl (by decide) hf (fun hf => ?_) (fun hf => ?_)
    · exact xr_return hC dX0_turnOnce_97 hf
    refine xr_aload_n (pc' := 18) 0 hC dX0_turnOnce_17 rfl rfl rfl ?_
    refine xr_iload_n (pc' := 19) 1 hC dX0_turnOnce_18 rfl rfl rfl ?_
    refine xr_callVv (pc' := 22) (rmy := k2_rm 1 22) [.int l1] 4 hC dX0_turnOnce_19 rfl kX0_60 rfl rfl rfl rfl rfl ⟨Nat.le_of_ble_eq_true rfl, Nat.le_of_ble_eq_true rfl⟩ rfl (Nat.le_of_ble_eq_true rfl) hf (fun _ _ h => c_draft_keepLayer (xc_ok hC) h) (fun v3 σ4 hf => ?_)
    refine xr_iconst (pc' := 23) (0 : Int32) hC dX0_turnOnce_22 rfl (by decide) ?_
    refine xr_istore_n (pc' := 24) (lv' := [(0, .ref (E.2.2.1 4)), (1, .int l1), (2, .int (0 : Int32))]) hC dX0_turnOnce_23 rfl rfl (by decide) [1, 2, 0] rfl ?_
    exact w_draft_turnOnce_b24 hC (draft_turnOnce_b2 N n) ih N _ _ _ hf

set_option maxRecDepth 100000 in
set_option maxHeartbeats 4000000 in
theorem c_draft_turnOnce {l : Launch} {E : xE} {N : Nat} (hG : xOk (GX E)) {σ : xS} {r : Int32} {σ' : xS} (hf : draft_turnOnce N σ = some (r, σ')) : xMet l (GX E) yX0_turnOnce cX0_turnOnce 4 none (k2_rm 2 48) [.ref (E.2.2.1 4)] σ none σ' := by
  refine x_met (own := RX0) (by decide +kernel) hG rfl (Nat.le_of_ble_eq_true rfl) (fun C hl hC => ?_)
  subst hl
  show xw C (GX E) 4 (xq C (GX E) none σ') σ 0 [(0, .ref (E.2.2.1 4))] []
  unfold draft_turnOnce at hf
  refine xr_iconst (pc' := 1) (0 : Int32) hC dX0_turnOnce_0 rfl (by decide) ?_
  refine xr_istore_n (pc' := 2) (lv' := [(0, .ref (E.2.2.1 4)), (1, .int (0 : Int32))]) hC dX0_turnOnce_1 rfl rfl (by decide) [1, 0] rfl ?_
  exact w_draft_turnOnce_b2 hC N _ _ hf

