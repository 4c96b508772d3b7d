set_option maxRecDepth 100000 in
set_option maxHeartbeats 4000000 in
theorem c_m_isPiece {l : Launch} {E : mE} {N : Nat} (hG : xOk (GM E)) {l1 : Int32} {σ : xS} {r : Int32} {σ' : xS} (hf : m_isPiece N l1 σ = some (r, σ')) : xMet l (GM E) yX10_isPiece cX10_isPiece 2 (some .boolean) (k2_rm 0 0) [.ref (E.2.2.1 0), .int l1] σ (some (.int r)) σ' := by
  refine x_met (own := RX10) (by decide +kernel) hG rfl (Nat.le_of_ble_eq_true rfl) (fun C hl hC => ?_)
  subst hl
  show xw C (GM E) 2 (xq C (GM E) (some (.int r)) σ') σ 0 [(0, .ref (E.2.2.1 0)), (1, .int l1)] []
  unfold m_isPiece at hf
  refine xr_aload_n (pc' := 1) 0 hC dX10_isPiece_0 rfl rfl rfl ?_
  refine gX10_m_hasDrawing (pc' := 4) hC dX10_isPiece_1 rfl ?_
  refine xr_if_eq (pc' := 7) 23 hC dX10_isPiece_4 rfl (by decide) hf (fun hf => ?_) (fun hf => ?_)
  · refine xr_iconst (pc' := 24) (0 : Int32) hC dX10_isPiece_23 rfl (by decide) ?_
    exact xr_zreturn hC dX10_isPiece_24 rfl hf
  refine xr_iload_n (pc' := 8) 1 hC dX10_isPiece_7 rfl rfl rfl ?_
  refine xr_if_lt (pc' := 11) 23 hC dX10_isPiece_8 rfl (by decide) hf (fun hf => ?_) (fun hf => ?_)
  · refine xr_iconst (pc' := 24) (0 : Int32) hC dX10_isPiece_23 rfl (by decide) ?_
    exact xr_zreturn hC dX10_isPiece_24 rfl hf
  refine xr_iload_n (pc' := 12) 1 hC dX10_isPiece_11 rfl rfl rfl ?_
  refine xr_aload_n (pc' := 13) 0 hC dX10_isPiece_12 rfl rfl rfl ?_
  refine gX10_m_pieces (pc' := 16) hC dX10_isPiece_13 rfl ?_
  refine xr_icmp_ge (pc' := 19) 23 hC dX10_isPiece_16 rfl (by decide) hf (fun hf => ?_) (fun hf => ?_)
  · refine xr_iconst (pc' := 24) (0 : Int32) hC dX10_isPiece_23 rfl (by decide) ?_
    exact xr_zreturn hC dX10_isPiece_24 rfl hf
  refine xr_iconst (pc' := 20) (1 : Int32) hC dX10_isPiece_19 rfl (by decide) ?_
  refine xr_goto 24 hC dX10_isPiece_20 (by decide) ?_
  exact xr_zreturn hC dX10_isPiece_24 rfl hf

set_option maxRecDepth 100000 in
set_option maxHeartbeats 4000000 in
theorem c_m_bears {l : Launch} {E : mE} {N : Nat} (hG : xOk (GM E)) {l1 : Int32} {σ : xS} {r : Int32} {σ' : xS} (hf : m_bears N l1 σ = some (r, σ')) : xMet l (GM E) yX10_bears cX10_bears 2 (some .int) (k2_rm 0 0) [.ref (E.2.2.1 0), .int l1] σ (some (.int r)) σ' := by
  refine x_met (own := RX10) (by decide +kernel) hG rfl (Nat.le_of_ble_eq_true rfl) (fun C hl hC => ?_)
  subst hl
  show xw C (GM E) 2 (xq C (GM E) (some (.int r)) σ') σ 0 [(0, .ref (E.2.2.1 0)), (1, .int l1)] []
  unfold m_bears at hf
  refine xr_aload_n (pc' := 1) 0 hC dX10_bears_0 rfl rfl rfl ?_
  refine gX10_m_life (pc' := 4) hC dX10_bears_1 rfl ?_
  refine xr_aload_n (pc' := 5) 0 hC dX10_bears_4 rfl rfl rfl ?_
  refine gX10_m_pieceTouch (pc' := 8) hC dX10_bears_5 rfl ?_
  refine xr_iload_n (pc' := 9) 1 hC dX10_bears_8 rfl rfl rfl ?_
  refine lM_16 (pc' := 10) hC dX10_bears_9 rfl hf (fun v1 hf => ?_)
  refine xr_isub (pc' := 11) hC dX10_bears_10 rfl ?_
  refine xr_iconst (pc' := 12) (1 : Int32) hC dX10_bears_11 rfl (by decide) ?_
  refine xr_icmp_ge (pc' := 15) 19 hC dX10_bears_12 rfl (by decide) hf (fun hf => ?_) (fun hf => ?_)
  · refine xr_aload_n (pc' := 20) 0 hC dX10_bears_19 rfl rfl rfl ?_
    refine gX10_m_life (pc' := 23) hC dX10_bears_20 rfl ?_
    refine xr_aload_n (pc' := 24) 0 hC dX10_bears_23 rfl rfl rfl ?_
    refine gX10_m_pieceTouch (pc' := 27) hC dX10_bears_24 rfl ?_
    refine xr_iload_n (pc' := 28) 1 hC dX10_bears_27 rfl rfl rfl ?_
    refine lM_16 (pc' := 29) hC dX10_bears_28 rfl hf (fun v2 hf => ?_)
    refine xr_isub (pc' := 30) hC dX10_bears_29 rfl ?_
    exact xr_ireturn hC dX10_bears_30 hf
  refine xr_iconst (pc' := 16) (1 : Int32) hC dX10_bears_15 rfl (by decide) ?_
  refine xr_goto 30 hC dX10_bears_16 (by decide) ?_
  exact xr_ireturn hC dX10_bears_30 hf

set_option maxRecDepth 100000 in
set_option maxHeartbeats 4000000 in
theorem c_m_piece {l : Launch} {E : mE} {N : Nat} (hG : xOk (GM E)) {l1 l2 : Int32} {σ : xS} {r : Int32} {σ' : xS} (hf : m_piece N l1 l2 σ = some (r, σ')) : xMet l (GM E) yX10_piece cX10_piece 3 (some .int) (k2_rm 1 21) [.ref (E.2.2.1 0), .int l1, .int l2] σ (some (.int r)) σ' := by
  refine x_met (own := RX10) (by decide +kernel) hG rfl (Nat.le_of_ble_eq_true rfl) (fun C hl hC => ?_)
  subst hl
  show xw C (GM E) 3 (xq C (GM E) (some (.int r)) σ') σ 0 [(0, .ref (E.2.2.1 0)), (1, .int l1), (2, .int l2)] []
  unfold m_piece at hf
  refine xr_aload_n (pc' := 1) 0 hC dX10_piece_0 rfl rfl rfl ?_
  refine xr_iload_n (pc' := 2) 1 hC dX10_piece_1 rfl rfl rfl ?_
  refine xr_callV (pc' := 5) (rmy := k2_rm 0 0) [.int l1] 0 hC dX10_piece_2 rfl kX10_258 rfl rfl rfl rfl rfl ⟨Nat.le_of_ble_eq_true rfl, Nat.le_of_ble_eq_true rfl⟩ rfl (Nat.le_of_ble_eq_true rfl) hf (fun _ _ h => c_m_isPiece (xc_ok hC) h) (fun v1 σ2 hf => ?_)
  refine xr_if_ne (pc' := 8) 10 hC dX10_piece_5 rfl (by decide) hf (fun hf => ?_) (fun hf => ?_)
  · refine xr_iload_n (pc' := 11) 2 hC dX10_piece_10 rfl rfl rfl ?_
    by_cases e0 : l2 = (0 : Int32)
    · rw [if_pos e0] at hf
      refine xr_tableIn (off := 33) 44 hC dX10_piece_11 (by rw [e0]; decide) (by rw [e0]; decide) (by rw [e0]; rfl) (by decide) ?_
      refine xr_aload_n (pc' := 45) 0 hC dX10_piece_44 rfl rfl rfl ?_
      refine gX10_m_pieceWay (pc' := 48) hC dX10_piece_45 rfl ?_
      refine xr_iload_n (pc' := 49) 1 hC dX10_piece_48 rfl rfl rfl ?_
      refine lM_14 (pc' := 50) hC dX10_piece_49 rfl hf (fun v3 hf => ?_)
      exact xr_ireturn hC dX10_piece_50 hf
    rw [if_neg e0] at hf
    by_cases e1 : l2 = (1 : Int32)
    · rw [if_pos e1] at hf
      refine xr_tableIn (off := 40) 51 hC dX10_piece_11 (by rw [e1]; decide) (by rw [e1]; decide) (by rw [e1]; rfl) (by decide) ?_
      refine xr_aload_n (pc' := 52) 0 hC dX10_piece_51 rfl rfl rfl ?_
      refine gX10_m_pieceCells (pc' := 55) hC dX10_piece_52 rfl ?_
      refine xr_iload_n (pc' := 56) 1 hC dX10_piece_55 rfl rfl rfl ?_
      refine lM_15 (pc' := 57) hC dX10_piece_56 rfl hf (fun v4 hf => ?_)
      exact xr_ireturn hC dX10_piece_57 hf
    rw [if_neg e1] at hf
    by_cases e2 : l2 = (2 : Int32)
    · rw [if_pos e2] at hf
      refine xr_tableIn (off := 47) 58 hC dX10_piece_11 (by rw [e2]; decide) (by rw [e2]; decide) (by rw [e2]; rfl) (by decide) ?_
      refine xr_aload_n (pc' := 59) 0 hC dX10_piece_58 rfl rfl rfl ?_
      refine gX10_m_pieceTouch (pc' := 62) hC dX10_piece_59 rfl ?_
      refine xr_iload_n (pc' := 63) 1 hC dX10_piece_62 rfl rfl rfl ?_
      refine lM_16 (pc' := 64) hC dX10_piece_63 rfl hf (fun v5 hf => ?_)
      exact xr_ireturn hC dX10_piece_64 hf
    rw [if_neg e2] at hf
    by_cases e3 : l2 = (3 : Int32)
    · rw [if_pos e3] at hf
      refine xr_tableIn (off := 54) 65 hC dX10_piece_11 (by rw [e3]; decide) (by rw [e3]; decide) (by rw [e3]; rfl) (by decide) ?_
      refine xr_aload_n (pc' := 66) 0 hC dX10_piece_65 rfl rfl rfl ?_
      refine xr_iload_n (pc' := 67) 1 hC dX10_piece_66 rfl rfl rfl ?_
      refine xr_callV (pc' := 70) (rmy := k2_rm 0 0) [.int l1] 0 hC dX10_piece_67 rfl kX10_261 rfl rfl rfl rfl rfl ⟨Nat.le_of_ble_eq_true rfl, Nat.le_of_ble_eq_true rfl⟩ rfl (Nat.le_of_ble_eq_true rfl) hf (fun _ _ h => c_m_bears (xc_ok hC) h) (fun v6 σ7 hf => ?_)
      exact xr_ireturn hC dX10_piece_70 hf
    rw [if_neg e3] at hf
    by_cases e4 : l2 = (4 : Int32)
    · rw [if_pos e4] at hf
      refine xr_tableIn (off := 60) 71 hC dX10_piece_11 (by rw [e4]; decide) (by rw [e4]; decide) (by rw [e4]; rfl) (by decide) ?_
      refine xr_aload_n (pc' := 72) 0 hC dX10_piece_71 rfl rfl rfl ?_
      refine gX10_m_poured (pc' := 75) hC dX10_piece_72 rfl ?_
      refine xr_iload_n (pc' := 76) 1 hC dX10_piece_75 rfl rfl rfl ?_
      refine lM_17 (pc' := 77) hC dX10_piece_76 rfl hf (fun v8 hf => ?_)
      exact xr_ireturn hC dX10_piece_77 hf
    rw [if_neg e4] at hf
    refine xr_tableOut 78 hC dX10_piece_11 (by have f0 := i32_ne e0 (show ((0 : Int32)).toInt = 0 by decide); have f1 := i32_ne e1 (show ((1 : Int32)).toInt = 1 by decide); have f2 := i32_ne e2 (show ((2 : Int32)).toInt = 2 by decide); have f3 := i32_ne e3 (show ((3 : Int32)).toInt = 3 by decide); have f4 := i32_ne e4 (show ((4 : Int32)).toInt = 4 by decide); omega) (by decide) ?_
    refine xr_iconst (pc' := 79) (-1 : Int32) hC dX10_piece_78 rfl (by decide) ?_
    exact xr_ireturn hC dX10_piece_79 hf
  refine xr_iconst (pc' := 9) (-1 : Int32) hC dX10_piece_8 rfl (by decide) ?_
  exact xr_ireturn hC dX10_piece_9 hf

set_option maxRecDepth 100000 in
set_option maxHeartbeats 4000000 in
theorem c_m_wear {l : Launch} {E : mE} {N : Nat} (hG : xOk (GM E)) {l1 l2 : Int32} {σ : xS} {r : Int32} {σ' : xS} (hf : m_wear N l1 l2 σ = some (r, σ')) : xMet l (GM E) yX10_wear cX10_wear 3 (some .boolean) (k2_rm 1 22) [.ref (E.2.2.1 0), .int l1, .int l2] σ (some (.int r)) σ' := by
  refine x_met (own := RX10) (by decide +kernel) hG rfl (Nat.le_of_ble_eq_true rfl) (fun C hl hC => ?_)
  subst hl
  show xw C (GM E) 3 (xq C (GM E) (some (.int r)) σ') σ 0 [(0, .ref (E.2.2.1 0)), (1, .int l1), (2, .int l2)] []
  unfold m_wear at hf
  refine xr_iload_n (pc' := 1) 1 hC dX10_wear_0 rfl rfl rfl ?_
  refine xr_iconst (pc' := 2) (1 : Int32) hC dX10_wear_1 rfl (by decide) ?_
  refine xr_sipush (pc' := 5) (1000 : Int32) hC dX10_wear_2 rfl (by decide) ?_
  refine xr_callS (pc' := 8) (rmy := k2_rm 0 0) [.int l1, .int (1 : Int32), .int (1000 : Int32)] hC dX10_wear_5 rfl kX10_196 rfl rfl rfl ⟨Nat.le_of_ble_eq_true rfl, Nat.le_of_ble_eq_true rfl⟩ rfl (Nat.le_of_ble_eq_true rfl) hf (fun _ _ h => c_m_isIn (xc_ok hC) h) (fun v1 σ2 hf => ?_)
  refine xr_if_eq (pc' := 11) 21 hC dX10_wear_8 rfl (by decide) hf (fun hf => ?_) (fun hf => ?_)
  · refine xr_iconst (pc' := 22) (0 : Int32) hC dX10_wear_21 rfl (by decide) ?_
    exact xr_zreturn hC dX10_wear_22 rfl hf
  refine xr_iload_n (pc' := 12) 2 hC dX10_wear_11 rfl rfl rfl ?_
  refine xr_iconst (pc' := 13) (0 : Int32) hC dX10_wear_12 rfl (by decide) ?_
  refine xr_bipush (pc' := 15) (100 : Int32) hC dX10_wear_13 rfl (by decide) ?_
  refine xr_callS (pc' := 18) (rmy := k2_rm 0 0) [.int l2, .int (0 : Int32), .int (100 : Int32)] hC dX10_wear_15 rfl kX10_196 rfl rfl rfl ⟨Nat.le_of_ble_eq_true rfl, Nat.le_of_ble_eq_true rfl⟩ rfl (Nat.le_of_ble_eq_true rfl) hf (fun _ _ h => c_m_isIn (xc_ok hC) h) (fun v3 σ4 hf => ?_)
  refine xr_if_ne (pc' := 21) 23 hC dX10_wear_18 rfl (by decide) hf (fun hf => ?_) (fun hf => ?_)
  · refine xr_aload_n (pc' := 24) 0 hC dX10_wear_23 rfl rfl rfl ?_
    refine xr_iload_n (pc' := 25) 1 hC dX10_wear_24 rfl rfl rfl ?_
    refine pX10_m_life (pc' := 28) hC dX10_wear_25 rfl hf (fun σ5 hf => ?_)
    refine xr_aload_n (pc' := 29) 0 hC dX10_wear_28 rfl rfl rfl ?_
    refine xr_iload_n (pc' := 30) 2 hC dX10_wear_29 rfl rfl rfl ?_
    refine pX10_m_price (pc' := 33) hC dX10_wear_30 rfl hf (fun σ6 hf => ?_)
    refine xr_iconst (pc' := 34) (1 : Int32) hC dX10_wear_33 rfl (by decide) ?_
    exact xr_zreturn hC dX10_wear_34 rfl hf
  refine xr_iconst (pc' := 22) (0 : Int32) hC dX10_wear_21 rfl (by decide) ?_
  exact xr_zreturn hC dX10_wear_22 rfl hf

set_option maxRecDepth 100000 in
set_option maxHeartbeats 4000000 in
theorem w_m_isBorne_b2 {C : xT} {E : mE} {N : Nat} {r : Int32} {σ' : xS} (hC : xc C (GM E) RX10 cX10_isBorne 2 (some .boolean) (k2_rm 1 21)) : ∀ (n : Nat) (l1 : Int32) (σ : xS), m_isBorne_b2 N n l1 σ = some (r, σ') → xw C (GM E) 2 (xq C (GM E) (some (.int r)) σ') σ 2 [(0, .ref (E.2.2.1 0)), (1, .int l1)] [] := by
  intro n
  induction n with
  | zero =>
    intro l1 σ hf
    rw [m_isBorne_b2] at hf
    cases hf
  | succ n ih =>
    intro l1 σ hf
    rw [m_isBorne_b2] at hf
    refine xr_iload_n (pc' := 3) 1 hC dX10_isBorne_2 rfl rfl rfl ?_
    refine xr_aload_n (pc' := 4) 0 hC dX10_isBorne_3 rfl rfl rfl ?_
    refine gX10_m_pieces (pc' := 7) hC dX10_isBorne_4 rfl ?_
    refine xr_icmp_ge (pc' := 10) 32 hC dX10_isBorne_7 rfl (by decide) hf (fun hf => ?_) (fun hf => ?_)
    · refine xr_iconst (pc' := 33) (1 : Int32) hC dX10_isBorne_32 rfl (by decide) ?_
      exact xr_zreturn hC dX10_isBorne_33 rfl hf
    refine xr_aload_n (pc' := 11) 0 hC dX10_isBorne_10 rfl rfl rfl ?_
    refine gX10_m_poured (pc' := 14) hC dX10_isBorne_11 rfl ?_
    refine xr_iload_n (pc' := 15) 1 hC dX10_isBorne_14 rfl rfl rfl ?_
    refine lM_17 (pc' := 16) hC dX10_isBorne_15 rfl hf (fun v1 hf => ?_)
    refine xr_aload_n (pc' := 17) 0 hC dX10_isBorne_16 rfl rfl rfl ?_
    refine xr_iload_n (pc' := 18) 1 hC dX10_isBorne_17 rfl rfl rfl ?_
    refine xr_callV (pc' := 21) (rmy := k2_rm 0 0) [.int l1] 0 hC dX10_isBorne_18 rfl kX10_261 rfl rfl rfl rfl rfl ⟨Nat.le_of_ble_eq_true rfl, Nat.le_of_ble_eq_true rfl⟩ rfl (Nat.le_of_ble_eq_true rfl) hf (fun _ _ h => c_m_bears (xc_ok hC) h) (fun v2 σ3 hf => ?_)
    refine xr_icmp_lt (pc' := 24) 26 hC dX10_isBorne_21 rfl (by decide) hf (fun hf => ?_) (fun hf => ?_)
    · refine xr_iinc (pc' := 29) hC dX10_isBorne_26 rfl _ rfl hf 1 rfl (by decide) [1, 0] (fun l1_4 => [(0, .ref (E.2.2.1 0)), (1, .int l1_4)]) (fun _ => rfl) (fun l1_4 hf => ?_)
      refine xr_goto 2 hC dX10_isBorne_29 (by decide) ?_
      exact ih _ _ hf
    refine xr_iconst (pc' := 25) (0 : Int32) hC dX10_isBorne_24 rfl (by decide) ?_
    exact xr_zreturn hC dX10_isBorne_25 rfl hf

set_option maxRecDepth 100000 in
set_option maxHeartbeats 4000000 in
theorem c_m_isBorne {l : Launch} {E : mE} {N : Nat} (hG : xOk (GM E)) {σ : xS} {r : Int32} {σ' : xS} (hf : m_isBorne N σ = some (r, σ')) : xMet l (GM E) yX10_isBorne cX10_isBorne 2 (some .boolean) (k2_rm 1 21) [.ref (E.2.2.1 0)] σ (some (.int r)) σ' := by
  refine x_met (own := RX10) (by decide +kernel) hG rfl (Nat.le_of_ble_eq_true rfl) (fun C hl hC => ?_)
  subst hl
  show xw C (GM E) 2 (xq C (GM E) (some (.int r)) σ') σ 0 [(0, .ref (E.2.2.1 0))] []
  unfold m_isBorne at hf
  refine xr_iconst (pc' := 1) (0 : Int32) hC dX10_isBorne_0 rfl (by decide) ?_
  refine xr_istore_n (pc' := 2) (lv' := [(0, .ref (E.2.2.1 0)), (1, .int (0 : Int32))]) hC dX10_isBorne_1 rfl rfl (by decide) [1, 0] rfl ?_
  exact w_m_isBorne_b2 hC N _ _ hf

set_option maxRecDepth 100000 in
set_option maxHeartbeats 4000000 in
theorem w_m_pours_b2 {C : xT} {E : mE} {N : Nat} {r : Int32} {σ' : xS} (hC : xc C (GM E) RX10 cX10_pours 2 none (k2_rm 0 0)) : ∀ (n : Nat) (l1 : Int32) (σ : xS), m_pours_b2 N n l1 σ = some (r, σ') → xw C (GM E) 2 (xq C (GM E) none σ') σ 2 [(0, .ref (E.2.2.1 0)), (1, .int l1)] [] := by
  intro n
  induction n with
  | zero =>
    intro l1 σ hf
    rw [m_pours_b2] at hf
    cases hf
  | succ n ih =>
    intro l1 σ hf
    rw [m_pours_b2] at hf
    refine xr_iload_n (pc' := 3) 1 hC dX10_pours_2 rfl rfl rfl ?_
    refine xr_aload_n (pc' := 4) 0 hC dX10_pours_3 rfl rfl rfl ?_
    refine gX10_m_pieces (pc' := 7) hC dX10_pours_4 rfl ?_
    refine xr_icmp_ge (pc' := 10) 26 hC dX10_pours_7 rfl (by decide) hf (fun hf => ?_) (fun hf => ?_)
    · exact xr_return hC dX10_pours_26 hf
    refine xr_aload_n (pc' := 11) 0 hC dX10_pours_10 rfl rfl rfl ?_
    refine gX10_m_poured (pc' := 14) hC dX10_pours_11 rfl ?_
    refine xr_iload_n (pc' := 15) 1 hC dX10_pours_14 rfl rfl rfl ?_
    refine xr_dup2 (pc' := 16) hC dX10_pours_15 rfl rfl rfl ?_
    refine lM_17 (pc' := 17) hC dX10_pours_16 rfl hf (fun v1 hf => ?_)
    refine xr_iconst (pc' := 18) (1 : Int32) hC dX10_pours_17 rfl (by decide) ?_
    refine xr_iadd (pc' := 19) hC dX10_pours_18 rfl ?_
    refine sM_17 (pc' := 20) hC dX10_pours_19 rfl hf (fun σ2 hf => ?_)
    refine xr_iinc (pc' := 23) hC dX10_pours_20 rfl _ rfl hf 1 rfl (by decide) [1, 0] (fun l1_3 => [(0, .ref (E.2.2.1 0)), (1, .int l1_3)]) (fun _ => rfl) (fun l1_3 hf => ?_)
    refine xr_goto 2 hC dX10_pours_23 (by decide) ?_
    exact ih _ _ hf

set_option maxRecDepth 100000 in
set_option maxHeartbeats 4000000 in
theorem c_m_pours {l : Launch} {E : mE} {N : Nat} (hG : xOk (GM E)) {σ : xS} {r : Int32} {σ' : xS} (hf : m_pours N σ = some (r, σ')) : xMet l (GM E) yX10_pours cX10_pours 2 none (k2_rm 0 0) [.ref (E.2.2.1 0)] σ none σ' := by
  refine x_met (own := RX10) (by decide +kernel) hG rfl (Nat.le_of_ble_eq_true rfl) (fun C hl hC => ?_)
  subst hl
  show xw C (GM E) 2 (xq C (GM E) none σ') σ 0 [(0, .ref (E.2.2.1 0))] []
  unfold m_pours at hf
  refine xr_iconst (pc' := 1) (0 : Int32) hC dX10_pours_0 rfl (by decide) ?_
  refine xr_istore_n (pc' := 2) (lv' := [(0, .ref (E.2.2.1 0)), (1, .int (0 : Int32))]) hC dX10_pours_1 rfl rfl (by decide) [1, 0] rfl ?_
  exact w_m_pours_b2 hC N _ _ hf

set_option maxRecDepth 100000 in
set_option maxHeartbeats 4000000 in
theorem w_m_pour_b22 {C : xT} {E : mE} {N : Nat} {r : Int32} {σ' : xS} (hC : xc C (GM E) RX10 cX10_pour 3 (some .int) (k2_rm 2 42)) : ∀ (n : Nat) (l1 l2 : Int32) (σ : xS), m_pour_b22 N n l1 l2 σ = some (r, σ') → xw C (GM E) 3 (xq C (GM E) (some (.int r)) σ') σ 22 [(0, .ref (E.2.2.1 0)), (1, .int l1), (2, .int l2)] [] := by
  intro n
  induction n with
  | zero =>
    intro l1 l2 σ hf
    rw [m_pour_b22] at hf
    cases hf
  | succ n ih =>
    intro l1 l2 σ hf
    rw [m_pour_b22] at hf
    refine xr_iload_n (pc' := 23) 2 hC dX10_pour_22 rfl rfl rfl ?_
    refine xr_iload_n (pc' := 24) 1 hC dX10_pour_23 rfl rfl rfl ?_
    refine xr_icmp_ge (pc' := 27) 44 hC dX10_pour_24 rfl (by decide) hf (fun hf => ?_) (fun hf => ?_)
    · refine xr_iload_n (pc' := 45) 2 hC dX10_pour_44 rfl rfl rfl ?_
      exact xr_ireturn hC dX10_pour_45 hf
    refine xr_aload_n (pc' := 28) 0 hC dX10_pour_27 rfl rfl rfl ?_
    refine xr_callV (pc' := 31) (rmy := k2_rm 1 21) [] 0 hC dX10_pour_28 rfl kX10_264 rfl rfl rfl rfl rfl ⟨Nat.le_of_ble_eq_true rfl, Nat.le_of_ble_eq_true rfl⟩ rfl (Nat.le_of_ble_eq_true rfl) hf (fun _ _ h => c_m_isBorne (xc_ok hC) h) (fun v3 σ4 hf => ?_)
    refine xr_if_eq (pc' := 34) 44 hC dX10_pour_31 rfl (by decide) hf (fun hf => ?_) (fun hf => ?_)
    · refine xr_iload_n (pc' := 45) 2 hC dX10_pour_44 rfl rfl rfl ?_
      exact xr_ireturn hC dX10_pour_45 hf
    refine xr_aload_n (pc' := 35) 0 hC dX10_pour_34 rfl rfl rfl ?_
    refine xr_callVv (pc' := 38) (rmy := k2_rm 0 0) [] 0 hC dX10_pour_35 rfl kX10_268 rfl rfl rfl rfl rfl ⟨Nat.le_of_ble_eq_true rfl, Nat.le_of_ble_eq_true rfl⟩ rfl (Nat.le_of_ble_eq_true rfl) hf (fun _ _ h => c_m_pours (xc_ok hC) h) (fun v5 σ6 hf => ?_)
    refine xr_iinc (pc' := 41) hC dX10_pour_38 rfl _ rfl hf 2 rfl (by decide) [1, 2, 0] (fun l2_7 => [(0, .ref (E.2.2.1 0)), (1, .int l1), (2, .int l2_7)]) (fun _ => rfl) (fun l2_7 hf => ?_)
    refine xr_goto 22 hC dX10_pour_41 (by decide) ?_
    exact ih _ _ _ hf

set_option maxRecDepth 100000 in
set_option maxHeartbeats 4000000 in
theorem c_m_pour {l : Launch} {E : mE} {N : Nat} (hG : xOk (GM E)) {l1 : Int32} {σ : xS} {r : Int32} {σ' : xS} (hf : m_pour N l1 σ = some (r, σ')) : xMet l (GM E) yX10_pour cX10_pour 3 (some .int) (k2_rm 2 42) [.ref (E.2.2.1 0), .int l1] σ (some (.int r)) σ' := by
  refine x_met (own := RX10) (by decide +kernel) hG rfl (Nat.le_of_ble_eq_true rfl) (fun C hl hC => ?_)
  subst hl
  show xw C (GM E) 3 (xq C (GM E) (some (.int r)) σ') σ 0 [(0, .ref (E.2.2.1 0)), (1, .int l1)] []
  unfold m_pour at hf
  refine xr_aload_n (pc' := 1) 0 hC dX10_pour_0 rfl rfl rfl ?_
  refine gX10_m_hasDrawing (pc' := 4) hC dX10_pour_1 rfl ?_
  refine xr_if_eq (pc' := 7) 18 hC dX10_pour_4 rfl (by decide) hf (fun hf => ?_) (fun hf => ?_)
  · refine xr_iconst (pc' := 19) (-1 : Int32) hC dX10_pour_18 rfl (by decide) ?_
    exact xr_ireturn hC dX10_pour_19 hf
  refine xr_iload_n (pc' := 8) 1 hC dX10_pour_7 rfl rfl rfl ?_
  refine xr_iconst (pc' := 9) (1 : Int32) hC dX10_pour_8 rfl (by decide) ?_
  refine xr_sipush (pc' := 12) (1000 : Int32) hC dX10_pour_9 rfl (by decide) ?_
  refine xr_callS (pc' := 15) (rmy := k2_rm 0 0) [.int l1, .int (1 : Int32), .int (1000 : Int32)] hC dX10_pour_12 rfl kX10_196 rfl rfl rfl ⟨Nat.le_of_ble_eq_true rfl, Nat.le_of_ble_eq_true rfl⟩ rfl (Nat.le_of_ble_eq_true rfl) hf (fun _ _ h => c_m_isIn (xc_ok hC) h) (fun v1 σ2 hf => ?_)
  refine xr_if_ne (pc' := 18) 20 hC dX10_pour_15 rfl (by decide) hf (fun hf => ?_) (fun hf => ?_)
  · refine xr_iconst (pc' := 21) (0 : Int32) hC dX10_pour_20 rfl (by decide) ?_
    refine xr_istore_n (pc' := 22) (lv' := [(0, .ref (E.2.2.1 0)), (1, .int l1), (2, .int (0 : Int32))]) hC dX10_pour_21 rfl rfl (by decide) [1, 2, 0] rfl ?_
    exact w_m_pour_b22 hC N _ _ _ hf
  refine xr_iconst (pc' := 19) (-1 : Int32) hC dX10_pour_18 rfl (by decide) ?_
  exact xr_ireturn hC dX10_pour_19 hf

set_option maxRecDepth 100000 in
set_option maxHeartbeats 4000000 in
theorem c_m_mend {l : Launch} {E : mE} {N : Nat} (hG : xOk (GM E)) {l1 : Int32} {σ : xS} {r : Int32} {σ' : xS} (hf : m_mend N l1 σ = some (r, σ')) : xMet l (GM E) yX10_mend cX10_mend 2 (some .int) (k2_rm 1 21) [.ref (E.2.2.1 0), .int l1] σ (some (.int r)) σ' := by
  refine x_met (own := RX10) (by decide +kernel) hG rfl (Nat.le_of_ble_eq_true rfl) (fun C hl hC => ?_)
  subst hl
  show xw C (GM E) 2 (xq C (GM E) (some (.int r)) σ') σ 0 [(0, .ref (E.2.2.1 0)), (1, .int l1)] []
  unfold m_mend at hf
  refine xr_aload_n (pc' := 1) 0 hC dX10_mend_0 rfl rfl rfl ?_
  refine xr_iload_n (pc' := 2) 1 hC dX10_mend_1 rfl rfl rfl ?_
  refine xr_callV (pc' := 5) (rmy := k2_rm 0 0) [.int l1] 0 hC dX10_mend_2 rfl kX10_258 rfl rfl rfl rfl rfl ⟨Nat.le_of_ble_eq_true rfl, Nat.le_of_ble_eq_true rfl⟩ rfl (Nat.le_of_ble_eq_true rfl) hf (fun _ _ h => c_m_isPiece (xc_ok hC) h) (fun v1 σ2 hf => ?_)
  refine xr_if_ne (pc' := 8) 10 hC dX10_mend_5 rfl (by decide) hf (fun hf => ?_) (fun hf => ?_)
  · refine xr_aload_n (pc' := 11) 0 hC dX10_mend_10 rfl rfl rfl ?_
    refine gX10_m_poured (pc' := 14) hC dX10_mend_11 rfl ?_
    refine xr_iload_n (pc' := 15) 1 hC dX10_mend_14 rfl rfl rfl ?_
    refine xr_iconst (pc' := 16) (0 : Int32) hC dX10_mend_15 rfl (by decide) ?_
    refine sM_17 (pc' := 17) hC dX10_mend_16 rfl hf (fun σ3 hf => ?_)
    refine xr_aload_n (pc' := 18) 0 hC dX10_mend_17 rfl rfl rfl ?_
    refine gX10_m_pieceCells (pc' := 21) hC dX10_mend_18 rfl ?_
    refine xr_iload_n (pc' := 22) 1 hC dX10_mend_21 rfl rfl rfl ?_
    refine lM_15 (pc' := 23) hC dX10_mend_22 rfl hf (fun v4 hf => ?_)
    refine xr_aload_n (pc' := 24) 0 hC dX10_mend_23 rfl rfl rfl ?_
    refine gX10_m_price (pc' := 27) hC dX10_mend_24 rfl ?_
    refine xr_imul (pc' := 28) hC dX10_mend_27 rfl ?_
    exact xr_ireturn hC dX10_mend_28 hf
  refine xr_iconst (pc' := 9) (-1 : Int32) hC dX10_mend_8 rfl (by decide) ?_
  exact xr_ireturn hC dX10_mend_9 hf

set_option maxRecDepth 100000 in
set_option maxHeartbeats 4000000 in
theorem w_m_run_b32 {C : xT} {E : mE} {N : Nat} {r : Int32} {σ' : xS} (hC : xc C (GM E) RX10 cX10_run 5 (some .int) (k2_rm 2 42)) (K24 : Int32 → Int32 → Int32 → xS → Option (Int32 × xS)) (hK24 : ∀ (l1 l2 l3 : Int32) (σ : xS), K24 l1 l2 l3 σ = some (r, σ') → xw C (GM E) 5 (xq C (GM E) (some (.int r)) σ') σ 24 [(0, .ref (E.2.2.1 0)), (1, .int l1), (2, .int l2), (3, .int l3)] []) : ∀ (n : Nat) (l1 l2 l3 l4 : Int32) (σ : xS), m_run_b32 N K24 n l1 l2 l3 l4 σ = some (r, σ') → xw C (GM E) 5 (xq C (GM E) (some (.int r)) σ') σ 32 [(0, .ref (E.2.2.1 0)), (1, .int l1), (2, .int l2), (3, .int l3), (4, .int l4)] [] := by
  intro n
  induction n with
  | zero =>
    intro l1 l2 l3 l4 σ hf
    rw [m_run_b32] at hf
    cases hf
  | succ n ih =>
    intro l1 l2 l3 l4 σ hf
    rw [m_run_b32] at hf
    refine xr_iload (pc' := 34) 4 hC dX10_run_32 rfl rfl ?_
    refine xr_aload_n (pc' := 35) 0 hC dX10_run_34 rfl rfl rfl ?_
    refine gX10_m_pieces (pc' := 38) hC dX10_run_35 rfl ?_
    refine xr_icmp_ge (pc' := 41) 72 hC dX10_run_38 rfl (by decide) hf (fun hf => ?_) (fun hf => ?_)
    · refine xr_aload_n (pc' := 73) 0 hC dX10_run_72 rfl rfl rfl ?_
      refine xr_callVv (pc' := 76) (rmy := k2_rm 0 0) [] 0 hC dX10_run_73 rfl kX10_268 rfl rfl rfl rfl rfl ⟨Nat.le_of_ble_eq_true rfl, Nat.le_of_ble_eq_true rfl⟩ rfl (Nat.le_of_ble_eq_true rfl) hf (fun _ _ h => c_m_pours (xc_ok hC) h) (fun v3 σ4 hf => ?_)
      refine xr_iinc (pc' := 79) hC dX10_run_76 rfl _ rfl hf 3 rfl (by decide) [1, 2, 3, 0, 4] (fun l3_5 => [(0, .ref (E.2.2.1 0)), (1, .int l1), (2, .int l2), (3, .int l3_5), (4, .int l4)]) (fun _ => rfl) (fun l3_5 hf => ?_)
      refine xr_goto 24 hC dX10_run_79 (by decide) ?_
      refine x_lv [0, 1, 2, 3] rfl ?_
      exact hK24 _ _ _ _ hf
    refine xr_aload_n (pc' := 42) 0 hC dX10_run_41 rfl rfl rfl ?_
    refine gX10_m_poured (pc' := 45) hC dX10_run_42 rfl ?_
    refine xr_iload (pc' := 47) 4 hC dX10_run_45 rfl rfl ?_
    refine lM_17 (pc' := 48) hC dX10_run_47 rfl hf (fun v6 hf => ?_)
    refine xr_aload_n (pc' := 49) 0 hC dX10_run_48 rfl rfl rfl ?_
    refine xr_iload (pc' := 51) 4 hC dX10_run_49 rfl rfl ?_
    refine xr_callV (pc' := 54) (rmy := k2_rm 0 0) [.int l4] 0 hC dX10_run_51 rfl kX10_261 rfl rfl rfl rfl rfl ⟨Nat.le_of_ble_eq_true rfl, Nat.le_of_ble_eq_true rfl⟩ rfl (Nat.le_of_ble_eq_true rfl) hf (fun _ _ h => c_m_bears (xc_ok hC) h) (fun v7 σ8 hf => ?_)
    refine xr_icmp_lt (pc' := 57) 66 hC dX10_run_54 rfl (by decide) hf (fun hf => ?_) (fun hf => ?_)
    · refine xr_iinc (pc' := 69) hC dX10_run_66 rfl _ rfl hf 4 rfl (by decide) [1, 2, 3, 4, 0] (fun l4_9 => [(0, .ref (E.2.2.1 0)), (1, .int l1), (2, .int l2), (3, .int l3), (4, .int l4_9)]) (fun _ => rfl) (fun l4_9 hf => ?_)
      refine xr_goto 32 hC dX10_run_69 (by decide) ?_
      exact ih _ _ _ _ _ hf
    refine xr_iload_n (pc' := 58) 2 hC dX10_run_57 rfl rfl rfl ?_
    refine xr_aload_n (pc' := 59) 0 hC dX10_run_58 rfl rfl rfl ?_
    refine xr_iload (pc' := 61) 4 hC dX10_run_59 rfl rfl ?_
    refine xr_callV (pc' := 64) (rmy := k2_rm 1 21) [.int l4] 0 hC dX10_run_61 rfl kX10_271 rfl rfl rfl rfl rfl ⟨Nat.le_of_ble_eq_true rfl, Nat.le_of_ble_eq_true rfl⟩ rfl (Nat.le_of_ble_eq_true rfl) hf (fun _ _ h => c_m_mend (xc_ok hC) h) (fun v10 σ11 hf => ?_)
    refine xr_iadd (pc' := 65) hC dX10_run_64 rfl ?_
    refine xr_istoreb_n (pc' := 66) hC dX10_run_65 rfl hf rfl (by decide) [1, 2, 0, 3, 4] (fun l2_12 => [(0, .ref (E.2.2.1 0)), (1, .int l1), (2, .int l2_12), (3, .int l3), (4, .int l4)]) (fun _ => rfl) (fun l2_12 hf => ?_)
    refine xr_iinc (pc' := 69) hC dX10_run_66 rfl _ rfl hf 4 rfl (by decide) [1, 2, 3, 4, 0] (fun l4_13 => [(0, .ref (E.2.2.1 0)), (1, .int l1), (2, .int l2_12), (3, .int l3), (4, .int l4_13)]) (fun _ => rfl) (fun l4_13 hf => ?_)
    refine xr_goto 32 hC dX10_run_69 (by decide) ?_
    exact ih _ _ _ _ _ hf

set_option maxRecDepth 100000 in
set_option maxHeartbeats 4000000 in
theorem w_m_run_b24 {C : xT} {E : mE} {N : Nat} {r : Int32} {σ' : xS} (hC : xc C (GM E) RX10 cX10_run 5 (some .int) (k2_rm 2 42)) : ∀ (n : Nat) (l1 l2 l3 : Int32) (σ : xS), m_run_b24 N n l1 l2 l3 σ = some (r, σ') → xw C (GM E) 5 (xq C (GM E) (some (.int r)) σ') σ 24 [(0, .ref (E.2.2.1 0)), (1, .int l1), (2, .int l2), (3, .int l3)] [] := by
  intro n
  induction n with
  | zero =>
    intro l1 l2 l3 σ hf
    rw [m_run_b24] at hf
    cases hf
  | succ n ih =>
    intro l1 l2 l3 σ hf
    rw [m_run_b24] at hf
    refine xr_iload_n (pc' := 25) 3 hC dX10_run_24 rfl rfl rfl ?_
    refine xr_iload_n (pc' := 26) 1 hC dX10_run_25 rfl rfl rfl ?_
    refine xr_icmp_ge (pc' := 29) 82 hC dX10_run_26 rfl (by decide) hf (fun hf => ?_) (fun hf => ?_)
    · refine xr_iload_n (pc' := 83) 2 hC dX10_run_82 rfl rfl rfl ?_
      exact xr_ireturn hC dX10_run_83 hf
    refine xr_iconst (pc' := 30) (0 : Int32) hC dX10_run_29 rfl (by decide) ?_
    refine xr_istore (pc' := 32) (lv' := [(0, .ref (E.2.2.1 0)), (1, .int l1), (2, .int l2), (3, .int l3), (4, .int (0 : Int32))]) hC dX10_run_30 rfl (by decide) [1, 2, 3, 4, 0] rfl ?_
    exact w_m_run_b32 hC (m_run_b24 N n) ih N _ _ _ _ _ hf

set_option maxRecDepth 100000 in
set_option maxHeartbeats 4000000 in
theorem c_m_run {l : Launch} {E : mE} {N : Nat} (hG : xOk (GM E)) {l1 : Int32} {σ : xS} {r : Int32} {σ' : xS} (hf : m_run N l1 σ = some (r, σ')) : xMet l (GM E) yX10_run cX10_run 5 (some .int) (k2_rm 2 42) [.ref (E.2.2.1 0), .int l1] σ (some (.int r)) σ' := by
  refine x_met (own := RX10) (by decide +kernel) hG rfl (Nat.le_of_ble_eq_true rfl) (fun C hl hC => ?_)
  subst hl
  show xw C (GM E) 5 (xq C (GM E) (some (.int r)) σ') σ 0 [(0, .ref (E.2.2.1 0)), (1, .int l1)] []
  unfold m_run at hf
  refine xr_aload_n (pc' := 1) 0 hC dX10_run_0 rfl rfl rfl ?_
  refine gX10_m_hasDrawing (pc' := 4) hC dX10_run_1 rfl ?_
  refine xr_if_eq (pc' := 7) 18 hC dX10_run_4 rfl (by decide) hf (fun hf => ?_) (fun hf => ?_)
  · refine xr_iconst (pc' := 19) (-1 : Int32) hC dX10_run_18 rfl (by decide) ?_
    exact xr_ireturn hC dX10_run_19 hf
  refine xr_iload_n (pc' := 8) 1 hC dX10_run_7 rfl rfl rfl ?_
  refine xr_iconst (pc' := 9) (1 : Int32) hC dX10_run_8 rfl (by decide) ?_
  refine xr_sipush (pc' := 12) (1000 : Int32) hC dX10_run_9 rfl (by decide) ?_
  refine xr_callS (pc' := 15) (rmy := k2_rm 0 0) [.int l1, .int (1 : Int32), .int (1000 : Int32)] hC dX10_run_12 rfl kX10_196 rfl rfl rfl ⟨Nat.le_of_ble_eq_true rfl, Nat.le_of_ble_eq_true rfl⟩ rfl (Nat.le_of_ble_eq_true rfl) hf (fun _ _ h => c_m_isIn (xc_ok hC) h) (fun v1 σ2 hf => ?_)
  refine xr_if_ne (pc' := 18) 20 hC dX10_run_15 rfl (by decide) hf (fun hf => ?_) (fun hf => ?_)
  · refine xr_iconst (pc' := 21) (0 : Int32) hC dX10_run_20 rfl (by decide) ?_
    refine xr_istore_n (pc' := 22) (lv' := [(0, .ref (E.2.2.1 0)), (1, .int l1), (2, .int (0 : Int32))]) hC dX10_run_21 rfl rfl (by decide) [1, 2, 0] rfl ?_
    refine xr_iconst (pc' := 23) (0 : Int32) hC dX10_run_22 rfl (by decide) ?_
    refine xr_istore_n (pc' := 24) (lv' := [(0, .ref (E.2.2.1 0)), (1, .int l1), (2, .int (0 : Int32)), (3, .int (0 : Int32))]) hC dX10_run_23 rfl rfl (by decide) [1, 2, 3, 0] rfl ?_
    exact w_m_run_b24 hC N _ _ _ _ hf
  refine xr_iconst (pc' := 19) (-1 : Int32) hC dX10_run_18 rfl (by decide) ?_
  exact xr_ireturn hC dX10_run_19 hf

set_option maxRecDepth 100000 in
set_option maxHeartbeats 4000000 in
theorem c_m_dry {l : Launch} {E : mE} {N : Nat} (hG : xOk (GM E)) {l1 : Int32} {σ : xS} {r : Int32} {σ' : xS} (hf : m_dry N l1 σ = some (r, σ')) : xMet l (GM E) yX10_dry cX10_dry 3 (some .int) (k2_rm 1 22) [.ref (E.2.2.1 0), .int l1] σ (some (.int r)) σ' := by
  refine x_met (own := RX10) (by decide +kernel) hG rfl (Nat.le_of_ble_eq_true rfl) (fun C hl hC => ?_)
  subst hl
  show xw C (GM E) 3 (xq C (GM E) (some (.int r)) σ') σ 0 [(0, .ref (E.2.2.1 0)), (1, .int l1)] []
  unfold m_dry at hf
  refine xr_iload_n (pc' := 1) 1 hC dX10_dry_0 rfl rfl rfl ?_
  refine xr_iconst (pc' := 2) (0 : Int32) hC dX10_dry_1 rfl (by decide) ?_
  refine xr_bipush (pc' := 4) (100 : Int32) hC dX10_dry_2 rfl (by decide) ?_
  refine xr_callS (pc' := 7) (rmy := k2_rm 0 0) [.int l1, .int (0 : Int32), .int (100 : Int32)] hC dX10_dry_4 rfl kX10_196 rfl rfl rfl ⟨Nat.le_of_ble_eq_true rfl, Nat.le_of_ble_eq_true rfl⟩ rfl (Nat.le_of_ble_eq_true rfl) hf (fun _ _ h => c_m_isIn (xc_ok hC) h) (fun v1 σ2 hf => ?_)
  refine xr_if_ne (pc' := 10) 12 hC dX10_dry_7 rfl (by decide) hf (fun hf => ?_) (fun hf => ?_)
  · refine xr_aload_n (pc' := 13) 0 hC dX10_dry_12 rfl rfl rfl ?_
    refine gX10_m_dry (pc' := 16) hC dX10_dry_13 rfl ?_
    refine xr_istoreb_n (pc' := 17) hC dX10_dry_16 rfl hf rfl (by decide) [1, 2, 0] (fun l2_3 => [(0, .ref (E.2.2.1 0)), (1, .int l1), (2, .int l2_3)]) (fun _ => rfl) (fun l2_3 hf => ?_)
    refine xr_aload_n (pc' := 18) 0 hC dX10_dry_17 rfl rfl rfl ?_
    refine xr_iload_n (pc' := 19) 1 hC dX10_dry_18 rfl rfl rfl ?_
    refine pX10_m_dry (pc' := 22) hC dX10_dry_19 rfl hf (fun σ4 hf => ?_)
    refine xr_iload_n (pc' := 23) 2 hC dX10_dry_22 rfl rfl rfl ?_
    exact xr_ireturn hC dX10_dry_23 hf
  refine xr_iconst (pc' := 11) (-1 : Int32) hC dX10_dry_10 rfl (by decide) ?_
  exact xr_ireturn hC dX10_dry_11 hf

set_option maxRecDepth 100000 in
set_option maxHeartbeats 4000000 in
theorem w_m_order_b59 {C : xT} {E : mE} {N : Nat} {r : Int32} {σ' : xS} (hC : xc C (GM E) RX10 cX10_order 5 (some .int) (k2_rm 1 22)) : ∀ (l1 l2 l3 l4 : Int32) (σ : xS), m_order_b59 N l1 l2 l3 l4 σ = some (r, σ') → xw C (GM E) 5 (xq C (GM E) (some (.int r)) σ') σ 59 [(0, .ref (E.2.2.1 0)), (1, .int l1), (2, .int l2), (3, .int l3), (4, .int l4)] [] := by
  intro l1 l2 l3 l4 σ hf
  unfold m_order_b59 at hf
  refine xr_iload (pc' := 61) 4 hC dX10_order_59 rfl rfl ?_
  refine xr_bipush (pc' := 63) (10 : Int32) hC dX10_order_61 rfl (by decide) ?_
  refine xr_icmp_ne (pc' := 66) 68 hC dX10_order_63 rfl (by decide) hf (fun hf => ?_) (fun hf => ?_)
  · refine xr_aload_n (pc' := 69) 0 hC dX10_order_68 rfl rfl rfl ?_
    refine gX10_m_isOrder (pc' := 72) hC dX10_order_69 rfl ?_
    refine xr_iload (pc' := 74) 4 hC dX10_order_72 rfl rfl ?_
    refine xr_iconst (pc' := 75) (1 : Int32) hC dX10_order_74 rfl (by decide) ?_
    refine sM_18 (pc' := 76) hC dX10_order_75 rfl hf (fun σ7 hf => ?_)
    refine xr_aload_n (pc' := 77) 0 hC dX10_order_76 rfl rfl rfl ?_
    refine gX10_m_pourMany (pc' := 80) hC dX10_order_77 rfl ?_
    refine xr_iload (pc' := 82) 4 hC dX10_order_80 rfl rfl ?_
    refine xr_iload_n (pc' := 83) 1 hC dX10_order_82 rfl rfl rfl ?_
    refine sM_19 (pc' := 84) hC dX10_order_83 rfl hf (fun σ8 hf => ?_)
    refine xr_aload_n (pc' := 85) 0 hC dX10_order_84 rfl rfl rfl ?_
    refine gX10_m_due (pc' := 88) hC dX10_order_85 rfl ?_
    refine xr_iload (pc' := 90) 4 hC dX10_order_88 rfl rfl ?_
    refine xr_iload_n (pc' := 91) 2 hC dX10_order_90 rfl rfl rfl ?_
    refine sM_20 (pc' := 92) hC dX10_order_91 rfl hf (fun σ9 hf => ?_)
    refine xr_aload_n (pc' := 93) 0 hC dX10_order_92 rfl rfl rfl ?_
    refine gX10_m_weight (pc' := 96) hC dX10_order_93 rfl ?_
    refine xr_iload (pc' := 98) 4 hC dX10_order_96 rfl rfl ?_
    refine xr_iload_n (pc' := 99) 3 hC dX10_order_98 rfl rfl rfl ?_
    refine sM_21 (pc' := 100) hC dX10_order_99 rfl hf (fun σ10 hf => ?_)
    refine xr_iload (pc' := 102) 4 hC dX10_order_100 rfl rfl ?_
    exact xr_ireturn hC dX10_order_102 hf
  refine xr_iconst (pc' := 67) (-1 : Int32) hC dX10_order_66 rfl (by decide) ?_
  exact xr_ireturn hC dX10_order_67 hf

set_option maxRecDepth 100000 in
set_option maxHeartbeats 4000000 in
theorem w_m_order_b36 {C : xT} {E : mE} {N : Nat} {r : Int32} {σ' : xS} (hC : xc C (GM E) RX10 cX10_order 5 (some .int) (k2_rm 1 22)) : ∀ (n : Nat) (l1 l2 l3 l4 : Int32) (σ : xS), m_order_b36 N n l1 l2 l3 l4 σ = some (r, σ') → xw C (GM E) 5 (xq C (GM E) (some (.int r)) σ') σ 36 [(0, .ref (E.2.2.1 0)), (1, .int l1), (2, .int l2), (3, .int l3), (4, .int l4)] [] := by
  intro n
  induction n with
  | zero =>
    intro l1 l2 l3 l4 σ hf
    rw [m_order_b36] at hf
    cases hf
  | succ n ih =>
    intro l1 l2 l3 l4 σ hf
    rw [m_order_b36] at hf
    refine xr_iload (pc' := 38) 4 hC dX10_order_36 rfl rfl ?_
    refine xr_bipush (pc' := 40) (10 : Int32) hC dX10_order_38 rfl (by decide) ?_
    refine xr_icmp_ge (pc' := 43) 59 hC dX10_order_40 rfl (by decide) hf (fun hf => ?_) (fun hf => ?_)
    · exact w_m_order_b59 hC _ _ _ _ _ hf
    refine xr_aload_n (pc' := 44) 0 hC dX10_order_43 rfl rfl rfl ?_
    refine gX10_m_isOrder (pc' := 47) hC dX10_order_44 rfl ?_
    refine xr_iload (pc' := 49) 4 hC dX10_order_47 rfl rfl ?_
    refine lM_18 (pc' := 50) hC dX10_order_49 rfl hf (fun v11 hf => ?_)
    refine xr_if_eq (pc' := 53) 59 hC dX10_order_50 rfl (by decide) hf (fun hf => ?_) (fun hf => ?_)
    · exact w_m_order_b59 hC _ _ _ _ _ hf
    refine xr_iinc (pc' := 56) hC dX10_order_53 rfl _ rfl hf 4 rfl (by decide) [1, 2, 3, 4, 0] (fun l4_12 => [(0, .ref (E.2.2.1 0)), (1, .int l1), (2, .int l2), (3, .int l3), (4, .int l4_12)]) (fun _ => rfl) (fun l4_12 hf => ?_)
    refine xr_goto 36 hC dX10_order_56 (by decide) ?_
    exact ih _ _ _ _ _ hf

set_option maxRecDepth 100000 in
set_option maxHeartbeats 4000000 in
theorem c_m_order {l : Launch} {E : mE} {N : Nat} (hG : xOk (GM E)) {l1 l2 l3 : Int32} {σ : xS} {r : Int32} {σ' : xS} (hf : m_order N l1 l2 l3 σ = some (r, σ')) : xMet l (GM E) yX10_order cX10_order 5 (some .int) (k2_rm 1 22) [.ref (E.2.2.1 0), .int l1, .int l2, .int l3] σ (some (.int r)) σ' := by
  refine x_met (own := RX10) (by decide +kernel) hG rfl (Nat.le_of_ble_eq_true rfl) (fun C hl hC => ?_)
  subst hl
  show xw C (GM E) 5 (xq C (GM E) (some (.int r)) σ') σ 0 [(0, .ref (E.2.2.1 0)), (1, .int l1), (2, .int l2), (3, .int l3)] []
  unfold m_order at hf
  refine xr_iload_n (pc' := 1) 1 hC dX10_order_0 rfl rfl rfl ?_
  refine xr_iconst (pc' := 2) (1 : Int32) hC dX10_order_1 rfl (by decide) ?_
  refine xr_bipush (pc' := 4) (50 : Int32) hC dX10_order_2 rfl (by decide) ?_
  refine xr_callS (pc' := 7) (rmy := k2_rm 0 0) [.int l1, .int (1 : Int32), .int (50 : Int32)] hC dX10_order_4 rfl kX10_196 rfl rfl rfl ⟨Nat.le_of_ble_eq_true rfl, Nat.le_of_ble_eq_true rfl⟩ rfl (Nat.le_of_ble_eq_true rfl) hf (fun _ _ h => c_m_isIn (xc_ok hC) h) (fun v1 σ2 hf => ?_)
  refine xr_if_eq (pc' := 10) 31 hC dX10_order_7 rfl (by decide) hf (fun hf => ?_) (fun hf => ?_)
  · refine xr_iconst (pc' := 32) (-1 : Int32) hC dX10_order_31 rfl (by decide) ?_
    exact xr_ireturn hC dX10_order_32 hf
  refine xr_iload_n (pc' := 11) 2 hC dX10_order_10 rfl rfl rfl ?_
  refine xr_iconst (pc' := 12) (0 : Int32) hC dX10_order_11 rfl (by decide) ?_
  refine xr_sipush (pc' := 15) (1000 : Int32) hC dX10_order_12 rfl (by decide) ?_
  refine xr_callS (pc' := 18) (rmy := k2_rm 0 0) [.int l2, .int (0 : Int32), .int (1000 : Int32)] hC dX10_order_15 rfl kX10_196 rfl rfl rfl ⟨Nat.le_of_ble_eq_true rfl, Nat.le_of_ble_eq_true rfl⟩ rfl (Nat.le_of_ble_eq_true rfl) hf (fun _ _ h => c_m_isIn (xc_ok hC) h) (fun v3 σ4 hf => ?_)
  refine xr_if_eq (pc' := 21) 31 hC dX10_order_18 rfl (by decide) hf (fun hf => ?_) (fun hf => ?_)
  · refine xr_iconst (pc' := 32) (-1 : Int32) hC dX10_order_31 rfl (by decide) ?_
    exact xr_ireturn hC dX10_order_32 hf
  refine xr_iload_n (pc' := 22) 3 hC dX10_order_21 rfl rfl rfl ?_
  refine xr_iconst (pc' := 23) (1 : Int32) hC dX10_order_22 rfl (by decide) ?_
  refine xr_bipush (pc' := 25) (100 : Int32) hC dX10_order_23 rfl (by decide) ?_
  refine xr_callS (pc' := 28) (rmy := k2_rm 0 0) [.int l3, .int (1 : Int32), .int (100 : Int32)] hC dX10_order_25 rfl kX10_196 rfl rfl rfl ⟨Nat.le_of_ble_eq_true rfl, Nat.le_of_ble_eq_true rfl⟩ rfl (Nat.le_of_ble_eq_true rfl) hf (fun _ _ h => c_m_isIn (xc_ok hC) h) (fun v5 σ6 hf => ?_)
  refine xr_if_ne (pc' := 31) 33 hC dX10_order_28 rfl (by decide) hf (fun hf => ?_) (fun hf => ?_)
  · refine xr_iconst (pc' := 34) (0 : Int32) hC dX10_order_33 rfl (by decide) ?_
    refine xr_istore (pc' := 36) (lv' := [(0, .ref (E.2.2.1 0)), (1, .int l1), (2, .int l2), (3, .int l3), (4, .int (0 : Int32))]) hC dX10_order_34 rfl (by decide) [1, 2, 3, 4, 0] rfl ?_
    exact w_m_order_b36 hC N _ _ _ _ _ hf
  refine xr_iconst (pc' := 32) (-1 : Int32) hC dX10_order_31 rfl (by decide) ?_
  exact xr_ireturn hC dX10_order_32 hf

set_option maxRecDepth 100000 in
set_option maxHeartbeats 4000000 in
theorem c_m_cancel {l : Launch} {E : mE} {N : Nat} (hG : xOk (GM E)) {l1 : Int32} {σ : xS} {r : Int32} {σ' : xS} (hf : m_cancel N l1 σ = some (r, σ')) : xMet l (GM E) yX10_cancel cX10_cancel 2 (some .boolean) (k2_rm 0 0) [.ref (E.2.2.1 0), .int l1] σ (some (.int r)) σ' := by
  refine x_met (own := RX10) (by decide +kernel) hG rfl (Nat.le_of_ble_eq_true rfl) (fun C hl hC => ?_)
  subst hl
  show xw C (GM E) 2 (xq C (GM E) (some (.int r)) σ') σ 0 [(0, .ref (E.2.2.1 0)), (1, .int l1)] []
  unfold m_cancel at hf
  refine xr_iload_n (pc' := 1) 1 hC dX10_cancel_0 rfl rfl rfl ?_
  refine xr_if_lt (pc' := 4) 19 hC dX10_cancel_1 rfl (by decide) hf (fun hf => ?_) (fun hf => ?_)
  · refine xr_iconst (pc' := 20) (0 : Int32) hC dX10_cancel_19 rfl (by decide) ?_
    exact xr_zreturn hC dX10_cancel_20 rfl hf
  refine xr_iload_n (pc' := 5) 1 hC dX10_cancel_4 rfl rfl rfl ?_
  refine xr_bipush (pc' := 7) (9 : Int32) hC dX10_cancel_5 rfl (by decide) ?_
  refine xr_icmp_gt (pc' := 10) 19 hC dX10_cancel_7 rfl (by decide) hf (fun hf => ?_) (fun hf => ?_)
  · refine xr_iconst (pc' := 20) (0 : Int32) hC dX10_cancel_19 rfl (by decide) ?_
    exact xr_zreturn hC dX10_cancel_20 rfl hf
  refine xr_aload_n (pc' := 11) 0 hC dX10_cancel_10 rfl rfl rfl ?_
  refine gX10_m_isOrder (pc' := 14) hC dX10_cancel_11 rfl ?_
  refine xr_iload_n (pc' := 15) 1 hC dX10_cancel_14 rfl rfl rfl ?_
  refine lM_18 (pc' := 16) hC dX10_cancel_15 rfl hf (fun v1 hf => ?_)
  refine xr_if_ne (pc' := 19) 21 hC dX10_cancel_16 rfl (by decide) hf (fun hf => ?_) (fun hf => ?_)
  · refine xr_aload_n (pc' := 22) 0 hC dX10_cancel_21 rfl rfl rfl ?_
    refine gX10_m_isOrder (pc' := 25) hC dX10_cancel_22 rfl ?_
    refine xr_iload_n (pc' := 26) 1 hC dX10_cancel_25 rfl rfl rfl ?_
    refine xr_iconst (pc' := 27) (0 : Int32) hC dX10_cancel_26 rfl (by decide) ?_
    refine sM_18 (pc' := 28) hC dX10_cancel_27 rfl hf (fun σ2 hf => ?_)
    refine xr_iconst (pc' := 29) (1 : Int32) hC dX10_cancel_28 rfl (by decide) ?_
    exact xr_zreturn hC dX10_cancel_29 rfl hf
  refine xr_iconst (pc' := 20) (0 : Int32) hC dX10_cancel_19 rfl (by decide) ?_
  exact xr_zreturn hC dX10_cancel_20 rfl hf

set_option maxRecDepth 100000 in
set_option maxHeartbeats 4000000 in
theorem w_m_poursOf_b4 {C : xT} {E : mE} {N : Nat} {r : Int32} {σ' : xS} (hC : xc C (GM E) RX10 cX10_poursOf 4 (some .int) (k2_rm 0 0)) : ∀ (n : Nat) (l1 l2 l3 : Int32) (σ : xS), m_poursOf_b4 N n l1 l2 l3 σ = some (r, σ') → xw C (GM E) 4 (xq C (GM E) (some (.int r)) σ') σ 4 [(0, .ref (E.2.2.1 0)), (1, .int l1), (2, .int l2), (3, .int l3)] [] := by
  intro n
  induction n with
  | zero =>
    intro l1 l2 l3 σ hf
    rw [m_poursOf_b4] at hf
    cases hf
  | succ n ih =>
    intro l1 l2 l3 σ hf
    rw [m_poursOf_b4] at hf
    refine xr_iload_n (pc' := 5) 3 hC dX10_poursOf_4 rfl rfl rfl ?_
    refine xr_bipush (pc' := 7) (10 : Int32) hC dX10_poursOf_5 rfl (by decide) ?_
    refine xr_icmp_ge (pc' := 10) 34 hC dX10_poursOf_7 rfl (by decide) hf (fun hf => ?_) (fun hf => ?_)
    · refine xr_iload_n (pc' := 35) 2 hC dX10_poursOf_34 rfl rfl rfl ?_
      exact xr_ireturn hC dX10_poursOf_35 hf
    refine xr_iload_n (pc' := 11) 1 hC dX10_poursOf_10 rfl rfl rfl ?_
    refine xr_iload_n (pc' := 12) 3 hC dX10_poursOf_11 rfl rfl rfl ?_
    refine xr_ishr (pc' := 13) hC dX10_poursOf_12 rfl ?_
    refine xr_iconst (pc' := 14) (1 : Int32) hC dX10_poursOf_13 rfl (by decide) ?_
    refine xr_iand (pc' := 15) hC dX10_poursOf_14 rfl ?_
    refine xr_iconst (pc' := 16) (1 : Int32) hC dX10_poursOf_15 rfl (by decide) ?_
    refine xr_icmp_ne (pc' := 19) 28 hC dX10_poursOf_16 rfl (by decide) hf (fun hf => ?_) (fun hf => ?_)
    · refine xr_iinc (pc' := 31) hC dX10_poursOf_28 rfl _ rfl hf 3 rfl (by decide) [1, 2, 3, 0] (fun l3_1 => [(0, .ref (E.2.2.1 0)), (1, .int l1), (2, .int l2), (3, .int l3_1)]) (fun _ => rfl) (fun l3_1 hf => ?_)
      refine xr_goto 4 hC dX10_poursOf_31 (by decide) ?_
      exact ih _ _ _ _ hf
    refine xr_iload_n (pc' := 20) 2 hC dX10_poursOf_19 rfl rfl rfl ?_
    refine xr_aload_n (pc' := 21) 0 hC dX10_poursOf_20 rfl rfl rfl ?_
    refine gX10_m_pourMany (pc' := 24) hC dX10_poursOf_21 rfl ?_
    refine xr_iload_n (pc' := 25) 3 hC dX10_poursOf_24 rfl rfl rfl ?_
    refine lM_19 (pc' := 26) hC dX10_poursOf_25 rfl hf (fun v2 hf => ?_)
    refine xr_iadd (pc' := 27) hC dX10_poursOf_26 rfl ?_
    refine xr_istoreb_n (pc' := 28) hC dX10_poursOf_27 rfl hf rfl (by decide) [1, 2, 0, 3] (fun l2_3 => [(0, .ref (E.2.2.1 0)), (1, .int l1), (2, .int l2_3), (3, .int l3)]) (fun _ => rfl) (fun l2_3 hf => ?_)
    refine xr_iinc (pc' := 31) hC dX10_poursOf_28 rfl _ rfl hf 3 rfl (by decide) [1, 2, 3, 0] (fun l3_4 => [(0, .ref (E.2.2.1 0)), (1, .int l1), (2, .int l2_3), (3, .int l3_4)]) (fun _ => rfl) (fun l3_4 hf => ?_)
    refine xr_goto 4 hC dX10_poursOf_31 (by decide) ?_
    exact ih _ _ _ _ hf

set_option maxRecDepth 100000 in
set_option maxHeartbeats 4000000 in
theorem c_m_poursOf {l : Launch} {E : mE} {N : Nat} (hG : xOk (GM E)) {l1 : Int32} {σ : xS} {r : Int32} {σ' : xS} (hf : m_poursOf N l1 σ = some (r, σ')) : xMet l (GM E) yX10_poursOf cX10_poursOf 4 (some .int) (k2_rm 0 0) [.ref (E.2.2.1 0), .int l1] σ (some (.int r)) σ' := by
  refine x_met (own := RX10) (by decide +kernel) hG rfl (Nat.le_of_ble_eq_true rfl) (fun C hl hC => ?_)
  subst hl
  show xw C (GM E) 4 (xq C (GM E) (some (.int r)) σ') σ 0 [(0, .ref (E.2.2.1 0)), (1, .int l1)] []
  unfold m_poursOf at hf
  refine xr_iconst (pc' := 1) (0 : Int32) hC dX10_poursOf_0 rfl (by decide) ?_
  refine xr_istore_n (pc' := 2) (lv' := [(0, .ref (E.2.2.1 0)), (1, .int l1), (2, .int (0 : Int32))]) hC dX10_poursOf_1 rfl rfl (by decide) [1, 2, 0] rfl ?_
  refine xr_iconst (pc' := 3) (0 : Int32) hC dX10_poursOf_2 rfl (by decide) ?_
  refine xr_istore_n (pc' := 4) (lv' := [(0, .ref (E.2.2.1 0)), (1, .int l1), (2, .int (0 : Int32)), (3, .int (0 : Int32))]) hC dX10_poursOf_3 rfl rfl (by decide) [1, 2, 3, 0] rfl ?_
  exact w_m_poursOf_b4 hC N _ _ _ _ hf

set_option maxRecDepth 100000 in
set_option maxHeartbeats 4000000 in
theorem c_m_lateOf {l : Launch} {E : mE} {N : Nat} (hG : xOk (GM E)) {l1 l2 : Int32} {σ : xS} {r : Int32} {σ' : xS} (hf : m_lateOf N l1 l2 σ = some (r, σ')) : xMet l (GM E) yX10_lateOf cX10_lateOf 4 (some .int) (k2_rm 1 23) [.ref (E.2.2.1 0), .int l1, .int l2] σ (some (.int r)) σ' := by
  refine x_met (own := RX10) (by decide +kernel) hG rfl (Nat.le_of_ble_eq_true rfl) (fun C hl hC => ?_)
  subst hl
  show xw C (GM E) 4 (xq C (GM E) (some (.int r)) σ') σ 0 [(0, .ref (E.2.2.1 0)), (1, .int l1), (2, .int l2)] []
  unfold m_lateOf at hf
  refine xr_aload_n (pc' := 1) 0 hC dX10_lateOf_0 rfl rfl rfl ?_
  refine xr_iload_n (pc' := 2) 2 hC dX10_lateOf_1 rfl rfl rfl ?_
  refine xr_callV (pc' := 5) (rmy := k2_rm 0 0) [.int l2] 0 hC dX10_lateOf_2 rfl kX10_274 rfl rfl rfl rfl rfl ⟨Nat.le_of_ble_eq_true rfl, Nat.le_of_ble_eq_true rfl⟩ rfl (Nat.le_of_ble_eq_true rfl) hf (fun _ _ h => c_m_poursOf (xc_ok hC) h) (fun v1 σ2 hf => ?_)
  refine xr_aload_n (pc' := 6) 0 hC dX10_lateOf_5 rfl rfl rfl ?_
  refine gX10_m_pourMany (pc' := 9) hC dX10_lateOf_6 rfl ?_
  refine xr_iload_n (pc' := 10) 1 hC dX10_lateOf_9 rfl rfl rfl ?_
  refine lM_19 (pc' := 11) hC dX10_lateOf_10 rfl hf (fun v3 hf => ?_)
  refine xr_iadd (pc' := 12) hC dX10_lateOf_11 rfl ?_
  refine xr_aload_n (pc' := 13) 0 hC dX10_lateOf_12 rfl rfl rfl ?_
  refine gX10_m_dry (pc' := 16) hC dX10_lateOf_13 rfl ?_
  refine xr_iadd (pc' := 17) hC dX10_lateOf_16 rfl ?_
  refine xr_aload_n (pc' := 18) 0 hC dX10_lateOf_17 rfl rfl rfl ?_
  refine gX10_m_due (pc' := 21) hC dX10_lateOf_18 rfl ?_
  refine xr_iload_n (pc' := 22) 1 hC dX10_lateOf_21 rfl rfl rfl ?_
  refine lM_20 (pc' := 23) hC dX10_lateOf_22 rfl hf (fun v4 hf => ?_)
  refine xr_isub (pc' := 24) hC dX10_lateOf_23 rfl ?_
  refine xr_istoreb_n (pc' := 25) hC dX10_lateOf_24 rfl hf rfl (by decide) [1, 2, 3, 0] (fun l3_5 => [(0, .ref (E.2.2.1 0)), (1, .int l1), (2, .int l2), (3, .int l3_5)]) (fun _ => rfl) (fun l3_5 hf => ?_)
  refine xr_iload_n (pc' := 26) 3 hC dX10_lateOf_25 rfl rfl rfl ?_
  refine xr_if_ge (pc' := 29) 33 hC dX10_lateOf_26 rfl (by decide) hf (fun hf => ?_) (fun hf => ?_)
  · refine xr_iload_n (pc' := 34) 3 hC dX10_lateOf_33 rfl rfl rfl ?_
    exact xr_ireturn hC dX10_lateOf_34 hf
  refine xr_iconst (pc' := 30) (0 : Int32) hC dX10_lateOf_29 rfl (by decide) ?_
  refine xr_goto 34 hC dX10_lateOf_30 (by decide) ?_
  exact xr_ireturn hC dX10_lateOf_34 hf

set_option maxRecDepth 100000 in
set_option maxHeartbeats 4000000 in
theorem w_m_row_b170 {C : xT} {E : mE} {N : Nat} {r : Int32} {σ' : xS} (hC : xc C (GM E) RX10 cX10_row 6 (some .int) (k2_rm 2 46)) (K163 : Int32 → Int32 → xS → Option (Int32 × xS)) (hK163 : ∀ (l1 l2 : Int32) (σ : xS), K163 l1 l2 σ = some (r, σ') → xw C (GM E) 6 (xq C (GM E) (some (.int r)) σ') σ 163 [(0, .ref (E.2.2.1 0)), (1, .int l1), (2, .int l2)] []) : ∀ (n : Nat) (l1 l2 l3 : Int32) (σ : xS), m_row_b170 N K163 n l1 l2 l3 σ = some (r, σ') → xw C (GM E) 6 (xq C (GM E) (some (.int r)) σ') σ 170 [(0, .ref (E.2.2.1 0)), (1, .int l1), (2, .int l2), (3, .int l3)] [] := by
  intro n
  induction n with
  | zero =>
    intro l1 l2 l3 σ hf
    rw [m_row_b170] at hf
    cases hf
  | succ n ih =>
    intro l1 l2 l3 σ hf
    rw [m_row_b170] at hf
    refine xr_iload_n (pc' := 171) 1 hC dX10_row_170 rfl rfl rfl ?_
    refine xr_iload_n (pc' := 172) 3 hC dX10_row_171 rfl rfl rfl ?_
    refine xr_ishr (pc' := 173) hC dX10_row_172 rfl ?_
    refine xr_iconst (pc' := 174) (1 : Int32) hC dX10_row_173 rfl (by decide) ?_
    refine xr_iand (pc' := 175) hC dX10_row_174 rfl ?_
    refine xr_if_eq (pc' := 178) 220 hC dX10_row_175 rfl (by decide) hf (fun hf => ?_) (fun hf => ?_)
    · refine xr_iinc (pc' := 223) hC dX10_row_220 rfl _ rfl hf 3 rfl (by decide) [1, 2, 3, 0] (fun l3_3 => [(0, .ref (E.2.2.1 0)), (1, .int l1), (2, .int l2), (3, .int l3_3)]) (fun _ => rfl) (fun l3_3 hf => ?_)
      refine xr_goto 170 hC dX10_row_223 (by decide) ?_
      exact ih _ _ _ _ hf
    refine xr_iload_n (pc' := 179) 2 hC dX10_row_178 rfl rfl rfl ?_
    refine xr_iload_n (pc' := 180) 3 hC dX10_row_179 rfl rfl rfl ?_
    refine xr_ishr (pc' := 181) hC dX10_row_180 rfl ?_
    refine xr_iconst (pc' := 182) (1 : Int32) hC dX10_row_181 rfl (by decide) ?_
    refine xr_iand (pc' := 183) hC dX10_row_182 rfl ?_
    refine xr_iconst (pc' := 184) (1 : Int32) hC dX10_row_183 rfl (by decide) ?_
    refine xr_icmp_eq (pc' := 187) 220 hC dX10_row_184 rfl (by decide) hf (fun hf => ?_) (fun hf => ?_)
    · refine xr_iinc (pc' := 223) hC dX10_row_220 rfl _ rfl hf 3 rfl (by decide) [1, 2, 3, 0] (fun l3_4 => [(0, .ref (E.2.2.1 0)), (1, .int l1), (2, .int l2), (3, .int l3_4)]) (fun _ => rfl) (fun l3_4 hf => ?_)
      refine xr_goto 170 hC dX10_row_223 (by decide) ?_
      exact ih _ _ _ _ hf
    refine xr_aload_n (pc' := 188) 0 hC dX10_row_187 rfl rfl rfl ?_
    refine gX10_m_weight (pc' := 191) hC dX10_row_188 rfl ?_
    refine xr_iload_n (pc' := 192) 3 hC dX10_row_191 rfl rfl rfl ?_
    refine lM_21 (pc' := 193) hC dX10_row_192 rfl hf (fun v5 hf => ?_)
    refine xr_aload_n (pc' := 194) 0 hC dX10_row_193 rfl rfl rfl ?_
    refine xr_iload_n (pc' := 195) 3 hC dX10_row_194 rfl rfl rfl ?_
    refine xr_iload_n (pc' := 196) 2 hC dX10_row_195 rfl rfl rfl ?_
    refine xr_callV (pc' := 199) (rmy := k2_rm 1 23) [.int l3, .int l2] 0 hC dX10_row_196 rfl kX10_278 rfl rfl rfl rfl rfl ⟨Nat.le_of_ble_eq_true rfl, Nat.le_of_ble_eq_true rfl⟩ rfl (Nat.le_of_ble_eq_true rfl) hf (fun _ _ h => c_m_lateOf (xc_ok hC) h) (fun v6 σ7 hf => ?_)
    refine xr_imul (pc' := 200) hC dX10_row_199 rfl ?_
    refine xr_aload_n (pc' := 201) 0 hC dX10_row_200 rfl rfl rfl ?_
    refine gX10_m_least (pc' := 204) hC dX10_row_201 rfl ?_
    refine xr_iload_n (pc' := 205) 2 hC dX10_row_204 rfl rfl rfl ?_
    refine xr_iconst (pc' := 206) (1 : Int32) hC dX10_row_205 rfl (by decide) ?_
    refine xr_iload_n (pc' := 207) 3 hC dX10_row_206 rfl rfl rfl ?_
    refine xr_ishl (pc' := 208) hC dX10_row_207 rfl ?_
    refine xr_ior (pc' := 209) hC dX10_row_208 rfl ?_
    refine lM_22 (pc' := 210) hC dX10_row_209 rfl hf (fun v8 hf => ?_)
    refine xr_iadd (pc' := 211) hC dX10_row_210 rfl ?_
    refine xr_aload_n (pc' := 212) 0 hC dX10_row_211 rfl rfl rfl ?_
    refine gX10_m_least (pc' := 215) hC dX10_row_212 rfl ?_
    refine xr_iload_n (pc' := 216) 2 hC dX10_row_215 rfl rfl rfl ?_
    refine lM_22 (pc' := 217) hC dX10_row_216 rfl hf (fun v9 hf => ?_)
    refine xr_icmp_eq (pc' := 220) 226 hC dX10_row_217 rfl (by decide) hf (fun hf => ?_) (fun hf => ?_)
    · refine xr_aload_n (pc' := 227) 0 hC dX10_row_226 rfl rfl rfl ?_
      refine gX10_m_rowOrder (pc' := 230) hC dX10_row_227 rfl ?_
      refine xr_aload_n (pc' := 231) 0 hC dX10_row_230 rfl rfl rfl ?_
      refine gX10_m_rows (pc' := 234) hC dX10_row_231 rfl ?_
      refine xr_iload_n (pc' := 235) 3 hC dX10_row_234 rfl rfl rfl ?_
      refine sM_23 (pc' := 236) hC dX10_row_235 rfl hf (fun σ10 hf => ?_)
      refine xr_aload_n (pc' := 237) 0 hC dX10_row_236 rfl rfl rfl ?_
      refine gX10_m_rowLate (pc' := 240) hC dX10_row_237 rfl ?_
      refine xr_aload_n (pc' := 241) 0 hC dX10_row_240 rfl rfl rfl ?_
      refine gX10_m_rows (pc' := 244) hC dX10_row_241 rfl ?_
      refine xr_aload_n (pc' := 245) 0 hC dX10_row_244 rfl rfl rfl ?_
      refine xr_iload_n (pc' := 246) 3 hC dX10_row_245 rfl rfl rfl ?_
      refine xr_iload_n (pc' := 247) 2 hC dX10_row_246 rfl rfl rfl ?_
      refine xr_callV (pc' := 250) (rmy := k2_rm 1 23) [.int l3, .int l2] 0 hC dX10_row_247 rfl kX10_278 rfl rfl rfl rfl rfl ⟨Nat.le_of_ble_eq_true rfl, Nat.le_of_ble_eq_true rfl⟩ rfl (Nat.le_of_ble_eq_true rfl) hf (fun _ _ h => c_m_lateOf (xc_ok hC) h) (fun v11 σ12 hf => ?_)
      refine sM_24 (pc' := 251) hC dX10_row_250 rfl hf (fun σ13 hf => ?_)
      refine xr_aload_n (pc' := 252) 0 hC dX10_row_251 rfl rfl rfl ?_
      refine xr_dup (pc' := 253) hC dX10_row_252 rfl rfl ?_
      refine gX10_m_rows (pc' := 256) hC dX10_row_253 rfl ?_
      refine xr_iconst (pc' := 257) (1 : Int32) hC dX10_row_256 rfl (by decide) ?_
      refine xr_iadd (pc' := 258) hC dX10_row_257 rfl ?_
      refine pX10_m_rows (pc' := 261) hC dX10_row_258 rfl hf (fun σ14 hf => ?_)
      refine xr_iload_n (pc' := 262) 2 hC dX10_row_261 rfl rfl rfl ?_
      refine xr_iconst (pc' := 263) (1 : Int32) hC dX10_row_262 rfl (by decide) ?_
      refine xr_iload_n (pc' := 264) 3 hC dX10_row_263 rfl rfl rfl ?_
      refine xr_ishl (pc' := 265) hC dX10_row_264 rfl ?_
      refine xr_ior (pc' := 266) hC dX10_row_265 rfl ?_
      refine xr_istoreb_n (pc' := 267) hC dX10_row_266 rfl hf rfl (by decide) [1, 2, 0, 3] (fun l2_15 => [(0, .ref (E.2.2.1 0)), (1, .int l1), (2, .int l2_15), (3, .int l3)]) (fun _ => rfl) (fun l2_15 hf => ?_)
      refine xr_goto 163 hC dX10_row_267 (by decide) ?_
      refine x_lv [0, 1, 2] rfl ?_
      exact hK163 _ _ _ hf
    refine xr_iinc (pc' := 223) hC dX10_row_220 rfl _ rfl hf 3 rfl (by decide) [1, 2, 3, 0] (fun l3_16 => [(0, .ref (E.2.2.1 0)), (1, .int l1), (2, .int l2), (3, .int l3_16)]) (fun _ => rfl) (fun l3_16 hf => ?_)
    refine xr_goto 170 hC dX10_row_223 (by decide) ?_
    exact ih _ _ _ _ hf

set_option maxRecDepth 100000 in
set_option maxHeartbeats 4000000 in
theorem w_m_row_b163 {C : xT} {E : mE} {N : Nat} {r : Int32} {σ' : xS} (hC : xc C (GM E) RX10 cX10_row 6 (some .int) (k2_rm 2 46)) : ∀ (n : Nat) (l1 l2 : Int32) (σ : xS), m_row_b163 N n l1 l2 σ = some (r, σ') → xw C (GM E) 6 (xq C (GM E) (some (.int r)) σ') σ 163 [(0, .ref (E.2.2.1 0)), (1, .int l1), (2, .int l2)] [] := by
  intro n
  induction n with
  | zero =>
    intro l1 l2 σ hf
    rw [m_row_b163] at hf
    cases hf
  | succ n ih =>
    intro l1 l2 σ hf
    rw [m_row_b163] at hf
    refine xr_iload_n (pc' := 164) 2 hC dX10_row_163 rfl rfl rfl ?_
    refine xr_iload_n (pc' := 165) 1 hC dX10_row_164 rfl rfl rfl ?_
    refine xr_icmp_eq (pc' := 168) 270 hC dX10_row_165 rfl (by decide) hf (fun hf => ?_) (fun hf => ?_)
    · refine xr_aload_n (pc' := 271) 0 hC dX10_row_270 rfl rfl rfl ?_
      refine gX10_m_least (pc' := 274) hC dX10_row_271 rfl ?_
      refine xr_iconst (pc' := 275) (0 : Int32) hC dX10_row_274 rfl (by decide) ?_
      refine lM_22 (pc' := 276) hC dX10_row_275 rfl hf (fun v2 hf => ?_)
      exact xr_ireturn hC dX10_row_276 hf
    refine xr_iconst (pc' := 169) (0 : Int32) hC dX10_row_168 rfl (by decide) ?_
    refine xr_istore_n (pc' := 170) (lv' := [(0, .ref (E.2.2.1 0)), (1, .int l1), (2, .int l2), (3, .int (0 : Int32))]) hC dX10_row_169 rfl rfl (by decide) [1, 2, 3, 0] rfl ?_
    exact w_m_row_b170 hC (m_row_b163 N n) ih N _ _ _ _ hf

set_option maxRecDepth 100000 in
set_option maxHeartbeats 4000000 in
theorem w_m_row_b70 {C : xT} {E : mE} {N : Nat} {r : Int32} {σ' : xS} (hC : xc C (GM E) RX10 cX10_row 6 (some .int) (k2_rm 2 46)) (K39 : Int32 → Int32 → xS → Option (Int32 × xS)) (hK39 : ∀ (l1 l2 : Int32) (σ : xS), K39 l1 l2 σ = some (r, σ') → xw C (GM E) 6 (xq C (GM E) (some (.int r)) σ') σ 39 [(0, .ref (E.2.2.1 0)), (1, .int l1), (2, .int l2)] []) : ∀ (n : Nat) (l1 l2 l3 l4 : Int32) (σ : xS), m_row_b70 N K39 n l1 l2 l3 l4 σ = some (r, σ') → xw C (GM E) 6 (xq C (GM E) (some (.int r)) σ') σ 70 [(0, .ref (E.2.2.1 0)), (1, .int l1), (2, .int l2), (3, .int l3), (4, .int l4)] [] := by
  intro n
  induction n with
  | zero =>
    intro l1 l2 l3 l4 σ hf
    rw [m_row_b70] at hf
    cases hf
  | succ n ih =>
    intro l1 l2 l3 l4 σ hf
    rw [m_row_b70] at hf
    refine xr_iload (pc' := 72) 4 hC dX10_row_70 rfl rfl ?_
    refine xr_bipush (pc' := 74) (10 : Int32) hC dX10_row_72 rfl (by decide) ?_
    refine xr_icmp_ge (pc' := 77) 143 hC dX10_row_74 rfl (by decide) hf (fun hf => ?_) (fun hf => ?_)
    · refine xr_aload_n (pc' := 144) 0 hC dX10_row_143 rfl rfl rfl ?_
      refine gX10_m_least (pc' := 147) hC dX10_row_144 rfl ?_
      refine xr_iload_n (pc' := 148) 2 hC dX10_row_147 rfl rfl rfl ?_
      refine xr_iload_n (pc' := 149) 3 hC dX10_row_148 rfl rfl rfl ?_
      refine sM_22 (pc' := 150) hC dX10_row_149 rfl hf (fun σ17 hf => ?_)
      refine xr_iinc (pc' := 153) hC dX10_row_150 rfl _ rfl hf 2 rfl (by decide) [1, 2, 0, 3, 4] (fun l2_18 => [(0, .ref (E.2.2.1 0)), (1, .int l1), (2, .int l2_18), (3, .int l3), (4, .int l4)]) (fun _ => rfl) (fun l2_18 hf => ?_)
      refine xr_goto 39 hC dX10_row_153 (by decide) ?_
      refine x_lv [0, 1, 2] rfl ?_
      exact hK39 _ _ _ hf
    refine xr_iload_n (pc' := 78) 1 hC dX10_row_77 rfl rfl rfl ?_
    refine xr_iload (pc' := 80) 4 hC dX10_row_78 rfl rfl ?_
    refine xr_ishr (pc' := 81) hC dX10_row_80 rfl ?_
    refine xr_iconst (pc' := 82) (1 : Int32) hC dX10_row_81 rfl (by decide) ?_
    refine xr_iand (pc' := 83) hC dX10_row_82 rfl ?_
    refine xr_if_eq (pc' := 86) 137 hC dX10_row_83 rfl (by decide) hf (fun hf => ?_) (fun hf => ?_)
    · refine xr_iinc (pc' := 140) hC dX10_row_137 rfl _ rfl hf 4 rfl (by decide) [1, 2, 3, 4, 0] (fun l4_19 => [(0, .ref (E.2.2.1 0)), (1, .int l1), (2, .int l2), (3, .int l3), (4, .int l4_19)]) (fun _ => rfl) (fun l4_19 hf => ?_)
      refine xr_goto 70 hC dX10_row_140 (by decide) ?_
      exact ih _ _ _ _ _ hf
    refine xr_iload_n (pc' := 87) 2 hC dX10_row_86 rfl rfl rfl ?_
    refine xr_iload (pc' := 89) 4 hC dX10_row_87 rfl rfl ?_
    refine xr_ishr (pc' := 90) hC dX10_row_89 rfl ?_
    refine xr_iconst (pc' := 91) (1 : Int32) hC dX10_row_90 rfl (by decide) ?_
    refine xr_iand (pc' := 92) hC dX10_row_91 rfl ?_
    refine xr_iconst (pc' := 93) (1 : Int32) hC dX10_row_92 rfl (by decide) ?_
    refine xr_icmp_ne (pc' := 96) 99 hC dX10_row_93 rfl (by decide) hf (fun hf => ?_) (fun hf => ?_)
    · refine xr_aload_n (pc' := 100) 0 hC dX10_row_99 rfl rfl rfl ?_
      refine gX10_m_weight (pc' := 103) hC dX10_row_100 rfl ?_
      refine xr_iload (pc' := 105) 4 hC dX10_row_103 rfl rfl ?_
      refine lM_21 (pc' := 106) hC dX10_row_105 rfl hf (fun v20 hf => ?_)
      refine xr_aload_n (pc' := 107) 0 hC dX10_row_106 rfl rfl rfl ?_
      refine xr_iload (pc' := 109) 4 hC dX10_row_107 rfl rfl ?_
      refine xr_iload_n (pc' := 110) 2 hC dX10_row_109 rfl rfl rfl ?_
      refine xr_callV (pc' := 113) (rmy := k2_rm 1 23) [.int l4, .int l2] 0 hC dX10_row_110 rfl kX10_278 rfl rfl rfl rfl rfl ⟨Nat.le_of_ble_eq_true rfl, Nat.le_of_ble_eq_true rfl⟩ rfl (Nat.le_of_ble_eq_true rfl) hf (fun _ _ h => c_m_lateOf (xc_ok hC) h) (fun v21 σ22 hf => ?_)
      refine xr_imul (pc' := 114) hC dX10_row_113 rfl ?_
      refine xr_aload_n (pc' := 115) 0 hC dX10_row_114 rfl rfl rfl ?_
      refine gX10_m_least (pc' := 118) hC dX10_row_115 rfl ?_
      refine xr_iload_n (pc' := 119) 2 hC dX10_row_118 rfl rfl rfl ?_
      refine xr_iconst (pc' := 120) (1 : Int32) hC dX10_row_119 rfl (by decide) ?_
      refine xr_iload (pc' := 122) 4 hC dX10_row_120 rfl rfl ?_
      refine xr_ishl (pc' := 123) hC dX10_row_122 rfl ?_
      refine xr_ior (pc' := 124) hC dX10_row_123 rfl ?_
      refine lM_22 (pc' := 125) hC dX10_row_124 rfl hf (fun v23 hf => ?_)
      refine xr_iadd (pc' := 126) hC dX10_row_125 rfl ?_
      refine xr_istoreb (pc' := 128) hC dX10_row_126 rfl hf (by decide) [1, 2, 3, 4, 5, 0] (fun l5_24 => [(0, .ref (E.2.2.1 0)), (1, .int l1), (2, .int l2), (3, .int l3), (4, .int l4), (5, .int l5_24)]) (fun _ => rfl) (fun l5_24 hf => ?_)
      refine xr_iload (pc' := 130) 5 hC dX10_row_128 rfl rfl ?_
      refine xr_iload_n (pc' := 131) 3 hC dX10_row_130 rfl rfl rfl ?_
      refine xr_icmp_ge (pc' := 134) 137 hC dX10_row_131 rfl (by decide) hf (fun hf => ?_) (fun hf => ?_)
      · refine xr_iinc (pc' := 140) hC dX10_row_137 rfl _ rfl hf 4 rfl (by decide) [1, 2, 3, 4, 0, 5] (fun l4_25 => [(0, .ref (E.2.2.1 0)), (1, .int l1), (2, .int l2), (3, .int l3), (4, .int l4_25), (5, .int l5_24)]) (fun _ => rfl) (fun l4_25 hf => ?_)
        refine xr_goto 70 hC dX10_row_140 (by decide) ?_
        refine x_lv [0, 1, 2, 3, 4] rfl ?_
        exact ih _ _ _ _ _ hf
      refine xr_iload (pc' := 136) 5 hC dX10_row_134 rfl rfl ?_
      refine xr_istore_n (pc' := 137) (lv' := [(0, .ref (E.2.2.1 0)), (1, .int l1), (2, .int l2), (3, .int l5_24), (4, .int l4), (5, .int l5_24)]) hC dX10_row_136 rfl rfl (by decide) [1, 2, 3, 0, 4, 5] rfl ?_
      refine xr_iinc (pc' := 140) hC dX10_row_137 rfl _ rfl hf 4 rfl (by decide) [1, 2, 3, 4, 0, 5] (fun l4_26 => [(0, .ref (E.2.2.1 0)), (1, .int l1), (2, .int l2), (3, .int l5_24), (4, .int l4_26), (5, .int l5_24)]) (fun _ => rfl) (fun l4_26 hf => ?_)
      refine xr_goto 70 hC dX10_row_140 (by decide) ?_
      refine x_lv [0, 1, 2, 3, 4] rfl ?_
      exact ih _ _ _ _ _ hf
    refine xr_goto 137 hC dX10_row_96 (by decide) ?_
    refine xr_iinc (pc' := 140) hC dX10_row_137 rfl _ rfl hf 4 rfl (by decide) [1, 2, 3, 4, 0] (fun l4_27 => [(0, .ref (E.2.2.1 0)), (1, .int l1), (2, .int l2), (3, .int l3), (4, .int l4_27)]) (fun _ => rfl) (fun l4_27 hf => ?_)
    refine xr_goto 70 hC dX10_row_140 (by decide) ?_
    exact ih _ _ _ _ _ hf

set_option maxRecDepth 100000 in
set_option maxHeartbeats 4000000 in
theorem w_m_row_b39 {C : xT} {E : mE} {N : Nat} {r : Int32} {σ' : xS} (hC : xc C (GM E) RX10 cX10_row 6 (some .int) (k2_rm 2 46)) : ∀ (n : Nat) (l1 l2 : Int32) (σ : xS), m_row_b39 N n l1 l2 σ = some (r, σ') → xw C (GM E) 6 (xq C (GM E) (some (.int r)) σ') σ 39 [(0, .ref (E.2.2.1 0)), (1, .int l1), (2, .int l2)] [] := by
  intro n
  induction n with
  | zero =>
    intro l1 l2 σ hf
    rw [m_row_b39] at hf
    cases hf
  | succ n ih =>
    intro l1 l2 σ hf
    rw [m_row_b39] at hf
    refine xr_iload_n (pc' := 40) 2 hC dX10_row_39 rfl rfl rfl ?_
    refine xr_if_lt (pc' := 43) 156 hC dX10_row_40 rfl (by decide) hf (fun hf => ?_) (fun hf => ?_)
    · refine xr_aload_n (pc' := 157) 0 hC dX10_row_156 rfl rfl rfl ?_
      refine xr_iconst (pc' := 158) (0 : Int32) hC dX10_row_157 rfl (by decide) ?_
      refine pX10_m_rows (pc' := 161) hC dX10_row_158 rfl hf (fun σ1 hf => ?_)
      refine xr_iconst (pc' := 162) (0 : Int32) hC dX10_row_161 rfl (by decide) ?_
      refine xr_istore_n (pc' := 163) (lv' := [(0, .ref (E.2.2.1 0)), (1, .int l1), (2, .int (0 : Int32))]) hC dX10_row_162 rfl rfl (by decide) [1, 2, 0] rfl ?_
      exact w_m_row_b163 hC N _ _ _ hf
    refine xr_iload_n (pc' := 44) 2 hC dX10_row_43 rfl rfl rfl ?_
    refine xr_iload_n (pc' := 45) 1 hC dX10_row_44 rfl rfl rfl ?_
    refine xr_iconst (pc' := 46) (-1 : Int32) hC dX10_row_45 rfl (by decide) ?_
    refine xr_ixor (pc' := 47) hC dX10_row_46 rfl ?_
    refine xr_iand (pc' := 48) hC dX10_row_47 rfl ?_
    refine xr_if_eq (pc' := 51) 54 hC dX10_row_48 rfl (by decide) hf (fun hf => ?_) (fun hf => ?_)
    · refine xr_iload_n (pc' := 55) 2 hC dX10_row_54 rfl rfl rfl ?_
      refine xr_iload_n (pc' := 56) 1 hC dX10_row_55 rfl rfl rfl ?_
      refine xr_icmp_ne (pc' := 59) 63 hC dX10_row_56 rfl (by decide) hf (fun hf => ?_) (fun hf => ?_)
      · refine xr_ldc_w (pc' := 66) (1000000000 : Int32) hC dX10_row_63 rfl qX10_277 ?_
        refine xr_istore_n (pc' := 67) (lv' := [(0, .ref (E.2.2.1 0)), (1, .int l1), (2, .int l2), (3, .int (1000000000 : Int32))]) hC dX10_row_66 rfl rfl (by decide) [1, 2, 3, 0] rfl ?_
        refine xr_iconst (pc' := 68) (0 : Int32) hC dX10_row_67 rfl (by decide) ?_
        refine xr_istore (pc' := 70) (lv' := [(0, .ref (E.2.2.1 0)), (1, .int l1), (2, .int l2), (3, .int (1000000000 : Int32)), (4, .int (0 : Int32))]) hC dX10_row_68 rfl (by decide) [1, 2, 3, 4, 0] rfl ?_
        exact w_m_row_b70 hC (m_row_b39 N n) ih N _ _ _ _ _ hf
      refine xr_iconst (pc' := 60) (0 : Int32) hC dX10_row_59 rfl (by decide) ?_
      refine xr_goto 66 hC dX10_row_60 (by decide) ?_
      refine xr_istore_n (pc' := 67) (lv' := [(0, .ref (E.2.2.1 0)), (1, .int l1), (2, .int l2), (3, .int (0 : Int32))]) hC dX10_row_66 rfl rfl (by decide) [1, 2, 3, 0] rfl ?_
      refine xr_iconst (pc' := 68) (0 : Int32) hC dX10_row_67 rfl (by decide) ?_
      refine xr_istore (pc' := 70) (lv' := [(0, .ref (E.2.2.1 0)), (1, .int l1), (2, .int l2), (3, .int (0 : Int32)), (4, .int (0 : Int32))]) hC dX10_row_68 rfl (by decide) [1, 2, 3, 4, 0] rfl ?_
      exact w_m_row_b70 hC (m_row_b39 N n) ih N _ _ _ _ _ hf
    refine xr_goto 150 hC dX10_row_51 (by decide) ?_
    refine xr_iinc (pc' := 153) hC dX10_row_150 rfl _ rfl hf 2 rfl (by decide) [1, 2, 0] (fun l2_28 => [(0, .ref (E.2.2.1 0)), (1, .int l1), (2, .int l2_28)]) (fun _ => rfl) (fun l2_28 hf => ?_)
    refine xr_goto 39 hC dX10_row_153 (by decide) ?_
    exact ih _ _ _ hf

set_option maxRecDepth 100000 in
set_option maxHeartbeats 4000000 in
theorem w_m_row_b4 {C : xT} {E : mE} {N : Nat} {r : Int32} {σ' : xS} (hC : xc C (GM E) RX10 cX10_row 6 (some .int) (k2_rm 2 46)) : ∀ (n : Nat) (l1 l2 : Int32) (σ : xS), m_row_b4 N n l1 l2 σ = some (r, σ') → xw C (GM E) 6 (xq C (GM E) (some (.int r)) σ') σ 4 [(0, .ref (E.2.2.1 0)), (1, .int l1), (2, .int l2)] [] := by
  intro n
  induction n with
  | zero =>
    intro l1 l2 σ hf
    rw [m_row_b4] at hf
    cases hf
  | succ n ih =>
    intro l1 l2 σ hf
    rw [m_row_b4] at hf
    refine xr_iload_n (pc' := 5) 2 hC dX10_row_4 rfl rfl rfl ?_
    refine xr_bipush (pc' := 7) (10 : Int32) hC dX10_row_5 rfl (by decide) ?_
    refine xr_icmp_ge (pc' := 10) 31 hC dX10_row_7 rfl (by decide) hf (fun hf => ?_) (fun hf => ?_)
    · refine xr_iload_n (pc' := 32) 1 hC dX10_row_31 rfl rfl rfl ?_
      refine xr_if_ne (pc' := 35) 37 hC dX10_row_32 rfl (by decide) hf (fun hf => ?_) (fun hf => ?_)
      · refine xr_iload_n (pc' := 38) 1 hC dX10_row_37 rfl rfl rfl ?_
        refine xr_istore_n (pc' := 39) (lv' := [(0, .ref (E.2.2.1 0)), (1, .int l1), (2, .int l1)]) hC dX10_row_38 rfl rfl (by decide) [1, 2, 0] rfl ?_
        exact w_m_row_b39 hC N _ _ _ hf
      refine xr_iconst (pc' := 36) (-1 : Int32) hC dX10_row_35 rfl (by decide) ?_
      exact xr_ireturn hC dX10_row_36 hf
    refine xr_aload_n (pc' := 11) 0 hC dX10_row_10 rfl rfl rfl ?_
    refine gX10_m_isOrder (pc' := 14) hC dX10_row_11 rfl ?_
    refine xr_iload_n (pc' := 15) 2 hC dX10_row_14 rfl rfl rfl ?_
    refine lM_18 (pc' := 16) hC dX10_row_15 rfl hf (fun v29 hf => ?_)
    refine xr_if_eq (pc' := 19) 25 hC dX10_row_16 rfl (by decide) hf (fun hf => ?_) (fun hf => ?_)
    · refine xr_iinc (pc' := 28) hC dX10_row_25 rfl _ rfl hf 2 rfl (by decide) [1, 2, 0] (fun l2_30 => [(0, .ref (E.2.2.1 0)), (1, .int l1), (2, .int l2_30)]) (fun _ => rfl) (fun l2_30 hf => ?_)
      refine xr_goto 4 hC dX10_row_28 (by decide) ?_
      exact ih _ _ _ hf
    refine xr_iload_n (pc' := 20) 1 hC dX10_row_19 rfl rfl rfl ?_
    refine xr_iconst (pc' := 21) (1 : Int32) hC dX10_row_20 rfl (by decide) ?_
    refine xr_iload_n (pc' := 22) 2 hC dX10_row_21 rfl rfl rfl ?_
    refine xr_ishl (pc' := 23) hC dX10_row_22 rfl ?_
    refine xr_ior (pc' := 24) hC dX10_row_23 rfl ?_
    refine xr_istoreb_n (pc' := 25) hC dX10_row_24 rfl hf rfl (by decide) [1, 0, 2] (fun l1_31 => [(0, .ref (E.2.2.1 0)), (1, .int l1_31), (2, .int l2)]) (fun _ => rfl) (fun l1_31 hf => ?_)
    refine xr_iinc (pc' := 28) hC dX10_row_25 rfl _ rfl hf 2 rfl (by decide) [1, 2, 0] (fun l2_32 => [(0, .ref (E.2.2.1 0)), (1, .int l1_31), (2, .int l2_32)]) (fun _ => rfl) (fun l2_32 hf => ?_)
    refine xr_goto 4 hC dX10_row_28 (by decide) ?_
    exact ih _ _ _ hf

set_option maxRecDepth 100000 in
set_option maxHeartbeats 4000000 in
theorem c_m_row {l : Launch} {E : mE} {N : Nat} (hG : xOk (GM E)) {σ : xS} {r : Int32} {σ' : xS} (hf : m_row N σ = some (r, σ')) : xMet l (GM E) yX10_row cX10_row 6 (some .int) (k2_rm 2 46) [.ref (E.2.2.1 0)] σ (some (.int r)) σ' := by
  refine x_met (own := RX10) (by decide +kernel) hG rfl (Nat.le_of_ble_eq_true rfl) (fun C hl hC => ?_)
  subst hl
  show xw C (GM E) 6 (xq C (GM E) (some (.int r)) σ') σ 0 [(0, .ref (E.2.2.1 0))] []
  unfold m_row at hf
  refine xr_iconst (pc' := 1) (0 : Int32) hC dX10_row_0 rfl (by decide) ?_
  refine xr_istore_n (pc' := 2) (lv' := [(0, .ref (E.2.2.1 0)), (1, .int (0 : Int32))]) hC dX10_row_1 rfl rfl (by decide) [1, 0] rfl ?_
  refine xr_iconst (pc' := 3) (0 : Int32) hC dX10_row_2 rfl (by decide) ?_
  refine xr_istore_n (pc' := 4) (lv' := [(0, .ref (E.2.2.1 0)), (1, .int (0 : Int32)), (2, .int (0 : Int32))]) hC dX10_row_3 rfl rfl (by decide) [1, 2, 0] rfl ?_
  exact w_m_row_b4 hC N _ _ _ hf

