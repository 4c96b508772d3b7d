set_option maxRecDepth 100000 in
set_option maxHeartbeats 4000000 in
theorem w_m_ones_b4 {C : xT} {E : mE} {N : Nat} {r : Int32} {σ' : xS} (hC : xc C (GM E) RX10 cX10_ones 3 (some .int) (k2_rm 0 0)) : ∀ (n : Nat) (l0 l1 l2 : Int32) (σ : xS), m_ones_b4 N n l0 l1 l2 σ = some (r, σ') → xw C (GM E) 3 (xq C (GM E) (some (.int r)) σ') σ 4 [(0, .int l0), (1, .int l1), (2, .int l2)] [] := by
  intro n
  induction n with
  | zero =>
    intro l0 l1 l2 σ hf
    rw [m_ones_b4] at hf
    cases hf
  | succ n ih =>
    intro l0 l1 l2 σ hf
    rw [m_ones_b4] at hf
    refine xr_iload_n (pc' := 5) 2 hC dX10_ones_4 rfl rfl rfl ?_
    refine xr_bipush (pc' := 7) (6 : Int32) hC dX10_ones_5 rfl (by decide) ?_
    refine xr_icmp_ge (pc' := 10) 24 hC dX10_ones_7 rfl (by decide) hf (fun hf => ?_) (fun hf => ?_)
    · refine xr_iload_n (pc' := 25) 1 hC dX10_ones_24 rfl rfl rfl ?_
      exact xr_ireturn hC dX10_ones_25 hf
    refine xr_iload_n (pc' := 11) 1 hC dX10_ones_10 rfl rfl rfl ?_
    refine xr_iload_n (pc' := 12) 0 hC dX10_ones_11 rfl rfl rfl ?_
    refine xr_iload_n (pc' := 13) 2 hC dX10_ones_12 rfl rfl rfl ?_
    refine xr_ishr (pc' := 14) hC dX10_ones_13 rfl ?_
    refine xr_iconst (pc' := 15) (1 : Int32) hC dX10_ones_14 rfl (by decide) ?_
    refine xr_iand (pc' := 16) hC dX10_ones_15 rfl ?_
    refine xr_iadd (pc' := 17) hC dX10_ones_16 rfl ?_
    refine xr_istoreb_n (pc' := 18) hC dX10_ones_17 rfl hf rfl (by decide) [1, 0, 2] (fun l1_1 => [(0, .int l0), (1, .int l1_1), (2, .int l2)]) (fun _ => rfl) (fun l1_1 hf => ?_)
    refine xr_iinc (pc' := 21) hC dX10_ones_18 rfl _ rfl hf 2 rfl (by decide) [1, 2, 0] (fun l2_2 => [(0, .int l0), (1, .int l1_1), (2, .int l2_2)]) (fun _ => rfl) (fun l2_2 hf => ?_)
    refine xr_goto 4 hC dX10_ones_21 (by decide) ?_
    exact ih _ _ _ _ hf

set_option maxRecDepth 100000 in
set_option maxHeartbeats 4000000 in
theorem c_m_ones {l : Launch} {E : mE} {N : Nat} (hG : xOk (GM E)) {l0 : Int32} {σ : xS} {r : Int32} {σ' : xS} (hf : m_ones N l0 σ = some (r, σ')) : xMet l (GM E) yX10_ones cX10_ones 3 (some .int) (k2_rm 0 0) [.int l0] σ (some (.int r)) σ' := by
  refine x_met (own := RX10) (by decide +kernel) hG rfl (Nat.le_of_ble_eq_true rfl) (fun C hl hC => ?_)
  subst hl
  show xw C (GM E) 3 (xq C (GM E) (some (.int r)) σ') σ 0 [(0, .int l0)] []
  unfold m_ones at hf
  refine xr_iconst (pc' := 1) (0 : Int32) hC dX10_ones_0 rfl (by decide) ?_
  refine xr_istore_n (pc' := 2) (lv' := [(0, .int l0), (1, .int (0 : Int32))]) hC dX10_ones_1 rfl rfl (by decide) [1, 0] rfl ?_
  refine xr_iconst (pc' := 3) (0 : Int32) hC dX10_ones_2 rfl (by decide) ?_
  refine xr_istore_n (pc' := 4) (lv' := [(0, .int l0), (1, .int (0 : Int32)), (2, .int (0 : Int32))]) hC dX10_ones_3 rfl rfl (by decide) [1, 2, 0] rfl ?_
  exact w_m_ones_b4 hC N _ _ _ _ hf

set_option maxRecDepth 100000 in
set_option maxHeartbeats 4000000 in
theorem w_m_covers_b23 {C : xT} {E : mE} {N : Nat} {r : Int32} {σ' : xS} (hC : xc C (GM E) RX10 cX10_covers 5 (some .boolean) (k2_rm 1 22)) (K2 : Int32 → Int32 → xS → Option (Int32 × xS)) (hK2 : ∀ (l1 l2 : Int32) (σ : xS), K2 l1 l2 σ = some (r, σ') → xw C (GM E) 5 (xq C (GM E) (some (.int r)) σ') σ 2 [(0, .ref (E.2.2.1 0)), (1, .int l1), (2, .int l2)] []) (K12 : Int32 → Int32 → Int32 → xS → Option (Int32 × xS)) (hK12 : ∀ (l1 l2 l3 : Int32) (σ : xS), K12 l1 l2 l3 σ = some (r, σ') → xw C (GM E) 5 (xq C (GM E) (some (.int r)) σ') σ 12 [(0, .ref (E.2.2.1 0)), (1, .int l1), (2, .int l2), (3, .int l3)] []) : ∀ (n : Nat) (l1 l2 l3 l4 : Int32) (σ : xS), m_covers_b23 N K2 K12 n l1 l2 l3 l4 σ = some (r, σ') → xw C (GM E) 5 (xq C (GM E) (some (.int r)) σ') σ 23 [(0, .ref (E.2.2.1 0)), (1, .int l1), (2, .int l2), (3, .int l3), (4, .int l4)] [] := by
  intro n
  induction n with
  | zero =>
    intro l1 l2 l3 l4 σ hf
    rw [m_covers_b23] at hf
    cases hf
  | succ n ih =>
    intro l1 l2 l3 l4 σ hf
    rw [m_covers_b23] at hf
    refine xr_iload (pc' := 25) 4 hC dX10_covers_23 rfl rfl ?_
    refine xr_aload_n (pc' := 26) 0 hC dX10_covers_25 rfl rfl rfl ?_
    refine gX10_m_wide (pc' := 29) hC dX10_covers_26 rfl ?_
    refine xr_icmp_gt (pc' := 32) 72 hC dX10_covers_29 rfl (by decide) hf (fun hf => ?_) (fun hf => ?_)
    · refine xr_iinc (pc' := 75) hC dX10_covers_72 rfl _ rfl hf 3 rfl (by decide) [1, 2, 3, 0, 4] (fun l3_2 => [(0, .ref (E.2.2.1 0)), (1, .int l1), (2, .int l2), (3, .int l3_2), (4, .int l4)]) (fun _ => rfl) (fun l3_2 hf => ?_)
      refine xr_goto 12 hC dX10_covers_75 (by decide) ?_
      refine x_lv [0, 1, 2, 3] rfl ?_
      exact hK12 _ _ _ _ hf
    refine xr_aload_n (pc' := 33) 0 hC dX10_covers_32 rfl rfl rfl ?_
    refine gX10_m_solid (pc' := 36) hC dX10_covers_33 rfl ?_
    refine xr_iload (pc' := 38) 4 hC dX10_covers_36 rfl rfl ?_
    refine xr_iload_n (pc' := 39) 3 hC dX10_covers_38 rfl rfl rfl ?_
    refine xr_iload_n (pc' := 40) 2 hC dX10_covers_39 rfl rfl rfl ?_
    refine xr_callS (pc' := 43) (rmy := k2_rm 0 0) [.int l4, .int l3, .int l2] hC dX10_covers_40 rfl kX10_209 rfl rfl rfl ⟨Nat.le_of_ble_eq_true rfl, Nat.le_of_ble_eq_true rfl⟩ rfl (Nat.le_of_ble_eq_true rfl) hf (fun _ _ h => c_m_place (xc_ok hC) h) (fun v3 σ4 hf => ?_)
    refine lM_8 (pc' := 44) hC dX10_covers_43 rfl hf (fun v5 hf => ?_)
    refine xr_if_ne (pc' := 47) 66 hC dX10_covers_44 rfl (by decide) hf (fun hf => ?_) (fun hf => ?_)
    · refine xr_iinc (pc' := 69) hC dX10_covers_66 rfl _ rfl hf 4 rfl (by decide) [1, 2, 3, 4, 0] (fun l4_6 => [(0, .ref (E.2.2.1 0)), (1, .int l1), (2, .int l2), (3, .int l3), (4, .int l4_6)]) (fun _ => rfl) (fun l4_6 hf => ?_)
      refine xr_goto 23 hC dX10_covers_69 (by decide) ?_
      exact ih _ _ _ _ _ hf
    refine xr_aload_n (pc' := 48) 0 hC dX10_covers_47 rfl rfl rfl ?_
    refine gX10_m_ways (pc' := 51) hC dX10_covers_48 rfl ?_
    refine xr_iload (pc' := 53) 4 hC dX10_covers_51 rfl rfl ?_
    refine xr_iload_n (pc' := 54) 3 hC dX10_covers_53 rfl rfl rfl ?_
    refine xr_iload_n (pc' := 55) 2 hC dX10_covers_54 rfl rfl rfl ?_
    refine xr_callS (pc' := 58) (rmy := k2_rm 0 0) [.int l4, .int l3, .int l2] hC dX10_covers_55 rfl kX10_209 rfl rfl rfl ⟨Nat.le_of_ble_eq_true rfl, Nat.le_of_ble_eq_true rfl⟩ rfl (Nat.le_of_ble_eq_true rfl) hf (fun _ _ h => c_m_place (xc_ok hC) h) (fun v7 σ8 hf => ?_)
    refine lM_9 (pc' := 59) hC dX10_covers_58 rfl hf (fun v9 hf => ?_)
    refine xr_iload_n (pc' := 60) 1 hC dX10_covers_59 rfl rfl rfl ?_
    refine xr_iand (pc' := 61) hC dX10_covers_60 rfl ?_
    refine xr_if_ne (pc' := 64) 66 hC dX10_covers_61 rfl (by decide) hf (fun hf => ?_) (fun hf => ?_)
    · refine xr_iinc (pc' := 69) hC dX10_covers_66 rfl _ rfl hf 4 rfl (by decide) [1, 2, 3, 4, 0] (fun l4_10 => [(0, .ref (E.2.2.1 0)), (1, .int l1), (2, .int l2), (3, .int l3), (4, .int l4_10)]) (fun _ => rfl) (fun l4_10 hf => ?_)
      refine xr_goto 23 hC dX10_covers_69 (by decide) ?_
      exact ih _ _ _ _ _ hf
    refine xr_iconst (pc' := 65) (0 : Int32) hC dX10_covers_64 rfl (by decide) ?_
    exact xr_zreturn hC dX10_covers_65 rfl hf

set_option maxRecDepth 100000 in
set_option maxHeartbeats 4000000 in
theorem w_m_covers_b12 {C : xT} {E : mE} {N : Nat} {r : Int32} {σ' : xS} (hC : xc C (GM E) RX10 cX10_covers 5 (some .boolean) (k2_rm 1 22)) (K2 : Int32 → Int32 → xS → Option (Int32 × xS)) (hK2 : ∀ (l1 l2 : Int32) (σ : xS), K2 l1 l2 σ = some (r, σ') → xw C (GM E) 5 (xq C (GM E) (some (.int r)) σ') σ 2 [(0, .ref (E.2.2.1 0)), (1, .int l1), (2, .int l2)] []) : ∀ (n : Nat) (l1 l2 l3 : Int32) (σ : xS), m_covers_b12 N K2 n l1 l2 l3 σ = some (r, σ') → xw C (GM E) 5 (xq C (GM E) (some (.int r)) σ') σ 12 [(0, .ref (E.2.2.1 0)), (1, .int l1), (2, .int l2), (3, .int l3)] [] := by
  intro n
  induction n with
  | zero =>
    intro l1 l2 l3 σ hf
    rw [m_covers_b12] at hf
    cases hf
  | succ n ih =>
    intro l1 l2 l3 σ hf
    rw [m_covers_b12] at hf
    refine xr_iload_n (pc' := 13) 3 hC dX10_covers_12 rfl rfl rfl ?_
    refine xr_aload_n (pc' := 14) 0 hC dX10_covers_13 rfl rfl rfl ?_
    refine gX10_m_high (pc' := 17) hC dX10_covers_14 rfl ?_
    refine xr_icmp_gt (pc' := 20) 78 hC dX10_covers_17 rfl (by decide) hf (fun hf => ?_) (fun hf => ?_)
    · refine xr_iinc (pc' := 81) hC dX10_covers_78 rfl _ rfl hf 2 rfl (by decide) [1, 2, 0, 3] (fun l2_1 => [(0, .ref (E.2.2.1 0)), (1, .int l1), (2, .int l2_1), (3, .int l3)]) (fun _ => rfl) (fun l2_1 hf => ?_)
      refine xr_goto 2 hC dX10_covers_81 (by decide) ?_
      refine x_lv [0, 1, 2] rfl ?_
      exact hK2 _ _ _ hf
    refine xr_iconst (pc' := 21) (-1 : Int32) hC dX10_covers_20 rfl (by decide) ?_
    refine xr_istore (pc' := 23) (lv' := [(0, .ref (E.2.2.1 0)), (1, .int l1), (2, .int l2), (3, .int l3), (4, .int (-1 : Int32))]) hC dX10_covers_21 rfl (by decide) [1, 2, 3, 4, 0] rfl ?_
    exact w_m_covers_b23 hC (K2) hK2 (m_covers_b12 N K2 n) ih N _ _ _ _ _ hf

set_option maxRecDepth 100000 in
set_option maxHeartbeats 4000000 in
theorem w_m_covers_b2 {C : xT} {E : mE} {N : Nat} {r : Int32} {σ' : xS} (hC : xc C (GM E) RX10 cX10_covers 5 (some .boolean) (k2_rm 1 22)) : ∀ (n : Nat) (l1 l2 : Int32) (σ : xS), m_covers_b2 N n l1 l2 σ = some (r, σ') → xw C (GM E) 5 (xq C (GM E) (some (.int r)) σ') σ 2 [(0, .ref (E.2.2.1 0)), (1, .int l1), (2, .int l2)] [] := by
  intro n
  induction n with
  | zero =>
    intro l1 l2 σ hf
    rw [m_covers_b2] at hf
    cases hf
  | succ n ih =>
    intro l1 l2 σ hf
    rw [m_covers_b2] at hf
    refine xr_iload_n (pc' := 3) 2 hC dX10_covers_2 rfl rfl rfl ?_
    refine xr_aload_n (pc' := 4) 0 hC dX10_covers_3 rfl rfl rfl ?_
    refine gX10_m_deep (pc' := 7) hC dX10_covers_4 rfl ?_
    refine xr_icmp_gt (pc' := 10) 84 hC dX10_covers_7 rfl (by decide) hf (fun hf => ?_) (fun hf => ?_)
    · refine xr_iconst (pc' := 85) (1 : Int32) hC dX10_covers_84 rfl (by decide) ?_
      exact xr_zreturn hC dX10_covers_85 rfl hf
    refine xr_iconst (pc' := 11) (-1 : Int32) hC dX10_covers_10 rfl (by decide) ?_
    refine xr_istore_n (pc' := 12) (lv' := [(0, .ref (E.2.2.1 0)), (1, .int l1), (2, .int l2), (3, .int (-1 : Int32))]) hC dX10_covers_11 rfl rfl (by decide) [1, 2, 3, 0] rfl ?_
    exact w_m_covers_b12 hC (m_covers_b2 N n) ih N _ _ _ _ hf

set_option maxRecDepth 100000 in
set_option maxHeartbeats 4000000 in
theorem c_m_covers {l : Launch} {E : mE} {N : Nat} (hG : xOk (GM E)) {l1 : Int32} {σ : xS} {r : Int32} {σ' : xS} (hf : m_covers N l1 σ = some (r, σ')) : xMet l (GM E) yX10_covers cX10_covers 5 (some .boolean) (k2_rm 1 22) [.ref (E.2.2.1 0), .int l1] σ (some (.int r)) σ' := by
  refine x_met (own := RX10) (by decide +kernel) hG rfl (Nat.le_of_ble_eq_true rfl) (fun C hl hC => ?_)
  subst hl
  show xw C (GM E) 5 (xq C (GM E) (some (.int r)) σ') σ 0 [(0, .ref (E.2.2.1 0)), (1, .int l1)] []
  unfold m_covers at hf
  refine xr_iconst (pc' := 1) (-1 : Int32) hC dX10_covers_0 rfl (by decide) ?_
  refine xr_istore_n (pc' := 2) (lv' := [(0, .ref (E.2.2.1 0)), (1, .int l1), (2, .int (-1 : Int32))]) hC dX10_covers_1 rfl rfl (by decide) [1, 2, 0] rfl ?_
  exact w_m_covers_b2 hC N _ _ _ hf

set_option maxRecDepth 100000 in
set_option maxHeartbeats 4000000 in
theorem w_m_fewest_b5 {C : xT} {E : mE} {N : Nat} {r : Int32} {σ' : xS} (hC : xc C (GM E) RX10 cX10_fewest 3 (some .int) (k2_rm 2 46)) : ∀ (n : Nat) (l1 l2 : Int32) (σ : xS), m_fewest_b5 N n l1 l2 σ = some (r, σ') → xw C (GM E) 3 (xq C (GM E) (some (.int r)) σ') σ 5 [(0, .ref (E.2.2.1 0)), (1, .int l1), (2, .int l2)] [] := by
  intro n
  induction n with
  | zero =>
    intro l1 l2 σ hf
    rw [m_fewest_b5] at hf
    cases hf
  | succ n ih =>
    intro l1 l2 σ hf
    rw [m_fewest_b5] at hf
    refine xr_iload_n (pc' := 6) 2 hC dX10_fewest_5 rfl rfl rfl ?_
    refine xr_bipush (pc' := 8) (64 : Int32) hC dX10_fewest_6 rfl (by decide) ?_
    refine xr_icmp_ge (pc' := 11) 38 hC dX10_fewest_8 rfl (by decide) hf (fun hf => ?_) (fun hf => ?_)
    · refine xr_iload_n (pc' := 39) 1 hC dX10_fewest_38 rfl rfl rfl ?_
      exact xr_ireturn hC dX10_fewest_39 hf
    refine xr_iload_n (pc' := 12) 2 hC dX10_fewest_11 rfl rfl rfl ?_
    refine xr_callS (pc' := 15) (rmy := k2_rm 0 0) [.int l2] hC dX10_fewest_12 rfl kX10_241 rfl rfl rfl ⟨Nat.le_of_ble_eq_true rfl, Nat.le_of_ble_eq_true rfl⟩ rfl (Nat.le_of_ble_eq_true rfl) hf (fun _ _ h => c_m_ones (xc_ok hC) h) (fun v1 σ2 hf => ?_)
    refine xr_iload_n (pc' := 16) 1 hC dX10_fewest_15 rfl rfl rfl ?_
    refine xr_icmp_ge (pc' := 19) 32 hC dX10_fewest_16 rfl (by decide) hf (fun hf => ?_) (fun hf => ?_)
    · refine xr_iinc (pc' := 35) hC dX10_fewest_32 rfl _ rfl hf 2 rfl (by decide) [1, 2, 0] (fun l2_3 => [(0, .ref (E.2.2.1 0)), (1, .int l1), (2, .int l2_3)]) (fun _ => rfl) (fun l2_3 hf => ?_)
      refine xr_goto 5 hC dX10_fewest_35 (by decide) ?_
      exact ih _ _ _ hf
    refine xr_aload_n (pc' := 20) 0 hC dX10_fewest_19 rfl rfl rfl ?_
    refine xr_iload_n (pc' := 21) 2 hC dX10_fewest_20 rfl rfl rfl ?_
    refine xr_callV (pc' := 24) (rmy := k2_rm 1 22) [.int l2] 0 hC dX10_fewest_21 rfl kX10_244 rfl rfl rfl rfl rfl ⟨Nat.le_of_ble_eq_true rfl, Nat.le_of_ble_eq_true rfl⟩ rfl (Nat.le_of_ble_eq_true rfl) hf (fun _ _ h => c_m_covers (xc_ok hC) h) (fun v4 σ5 hf => ?_)
    refine xr_if_eq (pc' := 27) 32 hC dX10_fewest_24 rfl (by decide) hf (fun hf => ?_) (fun hf => ?_)
    · refine xr_iinc (pc' := 35) hC dX10_fewest_32 rfl _ rfl hf 2 rfl (by decide) [1, 2, 0] (fun l2_6 => [(0, .ref (E.2.2.1 0)), (1, .int l1), (2, .int l2_6)]) (fun _ => rfl) (fun l2_6 hf => ?_)
      refine xr_goto 5 hC dX10_fewest_35 (by decide) ?_
      exact ih _ _ _ hf
    refine xr_iload_n (pc' := 28) 2 hC dX10_fewest_27 rfl rfl rfl ?_
    refine xr_callS (pc' := 31) (rmy := k2_rm 0 0) [.int l2] hC dX10_fewest_28 rfl kX10_241 rfl rfl rfl ⟨Nat.le_of_ble_eq_true rfl, Nat.le_of_ble_eq_true rfl⟩ rfl (Nat.le_of_ble_eq_true rfl) hf (fun _ _ h => c_m_ones (xc_ok hC) h) (fun v7 σ8 hf => ?_)
    refine xr_istore_n (pc' := 32) (lv' := [(0, .ref (E.2.2.1 0)), (1, .int v7), (2, .int l2)]) hC dX10_fewest_31 rfl rfl (by decide) [1, 0, 2] rfl ?_
    refine xr_iinc (pc' := 35) hC dX10_fewest_32 rfl _ rfl hf 2 rfl (by decide) [1, 2, 0] (fun l2_9 => [(0, .ref (E.2.2.1 0)), (1, .int v7), (2, .int l2_9)]) (fun _ => rfl) (fun l2_9 hf => ?_)
    refine xr_goto 5 hC dX10_fewest_35 (by decide) ?_
    exact ih _ _ _ hf

set_option maxRecDepth 100000 in
set_option maxHeartbeats 4000000 in
theorem c_m_fewest {l : Launch} {E : mE} {N : Nat} (hG : xOk (GM E)) {σ : xS} {r : Int32} {σ' : xS} (hf : m_fewest N σ = some (r, σ')) : xMet l (GM E) yX10_fewest cX10_fewest 3 (some .int) (k2_rm 2 46) [.ref (E.2.2.1 0)] σ (some (.int r)) σ' := by
  refine x_met (own := RX10) (by decide +kernel) hG rfl (Nat.le_of_ble_eq_true rfl) (fun C hl hC => ?_)
  subst hl
  show xw C (GM E) 3 (xq C (GM E) (some (.int r)) σ') σ 0 [(0, .ref (E.2.2.1 0))] []
  unfold m_fewest at hf
  refine xr_bipush (pc' := 2) (7 : Int32) hC dX10_fewest_0 rfl (by decide) ?_
  refine xr_istore_n (pc' := 3) (lv' := [(0, .ref (E.2.2.1 0)), (1, .int (7 : Int32))]) hC dX10_fewest_2 rfl rfl (by decide) [1, 0] rfl ?_
  refine xr_iconst (pc' := 4) (1 : Int32) hC dX10_fewest_3 rfl (by decide) ?_
  refine xr_istore_n (pc' := 5) (lv' := [(0, .ref (E.2.2.1 0)), (1, .int (7 : Int32)), (2, .int (1 : Int32))]) hC dX10_fewest_4 rfl rfl (by decide) [1, 2, 0] rfl ?_
  exact w_m_fewest_b5 hC N _ _ _ hf

set_option maxRecDepth 100000 in
set_option maxHeartbeats 4000000 in
theorem w_m_belongs_order_b3 {C : xT} {E : mE} {N : Nat} {r : Int32} {σ' : xS} (hC : xc C (GM E) RX10 cX10_belongs 5 (some .int) (k2_rm 0 0)) : ∀ (n : Nat) (l1 l3 l4 : Int32) (σ : xS), m_belongs_b3 10 N n l1 l3 l4 σ = some (r, σ') → xw C (GM E) 5 (xq C (GM E) (some (.int r)) σ') σ 3 [(0, .ref (E.2.2.1 0)), (1, .int l1), (2, .ref (E.2.2.1 11)), (3, .int l3), (4, .int l4)] [] := by
  intro n
  induction n with
  | zero =>
    intro l1 l3 l4 σ hf
    rw [m_belongs_b3] at hf
    cases hf
  | succ n ih =>
    intro l1 l3 l4 σ hf
    rw [m_belongs_b3] at hf
    refine xr_iload (pc' := 5) 4 hC dX10_belongs_3 rfl rfl ?_
    refine xr_iload_n (pc' := 6) 3 hC dX10_belongs_5 rfl rfl rfl ?_
    refine xr_icmp_ge (pc' := 9) 35 hC dX10_belongs_6 rfl (by decide) hf (fun hf => ?_) (fun hf => ?_)
    · refine xr_iconst (pc' := 36) (-1 : Int32) hC dX10_belongs_35 rfl (by decide) ?_
      exact xr_ireturn hC dX10_belongs_36 hf
    refine xr_aload_n (pc' := 10) 0 hC dX10_belongs_9 rfl rfl rfl ?_
    refine gX10_m_ways (pc' := 13) hC dX10_belongs_10 rfl ?_
    refine xr_iload_n (pc' := 14) 1 hC dX10_belongs_13 rfl rfl rfl ?_
    refine lM_9 (pc' := 15) hC dX10_belongs_14 rfl hf (fun v1 hf => ?_)
    refine xr_aload_n (pc' := 16) 2 hC dX10_belongs_15 rfl rfl rfl ?_
    refine xr_iload (pc' := 18) 4 hC dX10_belongs_16 rfl rfl ?_
    refine lM_10 (pc' := 19) hC dX10_belongs_18 rfl hf (fun v2 hf => ?_)
    refine xr_ishr (pc' := 20) hC dX10_belongs_19 rfl ?_
    refine xr_iconst (pc' := 21) (1 : Int32) hC dX10_belongs_20 rfl (by decide) ?_
    refine xr_iand (pc' := 22) hC dX10_belongs_21 rfl ?_
    refine xr_iconst (pc' := 23) (1 : Int32) hC dX10_belongs_22 rfl (by decide) ?_
    refine xr_icmp_ne (pc' := 26) 29 hC dX10_belongs_23 rfl (by decide) hf (fun hf => ?_) (fun hf => ?_)
    · refine xr_iinc (pc' := 32) hC dX10_belongs_29 rfl _ rfl hf 4 rfl (by decide) [1, 2, 3, 4, 0] (fun l4_3 => [(0, .ref (E.2.2.1 0)), (1, .int l1), (2, .ref (E.2.2.1 11)), (3, .int l3), (4, .int l4_3)]) (fun _ => rfl) (fun l4_3 hf => ?_)
      refine xr_goto 3 hC dX10_belongs_32 (by decide) ?_
      exact ih _ _ _ _ hf
    refine xr_iload (pc' := 28) 4 hC dX10_belongs_26 rfl rfl ?_
    exact xr_ireturn hC dX10_belongs_28 hf

set_option maxRecDepth 100000 in
set_option maxHeartbeats 4000000 in
theorem c_m_belongs_order {l : Launch} {E : mE} {N : Nat} (hG : xOk (GM E)) {l1 l3 : Int32} {σ : xS} {r : Int32} {σ' : xS} (hf : m_belongs 10 N l1 l3 σ = some (r, σ')) : xMet l (GM E) yX10_belongs cX10_belongs 5 (some .int) (k2_rm 0 0) [.ref (E.2.2.1 0), .int l1, .ref (E.2.2.1 11), .int l3] σ (some (.int r)) σ' := by
  refine x_met (own := RX10) (by decide +kernel) hG rfl (Nat.le_of_ble_eq_true rfl) (fun C hl hC => ?_)
  subst hl
  show xw C (GM E) 5 (xq C (GM E) (some (.int r)) σ') σ 0 [(0, .ref (E.2.2.1 0)), (1, .int l1), (2, .ref (E.2.2.1 11)), (3, .int l3)] []
  unfold m_belongs at hf
  refine xr_iconst (pc' := 1) (0 : Int32) hC dX10_belongs_0 rfl (by decide) ?_
  refine xr_istore (pc' := 3) (lv' := [(0, .ref (E.2.2.1 0)), (1, .int l1), (2, .ref (E.2.2.1 11)), (3, .int l3), (4, .int (0 : Int32))]) hC dX10_belongs_1 rfl (by decide) [1, 2, 3, 4, 0] rfl ?_
  exact w_m_belongs_order_b3 hC N _ _ _ _ hf

set_option maxRecDepth 100000 in
set_option maxHeartbeats 4000000 in
theorem w_m_touches_b3 {C : xT} {E : mE} {N : Nat} {r : Int32} {σ' : xS} (hC : xc C (GM E) RX10 cX10_touches 5 (some .boolean) (k2_rm 1 23)) : ∀ (n : Nat) (l1 l2 l3 l4 : Int32) (σ : xS), m_touches_b3 N n l1 l2 l3 l4 σ = some (r, σ') → xw C (GM E) 5 (xq C (GM E) (some (.int r)) σ') σ 3 [(0, .ref (E.2.2.1 0)), (1, .int l1), (2, .int l2), (3, .int l3), (4, .int l4)] [] := by
  intro n
  induction n with
  | zero =>
    intro l1 l2 l3 l4 σ hf
    rw [m_touches_b3] at hf
    cases hf
  | succ n ih =>
    intro l1 l2 l3 l4 σ hf
    rw [m_touches_b3] at hf
    refine xr_iload (pc' := 5) 4 hC dX10_touches_3 rfl rfl ?_
    refine xr_bipush (pc' := 7) (6 : Int32) hC dX10_touches_5 rfl (by decide) ?_
    refine xr_icmp_ge (pc' := 10) 78 hC dX10_touches_7 rfl (by decide) hf (fun hf => ?_) (fun hf => ?_)
    · refine xr_iconst (pc' := 79) (0 : Int32) hC dX10_touches_78 rfl (by decide) ?_
      exact xr_zreturn hC dX10_touches_79 rfl hf
    refine xr_aload_n (pc' := 11) 0 hC dX10_touches_10 rfl rfl rfl ?_
    refine xr_iload_n (pc' := 12) 1 hC dX10_touches_11 rfl rfl rfl ?_
    refine xr_iload (pc' := 14) 4 hC dX10_touches_12 rfl rfl ?_
    refine xr_callS (pc' := 17) (rmy := k2_rm 0 0) [.int l4] hC dX10_touches_14 rfl kX10_218 rfl rfl rfl ⟨Nat.le_of_ble_eq_true rfl, Nat.le_of_ble_eq_true rfl⟩ rfl (Nat.le_of_ble_eq_true rfl) hf (fun _ _ h => c_m_stepX (xc_ok hC) h) (fun v1 σ2 hf => ?_)
    refine xr_iadd (pc' := 18) hC dX10_touches_17 rfl ?_
    refine xr_iload_n (pc' := 19) 2 hC dX10_touches_18 rfl rfl rfl ?_
    refine xr_iload (pc' := 21) 4 hC dX10_touches_19 rfl rfl ?_
    refine xr_callS (pc' := 24) (rmy := k2_rm 0 0) [.int l4] hC dX10_touches_21 rfl kX10_221 rfl rfl rfl ⟨Nat.le_of_ble_eq_true rfl, Nat.le_of_ble_eq_true rfl⟩ rfl (Nat.le_of_ble_eq_true rfl) hf (fun _ _ h => c_m_stepY (xc_ok hC) h) (fun v3 σ4 hf => ?_)
    refine xr_iadd (pc' := 25) hC dX10_touches_24 rfl ?_
    refine xr_iload_n (pc' := 26) 3 hC dX10_touches_25 rfl rfl rfl ?_
    refine xr_iload (pc' := 28) 4 hC dX10_touches_26 rfl rfl ?_
    refine xr_callS (pc' := 31) (rmy := k2_rm 0 0) [.int l4] hC dX10_touches_28 rfl kX10_224 rfl rfl rfl ⟨Nat.le_of_ble_eq_true rfl, Nat.le_of_ble_eq_true rfl⟩ rfl (Nat.le_of_ble_eq_true rfl) hf (fun _ _ h => c_m_stepZ (xc_ok hC) h) (fun v5 σ6 hf => ?_)
    refine xr_iadd (pc' := 32) hC dX10_touches_31 rfl ?_
    refine xr_callV (pc' := 35) (rmy := k2_rm 0 0) [.int (l1 + v1), .int (l2 + v3), .int (l3 + v5)] 0 hC dX10_touches_32 rfl kX10_215 rfl rfl rfl rfl rfl ⟨Nat.le_of_ble_eq_true rfl, Nat.le_of_ble_eq_true rfl⟩ rfl (Nat.le_of_ble_eq_true rfl) hf (fun _ _ h => c_m_isMould (xc_ok hC) h) (fun v7 σ8 hf => ?_)
    refine xr_if_eq (pc' := 38) 72 hC dX10_touches_35 rfl (by decide) hf (fun hf => ?_) (fun hf => ?_)
    · refine xr_iinc (pc' := 75) hC dX10_touches_72 rfl _ rfl hf 4 rfl (by decide) [1, 2, 3, 4, 0] (fun l4_9 => [(0, .ref (E.2.2.1 0)), (1, .int l1), (2, .int l2), (3, .int l3), (4, .int l4_9)]) (fun _ => rfl) (fun l4_9 hf => ?_)
      refine xr_goto 3 hC dX10_touches_75 (by decide) ?_
      exact ih _ _ _ _ _ hf
    refine xr_aload_n (pc' := 39) 0 hC dX10_touches_38 rfl rfl rfl ?_
    refine gX10_m_solid (pc' := 42) hC dX10_touches_39 rfl ?_
    refine xr_iload_n (pc' := 43) 1 hC dX10_touches_42 rfl rfl rfl ?_
    refine xr_iload (pc' := 45) 4 hC dX10_touches_43 rfl rfl ?_
    refine xr_callS (pc' := 48) (rmy := k2_rm 0 0) [.int l4] hC dX10_touches_45 rfl kX10_218 rfl rfl rfl ⟨Nat.le_of_ble_eq_true rfl, Nat.le_of_ble_eq_true rfl⟩ rfl (Nat.le_of_ble_eq_true rfl) hf (fun _ _ h => c_m_stepX (xc_ok hC) h) (fun v10 σ11 hf => ?_)
    refine xr_iadd (pc' := 49) hC dX10_touches_48 rfl ?_
    refine xr_iload_n (pc' := 50) 2 hC dX10_touches_49 rfl rfl rfl ?_
    refine xr_iload (pc' := 52) 4 hC dX10_touches_50 rfl rfl ?_
    refine xr_callS (pc' := 55) (rmy := k2_rm 0 0) [.int l4] hC dX10_touches_52 rfl kX10_221 rfl rfl rfl ⟨Nat.le_of_ble_eq_true rfl, Nat.le_of_ble_eq_true rfl⟩ rfl (Nat.le_of_ble_eq_true rfl) hf (fun _ _ h => c_m_stepY (xc_ok hC) h) (fun v12 σ13 hf => ?_)
    refine xr_iadd (pc' := 56) hC dX10_touches_55 rfl ?_
    refine xr_iload_n (pc' := 57) 3 hC dX10_touches_56 rfl rfl rfl ?_
    refine xr_iload (pc' := 59) 4 hC dX10_touches_57 rfl rfl ?_
    refine xr_callS (pc' := 62) (rmy := k2_rm 0 0) [.int l4] hC dX10_touches_59 rfl kX10_224 rfl rfl rfl ⟨Nat.le_of_ble_eq_true rfl, Nat.le_of_ble_eq_true rfl⟩ rfl (Nat.le_of_ble_eq_true rfl) hf (fun _ _ h => c_m_stepZ (xc_ok hC) h) (fun v14 σ15 hf => ?_)
    refine xr_iadd (pc' := 63) hC dX10_touches_62 rfl ?_
    refine xr_callS (pc' := 66) (rmy := k2_rm 0 0) [.int (l1 + v10), .int (l2 + v12), .int (l3 + v14)] hC dX10_touches_63 rfl kX10_209 rfl rfl rfl ⟨Nat.le_of_ble_eq_true rfl, Nat.le_of_ble_eq_true rfl⟩ rfl (Nat.le_of_ble_eq_true rfl) hf (fun _ _ h => c_m_place (xc_ok hC) h) (fun v16 σ17 hf => ?_)
    refine lM_8 (pc' := 67) hC dX10_touches_66 rfl hf (fun v18 hf => ?_)
    refine xr_if_eq (pc' := 70) 72 hC dX10_touches_67 rfl (by decide) hf (fun hf => ?_) (fun hf => ?_)
    · refine xr_iinc (pc' := 75) hC dX10_touches_72 rfl _ rfl hf 4 rfl (by decide) [1, 2, 3, 4, 0] (fun l4_19 => [(0, .ref (E.2.2.1 0)), (1, .int l1), (2, .int l2), (3, .int l3), (4, .int l4_19)]) (fun _ => rfl) (fun l4_19 hf => ?_)
      refine xr_goto 3 hC dX10_touches_75 (by decide) ?_
      exact ih _ _ _ _ _ hf
    refine xr_iconst (pc' := 71) (1 : Int32) hC dX10_touches_70 rfl (by decide) ?_
    exact xr_zreturn hC dX10_touches_71 rfl hf

set_option maxRecDepth 100000 in
set_option maxHeartbeats 4000000 in
theorem c_m_touches {l : Launch} {E : mE} {N : Nat} (hG : xOk (GM E)) {l1 l2 l3 : Int32} {σ : xS} {r : Int32} {σ' : xS} (hf : m_touches N l1 l2 l3 σ = some (r, σ')) : xMet l (GM E) yX10_touches cX10_touches 5 (some .boolean) (k2_rm 1 23) [.ref (E.2.2.1 0), .int l1, .int l2, .int l3] σ (some (.int r)) σ' := by
  refine x_met (own := RX10) (by decide +kernel) hG rfl (Nat.le_of_ble_eq_true rfl) (fun C hl hC => ?_)
  subst hl
  show xw C (GM E) 5 (xq C (GM E) (some (.int r)) σ') σ 0 [(0, .ref (E.2.2.1 0)), (1, .int l1), (2, .int l2), (3, .int l3)] []
  unfold m_touches at hf
  refine xr_iconst (pc' := 1) (0 : Int32) hC dX10_touches_0 rfl (by decide) ?_
  refine xr_istore (pc' := 3) (lv' := [(0, .ref (E.2.2.1 0)), (1, .int l1), (2, .int l2), (3, .int l3), (4, .int (0 : Int32))]) hC dX10_touches_1 rfl (by decide) [1, 2, 3, 4, 0] rfl ?_
  exact w_m_touches_b3 hC N _ _ _ _ _ hf

set_option maxRecDepth 100000 in
set_option maxHeartbeats 4000000 in
theorem w_m_hangs_order_b160 {C : xT} {E : mE} {N : Nat} {r : Int32} {σ' : xS} (hC : xc C (GM E) RX10 cX10_hangs 15 none (k2_rm 2 47)) (K66 : Int32 → Int32 → Int32 → Int32 → xS → Option (Int32 × xS)) (hK66 : ∀ (l3 l4 l5 l6 : Int32) (σ : xS), K66 l3 l4 l5 l6 σ = some (r, σ') → xw C (GM E) 15 (xq C (GM E) none σ') σ 66 [(0, .ref (E.2.2.1 0)), (2, .ref (E.2.2.1 11)), (3, .int l3), (4, .int l4), (5, .int l5), (6, .int l6)] []) : ∀ (n : Nat) (l3 l4 l5 l6 l7 l8 l9 l10 : Int32) (σ : xS), m_hangs_b160 10 N K66 n l3 l4 l5 l6 l7 l8 l9 l10 σ = some (r, σ') → xw C (GM E) 15 (xq C (GM E) none σ') σ 160 [(0, .ref (E.2.2.1 0)), (2, .ref (E.2.2.1 11)), (3, .int l3), (4, .int l4), (5, .int l5), (6, .int l6), (7, .int l7), (8, .int l8), (9, .int l9), (10, .int l10)] [] := by
  intro n
  induction n with
  | zero =>
    intro l3 l4 l5 l6 l7 l8 l9 l10 σ hf
    rw [m_hangs_b160] at hf
    cases hf
  | succ n ih =>
    intro l3 l4 l5 l6 l7 l8 l9 l10 σ hf
    rw [m_hangs_b160] at hf
    refine xr_iload (pc' := 162) 9 hC dX10_hangs_160 rfl rfl ?_
    refine xr_bipush (pc' := 164) (6 : Int32) hC dX10_hangs_162 rfl (by decide) ?_
    refine xr_icmp_ge (pc' := 167) 290 hC dX10_hangs_164 rfl (by decide) hf (fun hf => ?_) (fun hf => ?_)
    · refine xr_iinc (pc' := 293) hC dX10_hangs_290 rfl _ rfl hf 5 rfl (by decide) [1, 2, 3, 4, 5, 0, 6, 7, 8, 9] (fun l6_19 => [(0, .ref (E.2.2.1 0)), (2, .ref (E.2.2.1 11)), (3, .int l3), (4, .int l4), (5, .int l5), (6, .int l6_19), (7, .int l7), (8, .int l8), (9, .int l9), (10, .int l10)]) (fun _ => rfl) (fun l6_19 hf => ?_)
      refine xr_goto 66 hC dX10_hangs_293 (by decide) ?_
      refine x_lv [0, 1, 2, 3, 4, 5] rfl ?_
      exact hK66 _ _ _ _ _ hf
    refine xr_iload (pc' := 169) 6 hC dX10_hangs_167 rfl rfl ?_
    refine xr_iload (pc' := 171) 9 hC dX10_hangs_169 rfl rfl ?_
    refine xr_callS (pc' := 174) (rmy := k2_rm 0 0) [.int l10] hC dX10_hangs_171 rfl kX10_218 rfl rfl rfl ⟨Nat.le_of_ble_eq_true rfl, Nat.le_of_ble_eq_true rfl⟩ rfl (Nat.le_of_ble_eq_true rfl) hf (fun _ _ h => c_m_stepX (xc_ok hC) h) (fun v20 σ21 hf => ?_)
    refine xr_iadd (pc' := 175) hC dX10_hangs_174 rfl ?_
    refine xr_istoreb (pc' := 177) hC dX10_hangs_175 rfl hf (by decide) [1, 2, 3, 4, 5, 6, 7, 8, 9, 10, 0] (fun l11_22 => [(0, .ref (E.2.2.1 0)), (2, .ref (E.2.2.1 11)), (3, .int l3), (4, .int l4), (5, .int l5), (6, .int l6), (7, .int l7), (8, .int l8), (9, .int l9), (10, .int l10), (11, .int l11_22)]) (fun _ => rfl) (fun l11_22 hf => ?_)
    refine xr_iload (pc' := 179) 7 hC dX10_hangs_177 rfl rfl ?_
    refine xr_iload (pc' := 181) 9 hC dX10_hangs_179 rfl rfl ?_
    refine xr_callS (pc' := 184) (rmy := k2_rm 0 0) [.int l10] hC dX10_hangs_181 rfl kX10_221 rfl rfl rfl ⟨Nat.le_of_ble_eq_true rfl, Nat.le_of_ble_eq_true rfl⟩ rfl (Nat.le_of_ble_eq_true rfl) hf (fun _ _ h => c_m_stepY (xc_ok hC) h) (fun v23 σ24 hf => ?_)
    refine xr_iadd (pc' := 185) hC dX10_hangs_184 rfl ?_
    refine xr_istoreb (pc' := 187) hC dX10_hangs_185 rfl hf (by decide) [1, 2, 3, 4, 5, 6, 7, 8, 9, 10, 11, 0] (fun l12_25 => [(0, .ref (E.2.2.1 0)), (2, .ref (E.2.2.1 11)), (3, .int l3), (4, .int l4), (5, .int l5), (6, .int l6), (7, .int l7), (8, .int l8), (9, .int l9), (10, .int l10), (11, .int l11_22), (12, .int l12_25)]) (fun _ => rfl) (fun l12_25 hf => ?_)
    refine xr_iload (pc' := 189) 8 hC dX10_hangs_187 rfl rfl ?_
    refine xr_iload (pc' := 191) 9 hC dX10_hangs_189 rfl rfl ?_
    refine xr_callS (pc' := 194) (rmy := k2_rm 0 0) [.int l10] hC dX10_hangs_191 rfl kX10_224 rfl rfl rfl ⟨Nat.le_of_ble_eq_true rfl, Nat.le_of_ble_eq_true rfl⟩ rfl (Nat.le_of_ble_eq_true rfl) hf (fun _ _ h => c_m_stepZ (xc_ok hC) h) (fun v26 σ27 hf => ?_)
    refine xr_iadd (pc' := 195) hC dX10_hangs_194 rfl ?_
    refine xr_istoreb (pc' := 197) hC dX10_hangs_195 rfl hf (by decide) [1, 2, 3, 4, 5, 6, 7, 8, 9, 10, 11, 12, 0] (fun l13_28 => [(0, .ref (E.2.2.1 0)), (2, .ref (E.2.2.1 11)), (3, .int l3), (4, .int l4), (5, .int l5), (6, .int l6), (7, .int l7), (8, .int l8), (9, .int l9), (10, .int l10), (11, .int l11_22), (12, .int l12_25), (13, .int l13_28)]) (fun _ => rfl) (fun l13_28 hf => ?_)
    refine xr_aload_n (pc' := 198) 0 hC dX10_hangs_197 rfl rfl rfl ?_
    refine xr_iload (pc' := 200) 10 hC dX10_hangs_198 rfl rfl ?_
    refine xr_iload (pc' := 202) 11 hC dX10_hangs_200 rfl rfl ?_
    refine xr_iload (pc' := 204) 12 hC dX10_hangs_202 rfl rfl ?_
    refine xr_callV (pc' := 207) (rmy := k2_rm 0 0) [.int l11_22, .int l12_25, .int l13_28] 0 hC dX10_hangs_204 rfl kX10_215 rfl rfl rfl rfl rfl ⟨Nat.le_of_ble_eq_true rfl, Nat.le_of_ble_eq_true rfl⟩ rfl (Nat.le_of_ble_eq_true rfl) hf (fun _ _ h => c_m_isMould (xc_ok hC) h) (fun v29 σ30 hf => ?_)
    refine xr_if_ne (pc' := 210) 213 hC dX10_hangs_207 rfl (by decide) hf (fun hf => ?_) (fun hf => ?_)
    · refine xr_iload (pc' := 215) 10 hC dX10_hangs_213 rfl rfl ?_
      refine xr_iload (pc' := 217) 11 hC dX10_hangs_215 rfl rfl ?_
      refine xr_iload (pc' := 219) 12 hC dX10_hangs_217 rfl rfl ?_
      refine xr_callS (pc' := 222) (rmy := k2_rm 0 0) [.int l11_22, .int l12_25, .int l13_28] hC dX10_hangs_219 rfl kX10_209 rfl rfl rfl ⟨Nat.le_of_ble_eq_true rfl, Nat.le_of_ble_eq_true rfl⟩ rfl (Nat.le_of_ble_eq_true rfl) hf (fun _ _ h => c_m_place (xc_ok hC) h) (fun v31 σ32 hf => ?_)
      refine xr_istore (pc' := 224) (lv' := [(0, .ref (E.2.2.1 0)), (2, .ref (E.2.2.1 11)), (3, .int l3), (4, .int l4), (5, .int l5), (6, .int l6), (7, .int l7), (8, .int l8), (9, .int l9), (10, .int l10), (11, .int l11_22), (12, .int l12_25), (13, .int l13_28), (14, .int v31)]) hC dX10_hangs_222 rfl (by decide) [1, 2, 3, 4, 5, 6, 7, 8, 9, 10, 11, 12, 13, 0] rfl ?_
      refine xr_aload_n (pc' := 225) 0 hC dX10_hangs_224 rfl rfl rfl ?_
      refine gX10_m_solid (pc' := 228) hC dX10_hangs_225 rfl ?_
      refine xr_iload (pc' := 230) 13 hC dX10_hangs_228 rfl rfl ?_
      refine lM_8 (pc' := 231) hC dX10_hangs_230 rfl hf (fun v33 hf => ?_)
      refine xr_if_ne (pc' := 234) 284 hC dX10_hangs_231 rfl (by decide) hf (fun hf => ?_) (fun hf => ?_)
      · refine xr_iinc (pc' := 287) hC dX10_hangs_284 rfl _ rfl hf 9 rfl (by decide) [1, 2, 3, 4, 5, 6, 7, 8, 9, 0, 10, 11, 12, 13] (fun l10_34 => [(0, .ref (E.2.2.1 0)), (2, .ref (E.2.2.1 11)), (3, .int l3), (4, .int l4), (5, .int l5), (6, .int l6), (7, .int l7), (8, .int l8), (9, .int l9), (10, .int l10_34), (11, .int l11_22), (12, .int l12_25), (13, .int l13_28), (14, .int v31)]) (fun _ => rfl) (fun l10_34 hf => ?_)
        refine xr_goto 160 hC dX10_hangs_287 (by decide) ?_
        refine x_lv [0, 1, 2, 3, 4, 5, 6, 7, 8, 9] rfl ?_
        exact ih _ _ _ _ _ _ _ _ _ hf
      refine xr_aload_n (pc' := 235) 0 hC dX10_hangs_234 rfl rfl rfl ?_
      refine gX10_m_pieceOf (pc' := 238) hC dX10_hangs_235 rfl ?_
      refine xr_iload (pc' := 240) 13 hC dX10_hangs_238 rfl rfl ?_
      refine lM_12 (pc' := 241) hC dX10_hangs_240 rfl hf (fun v35 hf => ?_)
      refine xr_iconst (pc' := 242) (-1 : Int32) hC dX10_hangs_241 rfl (by decide) ?_
      refine xr_icmp_ne (pc' := 245) 284 hC dX10_hangs_242 rfl (by decide) hf (fun hf => ?_) (fun hf => ?_)
      · refine xr_iinc (pc' := 287) hC dX10_hangs_284 rfl _ rfl hf 9 rfl (by decide) [1, 2, 3, 4, 5, 6, 7, 8, 9, 0, 10, 11, 12, 13] (fun l10_36 => [(0, .ref (E.2.2.1 0)), (2, .ref (E.2.2.1 11)), (3, .int l3), (4, .int l4), (5, .int l5), (6, .int l6), (7, .int l7), (8, .int l8), (9, .int l9), (10, .int l10_36), (11, .int l11_22), (12, .int l12_25), (13, .int l13_28), (14, .int v31)]) (fun _ => rfl) (fun l10_36 hf => ?_)
        refine xr_goto 160 hC dX10_hangs_287 (by decide) ?_
        refine x_lv [0, 1, 2, 3, 4, 5, 6, 7, 8, 9] rfl ?_
        exact ih _ _ _ _ _ _ _ _ _ hf
      refine xr_aload_n (pc' := 246) 0 hC dX10_hangs_245 rfl rfl rfl ?_
      refine xr_iload (pc' := 248) 13 hC dX10_hangs_246 rfl rfl ?_
      refine xr_aload_n (pc' := 249) 1 hC dX10_hangs_248 rfl rfl rfl ?_
      refine xr_iload_n (pc' := 250) 2 hC dX10_hangs_249 rfl rfl rfl ?_
      refine xr_callV (pc' := 253) (rmy := k2_rm 0 0) [.int v31, .ref (E.2.2.1 11), .int l3] 0 hC dX10_hangs_250 rfl kX10_230 rfl rfl rfl rfl rfl ⟨Nat.le_of_ble_eq_true rfl, Nat.le_of_ble_eq_true rfl⟩ rfl (Nat.le_of_ble_eq_true rfl) hf (fun _ _ h => c_m_belongs_order (xc_ok hC) h) (fun v37 σ38 hf => ?_)
      refine xr_iload (pc' := 255) 3 hC dX10_hangs_253 rfl rfl ?_
      refine xr_icmp_eq (pc' := 258) 261 hC dX10_hangs_255 rfl (by decide) hf (fun hf => ?_) (fun hf => ?_)
      · refine xr_aload_n (pc' := 262) 0 hC dX10_hangs_261 rfl rfl rfl ?_
        refine gX10_m_pieceOf (pc' := 265) hC dX10_hangs_262 rfl ?_
        refine xr_iload (pc' := 267) 13 hC dX10_hangs_265 rfl rfl ?_
        refine xr_aload_n (pc' := 268) 0 hC dX10_hangs_267 rfl rfl rfl ?_
        refine gX10_m_pieces (pc' := 271) hC dX10_hangs_268 rfl ?_
        refine sM_12 (pc' := 272) hC dX10_hangs_271 rfl hf (fun σ39 hf => ?_)
        refine xr_aload_n (pc' := 273) 0 hC dX10_hangs_272 rfl rfl rfl ?_
        refine gX10_m_pile (pc' := 276) hC dX10_hangs_273 rfl ?_
        refine xr_iload (pc' := 278) 4 hC dX10_hangs_276 rfl rfl ?_
        refine xr_iload (pc' := 280) 13 hC dX10_hangs_278 rfl rfl ?_
        refine sM_13 (pc' := 281) hC dX10_hangs_280 rfl hf (fun σ40 hf => ?_)
        refine xr_iinc (pc' := 284) hC dX10_hangs_281 rfl _ rfl hf 4 rfl (by decide) [1, 2, 3, 4, 0, 5, 6, 7, 8, 9, 10, 11, 12, 13] (fun l5_41 => [(0, .ref (E.2.2.1 0)), (2, .ref (E.2.2.1 11)), (3, .int l3), (4, .int l4), (5, .int l5_41), (6, .int l6), (7, .int l7), (8, .int l8), (9, .int l9), (10, .int l10), (11, .int l11_22), (12, .int l12_25), (13, .int l13_28), (14, .int v31)]) (fun _ => rfl) (fun l5_41 hf => ?_)
        refine xr_iinc (pc' := 287) hC dX10_hangs_284 rfl _ rfl hf 9 rfl (by decide) [1, 2, 3, 4, 5, 6, 7, 8, 9, 0, 10, 11, 12, 13] (fun l10_42 => [(0, .ref (E.2.2.1 0)), (2, .ref (E.2.2.1 11)), (3, .int l3), (4, .int l4), (5, .int l5_41), (6, .int l6), (7, .int l7), (8, .int l8), (9, .int l9), (10, .int l10_42), (11, .int l11_22), (12, .int l12_25), (13, .int l13_28), (14, .int v31)]) (fun _ => rfl) (fun l10_42 hf => ?_)
        refine xr_goto 160 hC dX10_hangs_287 (by decide) ?_
        refine x_lv [0, 1, 2, 3, 4, 5, 6, 7, 8, 9] rfl ?_
        exact ih _ _ _ _ _ _ _ _ _ hf
      refine xr_goto 284 hC dX10_hangs_258 (by decide) ?_
      refine xr_iinc (pc' := 287) hC dX10_hangs_284 rfl _ rfl hf 9 rfl (by decide) [1, 2, 3, 4, 5, 6, 7, 8, 9, 0, 10, 11, 12, 13] (fun l10_43 => [(0, .ref (E.2.2.1 0)), (2, .ref (E.2.2.1 11)), (3, .int l3), (4, .int l4), (5, .int l5), (6, .int l6), (7, .int l7), (8, .int l8), (9, .int l9), (10, .int l10_43), (11, .int l11_22), (12, .int l12_25), (13, .int l13_28), (14, .int v31)]) (fun _ => rfl) (fun l10_43 hf => ?_)
      refine xr_goto 160 hC dX10_hangs_287 (by decide) ?_
      refine x_lv [0, 1, 2, 3, 4, 5, 6, 7, 8, 9] rfl ?_
      exact ih _ _ _ _ _ _ _ _ _ hf
    refine xr_goto 284 hC dX10_hangs_210 (by decide) ?_
    refine xr_iinc (pc' := 287) hC dX10_hangs_284 rfl _ rfl hf 9 rfl (by decide) [1, 2, 3, 4, 5, 6, 7, 8, 9, 0, 10, 11, 12] (fun l10_44 => [(0, .ref (E.2.2.1 0)), (2, .ref (E.2.2.1 11)), (3, .int l3), (4, .int l4), (5, .int l5), (6, .int l6), (7, .int l7), (8, .int l8), (9, .int l9), (10, .int l10_44), (11, .int l11_22), (12, .int l12_25), (13, .int l13_28)]) (fun _ => rfl) (fun l10_44 hf => ?_)
    refine xr_goto 160 hC dX10_hangs_287 (by decide) ?_
    refine x_lv [0, 1, 2, 3, 4, 5, 6, 7, 8, 9] rfl ?_
    exact ih _ _ _ _ _ _ _ _ _ hf

set_option maxRecDepth 100000 in
set_option maxHeartbeats 4000000 in
theorem w_m_hangs_order_b66 {C : xT} {E : mE} {N : Nat} {r : Int32} {σ' : xS} (hC : xc C (GM E) RX10 cX10_hangs 15 none (k2_rm 2 47)) : ∀ (n : Nat) (l3 l4 l5 l6 : Int32) (σ : xS), m_hangs_b66 10 N n l3 l4 l5 l6 σ = some (r, σ') → xw C (GM E) 15 (xq C (GM E) none σ') σ 66 [(0, .ref (E.2.2.1 0)), (2, .ref (E.2.2.1 11)), (3, .int l3), (4, .int l4), (5, .int l5), (6, .int l6)] [] := by
  intro n
  induction n with
  | zero =>
    intro l3 l4 l5 l6 σ hf
    rw [m_hangs_b66] at hf
    cases hf
  | succ n ih =>
    intro l3 l4 l5 l6 σ hf
    rw [m_hangs_b66] at hf
    refine xr_iload (pc' := 68) 5 hC dX10_hangs_66 rfl rfl ?_
    refine xr_iload (pc' := 70) 4 hC dX10_hangs_68 rfl rfl ?_
    refine xr_icmp_ge (pc' := 73) 296 hC dX10_hangs_70 rfl (by decide) hf (fun hf => ?_) (fun hf => ?_)
    · refine xr_aload_n (pc' := 297) 0 hC dX10_hangs_296 rfl rfl rfl ?_
      refine xr_dup (pc' := 298) hC dX10_hangs_297 rfl rfl ?_
      refine gX10_m_pieces (pc' := 301) hC dX10_hangs_298 rfl ?_
      refine xr_iconst (pc' := 302) (1 : Int32) hC dX10_hangs_301 rfl (by decide) ?_
      refine xr_iadd (pc' := 303) hC dX10_hangs_302 rfl ?_
      refine pX10_m_pieces (pc' := 306) hC dX10_hangs_303 rfl hf (fun σ8 hf => ?_)
      exact xr_return hC dX10_hangs_306 hf
    refine xr_aload_n (pc' := 74) 0 hC dX10_hangs_73 rfl rfl rfl ?_
    refine gX10_m_pile (pc' := 77) hC dX10_hangs_74 rfl ?_
    refine xr_iload (pc' := 79) 5 hC dX10_hangs_77 rfl rfl ?_
    refine lM_13 (pc' := 80) hC dX10_hangs_79 rfl hf (fun v9 hf => ?_)
    refine xr_bipush (pc' := 82) (10 : Int32) hC dX10_hangs_80 rfl (by decide) ?_
    refine xr_irem (pc' := 83) hC dX10_hangs_82 rfl hf (fun hf => ?_)
    refine xr_iconst (pc' := 84) (1 : Int32) hC dX10_hangs_83 rfl (by decide) ?_
    refine xr_isub (pc' := 85) hC dX10_hangs_84 rfl ?_
    refine xr_istoreb (pc' := 87) hC dX10_hangs_85 rfl hf (by decide) [1, 2, 3, 4, 5, 6, 0] (fun l7_10 => [(0, .ref (E.2.2.1 0)), (2, .ref (E.2.2.1 11)), (3, .int l3), (4, .int l4), (5, .int l5), (6, .int l6), (7, .int l7_10)]) (fun _ => rfl) (fun l7_10 hf => ?_)
    refine xr_aload_n (pc' := 88) 0 hC dX10_hangs_87 rfl rfl rfl ?_
    refine gX10_m_pile (pc' := 91) hC dX10_hangs_88 rfl ?_
    refine xr_iload (pc' := 93) 5 hC dX10_hangs_91 rfl rfl ?_
    refine lM_13 (pc' := 94) hC dX10_hangs_93 rfl hf (fun v11 hf => ?_)
    refine xr_bipush (pc' := 96) (10 : Int32) hC dX10_hangs_94 rfl (by decide) ?_
    refine xr_idiv (pc' := 97) hC dX10_hangs_96 rfl hf (fun hf => ?_)
    refine xr_bipush (pc' := 99) (10 : Int32) hC dX10_hangs_97 rfl (by decide) ?_
    refine xr_irem (pc' := 100) hC dX10_hangs_99 rfl hf (fun hf => ?_)
    refine xr_iconst (pc' := 101) (1 : Int32) hC dX10_hangs_100 rfl (by decide) ?_
    refine xr_isub (pc' := 102) hC dX10_hangs_101 rfl ?_
    refine xr_istoreb (pc' := 104) hC dX10_hangs_102 rfl hf (by decide) [1, 2, 3, 4, 5, 6, 7, 0] (fun l8_12 => [(0, .ref (E.2.2.1 0)), (2, .ref (E.2.2.1 11)), (3, .int l3), (4, .int l4), (5, .int l5), (6, .int l6), (7, .int l7_10), (8, .int l8_12)]) (fun _ => rfl) (fun l8_12 hf => ?_)
    refine xr_aload_n (pc' := 105) 0 hC dX10_hangs_104 rfl rfl rfl ?_
    refine gX10_m_pile (pc' := 108) hC dX10_hangs_105 rfl ?_
    refine xr_iload (pc' := 110) 5 hC dX10_hangs_108 rfl rfl ?_
    refine lM_13 (pc' := 111) hC dX10_hangs_110 rfl hf (fun v13 hf => ?_)
    refine xr_bipush (pc' := 113) (100 : Int32) hC dX10_hangs_111 rfl (by decide) ?_
    refine xr_idiv (pc' := 114) hC dX10_hangs_113 rfl hf (fun hf => ?_)
    refine xr_iconst (pc' := 115) (1 : Int32) hC dX10_hangs_114 rfl (by decide) ?_
    refine xr_isub (pc' := 116) hC dX10_hangs_115 rfl ?_
    refine xr_istoreb (pc' := 118) hC dX10_hangs_116 rfl hf (by decide) [1, 2, 3, 4, 5, 6, 7, 8, 0] (fun l9_14 => [(0, .ref (E.2.2.1 0)), (2, .ref (E.2.2.1 11)), (3, .int l3), (4, .int l4), (5, .int l5), (6, .int l6), (7, .int l7_10), (8, .int l8_12), (9, .int l9_14)]) (fun _ => rfl) (fun l9_14 hf => ?_)
    refine xr_aload_n (pc' := 119) 0 hC dX10_hangs_118 rfl rfl rfl ?_
    refine gX10_m_pieceCells (pc' := 122) hC dX10_hangs_119 rfl ?_
    refine xr_aload_n (pc' := 123) 0 hC dX10_hangs_122 rfl rfl rfl ?_
    refine gX10_m_pieces (pc' := 126) hC dX10_hangs_123 rfl ?_
    refine xr_dup2 (pc' := 127) hC dX10_hangs_126 rfl rfl rfl ?_
    refine lM_15 (pc' := 128) hC dX10_hangs_127 rfl hf (fun v15 hf => ?_)
    refine xr_iconst (pc' := 129) (1 : Int32) hC dX10_hangs_128 rfl (by decide) ?_
    refine xr_iadd (pc' := 130) hC dX10_hangs_129 rfl ?_
    refine sM_15 (pc' := 131) hC dX10_hangs_130 rfl hf (fun σ16 hf => ?_)
    refine xr_aload_n (pc' := 132) 0 hC dX10_hangs_131 rfl rfl rfl ?_
    refine xr_iload (pc' := 134) 6 hC dX10_hangs_132 rfl rfl ?_
    refine xr_iload (pc' := 136) 7 hC dX10_hangs_134 rfl rfl ?_
    refine xr_iload (pc' := 138) 8 hC dX10_hangs_136 rfl rfl ?_
    refine xr_callV (pc' := 141) (rmy := k2_rm 1 23) [.int l7_10, .int l8_12, .int l9_14] 0 hC dX10_hangs_138 rfl kX10_238 rfl rfl rfl rfl rfl ⟨Nat.le_of_ble_eq_true rfl, Nat.le_of_ble_eq_true rfl⟩ rfl (Nat.le_of_ble_eq_true rfl) hf (fun _ _ h => c_m_touches (xc_ok hC) h) (fun v17 σ18 hf => ?_)
    refine xr_if_eq (pc' := 144) 157 hC dX10_hangs_141 rfl (by decide) hf (fun hf => ?_) (fun hf => ?_)
    · refine xr_iconst (pc' := 158) (0 : Int32) hC dX10_hangs_157 rfl (by decide) ?_
      refine xr_istore (pc' := 160) (lv' := [(0, .ref (E.2.2.1 0)), (2, .ref (E.2.2.1 11)), (3, .int l3), (4, .int l4), (5, .int l5), (6, .int l6), (7, .int l7_10), (8, .int l8_12), (9, .int l9_14), (10, .int (0 : Int32))]) hC dX10_hangs_158 rfl (by decide) [1, 2, 3, 4, 5, 6, 7, 8, 9, 0] rfl ?_
      exact w_m_hangs_order_b160 hC (m_hangs_b66 10 N n) ih N _ _ _ _ _ _ _ _ _ hf
    refine xr_aload_n (pc' := 145) 0 hC dX10_hangs_144 rfl rfl rfl ?_
    refine gX10_m_pieceTouch (pc' := 148) hC dX10_hangs_145 rfl ?_
    refine xr_aload_n (pc' := 149) 0 hC dX10_hangs_148 rfl rfl rfl ?_
    refine gX10_m_pieces (pc' := 152) hC dX10_hangs_149 rfl ?_
    refine xr_dup2 (pc' := 153) hC dX10_hangs_152 rfl rfl rfl ?_
    refine lM_16 (pc' := 154) hC dX10_hangs_153 rfl hf (fun v45 hf => ?_)
    refine xr_iconst (pc' := 155) (1 : Int32) hC dX10_hangs_154 rfl (by decide) ?_
    refine xr_iadd (pc' := 156) hC dX10_hangs_155 rfl ?_
    refine sM_16 (pc' := 157) hC dX10_hangs_156 rfl hf (fun σ46 hf => ?_)
    refine xr_iconst (pc' := 158) (0 : Int32) hC dX10_hangs_157 rfl (by decide) ?_
    refine xr_istore (pc' := 160) (lv' := [(0, .ref (E.2.2.1 0)), (2, .ref (E.2.2.1 11)), (3, .int l3), (4, .int l4), (5, .int l5), (6, .int l6), (7, .int l7_10), (8, .int l8_12), (9, .int l9_14), (10, .int (0 : Int32))]) hC dX10_hangs_158 rfl (by decide) [1, 2, 3, 4, 5, 6, 7, 8, 9, 0] rfl ?_
    exact w_m_hangs_order_b160 hC (m_hangs_b66 10 N n) ih N _ _ _ _ _ _ _ _ _ hf

set_option maxRecDepth 100000 in
set_option maxHeartbeats 4000000 in
theorem c_m_hangs_order {l : Launch} {E : mE} {N : Nat} (hG : xOk (GM E)) {l1 l3 l4 : Int32} {σ : xS} {r : Int32} {σ' : xS} (hf : m_hangs 10 N l1 l3 l4 σ = some (r, σ')) : xMet l (GM E) yX10_hangs cX10_hangs 15 none (k2_rm 2 47) [.ref (E.2.2.1 0), .int l1, .ref (E.2.2.1 11), .int l3, .int l4] σ none σ' := by
  refine x_met (own := RX10) (by decide +kernel) hG rfl (Nat.le_of_ble_eq_true rfl) (fun C hl hC => ?_)
  subst hl
  show xw C (GM E) 15 (xq C (GM E) none σ') σ 0 [(0, .ref (E.2.2.1 0)), (1, .int l1), (2, .ref (E.2.2.1 11)), (3, .int l3), (4, .int l4)] []
  unfold m_hangs at hf
  refine xr_iconst (pc' := 1) (1 : Int32) hC dX10_hangs_0 rfl (by decide) ?_
  refine xr_istore (pc' := 3) (lv' := [(0, .ref (E.2.2.1 0)), (1, .int l1), (2, .ref (E.2.2.1 11)), (3, .int l3), (4, .int l4), (5, .int (1 : Int32))]) hC dX10_hangs_1 rfl (by decide) [1, 2, 3, 4, 5, 0] rfl ?_
  refine xr_aload_n (pc' := 4) 0 hC dX10_hangs_3 rfl rfl rfl ?_
  refine gX10_m_pile (pc' := 7) hC dX10_hangs_4 rfl ?_
  refine xr_iconst (pc' := 8) (0 : Int32) hC dX10_hangs_7 rfl (by decide) ?_
  refine xr_iload_n (pc' := 9) 1 hC dX10_hangs_8 rfl rfl rfl ?_
  refine sM_13 (pc' := 10) hC dX10_hangs_9 rfl hf (fun σ1 hf => ?_)
  refine xr_aload_n (pc' := 11) 0 hC dX10_hangs_10 rfl rfl rfl ?_
  refine gX10_m_pieceOf (pc' := 14) hC dX10_hangs_11 rfl ?_
  refine xr_iload_n (pc' := 15) 1 hC dX10_hangs_14 rfl rfl rfl ?_
  refine xr_aload_n (pc' := 16) 0 hC dX10_hangs_15 rfl rfl rfl ?_
  refine gX10_m_pieces (pc' := 19) hC dX10_hangs_16 rfl ?_
  refine sM_12 (pc' := 20) hC dX10_hangs_19 rfl hf (fun σ2 hf => ?_)
  refine xr_aload_n (pc' := 21) 0 hC dX10_hangs_20 rfl rfl rfl ?_
  refine gX10_m_pieceWay (pc' := 24) hC dX10_hangs_21 rfl ?_
  refine xr_aload_n (pc' := 25) 0 hC dX10_hangs_24 rfl rfl rfl ?_
  refine gX10_m_pieces (pc' := 28) hC dX10_hangs_25 rfl ?_
  refine xr_aload_n (pc' := 29) 2 hC dX10_hangs_28 rfl rfl rfl ?_
  refine xr_iload (pc' := 31) 4 hC dX10_hangs_29 rfl rfl ?_
  refine lM_10 (pc' := 32) hC dX10_hangs_31 rfl hf (fun v3 hf => ?_)
  refine sM_14 (pc' := 33) hC dX10_hangs_32 rfl hf (fun σ4 hf => ?_)
  refine xr_aload_n (pc' := 34) 0 hC dX10_hangs_33 rfl rfl rfl ?_
  refine gX10_m_pieceCells (pc' := 37) hC dX10_hangs_34 rfl ?_
  refine xr_aload_n (pc' := 38) 0 hC dX10_hangs_37 rfl rfl rfl ?_
  refine gX10_m_pieces (pc' := 41) hC dX10_hangs_38 rfl ?_
  refine xr_iconst (pc' := 42) (0 : Int32) hC dX10_hangs_41 rfl (by decide) ?_
  refine sM_15 (pc' := 43) hC dX10_hangs_42 rfl hf (fun σ5 hf => ?_)
  refine xr_aload_n (pc' := 44) 0 hC dX10_hangs_43 rfl rfl rfl ?_
  refine gX10_m_pieceTouch (pc' := 47) hC dX10_hangs_44 rfl ?_
  refine xr_aload_n (pc' := 48) 0 hC dX10_hangs_47 rfl rfl rfl ?_
  refine gX10_m_pieces (pc' := 51) hC dX10_hangs_48 rfl ?_
  refine xr_iconst (pc' := 52) (0 : Int32) hC dX10_hangs_51 rfl (by decide) ?_
  refine sM_16 (pc' := 53) hC dX10_hangs_52 rfl hf (fun σ6 hf => ?_)
  refine xr_aload_n (pc' := 54) 0 hC dX10_hangs_53 rfl rfl rfl ?_
  refine gX10_m_poured (pc' := 57) hC dX10_hangs_54 rfl ?_
  refine xr_aload_n (pc' := 58) 0 hC dX10_hangs_57 rfl rfl rfl ?_
  refine gX10_m_pieces (pc' := 61) hC dX10_hangs_58 rfl ?_
  refine xr_iconst (pc' := 62) (0 : Int32) hC dX10_hangs_61 rfl (by decide) ?_
  refine sM_17 (pc' := 63) hC dX10_hangs_62 rfl hf (fun σ7 hf => ?_)
  refine xr_iconst (pc' := 64) (0 : Int32) hC dX10_hangs_63 rfl (by decide) ?_
  refine xr_istore (pc' := 66) (lv' := [(0, .ref (E.2.2.1 0)), (1, .int l1), (2, .ref (E.2.2.1 11)), (3, .int l3), (4, .int l4), (5, .int (1 : Int32)), (6, .int (0 : Int32))]) hC dX10_hangs_64 rfl (by decide) [1, 2, 3, 4, 5, 6, 0] rfl ?_
  refine x_lv [0, 2, 3, 4, 5, 6] rfl ?_
  exact w_m_hangs_order_b66 hC N _ _ _ _ _ hf

set_option maxRecDepth 100000 in
set_option maxHeartbeats 4000000 in
theorem w_m_parts_order_b61 {C : xT} {E : mE} {N : Nat} {r : Int32} {σ' : xS} (hC : xc C (GM E) RX10 cX10_parts 8 (some .int) (k2_rm 3 81)) (K29 : Int32 → Int32 → xS → Option (Int32 × xS)) (hK29 : ∀ (l2 l3 : Int32) (σ : xS), K29 l2 l3 σ = some (r, σ') → xw C (GM E) 8 (xq C (GM E) (some (.int r)) σ') σ 29 [(0, .ref (E.2.2.1 0)), (1, .ref (E.2.2.1 11)), (2, .int l2), (3, .int l3)] []) (K37 : Int32 → Int32 → Int32 → xS → Option (Int32 × xS)) (hK37 : ∀ (l2 l3 l4 : Int32) (σ : xS), K37 l2 l3 l4 σ = some (r, σ') → xw C (GM E) 8 (xq C (GM E) (some (.int r)) σ') σ 37 [(0, .ref (E.2.2.1 0)), (1, .ref (E.2.2.1 11)), (2, .int l2), (3, .int l3), (4, .int l4)] []) (K49 : Int32 → Int32 → Int32 → Int32 → xS → Option (Int32 × xS)) (hK49 : ∀ (l2 l3 l4 l5 : Int32) (σ : xS), K49 l2 l3 l4 l5 σ = some (r, σ') → xw C (GM E) 8 (xq C (GM E) (some (.int r)) σ') σ 49 [(0, .ref (E.2.2.1 0)), (1, .ref (E.2.2.1 11)), (2, .int l2), (3, .int l3), (4, .int l4), (5, .int l5)] []) : ∀ (n : Nat) (l2 l3 l4 l5 l6 : Int32) (σ : xS), m_parts_b61 10 N K29 K37 K49 n l2 l3 l4 l5 l6 σ = some (r, σ') → xw C (GM E) 8 (xq C (GM E) (some (.int r)) σ') σ 61 [(0, .ref (E.2.2.1 0)), (1, .ref (E.2.2.1 11)), (2, .int l2), (3, .int l3), (4, .int l4), (5, .int l5), (6, .int l6)] [] := by
  intro n
  induction n with
  | zero =>
    intro l2 l3 l4 l5 l6 σ hf
    rw [m_parts_b61] at hf
    cases hf
  | succ n ih =>
    intro l2 l3 l4 l5 l6 σ hf
    rw [m_parts_b61] at hf
    refine xr_iload (pc' := 63) 6 hC dX10_parts_61 rfl rfl ?_
    refine xr_aload_n (pc' := 64) 0 hC dX10_parts_63 rfl rfl rfl ?_
    refine gX10_m_wide (pc' := 67) hC dX10_parts_64 rfl ?_
    refine xr_icmp_gt (pc' := 70) 132 hC dX10_parts_67 rfl (by decide) hf (fun hf => ?_) (fun hf => ?_)
    · refine xr_iinc (pc' := 135) hC dX10_parts_132 rfl _ rfl hf 5 rfl (by decide) [1, 2, 3, 4, 5, 0, 6] (fun l5_4 => [(0, .ref (E.2.2.1 0)), (1, .ref (E.2.2.1 11)), (2, .int l2), (3, .int l3), (4, .int l4), (5, .int l5_4), (6, .int l6)]) (fun _ => rfl) (fun l5_4 hf => ?_)
      refine xr_goto 49 hC dX10_parts_135 (by decide) ?_
      refine x_lv [0, 1, 2, 3, 4, 5] rfl ?_
      exact hK49 _ _ _ _ _ hf
    refine xr_iload (pc' := 72) 6 hC dX10_parts_70 rfl rfl ?_
    refine xr_iload (pc' := 74) 5 hC dX10_parts_72 rfl rfl ?_
    refine xr_iload (pc' := 76) 4 hC dX10_parts_74 rfl rfl ?_
    refine xr_callS (pc' := 79) (rmy := k2_rm 0 0) [.int l6, .int l5, .int l4] hC dX10_parts_76 rfl kX10_209 rfl rfl rfl ⟨Nat.le_of_ble_eq_true rfl, Nat.le_of_ble_eq_true rfl⟩ rfl (Nat.le_of_ble_eq_true rfl) hf (fun _ _ h => c_m_place (xc_ok hC) h) (fun v5 σ6 hf => ?_)
    refine xr_istore (pc' := 81) (lv' := [(0, .ref (E.2.2.1 0)), (1, .ref (E.2.2.1 11)), (2, .int l2), (3, .int l3), (4, .int l4), (5, .int l5), (6, .int l6), (7, .int v5)]) hC dX10_parts_79 rfl (by decide) [1, 2, 3, 4, 5, 6, 7, 0] rfl ?_
    refine xr_aload_n (pc' := 82) 0 hC dX10_parts_81 rfl rfl rfl ?_
    refine gX10_m_solid (pc' := 85) hC dX10_parts_82 rfl ?_
    refine xr_iload (pc' := 87) 7 hC dX10_parts_85 rfl rfl ?_
    refine lM_8 (pc' := 88) hC dX10_parts_87 rfl hf (fun v7 hf => ?_)
    refine xr_if_ne (pc' := 91) 126 hC dX10_parts_88 rfl (by decide) hf (fun hf => ?_) (fun hf => ?_)
    · refine xr_iinc (pc' := 129) hC dX10_parts_126 rfl _ rfl hf 6 rfl (by decide) [1, 2, 3, 4, 5, 6, 0, 7] (fun l6_8 => [(0, .ref (E.2.2.1 0)), (1, .ref (E.2.2.1 11)), (2, .int l2), (3, .int l3), (4, .int l4), (5, .int l5), (6, .int l6_8), (7, .int v5)]) (fun _ => rfl) (fun l6_8 hf => ?_)
      refine xr_goto 61 hC dX10_parts_129 (by decide) ?_
      refine x_lv [0, 1, 2, 3, 4, 5, 6] rfl ?_
      exact ih _ _ _ _ _ _ hf
    refine xr_aload_n (pc' := 92) 0 hC dX10_parts_91 rfl rfl rfl ?_
    refine gX10_m_pieceOf (pc' := 95) hC dX10_parts_92 rfl ?_
    refine xr_iload (pc' := 97) 7 hC dX10_parts_95 rfl rfl ?_
    refine lM_12 (pc' := 98) hC dX10_parts_97 rfl hf (fun v9 hf => ?_)
    refine xr_iconst (pc' := 99) (-1 : Int32) hC dX10_parts_98 rfl (by decide) ?_
    refine xr_icmp_ne (pc' := 102) 126 hC dX10_parts_99 rfl (by decide) hf (fun hf => ?_) (fun hf => ?_)
    · refine xr_iinc (pc' := 129) hC dX10_parts_126 rfl _ rfl hf 6 rfl (by decide) [1, 2, 3, 4, 5, 6, 0, 7] (fun l6_10 => [(0, .ref (E.2.2.1 0)), (1, .ref (E.2.2.1 11)), (2, .int l2), (3, .int l3), (4, .int l4), (5, .int l5), (6, .int l6_10), (7, .int v5)]) (fun _ => rfl) (fun l6_10 hf => ?_)
      refine xr_goto 61 hC dX10_parts_129 (by decide) ?_
      refine x_lv [0, 1, 2, 3, 4, 5, 6] rfl ?_
      exact ih _ _ _ _ _ _ hf
    refine xr_aload_n (pc' := 103) 0 hC dX10_parts_102 rfl rfl rfl ?_
    refine xr_iload (pc' := 105) 7 hC dX10_parts_103 rfl rfl ?_
    refine xr_aload_n (pc' := 106) 1 hC dX10_parts_105 rfl rfl rfl ?_
    refine xr_iload_n (pc' := 107) 2 hC dX10_parts_106 rfl rfl rfl ?_
    refine xr_callV (pc' := 110) (rmy := k2_rm 0 0) [.int v5, .ref (E.2.2.1 11), .int l2] 0 hC dX10_parts_107 rfl kX10_230 rfl rfl rfl rfl rfl ⟨Nat.le_of_ble_eq_true rfl, Nat.le_of_ble_eq_true rfl⟩ rfl (Nat.le_of_ble_eq_true rfl) hf (fun _ _ h => c_m_belongs_order (xc_ok hC) h) (fun v11 σ12 hf => ?_)
    refine xr_iload_n (pc' := 111) 3 hC dX10_parts_110 rfl rfl rfl ?_
    refine xr_icmp_eq (pc' := 114) 117 hC dX10_parts_111 rfl (by decide) hf (fun hf => ?_) (fun hf => ?_)
    · refine xr_aload_n (pc' := 118) 0 hC dX10_parts_117 rfl rfl rfl ?_
      refine xr_iload (pc' := 120) 7 hC dX10_parts_118 rfl rfl ?_
      refine xr_aload_n (pc' := 121) 1 hC dX10_parts_120 rfl rfl rfl ?_
      refine xr_iload_n (pc' := 122) 2 hC dX10_parts_121 rfl rfl rfl ?_
      refine xr_iload_n (pc' := 123) 3 hC dX10_parts_122 rfl rfl rfl ?_
      refine xr_callVv (pc' := 126) (rmy := k2_rm 2 47) [.int v5, .ref (E.2.2.1 11), .int l2, .int l3] 0 hC dX10_parts_123 rfl kX10_234 rfl rfl rfl rfl rfl ⟨Nat.le_of_ble_eq_true rfl, Nat.le_of_ble_eq_true rfl⟩ rfl (Nat.le_of_ble_eq_true rfl) hf (fun _ _ h => c_m_hangs_order (xc_ok hC) h) (fun v13 σ14 hf => ?_)
      refine xr_iinc (pc' := 129) hC dX10_parts_126 rfl _ rfl hf 6 rfl (by decide) [1, 2, 3, 4, 5, 6, 0, 7] (fun l6_15 => [(0, .ref (E.2.2.1 0)), (1, .ref (E.2.2.1 11)), (2, .int l2), (3, .int l3), (4, .int l4), (5, .int l5), (6, .int l6_15), (7, .int v5)]) (fun _ => rfl) (fun l6_15 hf => ?_)
      refine xr_goto 61 hC dX10_parts_129 (by decide) ?_
      refine x_lv [0, 1, 2, 3, 4, 5, 6] rfl ?_
      exact ih _ _ _ _ _ _ hf
    refine xr_goto 126 hC dX10_parts_114 (by decide) ?_
    refine xr_iinc (pc' := 129) hC dX10_parts_126 rfl _ rfl hf 6 rfl (by decide) [1, 2, 3, 4, 5, 6, 0, 7] (fun l6_16 => [(0, .ref (E.2.2.1 0)), (1, .ref (E.2.2.1 11)), (2, .int l2), (3, .int l3), (4, .int l4), (5, .int l5), (6, .int l6_16), (7, .int v5)]) (fun _ => rfl) (fun l6_16 hf => ?_)
    refine xr_goto 61 hC dX10_parts_129 (by decide) ?_
    refine x_lv [0, 1, 2, 3, 4, 5, 6] rfl ?_
    exact ih _ _ _ _ _ _ hf

set_option maxRecDepth 100000 in
set_option maxHeartbeats 4000000 in
theorem w_m_parts_order_b49 {C : xT} {E : mE} {N : Nat} {r : Int32} {σ' : xS} (hC : xc C (GM E) RX10 cX10_parts 8 (some .int) (k2_rm 3 81)) (K29 : Int32 → Int32 → xS → Option (Int32 × xS)) (hK29 : ∀ (l2 l3 : Int32) (σ : xS), K29 l2 l3 σ = some (r, σ') → xw C (GM E) 8 (xq C (GM E) (some (.int r)) σ') σ 29 [(0, .ref (E.2.2.1 0)), (1, .ref (E.2.2.1 11)), (2, .int l2), (3, .int l3)] []) (K37 : Int32 → Int32 → Int32 → xS → Option (Int32 × xS)) (hK37 : ∀ (l2 l3 l4 : Int32) (σ : xS), K37 l2 l3 l4 σ = some (r, σ') → xw C (GM E) 8 (xq C (GM E) (some (.int r)) σ') σ 37 [(0, .ref (E.2.2.1 0)), (1, .ref (E.2.2.1 11)), (2, .int l2), (3, .int l3), (4, .int l4)] []) : ∀ (n : Nat) (l2 l3 l4 l5 : Int32) (σ : xS), m_parts_b49 10 N K29 K37 n l2 l3 l4 l5 σ = some (r, σ') → xw C (GM E) 8 (xq C (GM E) (some (.int r)) σ') σ 49 [(0, .ref (E.2.2.1 0)), (1, .ref (E.2.2.1 11)), (2, .int l2), (3, .int l3), (4, .int l4), (5, .int l5)] [] := by
  intro n
  induction n with
  | zero =>
    intro l2 l3 l4 l5 σ hf
    rw [m_parts_b49] at hf
    cases hf
  | succ n ih =>
    intro l2 l3 l4 l5 σ hf
    rw [m_parts_b49] at hf
    refine xr_iload (pc' := 51) 5 hC dX10_parts_49 rfl rfl ?_
    refine xr_aload_n (pc' := 52) 0 hC dX10_parts_51 rfl rfl rfl ?_
    refine gX10_m_high (pc' := 55) hC dX10_parts_52 rfl ?_
    refine xr_icmp_gt (pc' := 58) 138 hC dX10_parts_55 rfl (by decide) hf (fun hf => ?_) (fun hf => ?_)
    · refine xr_iinc (pc' := 141) hC dX10_parts_138 rfl _ rfl hf 4 rfl (by decide) [1, 2, 3, 4, 0, 5] (fun l4_3 => [(0, .ref (E.2.2.1 0)), (1, .ref (E.2.2.1 11)), (2, .int l2), (3, .int l3), (4, .int l4_3), (5, .int l5)]) (fun _ => rfl) (fun l4_3 hf => ?_)
      refine xr_goto 37 hC dX10_parts_141 (by decide) ?_
      refine x_lv [0, 1, 2, 3, 4] rfl ?_
      exact hK37 _ _ _ _ hf
    refine xr_iconst (pc' := 59) (-1 : Int32) hC dX10_parts_58 rfl (by decide) ?_
    refine xr_istore (pc' := 61) (lv' := [(0, .ref (E.2.2.1 0)), (1, .ref (E.2.2.1 11)), (2, .int l2), (3, .int l3), (4, .int l4), (5, .int l5), (6, .int (-1 : Int32))]) hC dX10_parts_59 rfl (by decide) [1, 2, 3, 4, 5, 6, 0] rfl ?_
    exact w_m_parts_order_b61 hC (K29) hK29 (K37) hK37 (m_parts_b49 10 N K29 K37 n) ih N _ _ _ _ _ _ hf

set_option maxRecDepth 100000 in
set_option maxHeartbeats 4000000 in
theorem w_m_parts_order_b37 {C : xT} {E : mE} {N : Nat} {r : Int32} {σ' : xS} (hC : xc C (GM E) RX10 cX10_parts 8 (some .int) (k2_rm 3 81)) (K29 : Int32 → Int32 → xS → Option (Int32 × xS)) (hK29 : ∀ (l2 l3 : Int32) (σ : xS), K29 l2 l3 σ = some (r, σ') → xw C (GM E) 8 (xq C (GM E) (some (.int r)) σ') σ 29 [(0, .ref (E.2.2.1 0)), (1, .ref (E.2.2.1 11)), (2, .int l2), (3, .int l3)] []) : ∀ (n : Nat) (l2 l3 l4 : Int32) (σ : xS), m_parts_b37 10 N K29 n l2 l3 l4 σ = some (r, σ') → xw C (GM E) 8 (xq C (GM E) (some (.int r)) σ') σ 37 [(0, .ref (E.2.2.1 0)), (1, .ref (E.2.2.1 11)), (2, .int l2), (3, .int l3), (4, .int l4)] [] := by
  intro n
  induction n with
  | zero =>
    intro l2 l3 l4 σ hf
    rw [m_parts_b37] at hf
    cases hf
  | succ n ih =>
    intro l2 l3 l4 σ hf
    rw [m_parts_b37] at hf
    refine xr_iload (pc' := 39) 4 hC dX10_parts_37 rfl rfl ?_
    refine xr_aload_n (pc' := 40) 0 hC dX10_parts_39 rfl rfl rfl ?_
    refine gX10_m_deep (pc' := 43) hC dX10_parts_40 rfl ?_
    refine xr_icmp_gt (pc' := 46) 144 hC dX10_parts_43 rfl (by decide) hf (fun hf => ?_) (fun hf => ?_)
    · refine xr_iinc (pc' := 147) hC dX10_parts_144 rfl _ rfl hf 3 rfl (by decide) [1, 2, 3, 0, 4] (fun l3_2 => [(0, .ref (E.2.2.1 0)), (1, .ref (E.2.2.1 11)), (2, .int l2), (3, .int l3_2), (4, .int l4)]) (fun _ => rfl) (fun l3_2 hf => ?_)
      refine xr_goto 29 hC dX10_parts_147 (by decide) ?_
      refine x_lv [0, 1, 2, 3] rfl ?_
      exact hK29 _ _ _ hf
    refine xr_iconst (pc' := 47) (-1 : Int32) hC dX10_parts_46 rfl (by decide) ?_
    refine xr_istore (pc' := 49) (lv' := [(0, .ref (E.2.2.1 0)), (1, .ref (E.2.2.1 11)), (2, .int l2), (3, .int l3), (4, .int l4), (5, .int (-1 : Int32))]) hC dX10_parts_47 rfl (by decide) [1, 2, 3, 4, 5, 0] rfl ?_
    exact w_m_parts_order_b49 hC (K29) hK29 (m_parts_b37 10 N K29 n) ih N _ _ _ _ _ hf

set_option maxRecDepth 100000 in
set_option maxHeartbeats 4000000 in
theorem w_m_parts_order_b29 {C : xT} {E : mE} {N : Nat} {r : Int32} {σ' : xS} (hC : xc C (GM E) RX10 cX10_parts 8 (some .int) (k2_rm 3 81)) : ∀ (n : Nat) (l2 l3 : Int32) (σ : xS), m_parts_b29 10 N n l2 l3 σ = some (r, σ') → xw C (GM E) 8 (xq C (GM E) (some (.int r)) σ') σ 29 [(0, .ref (E.2.2.1 0)), (1, .ref (E.2.2.1 11)), (2, .int l2), (3, .int l3)] [] := by
  intro n
  induction n with
  | zero =>
    intro l2 l3 σ hf
    rw [m_parts_b29] at hf
    cases hf
  | succ n ih =>
    intro l2 l3 σ hf
    rw [m_parts_b29] at hf
    refine xr_iload_n (pc' := 30) 3 hC dX10_parts_29 rfl rfl rfl ?_
    refine xr_iload_n (pc' := 31) 2 hC dX10_parts_30 rfl rfl rfl ?_
    refine xr_icmp_ge (pc' := 34) 150 hC dX10_parts_31 rfl (by decide) hf (fun hf => ?_) (fun hf => ?_)
    · refine xr_aload_n (pc' := 151) 0 hC dX10_parts_150 rfl rfl rfl ?_
      refine gX10_m_pieces (pc' := 154) hC dX10_parts_151 rfl ?_
      exact xr_ireturn hC dX10_parts_154 hf
    refine xr_iconst (pc' := 35) (-1 : Int32) hC dX10_parts_34 rfl (by decide) ?_
    refine xr_istore (pc' := 37) (lv' := [(0, .ref (E.2.2.1 0)), (1, .ref (E.2.2.1 11)), (2, .int l2), (3, .int l3), (4, .int (-1 : Int32))]) hC dX10_parts_35 rfl (by decide) [1, 2, 3, 4, 0] rfl ?_
    exact w_m_parts_order_b37 hC (m_parts_b29 10 N n) ih N _ _ _ _ hf

set_option maxRecDepth 100000 in
set_option maxHeartbeats 4000000 in
theorem w_m_parts_order_b2 {C : xT} {E : mE} {N : Nat} {r : Int32} {σ' : xS} (hC : xc C (GM E) RX10 cX10_parts 8 (some .int) (k2_rm 3 81)) : ∀ (n : Nat) (l2 l3 : Int32) (σ : xS), m_parts_b2 10 N n l2 l3 σ = some (r, σ') → xw C (GM E) 8 (xq C (GM E) (some (.int r)) σ') σ 2 [(0, .ref (E.2.2.1 0)), (1, .ref (E.2.2.1 11)), (2, .int l2), (3, .int l3)] [] := by
  intro n
  induction n with
  | zero =>
    intro l2 l3 σ hf
    rw [m_parts_b2] at hf
    cases hf
  | succ n ih =>
    intro l2 l3 σ hf
    rw [m_parts_b2] at hf
    refine xr_iload_n (pc' := 3) 3 hC dX10_parts_2 rfl rfl rfl ?_
    refine xr_sipush (pc' := 6) (1000 : Int32) hC dX10_parts_3 rfl (by decide) ?_
    refine xr_icmp_ge (pc' := 9) 22 hC dX10_parts_6 rfl (by decide) hf (fun hf => ?_) (fun hf => ?_)
    · refine xr_aload_n (pc' := 23) 0 hC dX10_parts_22 rfl rfl rfl ?_
      refine xr_iconst (pc' := 24) (0 : Int32) hC dX10_parts_23 rfl (by decide) ?_
      refine pX10_m_pieces (pc' := 27) hC dX10_parts_24 rfl hf (fun σ1 hf => ?_)
      refine xr_iconst (pc' := 28) (0 : Int32) hC dX10_parts_27 rfl (by decide) ?_
      refine xr_istore_n (pc' := 29) (lv' := [(0, .ref (E.2.2.1 0)), (1, .ref (E.2.2.1 11)), (2, .int l2), (3, .int (0 : Int32))]) hC dX10_parts_28 rfl rfl (by decide) [1, 2, 3, 0] rfl ?_
      exact w_m_parts_order_b29 hC N _ _ _ hf
    refine xr_aload_n (pc' := 10) 0 hC dX10_parts_9 rfl rfl rfl ?_
    refine gX10_m_pieceOf (pc' := 13) hC dX10_parts_10 rfl ?_
    refine xr_iload_n (pc' := 14) 3 hC dX10_parts_13 rfl rfl rfl ?_
    refine xr_iconst (pc' := 15) (-1 : Int32) hC dX10_parts_14 rfl (by decide) ?_
    refine sM_12 (pc' := 16) hC dX10_parts_15 rfl hf (fun σ17 hf => ?_)
    refine xr_iinc (pc' := 19) hC dX10_parts_16 rfl _ rfl hf 3 rfl (by decide) [1, 2, 3, 0] (fun l3_18 => [(0, .ref (E.2.2.1 0)), (1, .ref (E.2.2.1 11)), (2, .int l2), (3, .int l3_18)]) (fun _ => rfl) (fun l3_18 hf => ?_)
    refine xr_goto 2 hC dX10_parts_19 (by decide) ?_
    exact ih _ _ _ hf

set_option maxRecDepth 100000 in
set_option maxHeartbeats 4000000 in
theorem c_m_parts_order {l : Launch} {E : mE} {N : Nat} (hG : xOk (GM E)) {l2 : Int32} {σ : xS} {r : Int32} {σ' : xS} (hf : m_parts 10 N l2 σ = some (r, σ')) : xMet l (GM E) yX10_parts cX10_parts 8 (some .int) (k2_rm 3 81) [.ref (E.2.2.1 0), .ref (E.2.2.1 11), .int l2] σ (some (.int r)) σ' := by
  refine x_met (own := RX10) (by decide +kernel) hG rfl (Nat.le_of_ble_eq_true rfl) (fun C hl hC => ?_)
  subst hl
  show xw C (GM E) 8 (xq C (GM E) (some (.int r)) σ') σ 0 [(0, .ref (E.2.2.1 0)), (1, .ref (E.2.2.1 11)), (2, .int l2)] []
  unfold m_parts at hf
  refine xr_iconst (pc' := 1) (0 : Int32) hC dX10_parts_0 rfl (by decide) ?_
  refine xr_istore_n (pc' := 2) (lv' := [(0, .ref (E.2.2.1 0)), (1, .ref (E.2.2.1 11)), (2, .int l2), (3, .int (0 : Int32))]) hC dX10_parts_1 rfl rfl (by decide) [1, 2, 3, 0] rfl ?_
  exact w_m_parts_order_b2 hC N _ _ _ hf

