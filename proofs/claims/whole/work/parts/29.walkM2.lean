set_option maxRecDepth 100000 in
set_option maxHeartbeats 4000000 in
theorem c_m_stepX {l : Launch} {E : mE} {N : Nat} (hG : xOk (GM E)) {l0 : Int32} {σ : xS} {r : Int32} {σ' : xS} (hf : m_stepX N l0 σ = some (r, σ')) : xMet l (GM E) yX10_stepX cX10_stepX 1 (some .int) (k2_rm 0 0) [.int l0] σ (some (.int r)) σ' := by
  refine x_met (own := RX10) (by decide +kernel) hG rfl (Nat.le_of_ble_eq_true rfl) (fun C hl hC => ?_)
  subst hl
  show xw C (GM E) 1 (xq C (GM E) (some (.int r)) σ') σ 0 [(0, .int l0)] []
  unfold m_stepX at hf
  refine xr_iload_n (pc' := 1) 0 hC dX10_stepX_0 rfl rfl rfl ?_
  refine xr_if_ne (pc' := 4) 8 hC dX10_stepX_1 rfl (by decide) hf (fun hf => ?_) (fun hf => ?_)
  · refine xr_iload_n (pc' := 9) 0 hC dX10_stepX_8 rfl rfl rfl ?_
    refine xr_iconst (pc' := 10) (1 : Int32) hC dX10_stepX_9 rfl (by decide) ?_
    refine xr_icmp_ne (pc' := 13) 17 hC dX10_stepX_10 rfl (by decide) hf (fun hf => ?_) (fun hf => ?_)
    · refine xr_iconst (pc' := 18) (0 : Int32) hC dX10_stepX_17 rfl (by decide) ?_
      exact xr_ireturn hC dX10_stepX_18 hf
    refine xr_iconst (pc' := 14) (-1 : Int32) hC dX10_stepX_13 rfl (by decide) ?_
    refine xr_goto 18 hC dX10_stepX_14 (by decide) ?_
    exact xr_ireturn hC dX10_stepX_18 hf
  refine xr_iconst (pc' := 5) (1 : Int32) hC dX10_stepX_4 rfl (by decide) ?_
  refine xr_goto 18 hC dX10_stepX_5 (by decide) ?_
  exact xr_ireturn hC dX10_stepX_18 hf

set_option maxRecDepth 100000 in
set_option maxHeartbeats 4000000 in
theorem c_m_stepY {l : Launch} {E : mE} {N : Nat} (hG : xOk (GM E)) {l0 : Int32} {σ : xS} {r : Int32} {σ' : xS} (hf : m_stepY N l0 σ = some (r, σ')) : xMet l (GM E) yX10_stepY cX10_stepY 1 (some .int) (k2_rm 0 0) [.int l0] σ (some (.int r)) σ' := by
  refine x_met (own := RX10) (by decide +kernel) hG rfl (Nat.le_of_ble_eq_true rfl) (fun C hl hC => ?_)
  subst hl
  show xw C (GM E) 1 (xq C (GM E) (some (.int r)) σ') σ 0 [(0, .int l0)] []
  unfold m_stepY at hf
  refine xr_iload_n (pc' := 1) 0 hC dX10_stepY_0 rfl rfl rfl ?_
  refine xr_iconst (pc' := 2) (2 : Int32) hC dX10_stepY_1 rfl (by decide) ?_
  refine xr_icmp_ne (pc' := 5) 9 hC dX10_stepY_2 rfl (by decide) hf (fun hf => ?_) (fun hf => ?_)
  · refine xr_iload_n (pc' := 10) 0 hC dX10_stepY_9 rfl rfl rfl ?_
    refine xr_iconst (pc' := 11) (3 : Int32) hC dX10_stepY_10 rfl (by decide) ?_
    refine xr_icmp_ne (pc' := 14) 18 hC dX10_stepY_11 rfl (by decide) hf (fun hf => ?_) (fun hf => ?_)
    · refine xr_iconst (pc' := 19) (0 : Int32) hC dX10_stepY_18 rfl (by decide) ?_
      exact xr_ireturn hC dX10_stepY_19 hf
    refine xr_iconst (pc' := 15) (-1 : Int32) hC dX10_stepY_14 rfl (by decide) ?_
    refine xr_goto 19 hC dX10_stepY_15 (by decide) ?_
    exact xr_ireturn hC dX10_stepY_19 hf
  refine xr_iconst (pc' := 6) (1 : Int32) hC dX10_stepY_5 rfl (by decide) ?_
  refine xr_goto 19 hC dX10_stepY_6 (by decide) ?_
  exact xr_ireturn hC dX10_stepY_19 hf

set_option maxRecDepth 100000 in
set_option maxHeartbeats 4000000 in
theorem c_m_stepZ {l : Launch} {E : mE} {N : Nat} (hG : xOk (GM E)) {l0 : Int32} {σ : xS} {r : Int32} {σ' : xS} (hf : m_stepZ N l0 σ = some (r, σ')) : xMet l (GM E) yX10_stepZ cX10_stepZ 1 (some .int) (k2_rm 0 0) [.int l0] σ (some (.int r)) σ' := by
  refine x_met (own := RX10) (by decide +kernel) hG rfl (Nat.le_of_ble_eq_true rfl) (fun C hl hC => ?_)
  subst hl
  show xw C (GM E) 1 (xq C (GM E) (some (.int r)) σ') σ 0 [(0, .int l0)] []
  unfold m_stepZ at hf
  refine xr_iload_n (pc' := 1) 0 hC dX10_stepZ_0 rfl rfl rfl ?_
  refine xr_iconst (pc' := 2) (4 : Int32) hC dX10_stepZ_1 rfl (by decide) ?_
  refine xr_icmp_ne (pc' := 5) 9 hC dX10_stepZ_2 rfl (by decide) hf (fun hf => ?_) (fun hf => ?_)
  · refine xr_iload_n (pc' := 10) 0 hC dX10_stepZ_9 rfl rfl rfl ?_
    refine xr_iconst (pc' := 11) (5 : Int32) hC dX10_stepZ_10 rfl (by decide) ?_
    refine xr_icmp_ne (pc' := 14) 18 hC dX10_stepZ_11 rfl (by decide) hf (fun hf => ?_) (fun hf => ?_)
    · refine xr_iconst (pc' := 19) (0 : Int32) hC dX10_stepZ_18 rfl (by decide) ?_
      exact xr_ireturn hC dX10_stepZ_19 hf
    refine xr_iconst (pc' := 15) (-1 : Int32) hC dX10_stepZ_14 rfl (by decide) ?_
    refine xr_goto 19 hC dX10_stepZ_15 (by decide) ?_
    exact xr_ireturn hC dX10_stepZ_19 hf
  refine xr_iconst (pc' := 6) (1 : Int32) hC dX10_stepZ_5 rfl (by decide) ?_
  refine xr_goto 19 hC dX10_stepZ_6 (by decide) ?_
  exact xr_ireturn hC dX10_stepZ_19 hf

set_option maxRecDepth 100000 in
set_option maxHeartbeats 4000000 in
theorem w_m_waysOf_b65 {C : xT} {E : mE} {N : Nat} {r : Int32} {σ' : xS} (hC : xc C (GM E) RX10 cX10_waysOf 10 (some .int) (k2_rm 1 23)) (K6 : Int32 → Int32 → Int32 → Int32 → Int32 → xS → Option (Int32 × xS)) (hK6 : ∀ (l1 l2 l3 l4 l5 : Int32) (σ : xS), K6 l1 l2 l3 l4 l5 σ = some (r, σ') → xw C (GM E) 10 (xq C (GM E) (some (.int r)) σ') σ 6 [(0, .ref (E.2.2.1 0)), (1, .int l1), (2, .int l2), (3, .int l3), (4, .int l4), (5, .int l5)] []) (K25 : Int32 → Int32 → Int32 → Int32 → Int32 → Int32 → Int32 → Int32 → Int32 → xS → Option (Int32 × xS)) (hK25 : ∀ (l1 l2 l3 l4 l5 l6 l7 l8 l9 : Int32) (σ : xS), K25 l1 l2 l3 l4 l5 l6 l7 l8 l9 σ = some (r, σ') → xw C (GM E) 10 (xq C (GM E) (some (.int r)) σ') σ 25 [(0, .ref (E.2.2.1 0)), (1, .int l1), (2, .int l2), (3, .int l3), (4, .int l4), (5, .int l5), (6, .int l6), (7, .int l7), (8, .int l8), (9, .int l9)] []) : ∀ (l1 l2 l3 l4 l5 l7 l8 l9 s0 : Int32) (σ : xS), m_waysOf_b65 N K6 K25 l1 l2 l3 l4 l5 l7 l8 l9 s0 σ = some (r, σ') → xw C (GM E) 10 (xq C (GM E) (some (.int r)) σ') σ 65 [(0, .ref (E.2.2.1 0)), (1, .int l1), (2, .int l2), (3, .int l3), (4, .int l4), (5, .int l5), (7, .int l7), (8, .int l8), (9, .int l9)] [.int s0] := by
  intro l1 l2 l3 l4 l5 l7 l8 l9 s0 σ hf
  unfold m_waysOf_b65 at hf
  refine xr_istore (pc' := 67) (lv' := [(0, .ref (E.2.2.1 0)), (1, .int l1), (2, .int l2), (3, .int l3), (4, .int l4), (5, .int l5), (6, .int s0), (7, .int l7), (8, .int l8), (9, .int l9)]) hC dX10_waysOf_65 rfl (by decide) [1, 2, 3, 4, 5, 6, 0, 7, 8, 9] rfl ?_
  refine xr_iload (pc' := 69) 7 hC dX10_waysOf_67 rfl rfl ?_
  refine xr_iload (pc' := 71) 5 hC dX10_waysOf_69 rfl rfl ?_
  refine xr_callS (pc' := 74) (rmy := k2_rm 0 0) [.int l5] hC dX10_waysOf_71 rfl kX10_218 rfl rfl rfl ⟨Nat.le_of_ble_eq_true rfl, Nat.le_of_ble_eq_true rfl⟩ rfl (Nat.le_of_ble_eq_true rfl) hf (fun _ _ h => c_m_stepX (xc_ok hC) h) (fun v6 σ7 hf => ?_)
  refine xr_iadd (pc' := 75) hC dX10_waysOf_74 rfl ?_
  refine xr_istoreb (pc' := 77) hC dX10_waysOf_75 rfl hf (by decide) [1, 2, 3, 4, 5, 6, 7, 0, 8, 9] (fun l7_8 => [(0, .ref (E.2.2.1 0)), (1, .int l1), (2, .int l2), (3, .int l3), (4, .int l4), (5, .int l5), (6, .int s0), (7, .int l7_8), (8, .int l8), (9, .int l9)]) (fun _ => rfl) (fun l7_8 hf => ?_)
  refine xr_iload (pc' := 79) 8 hC dX10_waysOf_77 rfl rfl ?_
  refine xr_iload (pc' := 81) 5 hC dX10_waysOf_79 rfl rfl ?_
  refine xr_callS (pc' := 84) (rmy := k2_rm 0 0) [.int l5] hC dX10_waysOf_81 rfl kX10_221 rfl rfl rfl ⟨Nat.le_of_ble_eq_true rfl, Nat.le_of_ble_eq_true rfl⟩ rfl (Nat.le_of_ble_eq_true rfl) hf (fun _ _ h => c_m_stepY (xc_ok hC) h) (fun v9 σ10 hf => ?_)
  refine xr_iadd (pc' := 85) hC dX10_waysOf_84 rfl ?_
  refine xr_istoreb (pc' := 87) hC dX10_waysOf_85 rfl hf (by decide) [1, 2, 3, 4, 5, 6, 7, 8, 0, 9] (fun l8_11 => [(0, .ref (E.2.2.1 0)), (1, .int l1), (2, .int l2), (3, .int l3), (4, .int l4), (5, .int l5), (6, .int s0), (7, .int l7_8), (8, .int l8_11), (9, .int l9)]) (fun _ => rfl) (fun l8_11 hf => ?_)
  refine xr_iload (pc' := 89) 9 hC dX10_waysOf_87 rfl rfl ?_
  refine xr_iload (pc' := 91) 5 hC dX10_waysOf_89 rfl rfl ?_
  refine xr_callS (pc' := 94) (rmy := k2_rm 0 0) [.int l5] hC dX10_waysOf_91 rfl kX10_224 rfl rfl rfl ⟨Nat.le_of_ble_eq_true rfl, Nat.le_of_ble_eq_true rfl⟩ rfl (Nat.le_of_ble_eq_true rfl) hf (fun _ _ h => c_m_stepZ (xc_ok hC) h) (fun v12 σ13 hf => ?_)
  refine xr_iadd (pc' := 95) hC dX10_waysOf_94 rfl ?_
  refine xr_istoreb (pc' := 97) hC dX10_waysOf_95 rfl hf (by decide) [1, 2, 3, 4, 5, 6, 7, 8, 9, 0] (fun l9_14 => [(0, .ref (E.2.2.1 0)), (1, .int l1), (2, .int l2), (3, .int l3), (4, .int l4), (5, .int l5), (6, .int s0), (7, .int l7_8), (8, .int l8_11), (9, .int l9_14)]) (fun _ => rfl) (fun l9_14 hf => ?_)
  refine xr_goto 25 hC dX10_waysOf_97 (by decide) ?_
  exact hK25 _ _ _ _ _ _ _ _ _ _ hf

set_option maxRecDepth 100000 in
set_option maxHeartbeats 4000000 in
theorem w_m_waysOf_b25 {C : xT} {E : mE} {N : Nat} {r : Int32} {σ' : xS} (hC : xc C (GM E) RX10 cX10_waysOf 10 (some .int) (k2_rm 1 23)) (K6 : Int32 → Int32 → Int32 → Int32 → Int32 → xS → Option (Int32 × xS)) (hK6 : ∀ (l1 l2 l3 l4 l5 : Int32) (σ : xS), K6 l1 l2 l3 l4 l5 σ = some (r, σ') → xw C (GM E) 10 (xq C (GM E) (some (.int r)) σ') σ 6 [(0, .ref (E.2.2.1 0)), (1, .int l1), (2, .int l2), (3, .int l3), (4, .int l4), (5, .int l5)] []) : ∀ (n : Nat) (l1 l2 l3 l4 l5 l6 l7 l8 l9 : Int32) (σ : xS), m_waysOf_b25 N K6 n l1 l2 l3 l4 l5 l6 l7 l8 l9 σ = some (r, σ') → xw C (GM E) 10 (xq C (GM E) (some (.int r)) σ') σ 25 [(0, .ref (E.2.2.1 0)), (1, .int l1), (2, .int l2), (3, .int l3), (4, .int l4), (5, .int l5), (6, .int l6), (7, .int l7), (8, .int l8), (9, .int l9)] [] := by
  intro n
  induction n with
  | zero =>
    intro l1 l2 l3 l4 l5 l6 l7 l8 l9 σ hf
    rw [m_waysOf_b25] at hf
    cases hf
  | succ n ih =>
    intro l1 l2 l3 l4 l5 l6 l7 l8 l9 σ hf
    rw [m_waysOf_b25] at hf
    refine xr_aload_n (pc' := 26) 0 hC dX10_waysOf_25 rfl rfl rfl ?_
    refine xr_iload (pc' := 28) 7 hC dX10_waysOf_26 rfl rfl ?_
    refine xr_iload (pc' := 30) 8 hC dX10_waysOf_28 rfl rfl ?_
    refine xr_iload (pc' := 32) 9 hC dX10_waysOf_30 rfl rfl ?_
    refine xr_callV (pc' := 35) (rmy := k2_rm 0 0) [.int l7, .int l8, .int l9] 0 hC dX10_waysOf_32 rfl kX10_215 rfl rfl rfl rfl rfl ⟨Nat.le_of_ble_eq_true rfl, Nat.le_of_ble_eq_true rfl⟩ rfl (Nat.le_of_ble_eq_true rfl) hf (fun _ _ h => c_m_isMould (xc_ok hC) h) (fun v1 σ2 hf => ?_)
    refine xr_if_eq (pc' := 38) 100 hC dX10_waysOf_35 rfl (by decide) hf (fun hf => ?_) (fun hf => ?_)
    · refine xr_iload (pc' := 102) 6 hC dX10_waysOf_100 rfl rfl ?_
      refine xr_if_eq (pc' := 105) 114 hC dX10_waysOf_102 rfl (by decide) hf (fun hf => ?_) (fun hf => ?_)
      · refine xr_iinc (pc' := 117) hC dX10_waysOf_114 rfl _ rfl hf 5 rfl (by decide) [1, 2, 3, 4, 5, 0, 6, 7, 8, 9] (fun l5_3 => [(0, .ref (E.2.2.1 0)), (1, .int l1), (2, .int l2), (3, .int l3), (4, .int l4), (5, .int l5_3), (6, .int l6), (7, .int l7), (8, .int l8), (9, .int l9)]) (fun _ => rfl) (fun l5_3 hf => ?_)
        refine xr_goto 6 hC dX10_waysOf_117 (by decide) ?_
        refine x_lv [0, 1, 2, 3, 4, 5] rfl ?_
        exact hK6 _ _ _ _ _ _ hf
      refine xr_iload (pc' := 107) 4 hC dX10_waysOf_105 rfl rfl ?_
      refine xr_iconst (pc' := 108) (1 : Int32) hC dX10_waysOf_107 rfl (by decide) ?_
      refine xr_iload (pc' := 110) 5 hC dX10_waysOf_108 rfl rfl ?_
      refine xr_ishl (pc' := 111) hC dX10_waysOf_110 rfl ?_
      refine xr_ior (pc' := 112) hC dX10_waysOf_111 rfl ?_
      refine xr_istoreb (pc' := 114) hC dX10_waysOf_112 rfl hf (by decide) [1, 2, 3, 4, 0, 5, 6, 7, 8, 9] (fun l4_4 => [(0, .ref (E.2.2.1 0)), (1, .int l1), (2, .int l2), (3, .int l3), (4, .int l4_4), (5, .int l5), (6, .int l6), (7, .int l7), (8, .int l8), (9, .int l9)]) (fun _ => rfl) (fun l4_4 hf => ?_)
      refine xr_iinc (pc' := 117) hC dX10_waysOf_114 rfl _ rfl hf 5 rfl (by decide) [1, 2, 3, 4, 5, 0, 6, 7, 8, 9] (fun l5_5 => [(0, .ref (E.2.2.1 0)), (1, .int l1), (2, .int l2), (3, .int l3), (4, .int l4_4), (5, .int l5_5), (6, .int l6), (7, .int l7), (8, .int l8), (9, .int l9)]) (fun _ => rfl) (fun l5_5 hf => ?_)
      refine xr_goto 6 hC dX10_waysOf_117 (by decide) ?_
      refine x_lv [0, 1, 2, 3, 4, 5] rfl ?_
      exact hK6 _ _ _ _ _ _ hf
    refine xr_iload (pc' := 40) 6 hC dX10_waysOf_38 rfl rfl ?_
    refine xr_if_eq (pc' := 43) 64 hC dX10_waysOf_40 rfl (by decide) hf (fun hf => ?_) (fun hf => ?_)
    · refine xr_iconst (pc' := 65) (0 : Int32) hC dX10_waysOf_64 rfl (by decide) ?_
      refine x_lv [0, 1, 2, 3, 4, 5, 7, 8, 9] rfl ?_
      exact w_m_waysOf_b65 hC (K6) hK6 (m_waysOf_b25 N K6 n) ih _ _ _ _ _ _ _ _ _ _ hf
    refine xr_aload_n (pc' := 44) 0 hC dX10_waysOf_43 rfl rfl rfl ?_
    refine gX10_m_solid (pc' := 47) hC dX10_waysOf_44 rfl ?_
    refine xr_iload (pc' := 49) 7 hC dX10_waysOf_47 rfl rfl ?_
    refine xr_iload (pc' := 51) 8 hC dX10_waysOf_49 rfl rfl ?_
    refine xr_iload (pc' := 53) 9 hC dX10_waysOf_51 rfl rfl ?_
    refine xr_callS (pc' := 56) (rmy := k2_rm 0 0) [.int l7, .int l8, .int l9] hC dX10_waysOf_53 rfl kX10_209 rfl rfl rfl ⟨Nat.le_of_ble_eq_true rfl, Nat.le_of_ble_eq_true rfl⟩ rfl (Nat.le_of_ble_eq_true rfl) hf (fun _ _ h => c_m_place (xc_ok hC) h) (fun v15 σ16 hf => ?_)
    refine lM_8 (pc' := 57) hC dX10_waysOf_56 rfl hf (fun v17 hf => ?_)
    refine xr_if_ne (pc' := 60) 64 hC dX10_waysOf_57 rfl (by decide) hf (fun hf => ?_) (fun hf => ?_)
    · refine xr_iconst (pc' := 65) (0 : Int32) hC dX10_waysOf_64 rfl (by decide) ?_
      refine x_lv [0, 1, 2, 3, 4, 5, 7, 8, 9] rfl ?_
      exact w_m_waysOf_b65 hC (K6) hK6 (m_waysOf_b25 N K6 n) ih _ _ _ _ _ _ _ _ _ _ hf
    refine xr_iconst (pc' := 61) (1 : Int32) hC dX10_waysOf_60 rfl (by decide) ?_
    refine xr_goto 65 hC dX10_waysOf_61 (by decide) ?_
    refine x_lv [0, 1, 2, 3, 4, 5, 7, 8, 9] rfl ?_
    exact w_m_waysOf_b65 hC (K6) hK6 (m_waysOf_b25 N K6 n) ih _ _ _ _ _ _ _ _ _ _ hf

set_option maxRecDepth 100000 in
set_option maxHeartbeats 4000000 in
theorem w_m_waysOf_b6 {C : xT} {E : mE} {N : Nat} {r : Int32} {σ' : xS} (hC : xc C (GM E) RX10 cX10_waysOf 10 (some .int) (k2_rm 1 23)) : ∀ (n : Nat) (l1 l2 l3 l4 l5 : Int32) (σ : xS), m_waysOf_b6 N n l1 l2 l3 l4 l5 σ = some (r, σ') → xw C (GM E) 10 (xq C (GM E) (some (.int r)) σ') σ 6 [(0, .ref (E.2.2.1 0)), (1, .int l1), (2, .int l2), (3, .int l3), (4, .int l4), (5, .int l5)] [] := by
  intro n
  induction n with
  | zero =>
    intro l1 l2 l3 l4 l5 σ hf
    rw [m_waysOf_b6] at hf
    cases hf
  | succ n ih =>
    intro l1 l2 l3 l4 l5 σ hf
    rw [m_waysOf_b6] at hf
    refine xr_iload (pc' := 8) 5 hC dX10_waysOf_6 rfl rfl ?_
    refine xr_bipush (pc' := 10) (6 : Int32) hC dX10_waysOf_8 rfl (by decide) ?_
    refine xr_icmp_ge (pc' := 13) 120 hC dX10_waysOf_10 rfl (by decide) hf (fun hf => ?_) (fun hf => ?_)
    · refine xr_iload (pc' := 122) 4 hC dX10_waysOf_120 rfl rfl ?_
      exact xr_ireturn hC dX10_waysOf_122 hf
    refine xr_iconst (pc' := 14) (1 : Int32) hC dX10_waysOf_13 rfl (by decide) ?_
    refine xr_istore (pc' := 16) (lv' := [(0, .ref (E.2.2.1 0)), (1, .int l1), (2, .int l2), (3, .int l3), (4, .int l4), (5, .int l5), (6, .int (1 : Int32))]) hC dX10_waysOf_14 rfl (by decide) [1, 2, 3, 4, 5, 6, 0] rfl ?_
    refine xr_iload_n (pc' := 17) 1 hC dX10_waysOf_16 rfl rfl rfl ?_
    refine xr_istore (pc' := 19) (lv' := [(0, .ref (E.2.2.1 0)), (1, .int l1), (2, .int l2), (3, .int l3), (4, .int l4), (5, .int l5), (6, .int (1 : Int32)), (7, .int l1)]) hC dX10_waysOf_17 rfl (by decide) [1, 2, 3, 4, 5, 6, 7, 0] rfl ?_
    refine xr_iload_n (pc' := 20) 2 hC dX10_waysOf_19 rfl rfl rfl ?_
    refine xr_istore (pc' := 22) (lv' := [(0, .ref (E.2.2.1 0)), (1, .int l1), (2, .int l2), (3, .int l3), (4, .int l4), (5, .int l5), (6, .int (1 : Int32)), (7, .int l1), (8, .int l2)]) hC dX10_waysOf_20 rfl (by decide) [1, 2, 3, 4, 5, 6, 7, 8, 0] rfl ?_
    refine xr_iload_n (pc' := 23) 3 hC dX10_waysOf_22 rfl rfl rfl ?_
    refine xr_istore (pc' := 25) (lv' := [(0, .ref (E.2.2.1 0)), (1, .int l1), (2, .int l2), (3, .int l3), (4, .int l4), (5, .int l5), (6, .int (1 : Int32)), (7, .int l1), (8, .int l2), (9, .int l3)]) hC dX10_waysOf_23 rfl (by decide) [1, 2, 3, 4, 5, 6, 7, 8, 9, 0] rfl ?_
    exact w_m_waysOf_b25 hC (m_waysOf_b6 N n) ih N _ _ _ _ _ _ _ _ _ _ hf

set_option maxRecDepth 100000 in
set_option maxHeartbeats 4000000 in
theorem c_m_waysOf {l : Launch} {E : mE} {N : Nat} (hG : xOk (GM E)) {l1 l2 l3 : Int32} {σ : xS} {r : Int32} {σ' : xS} (hf : m_waysOf N l1 l2 l3 σ = some (r, σ')) : xMet l (GM E) yX10_waysOf cX10_waysOf 10 (some .int) (k2_rm 1 23) [.ref (E.2.2.1 0), .int l1, .int l2, .int l3] σ (some (.int r)) σ' := by
  refine x_met (own := RX10) (by decide +kernel) hG rfl (Nat.le_of_ble_eq_true rfl) (fun C hl hC => ?_)
  subst hl
  show xw C (GM E) 10 (xq C (GM E) (some (.int r)) σ') σ 0 [(0, .ref (E.2.2.1 0)), (1, .int l1), (2, .int l2), (3, .int l3)] []
  unfold m_waysOf at hf
  refine xr_iconst (pc' := 1) (0 : Int32) hC dX10_waysOf_0 rfl (by decide) ?_
  refine xr_istore (pc' := 3) (lv' := [(0, .ref (E.2.2.1 0)), (1, .int l1), (2, .int l2), (3, .int l3), (4, .int (0 : Int32))]) hC dX10_waysOf_1 rfl (by decide) [1, 2, 3, 4, 0] rfl ?_
  refine xr_iconst (pc' := 4) (0 : Int32) hC dX10_waysOf_3 rfl (by decide) ?_
  refine xr_istore (pc' := 6) (lv' := [(0, .ref (E.2.2.1 0)), (1, .int l1), (2, .int l2), (3, .int l3), (4, .int (0 : Int32)), (5, .int (0 : Int32))]) hC dX10_waysOf_4 rfl (by decide) [1, 2, 3, 4, 5, 0] rfl ?_
  exact w_m_waysOf_b6 hC N _ _ _ _ _ _ hf

set_option maxRecDepth 100000 in
set_option maxHeartbeats 4000000 in
theorem w_m_form_b302 {C : xT} {E : mE} {N : Nat} {r : Int32} {σ' : xS} (hC : xc C (GM E) RX10 cX10_form 8 (some .int) (k2_rm 4 89)) (K284 : Int32 → Int32 → Int32 → Int32 → Int32 → xS → Option (Int32 × xS)) (hK284 : ∀ (l1 l2 l3 l4 l5 : Int32) (σ : xS), K284 l1 l2 l3 l4 l5 σ = some (r, σ') → xw C (GM E) 8 (xq C (GM E) (some (.int r)) σ') σ 284 [(0, .ref (E.2.2.1 0)), (1, .int l1), (2, .int l2), (3, .int l3), (4, .int l4), (5, .int l5)] []) (K293 : Int32 → Int32 → Int32 → Int32 → Int32 → Int32 → xS → Option (Int32 × xS)) (hK293 : ∀ (l1 l2 l3 l4 l5 l6 : Int32) (σ : xS), K293 l1 l2 l3 l4 l5 l6 σ = some (r, σ') → xw C (GM E) 8 (xq C (GM E) (some (.int r)) σ') σ 293 [(0, .ref (E.2.2.1 0)), (1, .int l1), (2, .int l2), (3, .int l3), (4, .int l4), (5, .int l5), (6, .int l6)] []) : ∀ (n : Nat) (l1 l2 l3 l4 l5 l6 l7 : Int32) (σ : xS), m_form_b302 N K284 K293 n l1 l2 l3 l4 l5 l6 l7 σ = some (r, σ') → xw C (GM E) 8 (xq C (GM E) (some (.int r)) σ') σ 302 [(0, .ref (E.2.2.1 0)), (1, .int l1), (2, .int l2), (3, .int l3), (4, .int l4), (5, .int l5), (6, .int l6), (7, .int l7)] [] := by
  intro n
  induction n with
  | zero =>
    intro l1 l2 l3 l4 l5 l6 l7 σ hf
    rw [m_form_b302] at hf
    cases hf
  | succ n ih =>
    intro l1 l2 l3 l4 l5 l6 l7 σ hf
    rw [m_form_b302] at hf
    refine xr_iload (pc' := 304) 7 hC dX10_form_302 rfl rfl ?_
    refine xr_iload_n (pc' := 305) 1 hC dX10_form_304 rfl rfl rfl ?_
    refine xr_icmp_gt (pc' := 308) 359 hC dX10_form_305 rfl (by decide) hf (fun hf => ?_) (fun hf => ?_)
    · refine xr_iinc (pc' := 362) hC dX10_form_359 rfl _ rfl hf 6 rfl (by decide) [1, 2, 3, 4, 5, 6, 0, 7] (fun l6_26 => [(0, .ref (E.2.2.1 0)), (1, .int l1), (2, .int l2), (3, .int l3), (4, .int l4), (5, .int l5), (6, .int l6_26), (7, .int l7)]) (fun _ => rfl) (fun l6_26 hf => ?_)
      refine xr_goto 293 hC dX10_form_362 (by decide) ?_
      refine x_lv [0, 1, 2, 3, 4, 5, 6] rfl ?_
      exact hK293 _ _ _ _ _ _ _ hf
    refine xr_aload_n (pc' := 309) 0 hC dX10_form_308 rfl rfl rfl ?_
    refine gX10_m_ways (pc' := 312) hC dX10_form_309 rfl ?_
    refine xr_iload (pc' := 314) 7 hC dX10_form_312 rfl rfl ?_
    refine xr_iload (pc' := 316) 6 hC dX10_form_314 rfl rfl ?_
    refine xr_iload (pc' := 318) 5 hC dX10_form_316 rfl rfl ?_
    refine xr_callS (pc' := 321) (rmy := k2_rm 0 0) [.int l7, .int l6, .int l5] hC dX10_form_318 rfl kX10_209 rfl rfl rfl ⟨Nat.le_of_ble_eq_true rfl, Nat.le_of_ble_eq_true rfl⟩ rfl (Nat.le_of_ble_eq_true rfl) hf (fun _ _ h => c_m_place (xc_ok hC) h) (fun v27 σ28 hf => ?_)
    refine xr_aload_n (pc' := 322) 0 hC dX10_form_321 rfl rfl rfl ?_
    refine gX10_m_solid (pc' := 325) hC dX10_form_322 rfl ?_
    refine xr_iload (pc' := 327) 7 hC dX10_form_325 rfl rfl ?_
    refine xr_iload (pc' := 329) 6 hC dX10_form_327 rfl rfl ?_
    refine xr_iload (pc' := 331) 5 hC dX10_form_329 rfl rfl ?_
    refine xr_callS (pc' := 334) (rmy := k2_rm 0 0) [.int l7, .int l6, .int l5] hC dX10_form_331 rfl kX10_209 rfl rfl rfl ⟨Nat.le_of_ble_eq_true rfl, Nat.le_of_ble_eq_true rfl⟩ rfl (Nat.le_of_ble_eq_true rfl) hf (fun _ _ h => c_m_place (xc_ok hC) h) (fun v29 σ30 hf => ?_)
    refine lM_8 (pc' := 335) hC dX10_form_334 rfl hf (fun v31 hf => ?_)
    refine xr_if_eq (pc' := 338) 342 hC dX10_form_335 rfl (by decide) hf (fun hf => ?_) (fun hf => ?_)
    · refine xr_aload_n (pc' := 343) 0 hC dX10_form_342 rfl rfl rfl ?_
      refine xr_iload (pc' := 345) 7 hC dX10_form_343 rfl rfl ?_
      refine xr_iload (pc' := 347) 6 hC dX10_form_345 rfl rfl ?_
      refine xr_iload (pc' := 349) 5 hC dX10_form_347 rfl rfl ?_
      refine xr_callV (pc' := 352) (rmy := k2_rm 1 23) [.int l7, .int l6, .int l5] 0 hC dX10_form_349 rfl kX10_212 rfl rfl rfl rfl rfl ⟨Nat.le_of_ble_eq_true rfl, Nat.le_of_ble_eq_true rfl⟩ rfl (Nat.le_of_ble_eq_true rfl) hf (fun _ _ h => c_m_waysOf (xc_ok hC) h) (fun v32 σ33 hf => ?_)
      refine sM_9 (pc' := 353) hC dX10_form_352 rfl hf (fun σ34 hf => ?_)
      refine xr_iinc (pc' := 356) hC dX10_form_353 rfl _ rfl hf 7 rfl (by decide) [1, 2, 3, 4, 5, 6, 7, 0] (fun l7_35 => [(0, .ref (E.2.2.1 0)), (1, .int l1), (2, .int l2), (3, .int l3), (4, .int l4), (5, .int l5), (6, .int l6), (7, .int l7_35)]) (fun _ => rfl) (fun l7_35 hf => ?_)
      refine xr_goto 302 hC dX10_form_356 (by decide) ?_
      exact ih _ _ _ _ _ _ _ _ hf
    refine xr_iconst (pc' := 339) (0 : Int32) hC dX10_form_338 rfl (by decide) ?_
    refine xr_goto 352 hC dX10_form_339 (by decide) ?_
    refine sM_9 (pc' := 353) hC dX10_form_352 rfl hf (fun σ36 hf => ?_)
    refine xr_iinc (pc' := 356) hC dX10_form_353 rfl _ rfl hf 7 rfl (by decide) [1, 2, 3, 4, 5, 6, 7, 0] (fun l7_37 => [(0, .ref (E.2.2.1 0)), (1, .int l1), (2, .int l2), (3, .int l3), (4, .int l4), (5, .int l5), (6, .int l6), (7, .int l7_37)]) (fun _ => rfl) (fun l7_37 hf => ?_)
    refine xr_goto 302 hC dX10_form_356 (by decide) ?_
    exact ih _ _ _ _ _ _ _ _ hf

set_option maxRecDepth 100000 in
set_option maxHeartbeats 4000000 in
theorem w_m_form_b293 {C : xT} {E : mE} {N : Nat} {r : Int32} {σ' : xS} (hC : xc C (GM E) RX10 cX10_form 8 (some .int) (k2_rm 4 89)) (K284 : Int32 → Int32 → Int32 → Int32 → Int32 → xS → Option (Int32 × xS)) (hK284 : ∀ (l1 l2 l3 l4 l5 : Int32) (σ : xS), K284 l1 l2 l3 l4 l5 σ = some (r, σ') → xw C (GM E) 8 (xq C (GM E) (some (.int r)) σ') σ 284 [(0, .ref (E.2.2.1 0)), (1, .int l1), (2, .int l2), (3, .int l3), (4, .int l4), (5, .int l5)] []) : ∀ (n : Nat) (l1 l2 l3 l4 l5 l6 : Int32) (σ : xS), m_form_b293 N K284 n l1 l2 l3 l4 l5 l6 σ = some (r, σ') → xw C (GM E) 8 (xq C (GM E) (some (.int r)) σ') σ 293 [(0, .ref (E.2.2.1 0)), (1, .int l1), (2, .int l2), (3, .int l3), (4, .int l4), (5, .int l5), (6, .int l6)] [] := by
  intro n
  induction n with
  | zero =>
    intro l1 l2 l3 l4 l5 l6 σ hf
    rw [m_form_b293] at hf
    cases hf
  | succ n ih =>
    intro l1 l2 l3 l4 l5 l6 σ hf
    rw [m_form_b293] at hf
    refine xr_iload (pc' := 295) 6 hC dX10_form_293 rfl rfl ?_
    refine xr_iload_n (pc' := 296) 2 hC dX10_form_295 rfl rfl rfl ?_
    refine xr_icmp_gt (pc' := 299) 365 hC dX10_form_296 rfl (by decide) hf (fun hf => ?_) (fun hf => ?_)
    · refine xr_iinc (pc' := 368) hC dX10_form_365 rfl _ rfl hf 5 rfl (by decide) [1, 2, 3, 4, 5, 0, 6] (fun l5_25 => [(0, .ref (E.2.2.1 0)), (1, .int l1), (2, .int l2), (3, .int l3), (4, .int l4), (5, .int l5_25), (6, .int l6)]) (fun _ => rfl) (fun l5_25 hf => ?_)
      refine xr_goto 284 hC dX10_form_368 (by decide) ?_
      refine x_lv [0, 1, 2, 3, 4, 5] rfl ?_
      exact hK284 _ _ _ _ _ _ hf
    refine xr_iconst (pc' := 300) (-1 : Int32) hC dX10_form_299 rfl (by decide) ?_
    refine xr_istore (pc' := 302) (lv' := [(0, .ref (E.2.2.1 0)), (1, .int l1), (2, .int l2), (3, .int l3), (4, .int l4), (5, .int l5), (6, .int l6), (7, .int (-1 : Int32))]) hC dX10_form_300 rfl (by decide) [1, 2, 3, 4, 5, 6, 7, 0] rfl ?_
    exact w_m_form_b302 hC (K284) hK284 (m_form_b293 N K284 n) ih N _ _ _ _ _ _ _ _ hf

set_option maxRecDepth 100000 in
set_option maxHeartbeats 4000000 in
theorem w_m_form_b284 {C : xT} {E : mE} {N : Nat} {r : Int32} {σ' : xS} (hC : xc C (GM E) RX10 cX10_form 8 (some .int) (k2_rm 4 89)) : ∀ (n : Nat) (l1 l2 l3 l4 l5 : Int32) (σ : xS), m_form_b284 N n l1 l2 l3 l4 l5 σ = some (r, σ') → xw C (GM E) 8 (xq C (GM E) (some (.int r)) σ') σ 284 [(0, .ref (E.2.2.1 0)), (1, .int l1), (2, .int l2), (3, .int l3), (4, .int l4), (5, .int l5)] [] := by
  intro n
  induction n with
  | zero =>
    intro l1 l2 l3 l4 l5 σ hf
    rw [m_form_b284] at hf
    cases hf
  | succ n ih =>
    intro l1 l2 l3 l4 l5 σ hf
    rw [m_form_b284] at hf
    refine xr_iload (pc' := 286) 5 hC dX10_form_284 rfl rfl ?_
    refine xr_iload_n (pc' := 287) 3 hC dX10_form_286 rfl rfl rfl ?_
    refine xr_icmp_gt (pc' := 290) 371 hC dX10_form_287 rfl (by decide) hf (fun hf => ?_) (fun hf => ?_)
    · refine xr_iload (pc' := 373) 4 hC dX10_form_371 rfl rfl ?_
      exact xr_ireturn hC dX10_form_373 hf
    refine xr_iconst (pc' := 291) (-1 : Int32) hC dX10_form_290 rfl (by decide) ?_
    refine xr_istore (pc' := 293) (lv' := [(0, .ref (E.2.2.1 0)), (1, .int l1), (2, .int l2), (3, .int l3), (4, .int l4), (5, .int l5), (6, .int (-1 : Int32))]) hC dX10_form_291 rfl (by decide) [1, 2, 3, 4, 5, 6, 0] rfl ?_
    exact w_m_form_b293 hC (m_form_b284 N n) ih N _ _ _ _ _ _ _ hf

set_option maxRecDepth 100000 in
set_option maxHeartbeats 4000000 in
theorem w_m_form_b209 {C : xT} {E : mE} {N : Nat} {r : Int32} {σ' : xS} (hC : xc C (GM E) RX10 cX10_form 8 (some .int) (k2_rm 4 89)) (K191 : Int32 → Int32 → Int32 → Int32 → Int32 → xS → Option (Int32 × xS)) (hK191 : ∀ (l1 l2 l3 l4 l5 : Int32) (σ : xS), K191 l1 l2 l3 l4 l5 σ = some (r, σ') → xw C (GM E) 8 (xq C (GM E) (some (.int r)) σ') σ 191 [(0, .ref (E.2.2.1 0)), (1, .int l1), (2, .int l2), (3, .int l3), (4, .int l4), (5, .int l5)] []) (K200 : Int32 → Int32 → Int32 → Int32 → Int32 → Int32 → xS → Option (Int32 × xS)) (hK200 : ∀ (l1 l2 l3 l4 l5 l6 : Int32) (σ : xS), K200 l1 l2 l3 l4 l5 l6 σ = some (r, σ') → xw C (GM E) 8 (xq C (GM E) (some (.int r)) σ') σ 200 [(0, .ref (E.2.2.1 0)), (1, .int l1), (2, .int l2), (3, .int l3), (4, .int l4), (5, .int l5), (6, .int l6)] []) : ∀ (n : Nat) (l1 l2 l3 l4 l5 l6 l7 : Int32) (σ : xS), m_form_b209 N K191 K200 n l1 l2 l3 l4 l5 l6 l7 σ = some (r, σ') → xw C (GM E) 8 (xq C (GM E) (some (.int r)) σ') σ 209 [(0, .ref (E.2.2.1 0)), (1, .int l1), (2, .int l2), (3, .int l3), (4, .int l4), (5, .int l5), (6, .int l6), (7, .int l7)] [] := by
  intro n
  induction n with
  | zero =>
    intro l1 l2 l3 l4 l5 l6 l7 σ hf
    rw [m_form_b209] at hf
    cases hf
  | succ n ih =>
    intro l1 l2 l3 l4 l5 l6 l7 σ hf
    rw [m_form_b209] at hf
    refine xr_iload (pc' := 211) 7 hC dX10_form_209 rfl rfl ?_
    refine xr_iload_n (pc' := 212) 1 hC dX10_form_211 rfl rfl rfl ?_
    refine xr_icmp_ge (pc' := 215) 269 hC dX10_form_212 rfl (by decide) hf (fun hf => ?_) (fun hf => ?_)
    · refine xr_iinc (pc' := 272) hC dX10_form_269 rfl _ rfl hf 6 rfl (by decide) [1, 2, 3, 4, 5, 6, 0, 7] (fun l6_39 => [(0, .ref (E.2.2.1 0)), (1, .int l1), (2, .int l2), (3, .int l3), (4, .int l4), (5, .int l5), (6, .int l6_39), (7, .int l7)]) (fun _ => rfl) (fun l6_39 hf => ?_)
      refine xr_goto 200 hC dX10_form_272 (by decide) ?_
      refine x_lv [0, 1, 2, 3, 4, 5, 6] rfl ?_
      exact hK200 _ _ _ _ _ _ _ hf
    refine xr_aload_n (pc' := 216) 0 hC dX10_form_215 rfl rfl rfl ?_
    refine gX10_m_solid (pc' := 219) hC dX10_form_216 rfl ?_
    refine xr_iload (pc' := 221) 7 hC dX10_form_219 rfl rfl ?_
    refine xr_iload (pc' := 223) 6 hC dX10_form_221 rfl rfl ?_
    refine xr_iload (pc' := 225) 5 hC dX10_form_223 rfl rfl ?_
    refine xr_callS (pc' := 228) (rmy := k2_rm 0 0) [.int l7, .int l6, .int l5] hC dX10_form_225 rfl kX10_209 rfl rfl rfl ⟨Nat.le_of_ble_eq_true rfl, Nat.le_of_ble_eq_true rfl⟩ rfl (Nat.le_of_ble_eq_true rfl) hf (fun _ _ h => c_m_place (xc_ok hC) h) (fun v40 σ41 hf => ?_)
    refine xr_aload_n (pc' := 229) 0 hC dX10_form_228 rfl rfl rfl ?_
    refine gX10_m_made (pc' := 232) hC dX10_form_229 rfl ?_
    refine xr_iload (pc' := 234) 7 hC dX10_form_232 rfl rfl ?_
    refine xr_iload (pc' := 236) 6 hC dX10_form_234 rfl rfl ?_
    refine xr_iload (pc' := 238) 5 hC dX10_form_236 rfl rfl ?_
    refine xr_callS (pc' := 241) (rmy := k2_rm 0 0) [.int l7, .int l6, .int l5] hC dX10_form_238 rfl kX10_164 rfl rfl rfl ⟨Nat.le_of_ble_eq_true rfl, Nat.le_of_ble_eq_true rfl⟩ rfl (Nat.le_of_ble_eq_true rfl) hf (fun _ _ h => c_m_cell (xc_ok hC) h) (fun v42 σ43 hf => ?_)
    refine lM_5 (pc' := 242) hC dX10_form_241 rfl hf (fun v44 hf => ?_)
    refine sM_8 (pc' := 243) hC dX10_form_242 rfl hf (fun σ45 hf => ?_)
    refine xr_aload_n (pc' := 244) 0 hC dX10_form_243 rfl rfl rfl ?_
    refine gX10_m_made (pc' := 247) hC dX10_form_244 rfl ?_
    refine xr_iload (pc' := 249) 7 hC dX10_form_247 rfl rfl ?_
    refine xr_iload (pc' := 251) 6 hC dX10_form_249 rfl rfl ?_
    refine xr_iload (pc' := 253) 5 hC dX10_form_251 rfl rfl ?_
    refine xr_callS (pc' := 256) (rmy := k2_rm 0 0) [.int l7, .int l6, .int l5] hC dX10_form_253 rfl kX10_164 rfl rfl rfl ⟨Nat.le_of_ble_eq_true rfl, Nat.le_of_ble_eq_true rfl⟩ rfl (Nat.le_of_ble_eq_true rfl) hf (fun _ _ h => c_m_cell (xc_ok hC) h) (fun v46 σ47 hf => ?_)
    refine lM_5 (pc' := 257) hC dX10_form_256 rfl hf (fun v48 hf => ?_)
    refine xr_if_eq (pc' := 260) 263 hC dX10_form_257 rfl (by decide) hf (fun hf => ?_) (fun hf => ?_)
    · refine xr_iinc (pc' := 266) hC dX10_form_263 rfl _ rfl hf 7 rfl (by decide) [1, 2, 3, 4, 5, 6, 7, 0] (fun l7_49 => [(0, .ref (E.2.2.1 0)), (1, .int l1), (2, .int l2), (3, .int l3), (4, .int l4), (5, .int l5), (6, .int l6), (7, .int l7_49)]) (fun _ => rfl) (fun l7_49 hf => ?_)
      refine xr_goto 209 hC dX10_form_266 (by decide) ?_
      exact ih _ _ _ _ _ _ _ _ hf
    refine xr_iinc (pc' := 263) hC dX10_form_260 rfl _ rfl hf 4 rfl (by decide) [1, 2, 3, 4, 0, 5, 6, 7] (fun l4_50 => [(0, .ref (E.2.2.1 0)), (1, .int l1), (2, .int l2), (3, .int l3), (4, .int l4_50), (5, .int l5), (6, .int l6), (7, .int l7)]) (fun _ => rfl) (fun l4_50 hf => ?_)
    refine xr_iinc (pc' := 266) hC dX10_form_263 rfl _ rfl hf 7 rfl (by decide) [1, 2, 3, 4, 5, 6, 7, 0] (fun l7_51 => [(0, .ref (E.2.2.1 0)), (1, .int l1), (2, .int l2), (3, .int l3), (4, .int l4_50), (5, .int l5), (6, .int l6), (7, .int l7_51)]) (fun _ => rfl) (fun l7_51 hf => ?_)
    refine xr_goto 209 hC dX10_form_266 (by decide) ?_
    exact ih _ _ _ _ _ _ _ _ hf

set_option maxRecDepth 100000 in
set_option maxHeartbeats 4000000 in
theorem w_m_form_b200 {C : xT} {E : mE} {N : Nat} {r : Int32} {σ' : xS} (hC : xc C (GM E) RX10 cX10_form 8 (some .int) (k2_rm 4 89)) (K191 : Int32 → Int32 → Int32 → Int32 → Int32 → xS → Option (Int32 × xS)) (hK191 : ∀ (l1 l2 l3 l4 l5 : Int32) (σ : xS), K191 l1 l2 l3 l4 l5 σ = some (r, σ') → xw C (GM E) 8 (xq C (GM E) (some (.int r)) σ') σ 191 [(0, .ref (E.2.2.1 0)), (1, .int l1), (2, .int l2), (3, .int l3), (4, .int l4), (5, .int l5)] []) : ∀ (n : Nat) (l1 l2 l3 l4 l5 l6 : Int32) (σ : xS), m_form_b200 N K191 n l1 l2 l3 l4 l5 l6 σ = some (r, σ') → xw C (GM E) 8 (xq C (GM E) (some (.int r)) σ') σ 200 [(0, .ref (E.2.2.1 0)), (1, .int l1), (2, .int l2), (3, .int l3), (4, .int l4), (5, .int l5), (6, .int l6)] [] := by
  intro n
  induction n with
  | zero =>
    intro l1 l2 l3 l4 l5 l6 σ hf
    rw [m_form_b200] at hf
    cases hf
  | succ n ih =>
    intro l1 l2 l3 l4 l5 l6 σ hf
    rw [m_form_b200] at hf
    refine xr_iload (pc' := 202) 6 hC dX10_form_200 rfl rfl ?_
    refine xr_iload_n (pc' := 203) 2 hC dX10_form_202 rfl rfl rfl ?_
    refine xr_icmp_ge (pc' := 206) 275 hC dX10_form_203 rfl (by decide) hf (fun hf => ?_) (fun hf => ?_)
    · refine xr_iinc (pc' := 278) hC dX10_form_275 rfl _ rfl hf 5 rfl (by decide) [1, 2, 3, 4, 5, 0, 6] (fun l5_38 => [(0, .ref (E.2.2.1 0)), (1, .int l1), (2, .int l2), (3, .int l3), (4, .int l4), (5, .int l5_38), (6, .int l6)]) (fun _ => rfl) (fun l5_38 hf => ?_)
      refine xr_goto 191 hC dX10_form_278 (by decide) ?_
      refine x_lv [0, 1, 2, 3, 4, 5] rfl ?_
      exact hK191 _ _ _ _ _ _ hf
    refine xr_iconst (pc' := 207) (0 : Int32) hC dX10_form_206 rfl (by decide) ?_
    refine xr_istore (pc' := 209) (lv' := [(0, .ref (E.2.2.1 0)), (1, .int l1), (2, .int l2), (3, .int l3), (4, .int l4), (5, .int l5), (6, .int l6), (7, .int (0 : Int32))]) hC dX10_form_207 rfl (by decide) [1, 2, 3, 4, 5, 6, 7, 0] rfl ?_
    exact w_m_form_b209 hC (K191) hK191 (m_form_b200 N K191 n) ih N _ _ _ _ _ _ _ _ hf

set_option maxRecDepth 100000 in
set_option maxHeartbeats 4000000 in
theorem w_m_form_b191 {C : xT} {E : mE} {N : Nat} {r : Int32} {σ' : xS} (hC : xc C (GM E) RX10 cX10_form 8 (some .int) (k2_rm 4 89)) : ∀ (n : Nat) (l1 l2 l3 l4 l5 : Int32) (σ : xS), m_form_b191 N n l1 l2 l3 l4 l5 σ = some (r, σ') → xw C (GM E) 8 (xq C (GM E) (some (.int r)) σ') σ 191 [(0, .ref (E.2.2.1 0)), (1, .int l1), (2, .int l2), (3, .int l3), (4, .int l4), (5, .int l5)] [] := by
  intro n
  induction n with
  | zero =>
    intro l1 l2 l3 l4 l5 σ hf
    rw [m_form_b191] at hf
    cases hf
  | succ n ih =>
    intro l1 l2 l3 l4 l5 σ hf
    rw [m_form_b191] at hf
    refine xr_iload (pc' := 193) 5 hC dX10_form_191 rfl rfl ?_
    refine xr_iload_n (pc' := 194) 3 hC dX10_form_193 rfl rfl rfl ?_
    refine xr_icmp_ge (pc' := 197) 281 hC dX10_form_194 rfl (by decide) hf (fun hf => ?_) (fun hf => ?_)
    · refine xr_iconst (pc' := 282) (-1 : Int32) hC dX10_form_281 rfl (by decide) ?_
      refine xr_istore (pc' := 284) (lv' := [(0, .ref (E.2.2.1 0)), (1, .int l1), (2, .int l2), (3, .int l3), (4, .int l4), (5, .int (-1 : Int32))]) hC dX10_form_282 rfl (by decide) [1, 2, 3, 4, 5, 0] rfl ?_
      exact w_m_form_b284 hC N _ _ _ _ _ _ hf
    refine xr_iconst (pc' := 198) (0 : Int32) hC dX10_form_197 rfl (by decide) ?_
    refine xr_istore (pc' := 200) (lv' := [(0, .ref (E.2.2.1 0)), (1, .int l1), (2, .int l2), (3, .int l3), (4, .int l4), (5, .int l5), (6, .int (0 : Int32))]) hC dX10_form_198 rfl (by decide) [1, 2, 3, 4, 5, 6, 0] rfl ?_
    exact w_m_form_b200 hC (m_form_b191 N n) ih N _ _ _ _ _ _ _ hf

set_option maxRecDepth 100000 in
set_option maxHeartbeats 4000000 in
theorem w_m_form_b166 {C : xT} {E : mE} {N : Nat} {r : Int32} {σ' : xS} (hC : xc C (GM E) RX10 cX10_form 8 (some .int) (k2_rm 4 89)) : ∀ (n : Nat) (l1 l2 l3 l4 l5 : Int32) (σ : xS), m_form_b166 N n l1 l2 l3 l4 l5 σ = some (r, σ') → xw C (GM E) 8 (xq C (GM E) (some (.int r)) σ') σ 166 [(0, .ref (E.2.2.1 0)), (1, .int l1), (2, .int l2), (3, .int l3), (4, .int l4), (5, .int l5)] [] := by
  intro n
  induction n with
  | zero =>
    intro l1 l2 l3 l4 l5 σ hf
    rw [m_form_b166] at hf
    cases hf
  | succ n ih =>
    intro l1 l2 l3 l4 l5 σ hf
    rw [m_form_b166] at hf
    refine xr_iload (pc' := 168) 5 hC dX10_form_166 rfl rfl ?_
    refine xr_sipush (pc' := 171) (1000 : Int32) hC dX10_form_168 rfl (by decide) ?_
    refine xr_icmp_ge (pc' := 174) 188 hC dX10_form_171 rfl (by decide) hf (fun hf => ?_) (fun hf => ?_)
    · refine xr_iconst (pc' := 189) (0 : Int32) hC dX10_form_188 rfl (by decide) ?_
      refine xr_istore (pc' := 191) (lv' := [(0, .ref (E.2.2.1 0)), (1, .int l1), (2, .int l2), (3, .int l3), (4, .int l4), (5, .int (0 : Int32))]) hC dX10_form_189 rfl (by decide) [1, 2, 3, 4, 5, 0] rfl ?_
      exact w_m_form_b191 hC N _ _ _ _ _ _ hf
    refine xr_aload_n (pc' := 175) 0 hC dX10_form_174 rfl rfl rfl ?_
    refine gX10_m_solid (pc' := 178) hC dX10_form_175 rfl ?_
    refine xr_iload (pc' := 180) 5 hC dX10_form_178 rfl rfl ?_
    refine xr_iconst (pc' := 181) (0 : Int32) hC dX10_form_180 rfl (by decide) ?_
    refine sM_8 (pc' := 182) hC dX10_form_181 rfl hf (fun σ52 hf => ?_)
    refine xr_iinc (pc' := 185) hC dX10_form_182 rfl _ rfl hf 5 rfl (by decide) [1, 2, 3, 4, 5, 0] (fun l5_53 => [(0, .ref (E.2.2.1 0)), (1, .int l1), (2, .int l2), (3, .int l3), (4, .int l4), (5, .int l5_53)]) (fun _ => rfl) (fun l5_53 hf => ?_)
    refine xr_goto 166 hC dX10_form_185 (by decide) ?_
    exact ih _ _ _ _ _ _ hf

set_option maxRecDepth 100000 in
set_option maxHeartbeats 4000000 in
theorem w_m_form_b84 {C : xT} {E : mE} {N : Nat} {r : Int32} {σ' : xS} (hC : xc C (GM E) RX10 cX10_form 8 (some .int) (k2_rm 4 89)) : ∀ (n : Nat) (l1 l2 l3 l4 : Int32) (σ : xS), m_form_b84 N n l1 l2 l3 l4 σ = some (r, σ') → xw C (GM E) 8 (xq C (GM E) (some (.int r)) σ') σ 84 [(0, .ref (E.2.2.1 0)), (1, .int l1), (2, .int l2), (3, .int l3), (4, .int l4)] [] := by
  intro n
  induction n with
  | zero =>
    intro l1 l2 l3 l4 σ hf
    rw [m_form_b84] at hf
    cases hf
  | succ n ih =>
    intro l1 l2 l3 l4 σ hf
    rw [m_form_b84] at hf
    refine xr_iload (pc' := 86) 4 hC dX10_form_84 rfl rfl ?_
    refine xr_sipush (pc' := 89) (512 : Int32) hC dX10_form_86 rfl (by decide) ?_
    refine xr_icmp_ge (pc' := 92) 106 hC dX10_form_89 rfl (by decide) hf (fun hf => ?_) (fun hf => ?_)
    · refine xr_aload_n (pc' := 107) 0 hC dX10_form_106 rfl rfl rfl ?_
      refine xr_callVv (pc' := 110) (rmy := k2_rm 3 68) [] 0 hC dX10_form_107 rfl kX10_200 rfl rfl rfl rfl rfl ⟨Nat.le_of_ble_eq_true rfl, Nat.le_of_ble_eq_true rfl⟩ rfl (Nat.le_of_ble_eq_true rfl) hf (fun _ _ h => c_m_reads (xc_ok hC) h) (fun v16 σ17 hf => ?_)
      refine xr_aload_n (pc' := 111) 0 hC dX10_form_110 rfl rfl rfl ?_
      refine xr_aload_n (pc' := 112) 0 hC dX10_form_111 rfl rfl rfl ?_
      refine gX10_m_bad (pc' := 115) hC dX10_form_112 rfl ?_
      refine pX10_m_fault (pc' := 118) hC dX10_form_115 rfl hf (fun σ18 hf => ?_)
      refine xr_aload_n (pc' := 119) 0 hC dX10_form_118 rfl rfl rfl ?_
      refine xr_aload_n (pc' := 120) 0 hC dX10_form_119 rfl rfl rfl ?_
      refine gX10_m_badPlace (pc' := 123) hC dX10_form_120 rfl ?_
      refine pX10_m_faultPlace (pc' := 126) hC dX10_form_123 rfl hf (fun σ19 hf => ?_)
      refine xr_aload_n (pc' := 127) 0 hC dX10_form_126 rfl rfl rfl ?_
      refine gX10_m_bad (pc' := 130) hC dX10_form_127 rfl ?_
      refine xr_if_eq (pc' := 133) 135 hC dX10_form_130 rfl (by decide) hf (fun hf => ?_) (fun hf => ?_)
      · refine xr_aload_n (pc' := 136) 0 hC dX10_form_135 rfl rfl rfl ?_
        refine xr_iconst (pc' := 137) (1 : Int32) hC dX10_form_136 rfl (by decide) ?_
        refine pX10_m_hasForm (pc' := 140) rfl rfl hC dX10_form_137 rfl hf (fun σ20 hf => ?_)
        refine xr_aload_n (pc' := 141) 0 hC dX10_form_140 rfl rfl rfl ?_
        refine xr_iconst (pc' := 142) (0 : Int32) hC dX10_form_141 rfl (by decide) ?_
        refine pX10_m_hasDrawing (pc' := 145) rfl rfl hC dX10_form_142 rfl hf (fun σ21 hf => ?_)
        refine xr_aload_n (pc' := 146) 0 hC dX10_form_145 rfl rfl rfl ?_
        refine xr_iload_n (pc' := 147) 1 hC dX10_form_146 rfl rfl rfl ?_
        refine pX10_m_wide (pc' := 150) hC dX10_form_147 rfl hf (fun σ22 hf => ?_)
        refine xr_aload_n (pc' := 151) 0 hC dX10_form_150 rfl rfl rfl ?_
        refine xr_iload_n (pc' := 152) 2 hC dX10_form_151 rfl rfl rfl ?_
        refine pX10_m_high (pc' := 155) hC dX10_form_152 rfl hf (fun σ23 hf => ?_)
        refine xr_aload_n (pc' := 156) 0 hC dX10_form_155 rfl rfl rfl ?_
        refine xr_iload_n (pc' := 157) 3 hC dX10_form_156 rfl rfl rfl ?_
        refine pX10_m_deep (pc' := 160) hC dX10_form_157 rfl hf (fun σ24 hf => ?_)
        refine xr_iconst (pc' := 161) (0 : Int32) hC dX10_form_160 rfl (by decide) ?_
        refine xr_istore (pc' := 163) (lv' := [(0, .ref (E.2.2.1 0)), (1, .int l1), (2, .int l2), (3, .int l3), (4, .int (0 : Int32))]) hC dX10_form_161 rfl (by decide) [1, 2, 3, 4, 0] rfl ?_
        refine xr_iconst (pc' := 164) (0 : Int32) hC dX10_form_163 rfl (by decide) ?_
        refine xr_istore (pc' := 166) (lv' := [(0, .ref (E.2.2.1 0)), (1, .int l1), (2, .int l2), (3, .int l3), (4, .int (0 : Int32)), (5, .int (0 : Int32))]) hC dX10_form_164 rfl (by decide) [1, 2, 3, 4, 5, 0] rfl ?_
        exact w_m_form_b166 hC N _ _ _ _ _ _ hf
      refine xr_iconst (pc' := 134) (-1 : Int32) hC dX10_form_133 rfl (by decide) ?_
      exact xr_ireturn hC dX10_form_134 hf
    refine xr_aload_n (pc' := 93) 0 hC dX10_form_92 rfl rfl rfl ?_
    refine gX10_m_made (pc' := 96) hC dX10_form_93 rfl ?_
    refine xr_iload (pc' := 98) 4 hC dX10_form_96 rfl rfl ?_
    refine xr_iconst (pc' := 99) (0 : Int32) hC dX10_form_98 rfl (by decide) ?_
    refine sM_5 (pc' := 100) hC dX10_form_99 rfl hf (fun σ54 hf => ?_)
    refine xr_iinc (pc' := 103) hC dX10_form_100 rfl _ rfl hf 4 rfl (by decide) [1, 2, 3, 4, 0] (fun l4_55 => [(0, .ref (E.2.2.1 0)), (1, .int l1), (2, .int l2), (3, .int l3), (4, .int l4_55)]) (fun _ => rfl) (fun l4_55 hf => ?_)
    refine xr_goto 84 hC dX10_form_103 (by decide) ?_
    exact ih _ _ _ _ _ hf

set_option maxRecDepth 100000 in
set_option maxHeartbeats 4000000 in
theorem c_m_form {l : Launch} {E : mE} {N : Nat} (hG : xOk (GM E)) {l1 l2 l3 : Int32} {σ : xS} {r : Int32} {σ' : xS} (hf : m_form N l1 l2 l3 σ = some (r, σ')) : xMet l (GM E) yX10_form cX10_form 8 (some .int) (k2_rm 4 89) [.ref (E.2.2.1 0), .int l1, .int l2, .int l3] σ (some (.int r)) σ' := by
  refine x_met (own := RX10) (by decide +kernel) hG rfl (Nat.le_of_ble_eq_true rfl) (fun C hl hC => ?_)
  subst hl
  show xw C (GM E) 8 (xq C (GM E) (some (.int r)) σ') σ 0 [(0, .ref (E.2.2.1 0)), (1, .int l1), (2, .int l2), (3, .int l3)] []
  unfold m_form at hf
  refine xr_iload_n (pc' := 1) 1 hC dX10_form_0 rfl rfl rfl ?_
  refine xr_iconst (pc' := 2) (1 : Int32) hC dX10_form_1 rfl (by decide) ?_
  refine xr_bipush (pc' := 4) (8 : Int32) hC dX10_form_2 rfl (by decide) ?_
  refine xr_callS (pc' := 7) (rmy := k2_rm 0 0) [.int l1, .int (1 : Int32), .int (8 : Int32)] hC dX10_form_4 rfl kX10_196 rfl rfl rfl ⟨Nat.le_of_ble_eq_true rfl, Nat.le_of_ble_eq_true rfl⟩ rfl (Nat.le_of_ble_eq_true rfl) hf (fun _ _ h => c_m_isIn (xc_ok hC) h) (fun v1 σ2 hf => ?_)
  refine xr_if_eq (pc' := 10) 30 hC dX10_form_7 rfl (by decide) hf (fun hf => ?_) (fun hf => ?_)
  · refine xr_bipush (pc' := 32) (-2 : Int32) hC dX10_form_30 rfl (by decide) ?_
    exact xr_ireturn hC dX10_form_32 hf
  refine xr_iload_n (pc' := 11) 2 hC dX10_form_10 rfl rfl rfl ?_
  refine xr_iconst (pc' := 12) (1 : Int32) hC dX10_form_11 rfl (by decide) ?_
  refine xr_bipush (pc' := 14) (8 : Int32) hC dX10_form_12 rfl (by decide) ?_
  refine xr_callS (pc' := 17) (rmy := k2_rm 0 0) [.int l2, .int (1 : Int32), .int (8 : Int32)] hC dX10_form_14 rfl kX10_196 rfl rfl rfl ⟨Nat.le_of_ble_eq_true rfl, Nat.le_of_ble_eq_true rfl⟩ rfl (Nat.le_of_ble_eq_true rfl) hf (fun _ _ h => c_m_isIn (xc_ok hC) h) (fun v3 σ4 hf => ?_)
  refine xr_if_eq (pc' := 20) 30 hC dX10_form_17 rfl (by decide) hf (fun hf => ?_) (fun hf => ?_)
  · refine xr_bipush (pc' := 32) (-2 : Int32) hC dX10_form_30 rfl (by decide) ?_
    exact xr_ireturn hC dX10_form_32 hf
  refine xr_iload_n (pc' := 21) 3 hC dX10_form_20 rfl rfl rfl ?_
  refine xr_iconst (pc' := 22) (1 : Int32) hC dX10_form_21 rfl (by decide) ?_
  refine xr_bipush (pc' := 24) (8 : Int32) hC dX10_form_22 rfl (by decide) ?_
  refine xr_callS (pc' := 27) (rmy := k2_rm 0 0) [.int l3, .int (1 : Int32), .int (8 : Int32)] hC dX10_form_24 rfl kX10_196 rfl rfl rfl ⟨Nat.le_of_ble_eq_true rfl, Nat.le_of_ble_eq_true rfl⟩ rfl (Nat.le_of_ble_eq_true rfl) hf (fun _ _ h => c_m_isIn (xc_ok hC) h) (fun v5 σ6 hf => ?_)
  refine xr_if_ne (pc' := 30) 33 hC dX10_form_27 rfl (by decide) hf (fun hf => ?_) (fun hf => ?_)
  · refine xr_aload_n (pc' := 34) 0 hC dX10_form_33 rfl rfl rfl ?_
    refine xr_iconst (pc' := 35) (0 : Int32) hC dX10_form_34 rfl (by decide) ?_
    refine pX10_m_at (pc' := 38) hC dX10_form_35 rfl hf (fun σ7 hf => ?_)
    refine xr_aload_n (pc' := 39) 0 hC dX10_form_38 rfl rfl rfl ?_
    refine xr_iconst (pc' := 40) (-1 : Int32) hC dX10_form_39 rfl (by decide) ?_
    refine pX10_m_ended (pc' := 43) hC dX10_form_40 rfl hf (fun σ8 hf => ?_)
    refine xr_aload_n (pc' := 44) 0 hC dX10_form_43 rfl rfl rfl ?_
    refine xr_aload_n (pc' := 45) 0 hC dX10_form_44 rfl rfl rfl ?_
    refine gX10_m_taped (pc' := 48) hC dX10_form_45 rfl ?_
    refine pX10_m_size (pc' := 51) hC dX10_form_48 rfl hf (fun σ9 hf => ?_)
    refine xr_aload_n (pc' := 52) 0 hC dX10_form_51 rfl rfl rfl ?_
    refine xr_iconst (pc' := 53) (0 : Int32) hC dX10_form_52 rfl (by decide) ?_
    refine pX10_m_taped (pc' := 56) hC dX10_form_53 rfl hf (fun σ10 hf => ?_)
    refine xr_aload_n (pc' := 57) 0 hC dX10_form_56 rfl rfl rfl ?_
    refine xr_iconst (pc' := 58) (0 : Int32) hC dX10_form_57 rfl (by decide) ?_
    refine pX10_m_bad (pc' := 61) hC dX10_form_58 rfl hf (fun σ11 hf => ?_)
    refine xr_aload_n (pc' := 62) 0 hC dX10_form_61 rfl rfl rfl ?_
    refine xr_iconst (pc' := 63) (-1 : Int32) hC dX10_form_62 rfl (by decide) ?_
    refine pX10_m_badPlace (pc' := 66) hC dX10_form_63 rfl hf (fun σ12 hf => ?_)
    refine xr_aload_n (pc' := 67) 0 hC dX10_form_66 rfl rfl rfl ?_
    refine xr_iload_n (pc' := 68) 1 hC dX10_form_67 rfl rfl rfl ?_
    refine pX10_m_newWide (pc' := 71) hC dX10_form_68 rfl hf (fun σ13 hf => ?_)
    refine xr_aload_n (pc' := 72) 0 hC dX10_form_71 rfl rfl rfl ?_
    refine xr_iload_n (pc' := 73) 2 hC dX10_form_72 rfl rfl rfl ?_
    refine pX10_m_newHigh (pc' := 76) hC dX10_form_73 rfl hf (fun σ14 hf => ?_)
    refine xr_aload_n (pc' := 77) 0 hC dX10_form_76 rfl rfl rfl ?_
    refine xr_iload_n (pc' := 78) 3 hC dX10_form_77 rfl rfl rfl ?_
    refine pX10_m_newDeep (pc' := 81) hC dX10_form_78 rfl hf (fun σ15 hf => ?_)
    refine xr_iconst (pc' := 82) (0 : Int32) hC dX10_form_81 rfl (by decide) ?_
    refine xr_istore (pc' := 84) (lv' := [(0, .ref (E.2.2.1 0)), (1, .int l1), (2, .int l2), (3, .int l3), (4, .int (0 : Int32))]) hC dX10_form_82 rfl (by decide) [1, 2, 3, 4, 0] rfl ?_
    exact w_m_form_b84 hC N _ _ _ _ _ hf
  refine xr_bipush (pc' := 32) (-2 : Int32) hC dX10_form_30 rfl (by decide) ?_
  exact xr_ireturn hC dX10_form_32 hf

set_option maxRecDepth 100000 in
set_option maxHeartbeats 4000000 in
theorem c_m_fault {l : Launch} {E : mE} {N : Nat} (hG : xOk (GM E)) {l1 : Int32} {σ : xS} {r : Int32} {σ' : xS} (hf : m_fault N l1 σ = some (r, σ')) : xMet l (GM E) yX10_fault cX10_fault 2 (some .int) (k2_rm 0 0) [.ref (E.2.2.1 0), .int l1] σ (some (.int r)) σ' := by
  refine x_met (own := RX10) (by decide +kernel) hG rfl (Nat.le_of_ble_eq_true rfl) (fun C hl hC => ?_)
  subst hl
  show xw C (GM E) 2 (xq C (GM E) (some (.int r)) σ') σ 0 [(0, .ref (E.2.2.1 0)), (1, .int l1)] []
  unfold m_fault at hf
  refine xr_iload_n (pc' := 1) 1 hC dX10_fault_0 rfl rfl rfl ?_
  refine xr_if_ne (pc' := 4) 11 hC dX10_fault_1 rfl (by decide) hf (fun hf => ?_) (fun hf => ?_)
  · refine xr_iload_n (pc' := 12) 1 hC dX10_fault_11 rfl rfl rfl ?_
    refine xr_iconst (pc' := 13) (1 : Int32) hC dX10_fault_12 rfl (by decide) ?_
    refine xr_icmp_ne (pc' := 16) 23 hC dX10_fault_13 rfl (by decide) hf (fun hf => ?_) (fun hf => ?_)
    · refine xr_iconst (pc' := 24) (-1 : Int32) hC dX10_fault_23 rfl (by decide) ?_
      exact xr_ireturn hC dX10_fault_24 hf
    refine xr_aload_n (pc' := 17) 0 hC dX10_fault_16 rfl rfl rfl ?_
    refine gX10_m_faultPlace (pc' := 20) hC dX10_fault_17 rfl ?_
    refine xr_goto 24 hC dX10_fault_20 (by decide) ?_
    exact xr_ireturn hC dX10_fault_24 hf
  refine xr_aload_n (pc' := 5) 0 hC dX10_fault_4 rfl rfl rfl ?_
  refine gX10_m_fault (pc' := 8) hC dX10_fault_5 rfl ?_
  refine xr_goto 24 hC dX10_fault_8 (by decide) ?_
  exact xr_ireturn hC dX10_fault_24 hf

set_option maxRecDepth 100000 in
set_option maxHeartbeats 4000000 in
theorem c_m_solid {l : Launch} {E : mE} {N : Nat} (hG : xOk (GM E)) {l1 l2 l3 : Int32} {σ : xS} {r : Int32} {σ' : xS} (hf : m_solid N l1 l2 l3 σ = some (r, σ')) : xMet l (GM E) yX10_solid cX10_solid 4 (some .int) (k2_rm 1 22) [.ref (E.2.2.1 0), .int l1, .int l2, .int l3] σ (some (.int r)) σ' := by
  refine x_met (own := RX10) (by decide +kernel) hG rfl (Nat.le_of_ble_eq_true rfl) (fun C hl hC => ?_)
  subst hl
  show xw C (GM E) 4 (xq C (GM E) (some (.int r)) σ') σ 0 [(0, .ref (E.2.2.1 0)), (1, .int l1), (2, .int l2), (3, .int l3)] []
  unfold m_solid at hf
  refine xr_aload_n (pc' := 1) 0 hC dX10_solid_0 rfl rfl rfl ?_
  refine gX10_m_hasForm (pc' := 4) hC dX10_solid_1 rfl ?_
  refine xr_if_eq (pc' := 7) 43 hC dX10_solid_4 rfl (by decide) hf (fun hf => ?_) (fun hf => ?_)
  · refine xr_iconst (pc' := 44) (-1 : Int32) hC dX10_solid_43 rfl (by decide) ?_
    exact xr_ireturn hC dX10_solid_44 hf
  refine xr_iload_n (pc' := 8) 1 hC dX10_solid_7 rfl rfl rfl ?_
  refine xr_if_lt (pc' := 11) 43 hC dX10_solid_8 rfl (by decide) hf (fun hf => ?_) (fun hf => ?_)
  · refine xr_iconst (pc' := 44) (-1 : Int32) hC dX10_solid_43 rfl (by decide) ?_
    exact xr_ireturn hC dX10_solid_44 hf
  refine xr_iload_n (pc' := 12) 1 hC dX10_solid_11 rfl rfl rfl ?_
  refine xr_aload_n (pc' := 13) 0 hC dX10_solid_12 rfl rfl rfl ?_
  refine gX10_m_wide (pc' := 16) hC dX10_solid_13 rfl ?_
  refine xr_icmp_ge (pc' := 19) 43 hC dX10_solid_16 rfl (by decide) hf (fun hf => ?_) (fun hf => ?_)
  · refine xr_iconst (pc' := 44) (-1 : Int32) hC dX10_solid_43 rfl (by decide) ?_
    exact xr_ireturn hC dX10_solid_44 hf
  refine xr_iload_n (pc' := 20) 2 hC dX10_solid_19 rfl rfl rfl ?_
  refine xr_if_lt (pc' := 23) 43 hC dX10_solid_20 rfl (by decide) hf (fun hf => ?_) (fun hf => ?_)
  · refine xr_iconst (pc' := 44) (-1 : Int32) hC dX10_solid_43 rfl (by decide) ?_
    exact xr_ireturn hC dX10_solid_44 hf
  refine xr_iload_n (pc' := 24) 2 hC dX10_solid_23 rfl rfl rfl ?_
  refine xr_aload_n (pc' := 25) 0 hC dX10_solid_24 rfl rfl rfl ?_
  refine gX10_m_high (pc' := 28) hC dX10_solid_25 rfl ?_
  refine xr_icmp_ge (pc' := 31) 43 hC dX10_solid_28 rfl (by decide) hf (fun hf => ?_) (fun hf => ?_)
  · refine xr_iconst (pc' := 44) (-1 : Int32) hC dX10_solid_43 rfl (by decide) ?_
    exact xr_ireturn hC dX10_solid_44 hf
  refine xr_iload_n (pc' := 32) 3 hC dX10_solid_31 rfl rfl rfl ?_
  refine xr_if_lt (pc' := 35) 43 hC dX10_solid_32 rfl (by decide) hf (fun hf => ?_) (fun hf => ?_)
  · refine xr_iconst (pc' := 44) (-1 : Int32) hC dX10_solid_43 rfl (by decide) ?_
    exact xr_ireturn hC dX10_solid_44 hf
  refine xr_iload_n (pc' := 36) 3 hC dX10_solid_35 rfl rfl rfl ?_
  refine xr_aload_n (pc' := 37) 0 hC dX10_solid_36 rfl rfl rfl ?_
  refine gX10_m_deep (pc' := 40) hC dX10_solid_37 rfl ?_
  refine xr_icmp_lt (pc' := 43) 45 hC dX10_solid_40 rfl (by decide) hf (fun hf => ?_) (fun hf => ?_)
  · refine xr_aload_n (pc' := 46) 0 hC dX10_solid_45 rfl rfl rfl ?_
    refine gX10_m_solid (pc' := 49) hC dX10_solid_46 rfl ?_
    refine xr_iload_n (pc' := 50) 1 hC dX10_solid_49 rfl rfl rfl ?_
    refine xr_iload_n (pc' := 51) 2 hC dX10_solid_50 rfl rfl rfl ?_
    refine xr_iload_n (pc' := 52) 3 hC dX10_solid_51 rfl rfl rfl ?_
    refine xr_callS (pc' := 55) (rmy := k2_rm 0 0) [.int l1, .int l2, .int l3] hC dX10_solid_52 rfl kX10_209 rfl rfl rfl ⟨Nat.le_of_ble_eq_true rfl, Nat.le_of_ble_eq_true rfl⟩ rfl (Nat.le_of_ble_eq_true rfl) hf (fun _ _ h => c_m_place (xc_ok hC) h) (fun v1 σ2 hf => ?_)
    refine lM_8 (pc' := 56) hC dX10_solid_55 rfl hf (fun v3 hf => ?_)
    refine xr_if_eq (pc' := 59) 63 hC dX10_solid_56 rfl (by decide) hf (fun hf => ?_) (fun hf => ?_)
    · refine xr_iconst (pc' := 64) (0 : Int32) hC dX10_solid_63 rfl (by decide) ?_
      exact xr_ireturn hC dX10_solid_64 hf
    refine xr_iconst (pc' := 60) (1 : Int32) hC dX10_solid_59 rfl (by decide) ?_
    refine xr_goto 64 hC dX10_solid_60 (by decide) ?_
    exact xr_ireturn hC dX10_solid_64 hf
  refine xr_iconst (pc' := 44) (-1 : Int32) hC dX10_solid_43 rfl (by decide) ?_
  exact xr_ireturn hC dX10_solid_44 hf

set_option maxRecDepth 100000 in
set_option maxHeartbeats 4000000 in
theorem c_m_free {l : Launch} {E : mE} {N : Nat} (hG : xOk (GM E)) {l1 l2 l3 : Int32} {σ : xS} {r : Int32} {σ' : xS} (hf : m_free N l1 l2 l3 σ = some (r, σ')) : xMet l (GM E) yX10_free cX10_free 4 (some .int) (k2_rm 1 23) [.ref (E.2.2.1 0), .int l1, .int l2, .int l3] σ (some (.int r)) σ' := by
  refine x_met (own := RX10) (by decide +kernel) hG rfl (Nat.le_of_ble_eq_true rfl) (fun C hl hC => ?_)
  subst hl
  show xw C (GM E) 4 (xq C (GM E) (some (.int r)) σ') σ 0 [(0, .ref (E.2.2.1 0)), (1, .int l1), (2, .int l2), (3, .int l3)] []
  unfold m_free at hf
  refine xr_aload_n (pc' := 1) 0 hC dX10_free_0 rfl rfl rfl ?_
  refine xr_iload_n (pc' := 2) 1 hC dX10_free_1 rfl rfl rfl ?_
  refine xr_iload_n (pc' := 3) 2 hC dX10_free_2 rfl rfl rfl ?_
  refine xr_iload_n (pc' := 4) 3 hC dX10_free_3 rfl rfl rfl ?_
  refine xr_callV (pc' := 7) (rmy := k2_rm 0 0) [.int l1, .int l2, .int l3] 0 hC dX10_free_4 rfl kX10_215 rfl rfl rfl rfl rfl ⟨Nat.le_of_ble_eq_true rfl, Nat.le_of_ble_eq_true rfl⟩ rfl (Nat.le_of_ble_eq_true rfl) hf (fun _ _ h => c_m_isMould (xc_ok hC) h) (fun v1 σ2 hf => ?_)
  refine xr_if_eq (pc' := 10) 38 hC dX10_free_7 rfl (by decide) hf (fun hf => ?_) (fun hf => ?_)
  · refine xr_iconst (pc' := 39) (-1 : Int32) hC dX10_free_38 rfl (by decide) ?_
    exact xr_ireturn hC dX10_free_39 hf
  refine xr_aload_n (pc' := 11) 0 hC dX10_free_10 rfl rfl rfl ?_
  refine gX10_m_solid (pc' := 14) hC dX10_free_11 rfl ?_
  refine xr_iload_n (pc' := 15) 1 hC dX10_free_14 rfl rfl rfl ?_
  refine xr_iload_n (pc' := 16) 2 hC dX10_free_15 rfl rfl rfl ?_
  refine xr_iload_n (pc' := 17) 3 hC dX10_free_16 rfl rfl rfl ?_
  refine xr_callS (pc' := 20) (rmy := k2_rm 0 0) [.int l1, .int l2, .int l3] hC dX10_free_17 rfl kX10_209 rfl rfl rfl ⟨Nat.le_of_ble_eq_true rfl, Nat.le_of_ble_eq_true rfl⟩ rfl (Nat.le_of_ble_eq_true rfl) hf (fun _ _ h => c_m_place (xc_ok hC) h) (fun v3 σ4 hf => ?_)
  refine lM_8 (pc' := 21) hC dX10_free_20 rfl hf (fun v5 hf => ?_)
  refine xr_if_ne (pc' := 24) 38 hC dX10_free_21 rfl (by decide) hf (fun hf => ?_) (fun hf => ?_)
  · refine xr_iconst (pc' := 39) (-1 : Int32) hC dX10_free_38 rfl (by decide) ?_
    exact xr_ireturn hC dX10_free_39 hf
  refine xr_aload_n (pc' := 25) 0 hC dX10_free_24 rfl rfl rfl ?_
  refine gX10_m_ways (pc' := 28) hC dX10_free_25 rfl ?_
  refine xr_iload_n (pc' := 29) 1 hC dX10_free_28 rfl rfl rfl ?_
  refine xr_iload_n (pc' := 30) 2 hC dX10_free_29 rfl rfl rfl ?_
  refine xr_iload_n (pc' := 31) 3 hC dX10_free_30 rfl rfl rfl ?_
  refine xr_callS (pc' := 34) (rmy := k2_rm 0 0) [.int l1, .int l2, .int l3] hC dX10_free_31 rfl kX10_209 rfl rfl rfl ⟨Nat.le_of_ble_eq_true rfl, Nat.le_of_ble_eq_true rfl⟩ rfl (Nat.le_of_ble_eq_true rfl) hf (fun _ _ h => c_m_place (xc_ok hC) h) (fun v6 σ7 hf => ?_)
  refine lM_9 (pc' := 35) hC dX10_free_34 rfl hf (fun v8 hf => ?_)
  refine xr_goto 39 hC dX10_free_35 (by decide) ?_
  exact xr_ireturn hC dX10_free_39 hf

set_option maxRecDepth 100000 in
set_option maxHeartbeats 4000000 in
theorem w_m_shut_b34 {C : xT} {E : mE} {N : Nat} {r : Int32} {σ' : xS} (hC : xc C (GM E) RX10 cX10_shut 5 (some .int) (k2_rm 1 22)) (K13 : Int32 → Int32 → xS → Option (Int32 × xS)) (hK13 : ∀ (l1 l2 : Int32) (σ : xS), K13 l1 l2 σ = some (r, σ') → xw C (GM E) 5 (xq C (GM E) (some (.int r)) σ') σ 13 [(0, .ref (E.2.2.1 0)), (1, .int l1), (2, .int l2)] []) (K23 : Int32 → Int32 → Int32 → xS → Option (Int32 × xS)) (hK23 : ∀ (l1 l2 l3 : Int32) (σ : xS), K23 l1 l2 l3 σ = some (r, σ') → xw C (GM E) 5 (xq C (GM E) (some (.int r)) σ') σ 23 [(0, .ref (E.2.2.1 0)), (1, .int l1), (2, .int l2), (3, .int l3)] []) : ∀ (n : Nat) (l1 l2 l3 l4 : Int32) (σ : xS), m_shut_b34 N K13 K23 n l1 l2 l3 l4 σ = some (r, σ') → xw C (GM E) 5 (xq C (GM E) (some (.int r)) σ') σ 34 [(0, .ref (E.2.2.1 0)), (1, .int l1), (2, .int l2), (3, .int l3), (4, .int l4)] [] := by
  intro n
  induction n with
  | zero =>
    intro l1 l2 l3 l4 σ hf
    rw [m_shut_b34] at hf
    cases hf
  | succ n ih =>
    intro l1 l2 l3 l4 σ hf
    rw [m_shut_b34] at hf
    refine xr_iload (pc' := 36) 4 hC dX10_shut_34 rfl rfl ?_
    refine xr_aload_n (pc' := 37) 0 hC dX10_shut_36 rfl rfl rfl ?_
    refine gX10_m_wide (pc' := 40) hC dX10_shut_37 rfl ?_
    refine xr_icmp_ge (pc' := 43) 82 hC dX10_shut_40 rfl (by decide) hf (fun hf => ?_) (fun hf => ?_)
    · refine xr_iinc (pc' := 85) hC dX10_shut_82 rfl _ rfl hf 3 rfl (by decide) [1, 2, 3, 0, 4] (fun l3_2 => [(0, .ref (E.2.2.1 0)), (1, .int l1), (2, .int l2), (3, .int l3_2), (4, .int l4)]) (fun _ => rfl) (fun l3_2 hf => ?_)
      refine xr_goto 23 hC dX10_shut_85 (by decide) ?_
      refine x_lv [0, 1, 2, 3] rfl ?_
      exact hK23 _ _ _ _ hf
    refine xr_aload_n (pc' := 44) 0 hC dX10_shut_43 rfl rfl rfl ?_
    refine gX10_m_solid (pc' := 47) hC dX10_shut_44 rfl ?_
    refine xr_iload (pc' := 49) 4 hC dX10_shut_47 rfl rfl ?_
    refine xr_iload_n (pc' := 50) 3 hC dX10_shut_49 rfl rfl rfl ?_
    refine xr_iload_n (pc' := 51) 2 hC dX10_shut_50 rfl rfl rfl ?_
    refine xr_callS (pc' := 54) (rmy := k2_rm 0 0) [.int l4, .int l3, .int l2] hC dX10_shut_51 rfl kX10_209 rfl rfl rfl ⟨Nat.le_of_ble_eq_true rfl, Nat.le_of_ble_eq_true rfl⟩ rfl (Nat.le_of_ble_eq_true rfl) hf (fun _ _ h => c_m_place (xc_ok hC) h) (fun v3 σ4 hf => ?_)
    refine lM_8 (pc' := 55) hC dX10_shut_54 rfl hf (fun v5 hf => ?_)
    refine xr_if_ne (pc' := 58) 76 hC dX10_shut_55 rfl (by decide) hf (fun hf => ?_) (fun hf => ?_)
    · refine xr_iinc (pc' := 79) hC dX10_shut_76 rfl _ rfl hf 4 rfl (by decide) [1, 2, 3, 4, 0] (fun l4_6 => [(0, .ref (E.2.2.1 0)), (1, .int l1), (2, .int l2), (3, .int l3), (4, .int l4_6)]) (fun _ => rfl) (fun l4_6 hf => ?_)
      refine xr_goto 34 hC dX10_shut_79 (by decide) ?_
      exact ih _ _ _ _ _ hf
    refine xr_aload_n (pc' := 59) 0 hC dX10_shut_58 rfl rfl rfl ?_
    refine gX10_m_ways (pc' := 62) hC dX10_shut_59 rfl ?_
    refine xr_iload (pc' := 64) 4 hC dX10_shut_62 rfl rfl ?_
    refine xr_iload_n (pc' := 65) 3 hC dX10_shut_64 rfl rfl rfl ?_
    refine xr_iload_n (pc' := 66) 2 hC dX10_shut_65 rfl rfl rfl ?_
    refine xr_callS (pc' := 69) (rmy := k2_rm 0 0) [.int l4, .int l3, .int l2] hC dX10_shut_66 rfl kX10_209 rfl rfl rfl ⟨Nat.le_of_ble_eq_true rfl, Nat.le_of_ble_eq_true rfl⟩ rfl (Nat.le_of_ble_eq_true rfl) hf (fun _ _ h => c_m_place (xc_ok hC) h) (fun v7 σ8 hf => ?_)
    refine lM_9 (pc' := 70) hC dX10_shut_69 rfl hf (fun v9 hf => ?_)
    refine xr_if_ne (pc' := 73) 76 hC dX10_shut_70 rfl (by decide) hf (fun hf => ?_) (fun hf => ?_)
    · refine xr_iinc (pc' := 79) hC dX10_shut_76 rfl _ rfl hf 4 rfl (by decide) [1, 2, 3, 4, 0] (fun l4_10 => [(0, .ref (E.2.2.1 0)), (1, .int l1), (2, .int l2), (3, .int l3), (4, .int l4_10)]) (fun _ => rfl) (fun l4_10 hf => ?_)
      refine xr_goto 34 hC dX10_shut_79 (by decide) ?_
      exact ih _ _ _ _ _ hf
    refine xr_iinc (pc' := 76) hC dX10_shut_73 rfl _ rfl hf 1 rfl (by decide) [1, 0, 2, 3, 4] (fun l1_11 => [(0, .ref (E.2.2.1 0)), (1, .int l1_11), (2, .int l2), (3, .int l3), (4, .int l4)]) (fun _ => rfl) (fun l1_11 hf => ?_)
    refine xr_iinc (pc' := 79) hC dX10_shut_76 rfl _ rfl hf 4 rfl (by decide) [1, 2, 3, 4, 0] (fun l4_12 => [(0, .ref (E.2.2.1 0)), (1, .int l1_11), (2, .int l2), (3, .int l3), (4, .int l4_12)]) (fun _ => rfl) (fun l4_12 hf => ?_)
    refine xr_goto 34 hC dX10_shut_79 (by decide) ?_
    exact ih _ _ _ _ _ hf

set_option maxRecDepth 100000 in
set_option maxHeartbeats 4000000 in
theorem w_m_shut_b23 {C : xT} {E : mE} {N : Nat} {r : Int32} {σ' : xS} (hC : xc C (GM E) RX10 cX10_shut 5 (some .int) (k2_rm 1 22)) (K13 : Int32 → Int32 → xS → Option (Int32 × xS)) (hK13 : ∀ (l1 l2 : Int32) (σ : xS), K13 l1 l2 σ = some (r, σ') → xw C (GM E) 5 (xq C (GM E) (some (.int r)) σ') σ 13 [(0, .ref (E.2.2.1 0)), (1, .int l1), (2, .int l2)] []) : ∀ (n : Nat) (l1 l2 l3 : Int32) (σ : xS), m_shut_b23 N K13 n l1 l2 l3 σ = some (r, σ') → xw C (GM E) 5 (xq C (GM E) (some (.int r)) σ') σ 23 [(0, .ref (E.2.2.1 0)), (1, .int l1), (2, .int l2), (3, .int l3)] [] := by
  intro n
  induction n with
  | zero =>
    intro l1 l2 l3 σ hf
    rw [m_shut_b23] at hf
    cases hf
  | succ n ih =>
    intro l1 l2 l3 σ hf
    rw [m_shut_b23] at hf
    refine xr_iload_n (pc' := 24) 3 hC dX10_shut_23 rfl rfl rfl ?_
    refine xr_aload_n (pc' := 25) 0 hC dX10_shut_24 rfl rfl rfl ?_
    refine gX10_m_high (pc' := 28) hC dX10_shut_25 rfl ?_
    refine xr_icmp_ge (pc' := 31) 88 hC dX10_shut_28 rfl (by decide) hf (fun hf => ?_) (fun hf => ?_)
    · refine xr_iinc (pc' := 91) hC dX10_shut_88 rfl _ rfl hf 2 rfl (by decide) [1, 2, 0, 3] (fun l2_1 => [(0, .ref (E.2.2.1 0)), (1, .int l1), (2, .int l2_1), (3, .int l3)]) (fun _ => rfl) (fun l2_1 hf => ?_)
      refine xr_goto 13 hC dX10_shut_91 (by decide) ?_
      refine x_lv [0, 1, 2] rfl ?_
      exact hK13 _ _ _ hf
    refine xr_iconst (pc' := 32) (0 : Int32) hC dX10_shut_31 rfl (by decide) ?_
    refine xr_istore (pc' := 34) (lv' := [(0, .ref (E.2.2.1 0)), (1, .int l1), (2, .int l2), (3, .int l3), (4, .int (0 : Int32))]) hC dX10_shut_32 rfl (by decide) [1, 2, 3, 4, 0] rfl ?_
    exact w_m_shut_b34 hC (K13) hK13 (m_shut_b23 N K13 n) ih N _ _ _ _ _ hf

set_option maxRecDepth 100000 in
set_option maxHeartbeats 4000000 in
theorem w_m_shut_b13 {C : xT} {E : mE} {N : Nat} {r : Int32} {σ' : xS} (hC : xc C (GM E) RX10 cX10_shut 5 (some .int) (k2_rm 1 22)) : ∀ (n : Nat) (l1 l2 : Int32) (σ : xS), m_shut_b13 N n l1 l2 σ = some (r, σ') → xw C (GM E) 5 (xq C (GM E) (some (.int r)) σ') σ 13 [(0, .ref (E.2.2.1 0)), (1, .int l1), (2, .int l2)] [] := by
  intro n
  induction n with
  | zero =>
    intro l1 l2 σ hf
    rw [m_shut_b13] at hf
    cases hf
  | succ n ih =>
    intro l1 l2 σ hf
    rw [m_shut_b13] at hf
    refine xr_iload_n (pc' := 14) 2 hC dX10_shut_13 rfl rfl rfl ?_
    refine xr_aload_n (pc' := 15) 0 hC dX10_shut_14 rfl rfl rfl ?_
    refine gX10_m_deep (pc' := 18) hC dX10_shut_15 rfl ?_
    refine xr_icmp_ge (pc' := 21) 94 hC dX10_shut_18 rfl (by decide) hf (fun hf => ?_) (fun hf => ?_)
    · refine xr_iload_n (pc' := 95) 1 hC dX10_shut_94 rfl rfl rfl ?_
      exact xr_ireturn hC dX10_shut_95 hf
    refine xr_iconst (pc' := 22) (0 : Int32) hC dX10_shut_21 rfl (by decide) ?_
    refine xr_istore_n (pc' := 23) (lv' := [(0, .ref (E.2.2.1 0)), (1, .int l1), (2, .int l2), (3, .int (0 : Int32))]) hC dX10_shut_22 rfl rfl (by decide) [1, 2, 3, 0] rfl ?_
    exact w_m_shut_b23 hC (m_shut_b13 N n) ih N _ _ _ _ hf

set_option maxRecDepth 100000 in
set_option maxHeartbeats 4000000 in
theorem c_m_shut {l : Launch} {E : mE} {N : Nat} (hG : xOk (GM E)) {σ : xS} {r : Int32} {σ' : xS} (hf : m_shut N σ = some (r, σ')) : xMet l (GM E) yX10_shut cX10_shut 5 (some .int) (k2_rm 1 22) [.ref (E.2.2.1 0)] σ (some (.int r)) σ' := by
  refine x_met (own := RX10) (by decide +kernel) hG rfl (Nat.le_of_ble_eq_true rfl) (fun C hl hC => ?_)
  subst hl
  show xw C (GM E) 5 (xq C (GM E) (some (.int r)) σ') σ 0 [(0, .ref (E.2.2.1 0))] []
  unfold m_shut at hf
  refine xr_aload_n (pc' := 1) 0 hC dX10_shut_0 rfl rfl rfl ?_
  refine gX10_m_hasForm (pc' := 4) hC dX10_shut_1 rfl ?_
  refine xr_if_ne (pc' := 7) 9 hC dX10_shut_4 rfl (by decide) hf (fun hf => ?_) (fun hf => ?_)
  · refine xr_iconst (pc' := 10) (0 : Int32) hC dX10_shut_9 rfl (by decide) ?_
    refine xr_istore_n (pc' := 11) (lv' := [(0, .ref (E.2.2.1 0)), (1, .int (0 : Int32))]) hC dX10_shut_10 rfl rfl (by decide) [1, 0] rfl ?_
    refine xr_iconst (pc' := 12) (0 : Int32) hC dX10_shut_11 rfl (by decide) ?_
    refine xr_istore_n (pc' := 13) (lv' := [(0, .ref (E.2.2.1 0)), (1, .int (0 : Int32)), (2, .int (0 : Int32))]) hC dX10_shut_12 rfl rfl (by decide) [1, 2, 0] rfl ?_
    exact w_m_shut_b13 hC N _ _ _ hf
  refine xr_iconst (pc' := 8) (-1 : Int32) hC dX10_shut_7 rfl (by decide) ?_
  exact xr_ireturn hC dX10_shut_8 hf

