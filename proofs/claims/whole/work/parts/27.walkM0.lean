set_option maxRecDepth 100000 in
set_option maxHeartbeats 4000000 in
theorem w_m_feed_b71 {C : xT} {E : mE} {N : Nat} {r : Int32} {σ' : xS} (hC : xc C (GM E) RX10 cX10_feed 8 (some .int) (k2_rm 0 0)) (K18 : Int32 → Int32 → Int32 → Int32 → Int32 → Int32 → xS → Option (Int32 × xS)) (hK18 : ∀ (l1 l2 l3 l4 l5 l6 : Int32) (σ : xS), K18 l1 l2 l3 l4 l5 l6 σ = some (r, σ') → xw C (GM E) 8 (xq C (GM E) (some (.int r)) σ') σ 18 [(0, .ref (E.2.2.1 0)), (1, .int l1), (2, .int l2), (3, .int l3), (4, .int l4), (5, .int l5), (6, .int l6)] []) : ∀ (l1 l2 l3 l4 l5 l6 s0 : Int32) (σ : xS), m_feed_b71 N K18 l1 l2 l3 l4 l5 l6 s0 σ = some (r, σ') → xw C (GM E) 8 (xq C (GM E) (some (.int r)) σ') σ 71 [(0, .ref (E.2.2.1 0)), (1, .int l1), (2, .int l2), (3, .int l3), (4, .int l4), (5, .int l5), (6, .int l6)] [.int s0] := by
  intro l1 l2 l3 l4 l5 l6 s0 σ hf
  unfold m_feed_b71 at hf
  refine xr_istore (pc' := 73) (lv' := [(0, .ref (E.2.2.1 0)), (1, .int l1), (2, .int l2), (3, .int l3), (4, .int l4), (5, .int l5), (6, .int l6), (7, .int s0)]) hC dX10_feed_71 rfl (by decide) [1, 2, 3, 4, 5, 6, 7, 0] rfl ?_
  refine xr_aload_n (pc' := 74) 0 hC dX10_feed_73 rfl rfl rfl ?_
  refine gX10_m_tape (pc' := 77) hC dX10_feed_74 rfl ?_
  refine xr_aload_n (pc' := 78) 0 hC dX10_feed_77 rfl rfl rfl ?_
  refine gX10_m_taped (pc' := 81) hC dX10_feed_78 rfl ?_
  refine xr_iload (pc' := 83) 7 hC dX10_feed_81 rfl rfl ?_
  refine xr_bipush (pc' := 85) (8 : Int32) hC dX10_feed_83 rfl (by decide) ?_
  refine xr_iconst (pc' := 86) (3 : Int32) hC dX10_feed_85 rfl (by decide) ?_
  refine xr_iload (pc' := 88) 6 hC dX10_feed_86 rfl rfl ?_
  refine xr_iconst (pc' := 89) (4 : Int32) hC dX10_feed_88 rfl (by decide) ?_
  refine xr_irem (pc' := 90) hC dX10_feed_89 rfl hf (fun hf => ?_)
  refine xr_isub (pc' := 91) hC dX10_feed_90 rfl ?_
  refine xr_imul (pc' := 92) hC dX10_feed_91 rfl ?_
  refine xr_ishr (pc' := 93) hC dX10_feed_92 rfl ?_
  refine xr_sipush (pc' := 96) (255 : Int32) hC dX10_feed_93 rfl (by decide) ?_
  refine xr_iand (pc' := 97) hC dX10_feed_96 rfl ?_
  refine sM_0 (pc' := 98) hC dX10_feed_97 rfl hf (fun σ1 hf => ?_)
  refine xr_aload_n (pc' := 99) 0 hC dX10_feed_98 rfl rfl rfl ?_
  refine xr_dup (pc' := 100) hC dX10_feed_99 rfl rfl ?_
  refine gX10_m_taped (pc' := 103) hC dX10_feed_100 rfl ?_
  refine xr_iconst (pc' := 104) (1 : Int32) hC dX10_feed_103 rfl (by decide) ?_
  refine xr_iadd (pc' := 105) hC dX10_feed_104 rfl ?_
  refine pX10_m_taped (pc' := 108) hC dX10_feed_105 rfl hf (fun σ2 hf => ?_)
  refine xr_iinc (pc' := 111) hC dX10_feed_108 rfl _ rfl hf 6 rfl (by decide) [1, 2, 3, 4, 5, 6, 0, 7] (fun l6_3 => [(0, .ref (E.2.2.1 0)), (1, .int l1), (2, .int l2), (3, .int l3), (4, .int l4), (5, .int l5), (6, .int l6_3), (7, .int s0)]) (fun _ => rfl) (fun l6_3 hf => ?_)
  refine xr_goto 18 hC dX10_feed_111 (by decide) ?_
  refine x_lv [0, 1, 2, 3, 4, 5, 6] rfl ?_
  exact hK18 _ _ _ _ _ _ _ hf

set_option maxRecDepth 100000 in
set_option maxHeartbeats 4000000 in
theorem w_m_feed_b18 {C : xT} {E : mE} {N : Nat} {r : Int32} {σ' : xS} (hC : xc C (GM E) RX10 cX10_feed 8 (some .int) (k2_rm 0 0)) : ∀ (n : Nat) (l1 l2 l3 l4 l5 l6 : Int32) (σ : xS), m_feed_b18 N n l1 l2 l3 l4 l5 l6 σ = some (r, σ') → xw C (GM E) 8 (xq C (GM E) (some (.int r)) σ') σ 18 [(0, .ref (E.2.2.1 0)), (1, .int l1), (2, .int l2), (3, .int l3), (4, .int l4), (5, .int l5), (6, .int l6)] [] := by
  intro n
  induction n with
  | zero =>
    intro l1 l2 l3 l4 l5 l6 σ hf
    rw [m_feed_b18] at hf
    cases hf
  | succ n ih =>
    intro l1 l2 l3 l4 l5 l6 σ hf
    rw [m_feed_b18] at hf
    refine xr_iload (pc' := 20) 6 hC dX10_feed_18 rfl rfl ?_
    refine xr_bipush (pc' := 22) (20 : Int32) hC dX10_feed_20 rfl (by decide) ?_
    refine xr_icmp_ge (pc' := 25) 114 hC dX10_feed_22 rfl (by decide) hf (fun hf => ?_) (fun hf => ?_)
    · refine xr_aload_n (pc' := 115) 0 hC dX10_feed_114 rfl rfl rfl ?_
      refine gX10_m_taped (pc' := 118) hC dX10_feed_115 rfl ?_
      exact xr_ireturn hC dX10_feed_118 hf
    refine xr_iload (pc' := 27) 6 hC dX10_feed_25 rfl rfl ?_
    refine xr_iconst (pc' := 28) (4 : Int32) hC dX10_feed_27 rfl (by decide) ?_
    refine xr_icmp_ge (pc' := 31) 35 hC dX10_feed_28 rfl (by decide) hf (fun hf => ?_) (fun hf => ?_)
    · refine xr_iload (pc' := 37) 6 hC dX10_feed_35 rfl rfl ?_
      refine xr_bipush (pc' := 39) (8 : Int32) hC dX10_feed_37 rfl (by decide) ?_
      refine xr_icmp_ge (pc' := 42) 46 hC dX10_feed_39 rfl (by decide) hf (fun hf => ?_) (fun hf => ?_)
      · refine xr_iload (pc' := 48) 6 hC dX10_feed_46 rfl rfl ?_
        refine xr_bipush (pc' := 50) (12 : Int32) hC dX10_feed_48 rfl (by decide) ?_
        refine xr_icmp_ge (pc' := 53) 57 hC dX10_feed_50 rfl (by decide) hf (fun hf => ?_) (fun hf => ?_)
        · refine xr_iload (pc' := 59) 6 hC dX10_feed_57 rfl rfl ?_
          refine xr_bipush (pc' := 61) (16 : Int32) hC dX10_feed_59 rfl (by decide) ?_
          refine xr_icmp_ge (pc' := 64) 69 hC dX10_feed_61 rfl (by decide) hf (fun hf => ?_) (fun hf => ?_)
          · refine xr_iload (pc' := 71) 5 hC dX10_feed_69 rfl rfl ?_
            exact w_m_feed_b71 hC (m_feed_b18 N n) ih _ _ _ _ _ _ _ _ hf
          refine xr_iload (pc' := 66) 4 hC dX10_feed_64 rfl rfl ?_
          refine xr_goto 71 hC dX10_feed_66 (by decide) ?_
          exact w_m_feed_b71 hC (m_feed_b18 N n) ih _ _ _ _ _ _ _ _ hf
        refine xr_iload_n (pc' := 54) 3 hC dX10_feed_53 rfl rfl rfl ?_
        refine xr_goto 71 hC dX10_feed_54 (by decide) ?_
        exact w_m_feed_b71 hC (m_feed_b18 N n) ih _ _ _ _ _ _ _ _ hf
      refine xr_iload_n (pc' := 43) 2 hC dX10_feed_42 rfl rfl rfl ?_
      refine xr_goto 71 hC dX10_feed_43 (by decide) ?_
      exact w_m_feed_b71 hC (m_feed_b18 N n) ih _ _ _ _ _ _ _ _ hf
    refine xr_iload_n (pc' := 32) 1 hC dX10_feed_31 rfl rfl rfl ?_
    refine xr_goto 71 hC dX10_feed_32 (by decide) ?_
    exact w_m_feed_b71 hC (m_feed_b18 N n) ih _ _ _ _ _ _ _ _ hf

set_option maxRecDepth 100000 in
set_option maxHeartbeats 4000000 in
theorem c_m_feed {l : Launch} {E : mE} {N : Nat} (hG : xOk (GM E)) {l1 l2 l3 l4 l5 : Int32} {σ : xS} {r : Int32} {σ' : xS} (hf : m_feed N l1 l2 l3 l4 l5 σ = some (r, σ')) : xMet l (GM E) yX10_feed cX10_feed 8 (some .int) (k2_rm 0 0) [.ref (E.2.2.1 0), .int l1, .int l2, .int l3, .int l4, .int l5] σ (some (.int r)) σ' := by
  refine x_met (own := RX10) (by decide +kernel) hG rfl (Nat.le_of_ble_eq_true rfl) (fun C hl hC => ?_)
  subst hl
  show xw C (GM E) 8 (xq C (GM E) (some (.int r)) σ') σ 0 [(0, .ref (E.2.2.1 0)), (1, .int l1), (2, .int l2), (3, .int l3), (4, .int l4), (5, .int l5)] []
  unfold m_feed at hf
  refine xr_aload_n (pc' := 1) 0 hC dX10_feed_0 rfl rfl rfl ?_
  refine gX10_m_taped (pc' := 4) hC dX10_feed_1 rfl ?_
  refine xr_bipush (pc' := 6) (20 : Int32) hC dX10_feed_4 rfl (by decide) ?_
  refine xr_iadd (pc' := 7) hC dX10_feed_6 rfl ?_
  refine xr_sipush (pc' := 10) (400 : Int32) hC dX10_feed_7 rfl (by decide) ?_
  refine xr_icmp_le (pc' := 13) 15 hC dX10_feed_10 rfl (by decide) hf (fun hf => ?_) (fun hf => ?_)
  · refine xr_iconst (pc' := 16) (0 : Int32) hC dX10_feed_15 rfl (by decide) ?_
    refine xr_istore (pc' := 18) (lv' := [(0, .ref (E.2.2.1 0)), (1, .int l1), (2, .int l2), (3, .int l3), (4, .int l4), (5, .int l5), (6, .int (0 : Int32))]) hC dX10_feed_16 rfl (by decide) [1, 2, 3, 4, 5, 6, 0] rfl ?_
    exact w_m_feed_b18 hC N _ _ _ _ _ _ _ hf
  refine xr_iconst (pc' := 14) (-1 : Int32) hC dX10_feed_13 rfl (by decide) ?_
  exact xr_ireturn hC dX10_feed_14 hf

set_option maxRecDepth 100000 in
set_option maxHeartbeats 4000000 in
theorem c_m_end {l : Launch} {E : mE} {N : Nat} (hG : xOk (GM E)) {l1 : Int32} {σ : xS} {r : Int32} {σ' : xS} (hf : m_end N l1 σ = some (r, σ')) : xMet l (GM E) yX10_end cX10_end 2 (some .boolean) (k2_rm 0 0) [.ref (E.2.2.1 0), .int l1] σ (some (.int r)) σ' := by
  refine x_met (own := RX10) (by decide +kernel) hG rfl (Nat.le_of_ble_eq_true rfl) (fun C hl hC => ?_)
  subst hl
  show xw C (GM E) 2 (xq C (GM E) (some (.int r)) σ') σ 0 [(0, .ref (E.2.2.1 0)), (1, .int l1)] []
  unfold m_end at hf
  refine xr_iload_n (pc' := 1) 1 hC dX10_end_0 rfl rfl rfl ?_
  refine xr_if_lt (pc' := 4) 12 hC dX10_end_1 rfl (by decide) hf (fun hf => ?_) (fun hf => ?_)
  · refine xr_iconst (pc' := 13) (0 : Int32) hC dX10_end_12 rfl (by decide) ?_
    exact xr_zreturn hC dX10_end_13 rfl hf
  refine xr_iload_n (pc' := 5) 1 hC dX10_end_4 rfl rfl rfl ?_
  refine xr_aload_n (pc' := 6) 0 hC dX10_end_5 rfl rfl rfl ?_
  refine gX10_m_taped (pc' := 9) hC dX10_end_6 rfl ?_
  refine xr_icmp_le (pc' := 12) 14 hC dX10_end_9 rfl (by decide) hf (fun hf => ?_) (fun hf => ?_)
  · refine xr_aload_n (pc' := 15) 0 hC dX10_end_14 rfl rfl rfl ?_
    refine xr_iload_n (pc' := 16) 1 hC dX10_end_15 rfl rfl rfl ?_
    refine pX10_m_taped (pc' := 19) hC dX10_end_16 rfl hf (fun σ1 hf => ?_)
    refine xr_iconst (pc' := 20) (1 : Int32) hC dX10_end_19 rfl (by decide) ?_
    exact xr_zreturn hC dX10_end_20 rfl hf
  refine xr_iconst (pc' := 13) (0 : Int32) hC dX10_end_12 rfl (by decide) ?_
  exact xr_zreturn hC dX10_end_13 rfl hf

set_option maxRecDepth 100000 in
set_option maxHeartbeats 4000000 in
theorem c_m_isIn {l : Launch} {E : mE} {N : Nat} (hG : xOk (GM E)) {l0 l1 l2 : Int32} {σ : xS} {r : Int32} {σ' : xS} (hf : m_isIn N l0 l1 l2 σ = some (r, σ')) : xMet l (GM E) yX10_isIn cX10_isIn 3 (some .boolean) (k2_rm 0 0) [.int l0, .int l1, .int l2] σ (some (.int r)) σ' := by
  refine x_met (own := RX10) (by decide +kernel) hG rfl (Nat.le_of_ble_eq_true rfl) (fun C hl hC => ?_)
  subst hl
  show xw C (GM E) 3 (xq C (GM E) (some (.int r)) σ') σ 0 [(0, .int l0), (1, .int l1), (2, .int l2)] []
  unfold m_isIn at hf
  refine xr_iload_n (pc' := 1) 0 hC dX10_isIn_0 rfl rfl rfl ?_
  refine xr_iload_n (pc' := 2) 1 hC dX10_isIn_1 rfl rfl rfl ?_
  refine xr_icmp_lt (pc' := 5) 14 hC dX10_isIn_2 rfl (by decide) hf (fun hf => ?_) (fun hf => ?_)
  · refine xr_iconst (pc' := 15) (0 : Int32) hC dX10_isIn_14 rfl (by decide) ?_
    exact xr_zreturn hC dX10_isIn_15 rfl hf
  refine xr_iload_n (pc' := 6) 0 hC dX10_isIn_5 rfl rfl rfl ?_
  refine xr_iload_n (pc' := 7) 2 hC dX10_isIn_6 rfl rfl rfl ?_
  refine xr_icmp_gt (pc' := 10) 14 hC dX10_isIn_7 rfl (by decide) hf (fun hf => ?_) (fun hf => ?_)
  · refine xr_iconst (pc' := 15) (0 : Int32) hC dX10_isIn_14 rfl (by decide) ?_
    exact xr_zreturn hC dX10_isIn_15 rfl hf
  refine xr_iconst (pc' := 11) (1 : Int32) hC dX10_isIn_10 rfl (by decide) ?_
  refine xr_goto 15 hC dX10_isIn_11 (by decide) ?_
  exact xr_zreturn hC dX10_isIn_15 rfl hf

set_option maxRecDepth 100000 in
set_option maxHeartbeats 4000000 in
theorem w_m_next_b52 {C : xT} {E : mE} {N : Nat} {r : Int32} {σ' : xS} (hC : xc C (GM E) RX10 cX10_next 1 (some .int) (k2_rm 0 0)) : ∀ (σ : xS), m_next_b52 N σ = some (r, σ') → xw C (GM E) 1 (xq C (GM E) (some (.int r)) σ') σ 52 [(0, .ref (E.2.2.1 0))] [] := by
  intro σ hf
  unfold m_next_b52 at hf
  refine xr_aload_n (pc' := 53) 0 hC dX10_next_52 rfl rfl rfl ?_
  refine xr_aload_n (pc' := 54) 0 hC dX10_next_53 rfl rfl rfl ?_
  refine gX10_m_at (pc' := 57) hC dX10_next_54 rfl ?_
  refine pX10_m_begun (pc' := 60) hC dX10_next_57 rfl hf (fun σ1 hf => ?_)
  refine xr_aload_n (pc' := 61) 0 hC dX10_next_60 rfl rfl rfl ?_
  refine gX10_m_at (pc' := 64) hC dX10_next_61 rfl ?_
  refine xr_aload_n (pc' := 65) 0 hC dX10_next_64 rfl rfl rfl ?_
  refine gX10_m_size (pc' := 68) hC dX10_next_65 rfl ?_
  refine xr_icmp_ge (pc' := 71) 83 hC dX10_next_68 rfl (by decide) hf (fun hf => ?_) (fun hf => ?_)
  · refine xr_iconst (pc' := 84) (-1 : Int32) hC dX10_next_83 rfl (by decide) ?_
    exact xr_ireturn hC dX10_next_84 hf
  refine xr_aload_n (pc' := 72) 0 hC dX10_next_71 rfl rfl rfl ?_
  refine gX10_m_tape (pc' := 75) hC dX10_next_72 rfl ?_
  refine xr_aload_n (pc' := 76) 0 hC dX10_next_75 rfl rfl rfl ?_
  refine gX10_m_at (pc' := 79) hC dX10_next_76 rfl ?_
  refine lM_0 (pc' := 80) hC dX10_next_79 rfl hf (fun v2 hf => ?_)
  refine xr_goto 84 hC dX10_next_80 (by decide) ?_
  exact xr_ireturn hC dX10_next_84 hf

set_option maxRecDepth 100000 in
set_option maxHeartbeats 4000000 in
theorem w_m_next_b0 {C : xT} {E : mE} {N : Nat} {r : Int32} {σ' : xS} (hC : xc C (GM E) RX10 cX10_next 1 (some .int) (k2_rm 0 0)) : ∀ (n : Nat) (σ : xS), m_next_b0 N n σ = some (r, σ') → xw C (GM E) 1 (xq C (GM E) (some (.int r)) σ') σ 0 [(0, .ref (E.2.2.1 0))] [] := by
  intro n
  induction n with
  | zero =>
    intro σ hf
    rw [m_next_b0] at hf
    cases hf
  | succ n ih =>
    intro σ hf
    rw [m_next_b0] at hf
    refine xr_aload_n (pc' := 1) 0 hC dX10_next_0 rfl rfl rfl ?_
    refine gX10_m_at (pc' := 4) hC dX10_next_1 rfl ?_
    refine xr_aload_n (pc' := 5) 0 hC dX10_next_4 rfl rfl rfl ?_
    refine gX10_m_size (pc' := 8) hC dX10_next_5 rfl ?_
    refine xr_icmp_ge (pc' := 11) 52 hC dX10_next_8 rfl (by decide) hf (fun hf => ?_) (fun hf => ?_)
    · exact w_m_next_b52 hC _ hf
    refine xr_aload_n (pc' := 12) 0 hC dX10_next_11 rfl rfl rfl ?_
    refine gX10_m_tape (pc' := 15) hC dX10_next_12 rfl ?_
    refine xr_aload_n (pc' := 16) 0 hC dX10_next_15 rfl rfl rfl ?_
    refine gX10_m_at (pc' := 19) hC dX10_next_16 rfl ?_
    refine lM_0 (pc' := 20) hC dX10_next_19 rfl hf (fun v3 hf => ?_)
    refine xr_bipush (pc' := 22) (10 : Int32) hC dX10_next_20 rfl (by decide) ?_
    refine xr_icmp_eq (pc' := 25) 39 hC dX10_next_22 rfl (by decide) hf (fun hf => ?_) (fun hf => ?_)
    · refine xr_aload_n (pc' := 40) 0 hC dX10_next_39 rfl rfl rfl ?_
      refine xr_dup (pc' := 41) hC dX10_next_40 rfl rfl ?_
      refine gX10_m_at (pc' := 44) hC dX10_next_41 rfl ?_
      refine xr_iconst (pc' := 45) (1 : Int32) hC dX10_next_44 rfl (by decide) ?_
      refine xr_iadd (pc' := 46) hC dX10_next_45 rfl ?_
      refine pX10_m_at (pc' := 49) hC dX10_next_46 rfl hf (fun σ4 hf => ?_)
      refine xr_goto 0 hC dX10_next_49 (by decide) ?_
      exact ih _ hf
    refine xr_aload_n (pc' := 26) 0 hC dX10_next_25 rfl rfl rfl ?_
    refine gX10_m_tape (pc' := 29) hC dX10_next_26 rfl ?_
    refine xr_aload_n (pc' := 30) 0 hC dX10_next_29 rfl rfl rfl ?_
    refine gX10_m_at (pc' := 33) hC dX10_next_30 rfl ?_
    refine lM_0 (pc' := 34) hC dX10_next_33 rfl hf (fun v5 hf => ?_)
    refine xr_bipush (pc' := 36) (32 : Int32) hC dX10_next_34 rfl (by decide) ?_
    refine xr_icmp_ne (pc' := 39) 52 hC dX10_next_36 rfl (by decide) hf (fun hf => ?_) (fun hf => ?_)
    · exact w_m_next_b52 hC _ hf
    refine xr_aload_n (pc' := 40) 0 hC dX10_next_39 rfl rfl rfl ?_
    refine xr_dup (pc' := 41) hC dX10_next_40 rfl rfl ?_
    refine gX10_m_at (pc' := 44) hC dX10_next_41 rfl ?_
    refine xr_iconst (pc' := 45) (1 : Int32) hC dX10_next_44 rfl (by decide) ?_
    refine xr_iadd (pc' := 46) hC dX10_next_45 rfl ?_
    refine pX10_m_at (pc' := 49) hC dX10_next_46 rfl hf (fun σ6 hf => ?_)
    refine xr_goto 0 hC dX10_next_49 (by decide) ?_
    exact ih _ hf

set_option maxRecDepth 100000 in
set_option maxHeartbeats 4000000 in
theorem c_m_next {l : Launch} {E : mE} {N : Nat} (hG : xOk (GM E)) {σ : xS} {r : Int32} {σ' : xS} (hf : m_next N σ = some (r, σ')) : xMet l (GM E) yX10_next cX10_next 1 (some .int) (k2_rm 0 0) [.ref (E.2.2.1 0)] σ (some (.int r)) σ' := by
  refine x_met (own := RX10) (by decide +kernel) hG rfl (Nat.le_of_ble_eq_true rfl) (fun C hl hC => ?_)
  subst hl
  show xw C (GM E) 1 (xq C (GM E) (some (.int r)) σ') σ 0 [(0, .ref (E.2.2.1 0))] []
  unfold m_next at hf
  exact w_m_next_b0 hC N _ hf

set_option maxRecDepth 100000 in
set_option maxHeartbeats 4000000 in
theorem c_m_isLetter {l : Launch} {E : mE} {N : Nat} (hG : xOk (GM E)) {l0 : Int32} {σ : xS} {r : Int32} {σ' : xS} (hf : m_isLetter N l0 σ = some (r, σ')) : xMet l (GM E) yX10_isLetter cX10_isLetter 1 (some .boolean) (k2_rm 0 0) [.int l0] σ (some (.int r)) σ' := by
  refine x_met (own := RX10) (by decide +kernel) hG rfl (Nat.le_of_ble_eq_true rfl) (fun C hl hC => ?_)
  subst hl
  show xw C (GM E) 1 (xq C (GM E) (some (.int r)) σ') σ 0 [(0, .int l0)] []
  unfold m_isLetter at hf
  refine xr_iload_n (pc' := 1) 0 hC dX10_isLetter_0 rfl rfl rfl ?_
  refine xr_bipush (pc' := 3) (97 : Int32) hC dX10_isLetter_1 rfl (by decide) ?_
  refine xr_icmp_lt (pc' := 6) 16 hC dX10_isLetter_3 rfl (by decide) hf (fun hf => ?_) (fun hf => ?_)
  · refine xr_iconst (pc' := 17) (0 : Int32) hC dX10_isLetter_16 rfl (by decide) ?_
    exact xr_zreturn hC dX10_isLetter_17 rfl hf
  refine xr_iload_n (pc' := 7) 0 hC dX10_isLetter_6 rfl rfl rfl ?_
  refine xr_bipush (pc' := 9) (122 : Int32) hC dX10_isLetter_7 rfl (by decide) ?_
  refine xr_icmp_gt (pc' := 12) 16 hC dX10_isLetter_9 rfl (by decide) hf (fun hf => ?_) (fun hf => ?_)
  · refine xr_iconst (pc' := 17) (0 : Int32) hC dX10_isLetter_16 rfl (by decide) ?_
    exact xr_zreturn hC dX10_isLetter_17 rfl hf
  refine xr_iconst (pc' := 13) (1 : Int32) hC dX10_isLetter_12 rfl (by decide) ?_
  refine xr_goto 17 hC dX10_isLetter_13 (by decide) ?_
  exact xr_zreturn hC dX10_isLetter_17 rfl hf

set_option maxRecDepth 100000 in
set_option maxHeartbeats 4000000 in
theorem w_m_isWord_boxWord_b67 {C : xT} {E : mE} {N : Nat} {r : Int32} {σ' : xS} (hC : xc C (GM E) RX10 cX10_isWord 4 (some .boolean) (k2_rm 1 20)) : ∀ (n : Nat) (l2 l3 : Int32) (σ : xS), m_isWord_b67 1 3 N n l2 l3 σ = some (r, σ') → xw C (GM E) 4 (xq C (GM E) (some (.int r)) σ') σ 67 [(0, .ref (E.2.2.1 0)), (1, .ref (E.2.2.1 2)), (2, .int l2), (3, .int l3)] [] := by
  intro n
  induction n with
  | zero =>
    intro l2 l3 σ hf
    rw [m_isWord_b67] at hf
    cases hf
  | succ n ih =>
    intro l2 l3 σ hf
    rw [m_isWord_b67] at hf
    refine xr_iload_n (pc' := 68) 3 hC dX10_isWord_67 rfl rfl rfl ?_
    refine xr_aload_n (pc' := 69) 1 hC dX10_isWord_68 rfl rfl rfl ?_
    refine nM_1 (pc' := 70) hC dX10_isWord_69 rfl ?_
    refine xr_icmp_ge (pc' := 73) 98 hC dX10_isWord_70 rfl (by decide) hf (fun hf => ?_) (fun hf => ?_)
    · refine xr_aload_n (pc' := 99) 0 hC dX10_isWord_98 rfl rfl rfl ?_
      refine xr_iload_n (pc' := 100) 2 hC dX10_isWord_99 rfl rfl rfl ?_
      refine pX10_m_at (pc' := 103) hC dX10_isWord_100 rfl hf (fun σ4 hf => ?_)
      refine xr_aload_n (pc' := 104) 0 hC dX10_isWord_103 rfl rfl rfl ?_
      refine xr_iload_n (pc' := 105) 2 hC dX10_isWord_104 rfl rfl rfl ?_
      refine pX10_m_ended (pc' := 108) hC dX10_isWord_105 rfl hf (fun σ5 hf => ?_)
      refine xr_iconst (pc' := 109) (1 : Int32) hC dX10_isWord_108 rfl (by decide) ?_
      exact xr_zreturn hC dX10_isWord_109 rfl hf
    refine xr_aload_n (pc' := 74) 0 hC dX10_isWord_73 rfl rfl rfl ?_
    refine gX10_m_tape (pc' := 77) hC dX10_isWord_74 rfl ?_
    refine xr_aload_n (pc' := 78) 0 hC dX10_isWord_77 rfl rfl rfl ?_
    refine gX10_m_at (pc' := 81) hC dX10_isWord_78 rfl ?_
    refine xr_iload_n (pc' := 82) 3 hC dX10_isWord_81 rfl rfl rfl ?_
    refine xr_iadd (pc' := 83) hC dX10_isWord_82 rfl ?_
    refine lM_0 (pc' := 84) hC dX10_isWord_83 rfl hf (fun v6 hf => ?_)
    refine xr_aload_n (pc' := 85) 1 hC dX10_isWord_84 rfl rfl rfl ?_
    refine xr_iload_n (pc' := 86) 3 hC dX10_isWord_85 rfl rfl rfl ?_
    refine lM_1 (pc' := 87) hC dX10_isWord_86 rfl hf (fun v7 hf => ?_)
    refine xr_icmp_eq (pc' := 90) 92 hC dX10_isWord_87 rfl (by decide) hf (fun hf => ?_) (fun hf => ?_)
    · refine xr_iinc (pc' := 95) hC dX10_isWord_92 rfl _ rfl hf 3 rfl (by decide) [1, 2, 3, 0] (fun l3_8 => [(0, .ref (E.2.2.1 0)), (1, .ref (E.2.2.1 2)), (2, .int l2), (3, .int l3_8)]) (fun _ => rfl) (fun l3_8 hf => ?_)
      refine xr_goto 67 hC dX10_isWord_95 (by decide) ?_
      exact ih _ _ _ hf
    refine xr_iconst (pc' := 91) (0 : Int32) hC dX10_isWord_90 rfl (by decide) ?_
    exact xr_zreturn hC dX10_isWord_91 rfl hf

set_option maxRecDepth 100000 in
set_option maxHeartbeats 4000000 in
theorem w_m_isWord_boxWord_b26 {C : xT} {E : mE} {N : Nat} {r : Int32} {σ' : xS} (hC : xc C (GM E) RX10 cX10_isWord 4 (some .boolean) (k2_rm 1 20)) : ∀ (n : Nat) (l2 : Int32) (σ : xS), m_isWord_b26 1 3 N n l2 σ = some (r, σ') → xw C (GM E) 4 (xq C (GM E) (some (.int r)) σ') σ 26 [(0, .ref (E.2.2.1 0)), (1, .ref (E.2.2.1 2)), (2, .int l2)] [] := by
  intro n
  induction n with
  | zero =>
    intro l2 σ hf
    rw [m_isWord_b26] at hf
    cases hf
  | succ n ih =>
    intro l2 σ hf
    rw [m_isWord_b26] at hf
    refine xr_iload_n (pc' := 27) 2 hC dX10_isWord_26 rfl rfl rfl ?_
    refine xr_aload_n (pc' := 28) 0 hC dX10_isWord_27 rfl rfl rfl ?_
    refine gX10_m_size (pc' := 31) hC dX10_isWord_28 rfl ?_
    refine xr_icmp_ge (pc' := 34) 52 hC dX10_isWord_31 rfl (by decide) hf (fun hf => ?_) (fun hf => ?_)
    · refine xr_iload_n (pc' := 53) 2 hC dX10_isWord_52 rfl rfl rfl ?_
      refine xr_aload_n (pc' := 54) 0 hC dX10_isWord_53 rfl rfl rfl ?_
      refine gX10_m_at (pc' := 57) hC dX10_isWord_54 rfl ?_
      refine xr_isub (pc' := 58) hC dX10_isWord_57 rfl ?_
      refine xr_aload_n (pc' := 59) 1 hC dX10_isWord_58 rfl rfl rfl ?_
      refine nM_1 (pc' := 60) hC dX10_isWord_59 rfl ?_
      refine xr_icmp_eq (pc' := 63) 65 hC dX10_isWord_60 rfl (by decide) hf (fun hf => ?_) (fun hf => ?_)
      · refine xr_iconst (pc' := 66) (0 : Int32) hC dX10_isWord_65 rfl (by decide) ?_
        refine xr_istore_n (pc' := 67) (lv' := [(0, .ref (E.2.2.1 0)), (1, .ref (E.2.2.1 2)), (2, .int l2), (3, .int (0 : Int32))]) hC dX10_isWord_66 rfl rfl (by decide) [1, 2, 3, 0] rfl ?_
        exact w_m_isWord_boxWord_b67 hC N _ _ _ hf
      refine xr_iconst (pc' := 64) (0 : Int32) hC dX10_isWord_63 rfl (by decide) ?_
      exact xr_zreturn hC dX10_isWord_64 rfl hf
    refine xr_aload_n (pc' := 35) 0 hC dX10_isWord_34 rfl rfl rfl ?_
    refine gX10_m_tape (pc' := 38) hC dX10_isWord_35 rfl ?_
    refine xr_iload_n (pc' := 39) 2 hC dX10_isWord_38 rfl rfl rfl ?_
    refine lM_0 (pc' := 40) hC dX10_isWord_39 rfl hf (fun v9 hf => ?_)
    refine xr_callS (pc' := 43) (rmy := k2_rm 0 0) [.int v9] hC dX10_isWord_40 rfl kX10_148 rfl rfl rfl ⟨Nat.le_of_ble_eq_true rfl, Nat.le_of_ble_eq_true rfl⟩ rfl (Nat.le_of_ble_eq_true rfl) hf (fun _ _ h => c_m_isLetter (xc_ok hC) h) (fun v10 σ11 hf => ?_)
    refine xr_if_eq (pc' := 46) 52 hC dX10_isWord_43 rfl (by decide) hf (fun hf => ?_) (fun hf => ?_)
    · refine xr_iload_n (pc' := 53) 2 hC dX10_isWord_52 rfl rfl rfl ?_
      refine xr_aload_n (pc' := 54) 0 hC dX10_isWord_53 rfl rfl rfl ?_
      refine gX10_m_at (pc' := 57) hC dX10_isWord_54 rfl ?_
      refine xr_isub (pc' := 58) hC dX10_isWord_57 rfl ?_
      refine xr_aload_n (pc' := 59) 1 hC dX10_isWord_58 rfl rfl rfl ?_
      refine nM_1 (pc' := 60) hC dX10_isWord_59 rfl ?_
      refine xr_icmp_eq (pc' := 63) 65 hC dX10_isWord_60 rfl (by decide) hf (fun hf => ?_) (fun hf => ?_)
      · refine xr_iconst (pc' := 66) (0 : Int32) hC dX10_isWord_65 rfl (by decide) ?_
        refine xr_istore_n (pc' := 67) (lv' := [(0, .ref (E.2.2.1 0)), (1, .ref (E.2.2.1 2)), (2, .int l2), (3, .int (0 : Int32))]) hC dX10_isWord_66 rfl rfl (by decide) [1, 2, 3, 0] rfl ?_
        exact w_m_isWord_boxWord_b67 hC N _ _ _ hf
      refine xr_iconst (pc' := 64) (0 : Int32) hC dX10_isWord_63 rfl (by decide) ?_
      exact xr_zreturn hC dX10_isWord_64 rfl hf
    refine xr_iinc (pc' := 49) hC dX10_isWord_46 rfl _ rfl hf 2 rfl (by decide) [1, 2, 0] (fun l2_12 => [(0, .ref (E.2.2.1 0)), (1, .ref (E.2.2.1 2)), (2, .int l2_12)]) (fun _ => rfl) (fun l2_12 hf => ?_)
    refine xr_goto 26 hC dX10_isWord_49 (by decide) ?_
    exact ih _ _ hf

set_option maxRecDepth 100000 in
set_option maxHeartbeats 4000000 in
theorem c_m_isWord_boxWord {l : Launch} {E : mE} {N : Nat} (hG : xOk (GM E)) {σ : xS} {r : Int32} {σ' : xS} (hf : m_isWord 1 3 N σ = some (r, σ')) : xMet l (GM E) yX10_isWord cX10_isWord 4 (some .boolean) (k2_rm 1 20) [.ref (E.2.2.1 0), .ref (E.2.2.1 2)] σ (some (.int r)) σ' := by
  refine x_met (own := RX10) (by decide +kernel) hG rfl (Nat.le_of_ble_eq_true rfl) (fun C hl hC => ?_)
  subst hl
  show xw C (GM E) 4 (xq C (GM E) (some (.int r)) σ') σ 0 [(0, .ref (E.2.2.1 0)), (1, .ref (E.2.2.1 2))] []
  unfold m_isWord at hf
  refine xr_aload_n (pc' := 1) 0 hC dX10_isWord_0 rfl rfl rfl ?_
  refine xr_callV (pc' := 4) (rmy := k2_rm 0 0) [] 0 hC dX10_isWord_1 rfl kX10_133 rfl rfl rfl rfl rfl ⟨Nat.le_of_ble_eq_true rfl, Nat.le_of_ble_eq_true rfl⟩ rfl (Nat.le_of_ble_eq_true rfl) hf (fun _ _ h => c_m_next (xc_ok hC) h) (fun v1 σ2 hf => ?_)
  refine xr_iconst (pc' := 5) (-1 : Int32) hC dX10_isWord_4 rfl (by decide) ?_
  refine xr_icmp_eq (pc' := 8) 19 hC dX10_isWord_5 rfl (by decide) hf (fun hf => ?_) (fun hf => ?_)
  · refine xr_iconst (pc' := 20) (0 : Int32) hC dX10_isWord_19 rfl (by decide) ?_
    exact xr_zreturn hC dX10_isWord_20 rfl hf
  refine xr_aload_n (pc' := 9) 0 hC dX10_isWord_8 rfl rfl rfl ?_
  refine gX10_m_at (pc' := 12) hC dX10_isWord_9 rfl ?_
  refine xr_aload_n (pc' := 13) 0 hC dX10_isWord_12 rfl rfl rfl ?_
  refine gX10_m_ended (pc' := 16) hC dX10_isWord_13 rfl ?_
  refine xr_icmp_ne (pc' := 19) 21 hC dX10_isWord_16 rfl (by decide) hf (fun hf => ?_) (fun hf => ?_)
  · refine xr_aload_n (pc' := 22) 0 hC dX10_isWord_21 rfl rfl rfl ?_
    refine gX10_m_at (pc' := 25) hC dX10_isWord_22 rfl ?_
    refine xr_istoreb_n (pc' := 26) hC dX10_isWord_25 rfl hf rfl (by decide) [1, 2, 0] (fun l2_3 => [(0, .ref (E.2.2.1 0)), (1, .ref (E.2.2.1 2)), (2, .int l2_3)]) (fun _ => rfl) (fun l2_3 hf => ?_)
    exact w_m_isWord_boxWord_b26 hC N _ _ hf
  refine xr_iconst (pc' := 20) (0 : Int32) hC dX10_isWord_19 rfl (by decide) ?_
  exact xr_zreturn hC dX10_isWord_20 rfl hf

set_option maxRecDepth 100000 in
set_option maxHeartbeats 4000000 in
theorem w_m_isWord_holeWord_b67 {C : xT} {E : mE} {N : Nat} {r : Int32} {σ' : xS} (hC : xc C (GM E) RX10 cX10_isWord 4 (some .boolean) (k2_rm 1 20)) : ∀ (n : Nat) (l2 l3 : Int32) (σ : xS), m_isWord_b67 2 4 N n l2 l3 σ = some (r, σ') → xw C (GM E) 4 (xq C (GM E) (some (.int r)) σ') σ 67 [(0, .ref (E.2.2.1 0)), (1, .ref (E.2.2.1 3)), (2, .int l2), (3, .int l3)] [] := by
  intro n
  induction n with
  | zero =>
    intro l2 l3 σ hf
    rw [m_isWord_b67] at hf
    cases hf
  | succ n ih =>
    intro l2 l3 σ hf
    rw [m_isWord_b67] at hf
    refine xr_iload_n (pc' := 68) 3 hC dX10_isWord_67 rfl rfl rfl ?_
    refine xr_aload_n (pc' := 69) 1 hC dX10_isWord_68 rfl rfl rfl ?_
    refine nM_2 (pc' := 70) hC dX10_isWord_69 rfl ?_
    refine xr_icmp_ge (pc' := 73) 98 hC dX10_isWord_70 rfl (by decide) hf (fun hf => ?_) (fun hf => ?_)
    · refine xr_aload_n (pc' := 99) 0 hC dX10_isWord_98 rfl rfl rfl ?_
      refine xr_iload_n (pc' := 100) 2 hC dX10_isWord_99 rfl rfl rfl ?_
      refine pX10_m_at (pc' := 103) hC dX10_isWord_100 rfl hf (fun σ4 hf => ?_)
      refine xr_aload_n (pc' := 104) 0 hC dX10_isWord_103 rfl rfl rfl ?_
      refine xr_iload_n (pc' := 105) 2 hC dX10_isWord_104 rfl rfl rfl ?_
      refine pX10_m_ended (pc' := 108) hC dX10_isWord_105 rfl hf (fun σ5 hf => ?_)
      refine xr_iconst (pc' := 109) (1 : Int32) hC dX10_isWord_108 rfl (by decide) ?_
      exact xr_zreturn hC dX10_isWord_109 rfl hf
    refine xr_aload_n (pc' := 74) 0 hC dX10_isWord_73 rfl rfl rfl ?_
    refine gX10_m_tape (pc' := 77) hC dX10_isWord_74 rfl ?_
    refine xr_aload_n (pc' := 78) 0 hC dX10_isWord_77 rfl rfl rfl ?_
    refine gX10_m_at (pc' := 81) hC dX10_isWord_78 rfl ?_
    refine xr_iload_n (pc' := 82) 3 hC dX10_isWord_81 rfl rfl rfl ?_
    refine xr_iadd (pc' := 83) hC dX10_isWord_82 rfl ?_
    refine lM_0 (pc' := 84) hC dX10_isWord_83 rfl hf (fun v6 hf => ?_)
    refine xr_aload_n (pc' := 85) 1 hC dX10_isWord_84 rfl rfl rfl ?_
    refine xr_iload_n (pc' := 86) 3 hC dX10_isWord_85 rfl rfl rfl ?_
    refine lM_2 (pc' := 87) hC dX10_isWord_86 rfl hf (fun v7 hf => ?_)
    refine xr_icmp_eq (pc' := 90) 92 hC dX10_isWord_87 rfl (by decide) hf (fun hf => ?_) (fun hf => ?_)
    · refine xr_iinc (pc' := 95) hC dX10_isWord_92 rfl _ rfl hf 3 rfl (by decide) [1, 2, 3, 0] (fun l3_8 => [(0, .ref (E.2.2.1 0)), (1, .ref (E.2.2.1 3)), (2, .int l2), (3, .int l3_8)]) (fun _ => rfl) (fun l3_8 hf => ?_)
      refine xr_goto 67 hC dX10_isWord_95 (by decide) ?_
      exact ih _ _ _ hf
    refine xr_iconst (pc' := 91) (0 : Int32) hC dX10_isWord_90 rfl (by decide) ?_
    exact xr_zreturn hC dX10_isWord_91 rfl hf

set_option maxRecDepth 100000 in
set_option maxHeartbeats 4000000 in
theorem w_m_isWord_holeWord_b26 {C : xT} {E : mE} {N : Nat} {r : Int32} {σ' : xS} (hC : xc C (GM E) RX10 cX10_isWord 4 (some .boolean) (k2_rm 1 20)) : ∀ (n : Nat) (l2 : Int32) (σ : xS), m_isWord_b26 2 4 N n l2 σ = some (r, σ') → xw C (GM E) 4 (xq C (GM E) (some (.int r)) σ') σ 26 [(0, .ref (E.2.2.1 0)), (1, .ref (E.2.2.1 3)), (2, .int l2)] [] := by
  intro n
  induction n with
  | zero =>
    intro l2 σ hf
    rw [m_isWord_b26] at hf
    cases hf
  | succ n ih =>
    intro l2 σ hf
    rw [m_isWord_b26] at hf
    refine xr_iload_n (pc' := 27) 2 hC dX10_isWord_26 rfl rfl rfl ?_
    refine xr_aload_n (pc' := 28) 0 hC dX10_isWord_27 rfl rfl rfl ?_
    refine gX10_m_size (pc' := 31) hC dX10_isWord_28 rfl ?_
    refine xr_icmp_ge (pc' := 34) 52 hC dX10_isWord_31 rfl (by decide) hf (fun hf => ?_) (fun hf => ?_)
    · refine xr_iload_n (pc' := 53) 2 hC dX10_isWord_52 rfl rfl rfl ?_
      refine xr_aload_n (pc' := 54) 0 hC dX10_isWord_53 rfl rfl rfl ?_
      refine gX10_m_at (pc' := 57) hC dX10_isWord_54 rfl ?_
      refine xr_isub (pc' := 58) hC dX10_isWord_57 rfl ?_
      refine xr_aload_n (pc' := 59) 1 hC dX10_isWord_58 rfl rfl rfl ?_
      refine nM_2 (pc' := 60) hC dX10_isWord_59 rfl ?_
      refine xr_icmp_eq (pc' := 63) 65 hC dX10_isWord_60 rfl (by decide) hf (fun hf => ?_) (fun hf => ?_)
      · refine xr_iconst (pc' := 66) (0 : Int32) hC dX10_isWord_65 rfl (by decide) ?_
        refine xr_istore_n (pc' := 67) (lv' := [(0, .ref (E.2.2.1 0)), (1, .ref (E.2.2.1 3)), (2, .int l2), (3, .int (0 : Int32))]) hC dX10_isWord_66 rfl rfl (by decide) [1, 2, 3, 0] rfl ?_
        exact w_m_isWord_holeWord_b67 hC N _ _ _ hf
      refine xr_iconst (pc' := 64) (0 : Int32) hC dX10_isWord_63 rfl (by decide) ?_
      exact xr_zreturn hC dX10_isWord_64 rfl hf
    refine xr_aload_n (pc' := 35) 0 hC dX10_isWord_34 rfl rfl rfl ?_
    refine gX10_m_tape (pc' := 38) hC dX10_isWord_35 rfl ?_
    refine xr_iload_n (pc' := 39) 2 hC dX10_isWord_38 rfl rfl rfl ?_
    refine lM_0 (pc' := 40) hC dX10_isWord_39 rfl hf (fun v9 hf => ?_)
    refine xr_callS (pc' := 43) (rmy := k2_rm 0 0) [.int v9] hC dX10_isWord_40 rfl kX10_148 rfl rfl rfl ⟨Nat.le_of_ble_eq_true rfl, Nat.le_of_ble_eq_true rfl⟩ rfl (Nat.le_of_ble_eq_true rfl) hf (fun _ _ h => c_m_isLetter (xc_ok hC) h) (fun v10 σ11 hf => ?_)
    refine xr_if_eq (pc' := 46) 52 hC dX10_isWord_43 rfl (by decide) hf (fun hf => ?_) (fun hf => ?_)
    · refine xr_iload_n (pc' := 53) 2 hC dX10_isWord_52 rfl rfl rfl ?_
      refine xr_aload_n (pc' := 54) 0 hC dX10_isWord_53 rfl rfl rfl ?_
      refine gX10_m_at (pc' := 57) hC dX10_isWord_54 rfl ?_
      refine xr_isub (pc' := 58) hC dX10_isWord_57 rfl ?_
      refine xr_aload_n (pc' := 59) 1 hC dX10_isWord_58 rfl rfl rfl ?_
      refine nM_2 (pc' := 60) hC dX10_isWord_59 rfl ?_
      refine xr_icmp_eq (pc' := 63) 65 hC dX10_isWord_60 rfl (by decide) hf (fun hf => ?_) (fun hf => ?_)
      · refine xr_iconst (pc' := 66) (0 : Int32) hC dX10_isWord_65 rfl (by decide) ?_
        refine xr_istore_n (pc' := 67) (lv' := [(0, .ref (E.2.2.1 0)), (1, .ref (E.2.2.1 3)), (2, .int l2), (3, .int (0 : Int32))]) hC dX10_isWord_66 rfl rfl (by decide) [1, 2, 3, 0] rfl ?_
        exact w_m_isWord_holeWord_b67 hC N _ _ _ hf
      refine xr_iconst (pc' := 64) (0 : Int32) hC dX10_isWord_63 rfl (by decide) ?_
      exact xr_zreturn hC dX10_isWord_64 rfl hf
    refine xr_iinc (pc' := 49) hC dX10_isWord_46 rfl _ rfl hf 2 rfl (by decide) [1, 2, 0] (fun l2_12 => [(0, .ref (E.2.2.1 0)), (1, .ref (E.2.2.1 3)), (2, .int l2_12)]) (fun _ => rfl) (fun l2_12 hf => ?_)
    refine xr_goto 26 hC dX10_isWord_49 (by decide) ?_
    exact ih _ _ hf

set_option maxRecDepth 100000 in
set_option maxHeartbeats 4000000 in
theorem c_m_isWord_holeWord {l : Launch} {E : mE} {N : Nat} (hG : xOk (GM E)) {σ : xS} {r : Int32} {σ' : xS} (hf : m_isWord 2 4 N σ = some (r, σ')) : xMet l (GM E) yX10_isWord cX10_isWord 4 (some .boolean) (k2_rm 1 20) [.ref (E.2.2.1 0), .ref (E.2.2.1 3)] σ (some (.int r)) σ' := by
  refine x_met (own := RX10) (by decide +kernel) hG rfl (Nat.le_of_ble_eq_true rfl) (fun C hl hC => ?_)
  subst hl
  show xw C (GM E) 4 (xq C (GM E) (some (.int r)) σ') σ 0 [(0, .ref (E.2.2.1 0)), (1, .ref (E.2.2.1 3))] []
  unfold m_isWord at hf
  refine xr_aload_n (pc' := 1) 0 hC dX10_isWord_0 rfl rfl rfl ?_
  refine xr_callV (pc' := 4) (rmy := k2_rm 0 0) [] 0 hC dX10_isWord_1 rfl kX10_133 rfl rfl rfl rfl rfl ⟨Nat.le_of_ble_eq_true rfl, Nat.le_of_ble_eq_true rfl⟩ rfl (Nat.le_of_ble_eq_true rfl) hf (fun _ _ h => c_m_next (xc_ok hC) h) (fun v1 σ2 hf => ?_)
  refine xr_iconst (pc' := 5) (-1 : Int32) hC dX10_isWord_4 rfl (by decide) ?_
  refine xr_icmp_eq (pc' := 8) 19 hC dX10_isWord_5 rfl (by decide) hf (fun hf => ?_) (fun hf => ?_)
  · refine xr_iconst (pc' := 20) (0 : Int32) hC dX10_isWord_19 rfl (by decide) ?_
    exact xr_zreturn hC dX10_isWord_20 rfl hf
  refine xr_aload_n (pc' := 9) 0 hC dX10_isWord_8 rfl rfl rfl ?_
  refine gX10_m_at (pc' := 12) hC dX10_isWord_9 rfl ?_
  refine xr_aload_n (pc' := 13) 0 hC dX10_isWord_12 rfl rfl rfl ?_
  refine gX10_m_ended (pc' := 16) hC dX10_isWord_13 rfl ?_
  refine xr_icmp_ne (pc' := 19) 21 hC dX10_isWord_16 rfl (by decide) hf (fun hf => ?_) (fun hf => ?_)
  · refine xr_aload_n (pc' := 22) 0 hC dX10_isWord_21 rfl rfl rfl ?_
    refine gX10_m_at (pc' := 25) hC dX10_isWord_22 rfl ?_
    refine xr_istoreb_n (pc' := 26) hC dX10_isWord_25 rfl hf rfl (by decide) [1, 2, 0] (fun l2_3 => [(0, .ref (E.2.2.1 0)), (1, .ref (E.2.2.1 3)), (2, .int l2_3)]) (fun _ => rfl) (fun l2_3 hf => ?_)
    exact w_m_isWord_holeWord_b26 hC N _ _ hf
  refine xr_iconst (pc' := 20) (0 : Int32) hC dX10_isWord_19 rfl (by decide) ?_
  exact xr_zreturn hC dX10_isWord_20 rfl hf

set_option maxRecDepth 100000 in
set_option maxHeartbeats 4000000 in
theorem w_m_isWord_mirrorWord_b67 {C : xT} {E : mE} {N : Nat} {r : Int32} {σ' : xS} (hC : xc C (GM E) RX10 cX10_isWord 4 (some .boolean) (k2_rm 1 20)) : ∀ (n : Nat) (l2 l3 : Int32) (σ : xS), m_isWord_b67 3 6 N n l2 l3 σ = some (r, σ') → xw C (GM E) 4 (xq C (GM E) (some (.int r)) σ') σ 67 [(0, .ref (E.2.2.1 0)), (1, .ref (E.2.2.1 4)), (2, .int l2), (3, .int l3)] [] := by
  intro n
  induction n with
  | zero =>
    intro l2 l3 σ hf
    rw [m_isWord_b67] at hf
    cases hf
  | succ n ih =>
    intro l2 l3 σ hf
    rw [m_isWord_b67] at hf
    refine xr_iload_n (pc' := 68) 3 hC dX10_isWord_67 rfl rfl rfl ?_
    refine xr_aload_n (pc' := 69) 1 hC dX10_isWord_68 rfl rfl rfl ?_
    refine nM_3 (pc' := 70) hC dX10_isWord_69 rfl ?_
    refine xr_icmp_ge (pc' := 73) 98 hC dX10_isWord_70 rfl (by decide) hf (fun hf => ?_) (fun hf => ?_)
    · refine xr_aload_n (pc' := 99) 0 hC dX10_isWord_98 rfl rfl rfl ?_
      refine xr_iload_n (pc' := 100) 2 hC dX10_isWord_99 rfl rfl rfl ?_
      refine pX10_m_at (pc' := 103) hC dX10_isWord_100 rfl hf (fun σ4 hf => ?_)
      refine xr_aload_n (pc' := 104) 0 hC dX10_isWord_103 rfl rfl rfl ?_
      refine xr_iload_n (pc' := 105) 2 hC dX10_isWord_104 rfl rfl rfl ?_
      refine pX10_m_ended (pc' := 108) hC dX10_isWord_105 rfl hf (fun σ5 hf => ?_)
      refine xr_iconst (pc' := 109) (1 : Int32) hC dX10_isWord_108 rfl (by decide) ?_
      exact xr_zreturn hC dX10_isWord_109 rfl hf
    refine xr_aload_n (pc' := 74) 0 hC dX10_isWord_73 rfl rfl rfl ?_
    refine gX10_m_tape (pc' := 77) hC dX10_isWord_74 rfl ?_
    refine xr_aload_n (pc' := 78) 0 hC dX10_isWord_77 rfl rfl rfl ?_
    refine gX10_m_at (pc' := 81) hC dX10_isWord_78 rfl ?_
    refine xr_iload_n (pc' := 82) 3 hC dX10_isWord_81 rfl rfl rfl ?_
    refine xr_iadd (pc' := 83) hC dX10_isWord_82 rfl ?_
    refine lM_0 (pc' := 84) hC dX10_isWord_83 rfl hf (fun v6 hf => ?_)
    refine xr_aload_n (pc' := 85) 1 hC dX10_isWord_84 rfl rfl rfl ?_
    refine xr_iload_n (pc' := 86) 3 hC dX10_isWord_85 rfl rfl rfl ?_
    refine lM_3 (pc' := 87) hC dX10_isWord_86 rfl hf (fun v7 hf => ?_)
    refine xr_icmp_eq (pc' := 90) 92 hC dX10_isWord_87 rfl (by decide) hf (fun hf => ?_) (fun hf => ?_)
    · refine xr_iinc (pc' := 95) hC dX10_isWord_92 rfl _ rfl hf 3 rfl (by decide) [1, 2, 3, 0] (fun l3_8 => [(0, .ref (E.2.2.1 0)), (1, .ref (E.2.2.1 4)), (2, .int l2), (3, .int l3_8)]) (fun _ => rfl) (fun l3_8 hf => ?_)
      refine xr_goto 67 hC dX10_isWord_95 (by decide) ?_
      exact ih _ _ _ hf
    refine xr_iconst (pc' := 91) (0 : Int32) hC dX10_isWord_90 rfl (by decide) ?_
    exact xr_zreturn hC dX10_isWord_91 rfl hf

set_option maxRecDepth 100000 in
set_option maxHeartbeats 4000000 in
theorem w_m_isWord_mirrorWord_b26 {C : xT} {E : mE} {N : Nat} {r : Int32} {σ' : xS} (hC : xc C (GM E) RX10 cX10_isWord 4 (some .boolean) (k2_rm 1 20)) : ∀ (n : Nat) (l2 : Int32) (σ : xS), m_isWord_b26 3 6 N n l2 σ = some (r, σ') → xw C (GM E) 4 (xq C (GM E) (some (.int r)) σ') σ 26 [(0, .ref (E.2.2.1 0)), (1, .ref (E.2.2.1 4)), (2, .int l2)] [] := by
  intro n
  induction n with
  | zero =>
    intro l2 σ hf
    rw [m_isWord_b26] at hf
    cases hf
  | succ n ih =>
    intro l2 σ hf
    rw [m_isWord_b26] at hf
    refine xr_iload_n (pc' := 27) 2 hC dX10_isWord_26 rfl rfl rfl ?_
    refine xr_aload_n (pc' := 28) 0 hC dX10_isWord_27 rfl rfl rfl ?_
    refine gX10_m_size (pc' := 31) hC dX10_isWord_28 rfl ?_
    refine xr_icmp_ge (pc' := 34) 52 hC dX10_isWord_31 rfl (by decide) hf (fun hf => ?_) (fun hf => ?_)
    · refine xr_iload_n (pc' := 53) 2 hC dX10_isWord_52 rfl rfl rfl ?_
      refine xr_aload_n (pc' := 54) 0 hC dX10_isWord_53 rfl rfl rfl ?_
      refine gX10_m_at (pc' := 57) hC dX10_isWord_54 rfl ?_
      refine xr_isub (pc' := 58) hC dX10_isWord_57 rfl ?_
      refine xr_aload_n (pc' := 59) 1 hC dX10_isWord_58 rfl rfl rfl ?_
      refine nM_3 (pc' := 60) hC dX10_isWord_59 rfl ?_
      refine xr_icmp_eq (pc' := 63) 65 hC dX10_isWord_60 rfl (by decide) hf (fun hf => ?_) (fun hf => ?_)
      · refine xr_iconst (pc' := 66) (0 : Int32) hC dX10_isWord_65 rfl (by decide) ?_
        refine xr_istore_n (pc' := 67) (lv' := [(0, .ref (E.2.2.1 0)), (1, .ref (E.2.2.1 4)), (2, .int l2), (3, .int (0 : Int32))]) hC dX10_isWord_66 rfl rfl (by decide) [1, 2, 3, 0] rfl ?_
        exact w_m_isWord_mirrorWord_b67 hC N _ _ _ hf
      refine xr_iconst (pc' := 64) (0 : Int32) hC dX10_isWord_63 rfl (by decide) ?_
      exact xr_zreturn hC dX10_isWord_64 rfl hf
    refine xr_aload_n (pc' := 35) 0 hC dX10_isWord_34 rfl rfl rfl ?_
    refine gX10_m_tape (pc' := 38) hC dX10_isWord_35 rfl ?_
    refine xr_iload_n (pc' := 39) 2 hC dX10_isWord_38 rfl rfl rfl ?_
    refine lM_0 (pc' := 40) hC dX10_isWord_39 rfl hf (fun v9 hf => ?_)
    refine xr_callS (pc' := 43) (rmy := k2_rm 0 0) [.int v9] hC dX10_isWord_40 rfl kX10_148 rfl rfl rfl ⟨Nat.le_of_ble_eq_true rfl, Nat.le_of_ble_eq_true rfl⟩ rfl (Nat.le_of_ble_eq_true rfl) hf (fun _ _ h => c_m_isLetter (xc_ok hC) h) (fun v10 σ11 hf => ?_)
    refine xr_if_eq (pc' := 46) 52 hC dX10_isWord_43 rfl (by decide) hf (fun hf => ?_) (fun hf => ?_)
    · refine xr_iload_n (pc' := 53) 2 hC dX10_isWord_52 rfl rfl rfl ?_
      refine xr_aload_n (pc' := 54) 0 hC dX10_isWord_53 rfl rfl rfl ?_
      refine gX10_m_at (pc' := 57) hC dX10_isWord_54 rfl ?_
      refine xr_isub (pc' := 58) hC dX10_isWord_57 rfl ?_
      refine xr_aload_n (pc' := 59) 1 hC dX10_isWord_58 rfl rfl rfl ?_
      refine nM_3 (pc' := 60) hC dX10_isWord_59 rfl ?_
      refine xr_icmp_eq (pc' := 63) 65 hC dX10_isWord_60 rfl (by decide) hf (fun hf => ?_) (fun hf => ?_)
      · refine xr_iconst (pc' := 66) (0 : Int32) hC dX10_isWord_65 rfl (by decide) ?_
        refine xr_istore_n (pc' := 67) (lv' := [(0, .ref (E.2.2.1 0)), (1, .ref (E.2.2.1 4)), (2, .int l2), (3, .int (0 : Int32))]) hC dX10_isWord_66 rfl rfl (by decide) [1, 2, 3, 0] rfl ?_
        exact w_m_isWord_mirrorWord_b67 hC N _ _ _ hf
      refine xr_iconst (pc' := 64) (0 : Int32) hC dX10_isWord_63 rfl (by decide) ?_
      exact xr_zreturn hC dX10_isWord_64 rfl hf
    refine xr_iinc (pc' := 49) hC dX10_isWord_46 rfl _ rfl hf 2 rfl (by decide) [1, 2, 0] (fun l2_12 => [(0, .ref (E.2.2.1 0)), (1, .ref (E.2.2.1 4)), (2, .int l2_12)]) (fun _ => rfl) (fun l2_12 hf => ?_)
    refine xr_goto 26 hC dX10_isWord_49 (by decide) ?_
    exact ih _ _ hf

set_option maxRecDepth 100000 in
set_option maxHeartbeats 4000000 in
theorem c_m_isWord_mirrorWord {l : Launch} {E : mE} {N : Nat} (hG : xOk (GM E)) {σ : xS} {r : Int32} {σ' : xS} (hf : m_isWord 3 6 N σ = some (r, σ')) : xMet l (GM E) yX10_isWord cX10_isWord 4 (some .boolean) (k2_rm 1 20) [.ref (E.2.2.1 0), .ref (E.2.2.1 4)] σ (some (.int r)) σ' := by
  refine x_met (own := RX10) (by decide +kernel) hG rfl (Nat.le_of_ble_eq_true rfl) (fun C hl hC => ?_)
  subst hl
  show xw C (GM E) 4 (xq C (GM E) (some (.int r)) σ') σ 0 [(0, .ref (E.2.2.1 0)), (1, .ref (E.2.2.1 4))] []
  unfold m_isWord at hf
  refine xr_aload_n (pc' := 1) 0 hC dX10_isWord_0 rfl rfl rfl ?_
  refine xr_callV (pc' := 4) (rmy := k2_rm 0 0) [] 0 hC dX10_isWord_1 rfl kX10_133 rfl rfl rfl rfl rfl ⟨Nat.le_of_ble_eq_true rfl, Nat.le_of_ble_eq_true rfl⟩ rfl (Nat.le_of_ble_eq_true rfl) hf (fun _ _ h => c_m_next (xc_ok hC) h) (fun v1 σ2 hf => ?_)
  refine xr_iconst (pc' := 5) (-1 : Int32) hC dX10_isWord_4 rfl (by decide) ?_
  refine xr_icmp_eq (pc' := 8) 19 hC dX10_isWord_5 rfl (by decide) hf (fun hf => ?_) (fun hf => ?_)
  · refine xr_iconst (pc' := 20) (0 : Int32) hC dX10_isWord_19 rfl (by decide) ?_
    exact xr_zreturn hC dX10_isWord_20 rfl hf
  refine xr_aload_n (pc' := 9) 0 hC dX10_isWord_8 rfl rfl rfl ?_
  refine gX10_m_at (pc' := 12) hC dX10_isWord_9 rfl ?_
  refine xr_aload_n (pc' := 13) 0 hC dX10_isWord_12 rfl rfl rfl ?_
  refine gX10_m_ended (pc' := 16) hC dX10_isWord_13 rfl ?_
  refine xr_icmp_ne (pc' := 19) 21 hC dX10_isWord_16 rfl (by decide) hf (fun hf => ?_) (fun hf => ?_)
  · refine xr_aload_n (pc' := 22) 0 hC dX10_isWord_21 rfl rfl rfl ?_
    refine gX10_m_at (pc' := 25) hC dX10_isWord_22 rfl ?_
    refine xr_istoreb_n (pc' := 26) hC dX10_isWord_25 rfl hf rfl (by decide) [1, 2, 0] (fun l2_3 => [(0, .ref (E.2.2.1 0)), (1, .ref (E.2.2.1 4)), (2, .int l2_3)]) (fun _ => rfl) (fun l2_3 hf => ?_)
    exact w_m_isWord_mirrorWord_b26 hC N _ _ hf
  refine xr_iconst (pc' := 20) (0 : Int32) hC dX10_isWord_19 rfl (by decide) ?_
  exact xr_zreturn hC dX10_isWord_20 rfl hf

set_option maxRecDepth 100000 in
set_option maxHeartbeats 4000000 in
theorem w_m_isWord_turnWord_b67 {C : xT} {E : mE} {N : Nat} {r : Int32} {σ' : xS} (hC : xc C (GM E) RX10 cX10_isWord 4 (some .boolean) (k2_rm 1 20)) : ∀ (n : Nat) (l2 l3 : Int32) (σ : xS), m_isWord_b67 4 4 N n l2 l3 σ = some (r, σ') → xw C (GM E) 4 (xq C (GM E) (some (.int r)) σ') σ 67 [(0, .ref (E.2.2.1 0)), (1, .ref (E.2.2.1 5)), (2, .int l2), (3, .int l3)] [] := by
  intro n
  induction n with
  | zero =>
    intro l2 l3 σ hf
    rw [m_isWord_b67] at hf
    cases hf
  | succ n ih =>
    intro l2 l3 σ hf
    rw [m_isWord_b67] at hf
    refine xr_iload_n (pc' := 68) 3 hC dX10_isWord_67 rfl rfl rfl ?_
    refine xr_aload_n (pc' := 69) 1 hC dX10_isWord_68 rfl rfl rfl ?_
    refine nM_4 (pc' := 70) hC dX10_isWord_69 rfl ?_
    refine xr_icmp_ge (pc' := 73) 98 hC dX10_isWord_70 rfl (by decide) hf (fun hf => ?_) (fun hf => ?_)
    · refine xr_aload_n (pc' := 99) 0 hC dX10_isWord_98 rfl rfl rfl ?_
      refine xr_iload_n (pc' := 100) 2 hC dX10_isWord_99 rfl rfl rfl ?_
      refine pX10_m_at (pc' := 103) hC dX10_isWord_100 rfl hf (fun σ4 hf => ?_)
      refine xr_aload_n (pc' := 104) 0 hC dX10_isWord_103 rfl rfl rfl ?_
      refine xr_iload_n (pc' := 105) 2 hC dX10_isWord_104 rfl rfl rfl ?_
      refine pX10_m_ended (pc' := 108) hC dX10_isWord_105 rfl hf (fun σ5 hf => ?_)
      refine xr_iconst (pc' := 109) (1 : Int32) hC dX10_isWord_108 rfl (by decide) ?_
      exact xr_zreturn hC dX10_isWord_109 rfl hf
    refine xr_aload_n (pc' := 74) 0 hC dX10_isWord_73 rfl rfl rfl ?_
    refine gX10_m_tape (pc' := 77) hC dX10_isWord_74 rfl ?_
    refine xr_aload_n (pc' := 78) 0 hC dX10_isWord_77 rfl rfl rfl ?_
    refine gX10_m_at (pc' := 81) hC dX10_isWord_78 rfl ?_
    refine xr_iload_n (pc' := 82) 3 hC dX10_isWord_81 rfl rfl rfl ?_
    refine xr_iadd (pc' := 83) hC dX10_isWord_82 rfl ?_
    refine lM_0 (pc' := 84) hC dX10_isWord_83 rfl hf (fun v6 hf => ?_)
    refine xr_aload_n (pc' := 85) 1 hC dX10_isWord_84 rfl rfl rfl ?_
    refine xr_iload_n (pc' := 86) 3 hC dX10_isWord_85 rfl rfl rfl ?_
    refine lM_4 (pc' := 87) hC dX10_isWord_86 rfl hf (fun v7 hf => ?_)
    refine xr_icmp_eq (pc' := 90) 92 hC dX10_isWord_87 rfl (by decide) hf (fun hf => ?_) (fun hf => ?_)
    · refine xr_iinc (pc' := 95) hC dX10_isWord_92 rfl _ rfl hf 3 rfl (by decide) [1, 2, 3, 0] (fun l3_8 => [(0, .ref (E.2.2.1 0)), (1, .ref (E.2.2.1 5)), (2, .int l2), (3, .int l3_8)]) (fun _ => rfl) (fun l3_8 hf => ?_)
      refine xr_goto 67 hC dX10_isWord_95 (by decide) ?_
      exact ih _ _ _ hf
    refine xr_iconst (pc' := 91) (0 : Int32) hC dX10_isWord_90 rfl (by decide) ?_
    exact xr_zreturn hC dX10_isWord_91 rfl hf

set_option maxRecDepth 100000 in
set_option maxHeartbeats 4000000 in
theorem w_m_isWord_turnWord_b26 {C : xT} {E : mE} {N : Nat} {r : Int32} {σ' : xS} (hC : xc C (GM E) RX10 cX10_isWord 4 (some .boolean) (k2_rm 1 20)) : ∀ (n : Nat) (l2 : Int32) (σ : xS), m_isWord_b26 4 4 N n l2 σ = some (r, σ') → xw C (GM E) 4 (xq C (GM E) (some (.int r)) σ') σ 26 [(0, .ref (E.2.2.1 0)), (1, .ref (E.2.2.1 5)), (2, .int l2)] [] := by
  intro n
  induction n with
  | zero =>
    intro l2 σ hf
    rw [m_isWord_b26] at hf
    cases hf
  | succ n ih =>
    intro l2 σ hf
    rw [m_isWord_b26] at hf
    refine xr_iload_n (pc' := 27) 2 hC dX10_isWord_26 rfl rfl rfl ?_
    refine xr_aload_n (pc' := 28) 0 hC dX10_isWord_27 rfl rfl rfl ?_
    refine gX10_m_size (pc' := 31) hC dX10_isWord_28 rfl ?_
    refine xr_icmp_ge (pc' := 34) 52 hC dX10_isWord_31 rfl (by decide) hf (fun hf => ?_) (fun hf => ?_)
    · refine xr_iload_n (pc' := 53) 2 hC dX10_isWord_52 rfl rfl rfl ?_
      refine xr_aload_n (pc' := 54) 0 hC dX10_isWord_53 rfl rfl rfl ?_
      refine gX10_m_at (pc' := 57) hC dX10_isWord_54 rfl ?_
      refine xr_isub (pc' := 58) hC dX10_isWord_57 rfl ?_
      refine xr_aload_n (pc' := 59) 1 hC dX10_isWord_58 rfl rfl rfl ?_
      refine nM_4 (pc' := 60) hC dX10_isWord_59 rfl ?_
      refine xr_icmp_eq (pc' := 63) 65 hC dX10_isWord_60 rfl (by decide) hf (fun hf => ?_) (fun hf => ?_)
      · refine xr_iconst (pc' := 66) (0 : Int32) hC dX10_isWord_65 rfl (by decide) ?_
        refine xr_istore_n (pc' := 67) (lv' := [(0, .ref (E.2.2.1 0)), (1, .ref (E.2.2.1 5)), (2, .int l2), (3, .int (0 : Int32))]) hC dX10_isWord_66 rfl rfl (by decide) [1, 2, 3, 0] rfl ?_
        exact w_m_isWord_turnWord_b67 hC N _ _ _ hf
      refine xr_iconst (pc' := 64) (0 : Int32) hC dX10_isWord_63 rfl (by decide) ?_
      exact xr_zreturn hC dX10_isWord_64 rfl hf
    refine xr_aload_n (pc' := 35) 0 hC dX10_isWord_34 rfl rfl rfl ?_
    refine gX10_m_tape (pc' := 38) hC dX10_isWord_35 rfl ?_
    refine xr_iload_n (pc' := 39) 2 hC dX10_isWord_38 rfl rfl rfl ?_
    refine lM_0 (pc' := 40) hC dX10_isWord_39 rfl hf (fun v9 hf => ?_)
    refine xr_callS (pc' := 43) (rmy := k2_rm 0 0) [.int v9] hC dX10_isWord_40 rfl kX10_148 rfl rfl rfl ⟨Nat.le_of_ble_eq_true rfl, Nat.le_of_ble_eq_true rfl⟩ rfl (Nat.le_of_ble_eq_true rfl) hf (fun _ _ h => c_m_isLetter (xc_ok hC) h) (fun v10 σ11 hf => ?_)
    refine xr_if_eq (pc' := 46) 52 hC dX10_isWord_43 rfl (by decide) hf (fun hf => ?_) (fun hf => ?_)
    · refine xr_iload_n (pc' := 53) 2 hC dX10_isWord_52 rfl rfl rfl ?_
      refine xr_aload_n (pc' := 54) 0 hC dX10_isWord_53 rfl rfl rfl ?_
      refine gX10_m_at (pc' := 57) hC dX10_isWord_54 rfl ?_
      refine xr_isub (pc' := 58) hC dX10_isWord_57 rfl ?_
      refine xr_aload_n (pc' := 59) 1 hC dX10_isWord_58 rfl rfl rfl ?_
      refine nM_4 (pc' := 60) hC dX10_isWord_59 rfl ?_
      refine xr_icmp_eq (pc' := 63) 65 hC dX10_isWord_60 rfl (by decide) hf (fun hf => ?_) (fun hf => ?_)
      · refine xr_iconst (pc' := 66) (0 : Int32) hC dX10_isWord_65 rfl (by decide) ?_
        refine xr_istore_n (pc' := 67) (lv' := [(0, .ref (E.2.2.1 0)), (1, .ref (E.2.2.1 5)), (2, .int l2), (3, .int (0 : Int32))]) hC dX10_isWord_66 rfl rfl (by decide) [1, 2, 3, 0] rfl ?_
        exact w_m_isWord_turnWord_b67 hC N _ _ _ hf
      refine xr_iconst (pc' := 64) (0 : Int32) hC dX10_isWord_63 rfl (by decide) ?_
      exact xr_zreturn hC dX10_isWord_64 rfl hf
    refine xr_iinc (pc' := 49) hC dX10_isWord_46 rfl _ rfl hf 2 rfl (by decide) [1, 2, 0] (fun l2_12 => [(0, .ref (E.2.2.1 0)), (1, .ref (E.2.2.1 5)), (2, .int l2_12)]) (fun _ => rfl) (fun l2_12 hf => ?_)
    refine xr_goto 26 hC dX10_isWord_49 (by decide) ?_
    exact ih _ _ hf

set_option maxRecDepth 100000 in
set_option maxHeartbeats 4000000 in
theorem c_m_isWord_turnWord {l : Launch} {E : mE} {N : Nat} (hG : xOk (GM E)) {σ : xS} {r : Int32} {σ' : xS} (hf : m_isWord 4 4 N σ = some (r, σ')) : xMet l (GM E) yX10_isWord cX10_isWord 4 (some .boolean) (k2_rm 1 20) [.ref (E.2.2.1 0), .ref (E.2.2.1 5)] σ (some (.int r)) σ' := by
  refine x_met (own := RX10) (by decide +kernel) hG rfl (Nat.le_of_ble_eq_true rfl) (fun C hl hC => ?_)
  subst hl
  show xw C (GM E) 4 (xq C (GM E) (some (.int r)) σ') σ 0 [(0, .ref (E.2.2.1 0)), (1, .ref (E.2.2.1 5))] []
  unfold m_isWord at hf
  refine xr_aload_n (pc' := 1) 0 hC dX10_isWord_0 rfl rfl rfl ?_
  refine xr_callV (pc' := 4) (rmy := k2_rm 0 0) [] 0 hC dX10_isWord_1 rfl kX10_133 rfl rfl rfl rfl rfl ⟨Nat.le_of_ble_eq_true rfl, Nat.le_of_ble_eq_true rfl⟩ rfl (Nat.le_of_ble_eq_true rfl) hf (fun _ _ h => c_m_next (xc_ok hC) h) (fun v1 σ2 hf => ?_)
  refine xr_iconst (pc' := 5) (-1 : Int32) hC dX10_isWord_4 rfl (by decide) ?_
  refine xr_icmp_eq (pc' := 8) 19 hC dX10_isWord_5 rfl (by decide) hf (fun hf => ?_) (fun hf => ?_)
  · refine xr_iconst (pc' := 20) (0 : Int32) hC dX10_isWord_19 rfl (by decide) ?_
    exact xr_zreturn hC dX10_isWord_20 rfl hf
  refine xr_aload_n (pc' := 9) 0 hC dX10_isWord_8 rfl rfl rfl ?_
  refine gX10_m_at (pc' := 12) hC dX10_isWord_9 rfl ?_
  refine xr_aload_n (pc' := 13) 0 hC dX10_isWord_12 rfl rfl rfl ?_
  refine gX10_m_ended (pc' := 16) hC dX10_isWord_13 rfl ?_
  refine xr_icmp_ne (pc' := 19) 21 hC dX10_isWord_16 rfl (by decide) hf (fun hf => ?_) (fun hf => ?_)
  · refine xr_aload_n (pc' := 22) 0 hC dX10_isWord_21 rfl rfl rfl ?_
    refine gX10_m_at (pc' := 25) hC dX10_isWord_22 rfl ?_
    refine xr_istoreb_n (pc' := 26) hC dX10_isWord_25 rfl hf rfl (by decide) [1, 2, 0] (fun l2_3 => [(0, .ref (E.2.2.1 0)), (1, .ref (E.2.2.1 5)), (2, .int l2_3)]) (fun _ => rfl) (fun l2_3 hf => ?_)
    exact w_m_isWord_turnWord_b26 hC N _ _ hf
  refine xr_iconst (pc' := 20) (0 : Int32) hC dX10_isWord_19 rfl (by decide) ?_
  exact xr_zreturn hC dX10_isWord_20 rfl hf

set_option maxRecDepth 100000 in
set_option maxHeartbeats 4000000 in
theorem c_m_fail {l : Launch} {E : mE} {N : Nat} (hG : xOk (GM E)) {l1 l2 : Int32} {σ : xS} {r : Int32} {σ' : xS} (hf : m_fail N l1 l2 σ = some (r, σ')) : xMet l (GM E) yX10_fail cX10_fail 3 none (k2_rm 0 0) [.ref (E.2.2.1 0), .int l1, .int l2] σ none σ' := by
  refine x_met (own := RX10) (by decide +kernel) hG rfl (Nat.le_of_ble_eq_true rfl) (fun C hl hC => ?_)
  subst hl
  show xw C (GM E) 3 (xq C (GM E) none σ') σ 0 [(0, .ref (E.2.2.1 0)), (1, .int l1), (2, .int l2)] []
  unfold m_fail at hf
  refine xr_aload_n (pc' := 1) 0 hC dX10_fail_0 rfl rfl rfl ?_
  refine gX10_m_bad (pc' := 4) hC dX10_fail_1 rfl ?_
  refine xr_if_eq (pc' := 7) 8 hC dX10_fail_4 rfl (by decide) hf (fun hf => ?_) (fun hf => ?_)
  · refine xr_aload_n (pc' := 9) 0 hC dX10_fail_8 rfl rfl rfl ?_
    refine xr_iload_n (pc' := 10) 1 hC dX10_fail_9 rfl rfl rfl ?_
    refine pX10_m_bad (pc' := 13) hC dX10_fail_10 rfl hf (fun σ1 hf => ?_)
    refine xr_aload_n (pc' := 14) 0 hC dX10_fail_13 rfl rfl rfl ?_
    refine xr_iload_n (pc' := 15) 2 hC dX10_fail_14 rfl rfl rfl ?_
    refine pX10_m_badPlace (pc' := 18) hC dX10_fail_15 rfl hf (fun σ2 hf => ?_)
    exact xr_return hC dX10_fail_18 hf
  exact xr_return hC dX10_fail_7 hf

set_option maxRecDepth 100000 in
set_option maxHeartbeats 4000000 in
theorem c_m_cell {l : Launch} {E : mE} {N : Nat} (hG : xOk (GM E)) {l0 l1 l2 : Int32} {σ : xS} {r : Int32} {σ' : xS} (hf : m_cell N l0 l1 l2 σ = some (r, σ')) : xMet l (GM E) yX10_cell cX10_cell 3 (some .int) (k2_rm 0 0) [.int l0, .int l1, .int l2] σ (some (.int r)) σ' := by
  refine x_met (own := RX10) (by decide +kernel) hG rfl (Nat.le_of_ble_eq_true rfl) (fun C hl hC => ?_)
  subst hl
  show xw C (GM E) 3 (xq C (GM E) (some (.int r)) σ') σ 0 [(0, .int l0), (1, .int l1), (2, .int l2)] []
  unfold m_cell at hf
  refine xr_iload_n (pc' := 1) 2 hC dX10_cell_0 rfl rfl rfl ?_
  refine xr_bipush (pc' := 3) (8 : Int32) hC dX10_cell_1 rfl (by decide) ?_
  refine xr_imul (pc' := 4) hC dX10_cell_3 rfl ?_
  refine xr_iload_n (pc' := 5) 1 hC dX10_cell_4 rfl rfl rfl ?_
  refine xr_iadd (pc' := 6) hC dX10_cell_5 rfl ?_
  refine xr_bipush (pc' := 8) (8 : Int32) hC dX10_cell_6 rfl (by decide) ?_
  refine xr_imul (pc' := 9) hC dX10_cell_8 rfl ?_
  refine xr_iload_n (pc' := 10) 0 hC dX10_cell_9 rfl rfl rfl ?_
  refine xr_iadd (pc' := 11) hC dX10_cell_10 rfl ?_
  exact xr_ireturn hC dX10_cell_11 hf

set_option maxRecDepth 100000 in
set_option maxHeartbeats 4000000 in
theorem w_m_turns_b68 {C : xT} {E : mE} {N : Nat} {r : Int32} {σ' : xS} (hC : xc C (GM E) RX10 cX10_turns 5 none (k2_rm 1 22)) (K47 : Int32 → xS → Option (Int32 × xS)) (hK47 : ∀ (l2 : Int32) (σ : xS), K47 l2 σ = some (r, σ') → xw C (GM E) 5 (xq C (GM E) none σ') σ 47 [(0, .ref (E.2.2.1 0)), (2, .int l2)] []) (K57 : Int32 → Int32 → xS → Option (Int32 × xS)) (hK57 : ∀ (l2 l3 : Int32) (σ : xS), K57 l2 l3 σ = some (r, σ') → xw C (GM E) 5 (xq C (GM E) none σ') σ 57 [(0, .ref (E.2.2.1 0)), (2, .int l2), (3, .int l3)] []) : ∀ (n : Nat) (l2 l3 l4 : Int32) (σ : xS), m_turns_b68 N K47 K57 n l2 l3 l4 σ = some (r, σ') → xw C (GM E) 5 (xq C (GM E) none σ') σ 68 [(0, .ref (E.2.2.1 0)), (2, .int l2), (3, .int l3), (4, .int l4)] [] := by
  intro n
  induction n with
  | zero =>
    intro l2 l3 l4 σ hf
    rw [m_turns_b68] at hf
    cases hf
  | succ n ih =>
    intro l2 l3 l4 σ hf
    rw [m_turns_b68] at hf
    refine xr_iload (pc' := 70) 3 hC dX10_turns_68 rfl rfl ?_
    refine xr_aload_n (pc' := 71) 0 hC dX10_turns_70 rfl rfl rfl ?_
    refine gX10_m_newWide (pc' := 74) hC dX10_turns_71 rfl ?_
    refine xr_icmp_ge (pc' := 77) 114 hC dX10_turns_74 rfl (by decide) hf (fun hf => ?_) (fun hf => ?_)
    · refine xr_iinc (pc' := 117) hC dX10_turns_114 rfl _ rfl hf 2 rfl (by decide) [1, 2, 0, 3] (fun l3_2 => [(0, .ref (E.2.2.1 0)), (2, .int l2), (3, .int l3_2), (4, .int l4)]) (fun _ => rfl) (fun l3_2 hf => ?_)
      refine xr_goto 57 hC dX10_turns_117 (by decide) ?_
      refine x_lv [0, 1, 2] rfl ?_
      exact hK57 _ _ _ hf
    refine xr_aload_n (pc' := 78) 0 hC dX10_turns_77 rfl rfl rfl ?_
    refine gX10_m_made (pc' := 81) hC dX10_turns_78 rfl ?_
    refine xr_iload_n (pc' := 82) 2 hC dX10_turns_81 rfl rfl rfl ?_
    refine xr_aload_n (pc' := 83) 0 hC dX10_turns_82 rfl rfl rfl ?_
    refine gX10_m_newWide (pc' := 86) hC dX10_turns_83 rfl ?_
    refine xr_iconst (pc' := 87) (1 : Int32) hC dX10_turns_86 rfl (by decide) ?_
    refine xr_isub (pc' := 88) hC dX10_turns_87 rfl ?_
    refine xr_iload (pc' := 90) 3 hC dX10_turns_88 rfl rfl ?_
    refine xr_isub (pc' := 91) hC dX10_turns_90 rfl ?_
    refine xr_iload_n (pc' := 92) 1 hC dX10_turns_91 rfl rfl rfl ?_
    refine xr_callS (pc' := 95) (rmy := k2_rm 0 0) [.int l3, .int (((σ.1 9) - (1 : Int32)) - l4), .int l2] hC dX10_turns_92 rfl kX10_164 rfl rfl rfl ⟨Nat.le_of_ble_eq_true rfl, Nat.le_of_ble_eq_true rfl⟩ rfl (Nat.le_of_ble_eq_true rfl) hf (fun _ _ h => c_m_cell (xc_ok hC) h) (fun v3 σ4 hf => ?_)
    refine xr_aload_n (pc' := 96) 0 hC dX10_turns_95 rfl rfl rfl ?_
    refine gX10_m_other (pc' := 99) hC dX10_turns_96 rfl ?_
    refine xr_iload (pc' := 101) 3 hC dX10_turns_99 rfl rfl ?_
    refine xr_iload_n (pc' := 102) 2 hC dX10_turns_101 rfl rfl rfl ?_
    refine xr_iload_n (pc' := 103) 1 hC dX10_turns_102 rfl rfl rfl ?_
    refine xr_callS (pc' := 106) (rmy := k2_rm 0 0) [.int l4, .int l3, .int l2] hC dX10_turns_103 rfl kX10_164 rfl rfl rfl ⟨Nat.le_of_ble_eq_true rfl, Nat.le_of_ble_eq_true rfl⟩ rfl (Nat.le_of_ble_eq_true rfl) hf (fun _ _ h => c_m_cell (xc_ok hC) h) (fun v5 σ6 hf => ?_)
    refine lM_6 (pc' := 107) hC dX10_turns_106 rfl hf (fun v7 hf => ?_)
    refine sM_5 (pc' := 108) hC dX10_turns_107 rfl hf (fun σ8 hf => ?_)
    refine xr_iinc (pc' := 111) hC dX10_turns_108 rfl _ rfl hf 3 rfl (by decide) [1, 2, 3, 0] (fun l4_9 => [(0, .ref (E.2.2.1 0)), (2, .int l2), (3, .int l3), (4, .int l4_9)]) (fun _ => rfl) (fun l4_9 hf => ?_)
    refine xr_goto 68 hC dX10_turns_111 (by decide) ?_
    exact ih _ _ _ _ hf

set_option maxRecDepth 100000 in
set_option maxHeartbeats 4000000 in
theorem w_m_turns_b57 {C : xT} {E : mE} {N : Nat} {r : Int32} {σ' : xS} (hC : xc C (GM E) RX10 cX10_turns 5 none (k2_rm 1 22)) (K47 : Int32 → xS → Option (Int32 × xS)) (hK47 : ∀ (l2 : Int32) (σ : xS), K47 l2 σ = some (r, σ') → xw C (GM E) 5 (xq C (GM E) none σ') σ 47 [(0, .ref (E.2.2.1 0)), (2, .int l2)] []) : ∀ (n : Nat) (l2 l3 : Int32) (σ : xS), m_turns_b57 N K47 n l2 l3 σ = some (r, σ') → xw C (GM E) 5 (xq C (GM E) none σ') σ 57 [(0, .ref (E.2.2.1 0)), (2, .int l2), (3, .int l3)] [] := by
  intro n
  induction n with
  | zero =>
    intro l2 l3 σ hf
    rw [m_turns_b57] at hf
    cases hf
  | succ n ih =>
    intro l2 l3 σ hf
    rw [m_turns_b57] at hf
    refine xr_iload_n (pc' := 58) 2 hC dX10_turns_57 rfl rfl rfl ?_
    refine xr_aload_n (pc' := 59) 0 hC dX10_turns_58 rfl rfl rfl ?_
    refine gX10_m_newHigh (pc' := 62) hC dX10_turns_59 rfl ?_
    refine xr_icmp_ge (pc' := 65) 120 hC dX10_turns_62 rfl (by decide) hf (fun hf => ?_) (fun hf => ?_)
    · refine xr_iinc (pc' := 123) hC dX10_turns_120 rfl _ rfl hf 1 rfl (by decide) [1, 0, 2] (fun l2_1 => [(0, .ref (E.2.2.1 0)), (2, .int l2_1), (3, .int l3)]) (fun _ => rfl) (fun l2_1 hf => ?_)
      refine xr_goto 47 hC dX10_turns_123 (by decide) ?_
      refine x_lv [0, 1] rfl ?_
      exact hK47 _ _ hf
    refine xr_iconst (pc' := 66) (0 : Int32) hC dX10_turns_65 rfl (by decide) ?_
    refine xr_istore (pc' := 68) (lv' := [(0, .ref (E.2.2.1 0)), (2, .int l2), (3, .int l3), (4, .int (0 : Int32))]) hC dX10_turns_66 rfl (by decide) [1, 2, 3, 0] rfl ?_
    exact w_m_turns_b68 hC (K47) hK47 (m_turns_b57 N K47 n) ih N _ _ _ _ hf

set_option maxRecDepth 100000 in
set_option maxHeartbeats 4000000 in
theorem w_m_turns_b47 {C : xT} {E : mE} {N : Nat} {r : Int32} {σ' : xS} (hC : xc C (GM E) RX10 cX10_turns 5 none (k2_rm 1 22)) : ∀ (n : Nat) (l2 : Int32) (σ : xS), m_turns_b47 N n l2 σ = some (r, σ') → xw C (GM E) 5 (xq C (GM E) none σ') σ 47 [(0, .ref (E.2.2.1 0)), (2, .int l2)] [] := by
  intro n
  induction n with
  | zero =>
    intro l2 σ hf
    rw [m_turns_b47] at hf
    cases hf
  | succ n ih =>
    intro l2 σ hf
    rw [m_turns_b47] at hf
    refine xr_iload_n (pc' := 48) 1 hC dX10_turns_47 rfl rfl rfl ?_
    refine xr_aload_n (pc' := 49) 0 hC dX10_turns_48 rfl rfl rfl ?_
    refine gX10_m_newDeep (pc' := 52) hC dX10_turns_49 rfl ?_
    refine xr_icmp_ge (pc' := 55) 126 hC dX10_turns_52 rfl (by decide) hf (fun hf => ?_) (fun hf => ?_)
    · exact xr_return hC dX10_turns_126 hf
    refine xr_iconst (pc' := 56) (0 : Int32) hC dX10_turns_55 rfl (by decide) ?_
    refine xr_istore_n (pc' := 57) (lv' := [(0, .ref (E.2.2.1 0)), (2, .int l2), (3, .int (0 : Int32))]) hC dX10_turns_56 rfl rfl (by decide) [1, 2, 0] rfl ?_
    exact w_m_turns_b57 hC (m_turns_b47 N n) ih N _ _ _ hf

set_option maxRecDepth 100000 in
set_option maxHeartbeats 4000000 in
theorem w_m_turns_b20 {C : xT} {E : mE} {N : Nat} {r : Int32} {σ' : xS} (hC : xc C (GM E) RX10 cX10_turns 5 none (k2_rm 1 22)) : ∀ (n : Nat) (l2 : Int32) (σ : xS), m_turns_b20 N n l2 σ = some (r, σ') → xw C (GM E) 5 (xq C (GM E) none σ') σ 20 [(0, .ref (E.2.2.1 0)), (2, .int l2)] [] := by
  intro n
  induction n with
  | zero =>
    intro l2 σ hf
    rw [m_turns_b20] at hf
    cases hf
  | succ n ih =>
    intro l2 σ hf
    rw [m_turns_b20] at hf
    refine xr_iload_n (pc' := 21) 1 hC dX10_turns_20 rfl rfl rfl ?_
    refine xr_sipush (pc' := 24) (512 : Int32) hC dX10_turns_21 rfl (by decide) ?_
    refine xr_icmp_ge (pc' := 27) 45 hC dX10_turns_24 rfl (by decide) hf (fun hf => ?_) (fun hf => ?_)
    · refine xr_iconst (pc' := 46) (0 : Int32) hC dX10_turns_45 rfl (by decide) ?_
      refine xr_istore_n (pc' := 47) (lv' := [(0, .ref (E.2.2.1 0)), (2, .int (0 : Int32))]) hC dX10_turns_46 rfl rfl (by decide) [1, 0] rfl ?_
      exact w_m_turns_b47 hC N _ _ hf
    refine xr_aload_n (pc' := 28) 0 hC dX10_turns_27 rfl rfl rfl ?_
    refine gX10_m_other (pc' := 31) hC dX10_turns_28 rfl ?_
    refine xr_iload_n (pc' := 32) 1 hC dX10_turns_31 rfl rfl rfl ?_
    refine xr_aload_n (pc' := 33) 0 hC dX10_turns_32 rfl rfl rfl ?_
    refine gX10_m_made (pc' := 36) hC dX10_turns_33 rfl ?_
    refine xr_iload_n (pc' := 37) 1 hC dX10_turns_36 rfl rfl rfl ?_
    refine lM_5 (pc' := 38) hC dX10_turns_37 rfl hf (fun v10 hf => ?_)
    refine sM_6 (pc' := 39) hC dX10_turns_38 rfl hf (fun σ11 hf => ?_)
    refine xr_iinc (pc' := 42) hC dX10_turns_39 rfl _ rfl hf 1 rfl (by decide) [1, 0] (fun l2_12 => [(0, .ref (E.2.2.1 0)), (2, .int l2_12)]) (fun _ => rfl) (fun l2_12 hf => ?_)
    refine xr_goto 20 hC dX10_turns_42 (by decide) ?_
    exact ih _ _ hf

set_option maxRecDepth 100000 in
set_option maxHeartbeats 4000000 in
theorem c_m_turns {l : Launch} {E : mE} {N : Nat} (hG : xOk (GM E)) {l1 : Int32} {σ : xS} {r : Int32} {σ' : xS} (hf : m_turns N l1 σ = some (r, σ')) : xMet l (GM E) yX10_turns cX10_turns 5 none (k2_rm 1 22) [.ref (E.2.2.1 0), .int l1] σ none σ' := by
  refine x_met (own := RX10) (by decide +kernel) hG rfl (Nat.le_of_ble_eq_true rfl) (fun C hl hC => ?_)
  subst hl
  show xw C (GM E) 5 (xq C (GM E) none σ') σ 0 [(0, .ref (E.2.2.1 0)), (1, .int l1)] []
  unfold m_turns at hf
  refine xr_aload_n (pc' := 1) 0 hC dX10_turns_0 rfl rfl rfl ?_
  refine gX10_m_newWide (pc' := 4) hC dX10_turns_1 rfl ?_
  refine xr_aload_n (pc' := 5) 0 hC dX10_turns_4 rfl rfl rfl ?_
  refine gX10_m_newHigh (pc' := 8) hC dX10_turns_5 rfl ?_
  refine xr_icmp_eq (pc' := 11) 18 hC dX10_turns_8 rfl (by decide) hf (fun hf => ?_) (fun hf => ?_)
  · refine xr_iconst (pc' := 19) (0 : Int32) hC dX10_turns_18 rfl (by decide) ?_
    refine xr_istore_n (pc' := 20) (lv' := [(0, .ref (E.2.2.1 0)), (1, .int l1), (2, .int (0 : Int32))]) hC dX10_turns_19 rfl rfl (by decide) [1, 2, 0] rfl ?_
    refine x_lv [0, 2] rfl ?_
    exact w_m_turns_b20 hC N _ _ hf
  refine xr_aload_n (pc' := 12) 0 hC dX10_turns_11 rfl rfl rfl ?_
  refine xr_iconst (pc' := 13) (2 : Int32) hC dX10_turns_12 rfl (by decide) ?_
  refine xr_iload_n (pc' := 14) 1 hC dX10_turns_13 rfl rfl rfl ?_
  refine xr_callVv (pc' := 17) (rmy := k2_rm 0 0) [.int (2 : Int32), .int l1] 0 hC dX10_turns_14 rfl kX10_144 rfl rfl rfl rfl rfl ⟨Nat.le_of_ble_eq_true rfl, Nat.le_of_ble_eq_true rfl⟩ rfl (Nat.le_of_ble_eq_true rfl) hf (fun _ _ h => c_m_fail (xc_ok hC) h) (fun v13 σ14 hf => ?_)
  exact xr_return hC dX10_turns_17 hf

