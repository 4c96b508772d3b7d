set_option maxRecDepth 100000 in
set_option maxHeartbeats 4000000 in
theorem c_cells_copyFrom {l : Launch} {E : xE} {N : Nat} (hG : xOk (GX E)) {σ : xS} {r : Int32} {σ' : xS} (hf : cells_copyFrom N σ = some (r, σ')) : xMet l (GX E) yX0_copyFrom cX0_copyFrom 2 none (k2_rm 1 60) [.ref (E.2.2.1 3), .ref (E.2.2.1 4)] σ none σ' := by
  refine x_met (own := RX0) (by decide +kernel) hG rfl (Nat.le_of_ble_eq_true rfl) (fun C hl hC => ?_)
  subst hl
  show xw C (GX E) 2 (xq C (GX E) none σ') σ 0 [(0, .ref (E.2.2.1 3)), (1, .ref (E.2.2.1 4))] []
  unfold cells_copyFrom at hf
  refine xr_aload_n (pc' := 1) 0 hC dX0_copyFrom_0 rfl rfl rfl ?_
  refine xr_aload_n (pc' := 2) 1 hC dX0_copyFrom_1 rfl rfl rfl ?_
  refine gX0_draft_wide (pc' := 5) hC dX0_copyFrom_2 rfl ?_
  refine pX0_cells_wide (pc' := 8) hC dX0_copyFrom_5 rfl hf (fun σ1 hf => ?_)
  refine xr_aload_n (pc' := 9) 0 hC dX0_copyFrom_8 rfl rfl rfl ?_
  refine xr_aload_n (pc' := 10) 1 hC dX0_copyFrom_9 rfl rfl rfl ?_
  refine gX0_draft_high (pc' := 13) hC dX0_copyFrom_10 rfl ?_
  refine pX0_cells_high (pc' := 16) hC dX0_copyFrom_13 rfl hf (fun σ2 hf => ?_)
  refine xr_aload_n (pc' := 17) 0 hC dX0_copyFrom_16 rfl rfl rfl ?_
  refine xr_aload_n (pc' := 18) 1 hC dX0_copyFrom_17 rfl rfl rfl ?_
  refine gX0_draft_deep (pc' := 21) hC dX0_copyFrom_18 rfl ?_
  refine pX0_cells_deep (pc' := 24) hC dX0_copyFrom_21 rfl hf (fun σ3 hf => ?_)
  refine xr_aload_n (pc' := 25) 1 hC dX0_copyFrom_24 rfl rfl rfl ?_
  refine gX0_draft_solidCells (pc' := 28) hC dX0_copyFrom_25 rfl ?_
  refine xr_iconst (pc' := 29) (0 : Int32) hC dX0_copyFrom_28 rfl (by decide) ?_
  refine xr_aload_n (pc' := 30) 0 hC dX0_copyFrom_29 rfl rfl rfl ?_
  refine gX0_cells_solidCells (pc' := 33) hC dX0_copyFrom_30 rfl ?_
  refine xr_iconst (pc' := 34) (0 : Int32) hC dX0_copyFrom_33 rfl (by decide) ?_
  refine xr_sipush (pc' := 37) (1000 : Int32) hC dX0_copyFrom_34 rfl (by decide) ?_
  refine xr_copy (pc' := 40) hC dX0_copyFrom_37 rfl (by decide) hf (fun σ4 hf => ?_)
  exact xr_return hC dX0_copyFrom_40 hf

set_option maxRecDepth 100000 in
set_option maxHeartbeats 4000000 in
theorem w_ju_fill_freeBits_b5 {C : xT} {E : xE} {N : Nat} {r : Int32} {σ' : xS} (hC : xc C (GX E) RJ7 cJ7_fill_53178 4 none (k2_rm 0 0)) : ∀ (n : Nat) (l1 l2 l3 : Int32) (σ : xS), ju_fill_b5 7 1000 N n l1 l2 l3 σ = some (r, σ') → xw C (GX E) 4 (xq C (GX E) none σ') σ 5 [(0, .ref (E.2.2.1 18)), (1, .int l1), (2, .int l2), (3, .int l3)] [] := by
  intro n
  induction n with
  | zero =>
    intro l1 l2 l3 σ hf
    rw [ju_fill_b5] at hf
    cases hf
  | succ n ih =>
    intro l1 l2 l3 σ hf
    rw [ju_fill_b5] at hf
    refine xr_iload_n (pc' := 6) 2 hC dJ7_fill_53178_5 rfl rfl rfl ?_
    refine xr_iload_n (pc' := 7) 3 hC dJ7_fill_53178_6 rfl rfl rfl ?_
    refine xr_icmp_ge (pc' := 10) 20 hC dJ7_fill_53178_7 rfl (by decide) hf (fun hf => ?_) (fun hf => ?_)
    · exact xr_return hC dJ7_fill_53178_20 hf
    refine xr_aload_n (pc' := 11) 0 hC dJ7_fill_53178_10 rfl rfl rfl ?_
    refine xr_iload_n (pc' := 12) 2 hC dJ7_fill_53178_11 rfl rfl rfl ?_
    refine xr_iload_n (pc' := 13) 1 hC dJ7_fill_53178_12 rfl rfl rfl ?_
    refine sX_7 (pc' := 14) hC dJ7_fill_53178_13 rfl hf (fun σ2 hf => ?_)
    refine xr_iinc (pc' := 17) hC dJ7_fill_53178_14 rfl _ rfl hf 2 rfl (by decide) [1, 2, 0, 3] (fun l2_3 => [(0, .ref (E.2.2.1 18)), (1, .int l1), (2, .int l2_3), (3, .int l3)]) (fun _ => rfl) (fun l2_3 hf => ?_)
    refine xr_goto 5 hC dJ7_fill_53178_17 (by decide) ?_
    exact ih _ _ _ _ hf

set_option maxRecDepth 100000 in
set_option maxHeartbeats 4000000 in
theorem c_ju_fill_freeBits {l : Launch} {E : xE} {N : Nat} (hG : xOk (GX E)) {l1 : Int32} {σ : xS} {r : Int32} {σ' : xS} (hf : ju_fill 7 1000 N l1 σ = some (r, σ')) : xMet l (GX E) yJ7_fill_53178 cJ7_fill_53178 4 none (k2_rm 0 0) [.ref (E.2.2.1 18), .int l1] σ none σ' := by
  refine x_met (own := RJ7) (by decide +kernel) hG rfl (Nat.le_of_ble_eq_true rfl) (fun C hl hC => ?_)
  subst hl
  show xw C (GX E) 4 (xq C (GX E) none σ') σ 0 [(0, .ref (E.2.2.1 18)), (1, .int l1)] []
  unfold ju_fill at hf
  refine xr_iconst (pc' := 1) (0 : Int32) hC dJ7_fill_53178_0 rfl (by decide) ?_
  refine xr_istore_n (pc' := 2) (lv' := [(0, .ref (E.2.2.1 18)), (1, .int l1), (2, .int (0 : Int32))]) hC dJ7_fill_53178_1 rfl rfl (by decide) [1, 2, 0] rfl ?_
  refine xr_aload_n (pc' := 3) 0 hC dJ7_fill_53178_2 rfl rfl rfl ?_
  refine nX_7 (pc' := 4) hC dJ7_fill_53178_3 rfl ?_
  refine xr_istoreb_n (pc' := 5) hC dJ7_fill_53178_4 rfl hf rfl (by decide) [1, 2, 3, 0] (fun l3_1 => [(0, .ref (E.2.2.1 18)), (1, .int l1), (2, .int (0 : Int32)), (3, .int l3_1)]) (fun _ => rfl) (fun l3_1 hf => ?_)
  exact w_ju_fill_freeBits_b5 hC N _ _ _ _ hf

set_option maxRecDepth 100000 in
set_option maxHeartbeats 4000000 in
theorem c_mould_beside {l : Launch} {E : xE} {N : Nat} (hG : xOk (GX E)) {l1 l2 : Int32} {σ : xS} {r : Int32} {σ' : xS} (hf : mould_beside N l1 l2 σ = some (r, σ')) : xMet l (GX E) yX3_beside cX3_beside 3 (some .int) (k2_rm 0 0) [.ref (E.2.2.1 5), .int l1, .int l2] σ (some (.int r)) σ' := by
  refine x_met (own := RX3) (by decide +kernel) hG rfl (Nat.le_of_ble_eq_true rfl) (fun C hl hC => ?_)
  subst hl
  show xw C (GX E) 3 (xq C (GX E) (some (.int r)) σ') σ 0 [(0, .ref (E.2.2.1 5)), (1, .int l1), (2, .int l2)] []
  unfold mould_beside at hf
  refine xr_iload_n (pc' := 1) 1 hC dX3_beside_0 rfl rfl rfl ?_
  refine xr_if_ge (pc' := 4) 6 hC dX3_beside_1 rfl (by decide) hf (fun hf => ?_) (fun hf => ?_)
  · refine xr_iload_n (pc' := 7) 2 hC dX3_beside_6 rfl rfl rfl ?_
    by_cases e0 : l2 = (0 : Int32)
    · rw [if_pos e0] at hf
      refine xr_tableIn (off := 37) 44 hC dX3_beside_7 (by rw [e0]; decide) (by rw [e0]; decide) (by rw [e0]; rfl) (by decide) ?_
      refine xr_iload_n (pc' := 45) 1 hC dX3_beside_44 rfl rfl rfl ?_
      refine xr_bipush (pc' := 47) (10 : Int32) hC dX3_beside_45 rfl (by decide) ?_
      refine xr_irem (pc' := 48) hC dX3_beside_47 rfl hf (fun hf => ?_)
      refine xr_aload_n (pc' := 49) 0 hC dX3_beside_48 rfl rfl rfl ?_
      refine gX3_mould_cells (pc' := 52) hC dX3_beside_49 rfl ?_
      refine gX3_cells_wide (pc' := 55) hC dX3_beside_52 rfl ?_
      refine xr_icmp_gt (pc' := 58) 64 hC dX3_beside_55 rfl (by decide) hf (fun hf => ?_) (fun hf => ?_)
      · refine xr_iconst (pc' := 65) (-1 : Int32) hC dX3_beside_64 rfl (by decide) ?_
        exact xr_ireturn hC dX3_beside_65 hf
      refine xr_iload_n (pc' := 59) 1 hC dX3_beside_58 rfl rfl rfl ?_
      refine xr_iconst (pc' := 60) (1 : Int32) hC dX3_beside_59 rfl (by decide) ?_
      refine xr_iadd (pc' := 61) hC dX3_beside_60 rfl ?_
      refine xr_goto 65 hC dX3_beside_61 (by decide) ?_
      exact xr_ireturn hC dX3_beside_65 hf
    rw [if_neg e0] at hf
    by_cases e1 : l2 = (1 : Int32)
    · rw [if_pos e1] at hf
      refine xr_tableIn (off := 59) 66 hC dX3_beside_7 (by rw [e1]; decide) (by rw [e1]; decide) (by rw [e1]; rfl) (by decide) ?_
      refine xr_iload_n (pc' := 67) 1 hC dX3_beside_66 rfl rfl rfl ?_
      refine xr_bipush (pc' := 69) (10 : Int32) hC dX3_beside_67 rfl (by decide) ?_
      refine xr_irem (pc' := 70) hC dX3_beside_69 rfl hf (fun hf => ?_)
      refine xr_if_le (pc' := 73) 79 hC dX3_beside_70 rfl (by decide) hf (fun hf => ?_) (fun hf => ?_)
      · refine xr_iconst (pc' := 80) (-1 : Int32) hC dX3_beside_79 rfl (by decide) ?_
        exact xr_ireturn hC dX3_beside_80 hf
      refine xr_iload_n (pc' := 74) 1 hC dX3_beside_73 rfl rfl rfl ?_
      refine xr_iconst (pc' := 75) (1 : Int32) hC dX3_beside_74 rfl (by decide) ?_
      refine xr_isub (pc' := 76) hC dX3_beside_75 rfl ?_
      refine xr_goto 80 hC dX3_beside_76 (by decide) ?_
      exact xr_ireturn hC dX3_beside_80 hf
    rw [if_neg e1] at hf
    by_cases e2 : l2 = (2 : Int32)
    · rw [if_pos e2] at hf
      refine xr_tableIn (off := 74) 81 hC dX3_beside_7 (by rw [e2]; decide) (by rw [e2]; decide) (by rw [e2]; rfl) (by decide) ?_
      refine xr_iload_n (pc' := 82) 1 hC dX3_beside_81 rfl rfl rfl ?_
      refine xr_bipush (pc' := 84) (10 : Int32) hC dX3_beside_82 rfl (by decide) ?_
      refine xr_idiv (pc' := 85) hC dX3_beside_84 rfl hf (fun hf => ?_)
      refine xr_bipush (pc' := 87) (10 : Int32) hC dX3_beside_85 rfl (by decide) ?_
      refine xr_irem (pc' := 88) hC dX3_beside_87 rfl hf (fun hf => ?_)
      refine xr_aload_n (pc' := 89) 0 hC dX3_beside_88 rfl rfl rfl ?_
      refine gX3_mould_cells (pc' := 92) hC dX3_beside_89 rfl ?_
      refine gX3_cells_high (pc' := 95) hC dX3_beside_92 rfl ?_
      refine xr_icmp_gt (pc' := 98) 105 hC dX3_beside_95 rfl (by decide) hf (fun hf => ?_) (fun hf => ?_)
      · refine xr_iconst (pc' := 106) (-1 : Int32) hC dX3_beside_105 rfl (by decide) ?_
        exact xr_ireturn hC dX3_beside_106 hf
      refine xr_iload_n (pc' := 99) 1 hC dX3_beside_98 rfl rfl rfl ?_
      refine xr_bipush (pc' := 101) (10 : Int32) hC dX3_beside_99 rfl (by decide) ?_
      refine xr_iadd (pc' := 102) hC dX3_beside_101 rfl ?_
      refine xr_goto 106 hC dX3_beside_102 (by decide) ?_
      exact xr_ireturn hC dX3_beside_106 hf
    rw [if_neg e2] at hf
    by_cases e3 : l2 = (3 : Int32)
    · rw [if_pos e3] at hf
      refine xr_tableIn (off := 100) 107 hC dX3_beside_7 (by rw [e3]; decide) (by rw [e3]; decide) (by rw [e3]; rfl) (by decide) ?_
      refine xr_iload_n (pc' := 108) 1 hC dX3_beside_107 rfl rfl rfl ?_
      refine xr_bipush (pc' := 110) (10 : Int32) hC dX3_beside_108 rfl (by decide) ?_
      refine xr_idiv (pc' := 111) hC dX3_beside_110 rfl hf (fun hf => ?_)
      refine xr_bipush (pc' := 113) (10 : Int32) hC dX3_beside_111 rfl (by decide) ?_
      refine xr_irem (pc' := 114) hC dX3_beside_113 rfl hf (fun hf => ?_)
      refine xr_if_le (pc' := 117) 124 hC dX3_beside_114 rfl (by decide) hf (fun hf => ?_) (fun hf => ?_)
      · refine xr_iconst (pc' := 125) (-1 : Int32) hC dX3_beside_124 rfl (by decide) ?_
        exact xr_ireturn hC dX3_beside_125 hf
      refine xr_iload_n (pc' := 118) 1 hC dX3_beside_117 rfl rfl rfl ?_
      refine xr_bipush (pc' := 120) (10 : Int32) hC dX3_beside_118 rfl (by decide) ?_
      refine xr_isub (pc' := 121) hC dX3_beside_120 rfl ?_
      refine xr_goto 125 hC dX3_beside_121 (by decide) ?_
      exact xr_ireturn hC dX3_beside_125 hf
    rw [if_neg e3] at hf
    by_cases e4 : l2 = (4 : Int32)
    · rw [if_pos e4] at hf
      refine xr_tableIn (off := 119) 126 hC dX3_beside_7 (by rw [e4]; decide) (by rw [e4]; decide) (by rw [e4]; rfl) (by decide) ?_
      refine xr_iload_n (pc' := 127) 1 hC dX3_beside_126 rfl rfl rfl ?_
      refine xr_bipush (pc' := 129) (100 : Int32) hC dX3_beside_127 rfl (by decide) ?_
      refine xr_idiv (pc' := 130) hC dX3_beside_129 rfl hf (fun hf => ?_)
      refine xr_aload_n (pc' := 131) 0 hC dX3_beside_130 rfl rfl rfl ?_
      refine gX3_mould_cells (pc' := 134) hC dX3_beside_131 rfl ?_
      refine gX3_cells_deep (pc' := 137) hC dX3_beside_134 rfl ?_
      refine xr_icmp_gt (pc' := 140) 147 hC dX3_beside_137 rfl (by decide) hf (fun hf => ?_) (fun hf => ?_)
      · refine xr_iconst (pc' := 148) (-1 : Int32) hC dX3_beside_147 rfl (by decide) ?_
        exact xr_ireturn hC dX3_beside_148 hf
      refine xr_iload_n (pc' := 141) 1 hC dX3_beside_140 rfl rfl rfl ?_
      refine xr_bipush (pc' := 143) (100 : Int32) hC dX3_beside_141 rfl (by decide) ?_
      refine xr_iadd (pc' := 144) hC dX3_beside_143 rfl ?_
      refine xr_goto 148 hC dX3_beside_144 (by decide) ?_
      exact xr_ireturn hC dX3_beside_148 hf
    rw [if_neg e4] at hf
    by_cases e5 : l2 = (5 : Int32)
    · rw [if_pos e5] at hf
      refine xr_tableIn (off := 142) 149 hC dX3_beside_7 (by rw [e5]; decide) (by rw [e5]; decide) (by rw [e5]; rfl) (by decide) ?_
      refine xr_iload_n (pc' := 150) 1 hC dX3_beside_149 rfl rfl rfl ?_
      refine xr_bipush (pc' := 152) (100 : Int32) hC dX3_beside_150 rfl (by decide) ?_
      refine xr_idiv (pc' := 153) hC dX3_beside_152 rfl hf (fun hf => ?_)
      refine xr_if_le (pc' := 156) 163 hC dX3_beside_153 rfl (by decide) hf (fun hf => ?_) (fun hf => ?_)
      · refine xr_iconst (pc' := 164) (-1 : Int32) hC dX3_beside_163 rfl (by decide) ?_
        exact xr_ireturn hC dX3_beside_164 hf
      refine xr_iload_n (pc' := 157) 1 hC dX3_beside_156 rfl rfl rfl ?_
      refine xr_bipush (pc' := 159) (100 : Int32) hC dX3_beside_157 rfl (by decide) ?_
      refine xr_isub (pc' := 160) hC dX3_beside_159 rfl ?_
      refine xr_goto 164 hC dX3_beside_160 (by decide) ?_
      exact xr_ireturn hC dX3_beside_164 hf
    rw [if_neg e5] at hf
    refine xr_tableOut 165 hC dX3_beside_7 (by have f0 := i32_ne e0 (show ((0 : Int32)).toInt = 0 by decide); have f1 := i32_ne e1 (show ((1 : Int32)).toInt = 1 by decide); have f2 := i32_ne e2 (show ((2 : Int32)).toInt = 2 by decide); have f3 := i32_ne e3 (show ((3 : Int32)).toInt = 3 by decide); have f4 := i32_ne e4 (show ((4 : Int32)).toInt = 4 by decide); have f5 := i32_ne e5 (show ((5 : Int32)).toInt = 5 by decide); omega) (by decide) ?_
    refine xr_iconst (pc' := 166) (-1 : Int32) hC dX3_beside_165 rfl (by decide) ?_
    exact xr_ireturn hC dX3_beside_166 hf
  refine xr_iconst (pc' := 5) (-1 : Int32) hC dX3_beside_4 rfl (by decide) ?_
  exact xr_ireturn hC dX3_beside_5 hf

set_option maxRecDepth 100000 in
set_option maxHeartbeats 4000000 in
theorem c_cl_isSolid_cells {l : Launch} {E : xE} {N : Nat} (hG : xOk (GX E)) {l1 : Int32} {σ : xS} {r : Int32} {σ' : xS} (hf : cl_isSolid 2 N l1 σ = some (r, σ')) : xMet l (GX E) yX0_isSolid cX0_isSolid 2 (some .boolean) (k2_rm 0 0) [.ref (E.2.2.1 3), .int l1] σ (some (.int r)) σ' := by
  refine x_met (own := RX0) (by decide +kernel) hG rfl (Nat.le_of_ble_eq_true rfl) (fun C hl hC => ?_)
  subst hl
  show xw C (GX E) 2 (xq C (GX E) (some (.int r)) σ') σ 0 [(0, .ref (E.2.2.1 3)), (1, .int l1)] []
  unfold cl_isSolid at hf
  refine xr_iload_n (pc' := 1) 1 hC dX0_isSolid_0 rfl rfl rfl ?_
  refine xr_if_lt (pc' := 4) 25 hC dX0_isSolid_1 rfl (by decide) hf (fun hf => ?_) (fun hf => ?_)
  · refine xr_iconst (pc' := 26) (0 : Int32) hC dX0_isSolid_25 rfl (by decide) ?_
    exact xr_zreturn hC dX0_isSolid_26 rfl hf
  refine xr_iload_n (pc' := 5) 1 hC dX0_isSolid_4 rfl rfl rfl ?_
  refine xr_sipush (pc' := 8) (1000 : Int32) hC dX0_isSolid_5 rfl (by decide) ?_
  refine xr_icmp_ge (pc' := 11) 25 hC dX0_isSolid_8 rfl (by decide) hf (fun hf => ?_) (fun hf => ?_)
  · refine xr_iconst (pc' := 26) (0 : Int32) hC dX0_isSolid_25 rfl (by decide) ?_
    exact xr_zreturn hC dX0_isSolid_26 rfl hf
  refine xr_aload_n (pc' := 12) 0 hC dX0_isSolid_11 rfl rfl rfl ?_
  refine gX0_cells_solidCells (pc' := 15) hC dX0_isSolid_12 rfl ?_
  refine xr_iload_n (pc' := 16) 1 hC dX0_isSolid_15 rfl rfl rfl ?_
  refine lX_2 (pc' := 17) hC dX0_isSolid_16 rfl hf (fun v1 hf => ?_)
  refine xr_iconst (pc' := 18) (1 : Int32) hC dX0_isSolid_17 rfl (by decide) ?_
  refine xr_icmp_ne (pc' := 21) 25 hC dX0_isSolid_18 rfl (by decide) hf (fun hf => ?_) (fun hf => ?_)
  · refine xr_iconst (pc' := 26) (0 : Int32) hC dX0_isSolid_25 rfl (by decide) ?_
    exact xr_zreturn hC dX0_isSolid_26 rfl hf
  refine xr_iconst (pc' := 22) (1 : Int32) hC dX0_isSolid_21 rfl (by decide) ?_
  refine xr_goto 26 hC dX0_isSolid_22 (by decide) ?_
  exact xr_zreturn hC dX0_isSolid_26 rfl hf

set_option maxRecDepth 100000 in
set_option maxHeartbeats 4000000 in
theorem w_mould_freeInwards_b5 {C : xT} {E : xE} {N : Nat} {r : Int32} {σ' : xS} (hC : xc C (GX E) RX3 cX3_freeInwards 5 none (k2_rm 1 22)) : ∀ (n : Nat) (l2 l3 l4 : Int32) (σ : xS), mould_freeInwards_b5 N n l2 l3 l4 σ = some (r, σ') → xw C (GX E) 5 (xq C (GX E) none σ') σ 5 [(0, .ref (E.2.2.1 5)), (2, .int l2), (3, .int l3), (4, .int l4)] [] := by
  intro n
  induction n with
  | zero =>
    intro l2 l3 l4 σ hf
    rw [mould_freeInwards_b5] at hf
    cases hf
  | succ n ih =>
    intro l2 l3 l4 σ hf
    rw [mould_freeInwards_b5] at hf
    refine xr_iload (pc' := 7) 3 hC dX3_freeInwards_5 rfl rfl ?_
    refine xr_bipush (pc' := 9) (10 : Int32) hC dX3_freeInwards_7 rfl (by decide) ?_
    refine xr_icmp_ge (pc' := 12) 61 hC dX3_freeInwards_9 rfl (by decide) hf (fun hf => ?_) (fun hf => ?_)
    · exact xr_return hC dX3_freeInwards_61 hf
    refine xr_iload_n (pc' := 13) 2 hC dX3_freeInwards_12 rfl rfl rfl ?_
    refine xr_if_lt (pc' := 16) 61 hC dX3_freeInwards_13 rfl (by decide) hf (fun hf => ?_) (fun hf => ?_)
    · exact xr_return hC dX3_freeInwards_61 hf
    refine xr_iload_n (pc' := 17) 2 hC dX3_freeInwards_16 rfl rfl rfl ?_
    refine xr_sipush (pc' := 20) (1000 : Int32) hC dX3_freeInwards_17 rfl (by decide) ?_
    refine xr_icmp_ge (pc' := 23) 61 hC dX3_freeInwards_20 rfl (by decide) hf (fun hf => ?_) (fun hf => ?_)
    · exact xr_return hC dX3_freeInwards_61 hf
    refine xr_aload_n (pc' := 24) 0 hC dX3_freeInwards_23 rfl rfl rfl ?_
    refine gX3_mould_cells (pc' := 27) hC dX3_freeInwards_24 rfl ?_
    refine xr_iload_n (pc' := 28) 2 hC dX3_freeInwards_27 rfl rfl rfl ?_
    refine xr_callV (pc' := 31) (rmy := k2_rm 0 0) [.int l3] 3 hC dX3_freeInwards_28 rfl kX3_61 rfl rfl rfl rfl rfl ⟨Nat.le_of_ble_eq_true rfl, Nat.le_of_ble_eq_true rfl⟩ rfl (Nat.le_of_ble_eq_true rfl) hf (fun _ _ h => c_cl_isSolid_cells (xc_ok hC) h) (fun v1 σ2 hf => ?_)
    refine xr_if_ne (pc' := 34) 61 hC dX3_freeInwards_31 rfl (by decide) hf (fun hf => ?_) (fun hf => ?_)
    · exact xr_return hC dX3_freeInwards_61 hf
    refine xr_aload_n (pc' := 35) 0 hC dX3_freeInwards_34 rfl rfl rfl ?_
    refine gX3_mould_freeBits (pc' := 38) hC dX3_freeInwards_35 rfl ?_
    refine xr_iload_n (pc' := 39) 2 hC dX3_freeInwards_38 rfl rfl rfl ?_
    refine xr_dup2 (pc' := 40) hC dX3_freeInwards_39 rfl rfl rfl ?_
    refine lX_7 (pc' := 41) hC dX3_freeInwards_40 rfl hf (fun v3 hf => ?_)
    refine xr_iconst (pc' := 42) (1 : Int32) hC dX3_freeInwards_41 rfl (by decide) ?_
    refine xr_iload_n (pc' := 43) 1 hC dX3_freeInwards_42 rfl rfl rfl ?_
    refine xr_ishl (pc' := 44) hC dX3_freeInwards_43 rfl ?_
    refine xr_ior (pc' := 45) hC dX3_freeInwards_44 rfl ?_
    refine sX_7 (pc' := 46) hC dX3_freeInwards_45 rfl hf (fun σ4 hf => ?_)
    refine xr_aload_n (pc' := 47) 0 hC dX3_freeInwards_46 rfl rfl rfl ?_
    refine xr_iload_n (pc' := 48) 2 hC dX3_freeInwards_47 rfl rfl rfl ?_
    refine xr_iload_n (pc' := 49) 1 hC dX3_freeInwards_48 rfl rfl rfl ?_
    refine xr_iconst (pc' := 50) (1 : Int32) hC dX3_freeInwards_49 rfl (by decide) ?_
    refine xr_ixor (pc' := 51) hC dX3_freeInwards_50 rfl ?_
    refine xr_callV (pc' := 54) (rmy := k2_rm 0 0) [.int l3, .int (l2 ^^^ (1 : Int32))] 5 hC dX3_freeInwards_51 rfl kX3_69 rfl rfl rfl rfl rfl ⟨Nat.le_of_ble_eq_true rfl, Nat.le_of_ble_eq_true rfl⟩ rfl (Nat.le_of_ble_eq_true rfl) hf (fun _ _ h => c_mould_beside (xc_ok hC) h) (fun v5 σ6 hf => ?_)
    refine xr_istore_n (pc' := 55) (lv' := [(0, .ref (E.2.2.1 5)), (2, .int l2), (3, .int v5), (4, .int l4)]) hC dX3_freeInwards_54 rfl rfl (by decide) [1, 2, 0, 3] rfl ?_
    refine xr_iinc (pc' := 58) hC dX3_freeInwards_55 rfl _ rfl hf 3 rfl (by decide) [1, 2, 3, 0] (fun l4_7 => [(0, .ref (E.2.2.1 5)), (2, .int l2), (3, .int v5), (4, .int l4_7)]) (fun _ => rfl) (fun l4_7 hf => ?_)
    refine xr_goto 5 hC dX3_freeInwards_58 (by decide) ?_
    exact ih _ _ _ _ hf

set_option maxRecDepth 100000 in
set_option maxHeartbeats 4000000 in
theorem c_mould_freeInwards {l : Launch} {E : xE} {N : Nat} (hG : xOk (GX E)) {l1 l2 : Int32} {σ : xS} {r : Int32} {σ' : xS} (hf : mould_freeInwards N l1 l2 σ = some (r, σ')) : xMet l (GX E) yX3_freeInwards cX3_freeInwards 5 none (k2_rm 1 22) [.ref (E.2.2.1 5), .int l1, .int l2] σ none σ' := by
  refine x_met (own := RX3) (by decide +kernel) hG rfl (Nat.le_of_ble_eq_true rfl) (fun C hl hC => ?_)
  subst hl
  show xw C (GX E) 5 (xq C (GX E) none σ') σ 0 [(0, .ref (E.2.2.1 5)), (1, .int l1), (2, .int l2)] []
  unfold mould_freeInwards at hf
  refine xr_iload_n (pc' := 1) 1 hC dX3_freeInwards_0 rfl rfl rfl ?_
  refine xr_istore_n (pc' := 2) (lv' := [(0, .ref (E.2.2.1 5)), (1, .int l1), (2, .int l2), (3, .int l1)]) hC dX3_freeInwards_1 rfl rfl (by decide) [1, 2, 3, 0] rfl ?_
  refine xr_iconst (pc' := 3) (0 : Int32) hC dX3_freeInwards_2 rfl (by decide) ?_
  refine xr_istore (pc' := 5) (lv' := [(0, .ref (E.2.2.1 5)), (1, .int l1), (2, .int l2), (3, .int l1), (4, .int (0 : Int32))]) hC dX3_freeInwards_3 rfl (by decide) [1, 2, 3, 4, 0] rfl ?_
  refine x_lv [0, 2, 3, 4] rfl ?_
  exact w_mould_freeInwards_b5 hC N _ _ _ _ hf

set_option maxRecDepth 100000 in
set_option maxHeartbeats 4000000 in
theorem w_mould_freeFromEdge_b2 {C : xT} {E : xE} {N : Nat} {r : Int32} {σ' : xS} (hC : xc C (GX E) RX3 cX3_freeFromEdge 3 none (k2_rm 2 46)) : ∀ (n : Nat) (l1 l2 : Int32) (σ : xS), mould_freeFromEdge_b2 N n l1 l2 σ = some (r, σ') → xw C (GX E) 3 (xq C (GX E) none σ') σ 2 [(0, .ref (E.2.2.1 5)), (1, .int l1), (2, .int l2)] [] := by
  intro n
  induction n with
  | zero =>
    intro l1 l2 σ hf
    rw [mould_freeFromEdge_b2] at hf
    cases hf
  | succ n ih =>
    intro l1 l2 σ hf
    rw [mould_freeFromEdge_b2] at hf
    refine xr_iload_n (pc' := 3) 2 hC dX3_freeFromEdge_2 rfl rfl rfl ?_
    refine xr_bipush (pc' := 5) (6 : Int32) hC dX3_freeFromEdge_3 rfl (by decide) ?_
    refine xr_icmp_ge (pc' := 8) 30 hC dX3_freeFromEdge_5 rfl (by decide) hf (fun hf => ?_) (fun hf => ?_)
    · exact xr_return hC dX3_freeFromEdge_30 hf
    refine xr_aload_n (pc' := 9) 0 hC dX3_freeFromEdge_8 rfl rfl rfl ?_
    refine xr_iload_n (pc' := 10) 1 hC dX3_freeFromEdge_9 rfl rfl rfl ?_
    refine xr_iload_n (pc' := 11) 2 hC dX3_freeFromEdge_10 rfl rfl rfl ?_
    refine xr_callV (pc' := 14) (rmy := k2_rm 0 0) [.int l1, .int l2] 5 hC dX3_freeFromEdge_11 rfl kX3_69 rfl rfl rfl rfl rfl ⟨Nat.le_of_ble_eq_true rfl, Nat.le_of_ble_eq_true rfl⟩ rfl (Nat.le_of_ble_eq_true rfl) hf (fun _ _ h => c_mould_beside (xc_ok hC) h) (fun v1 σ2 hf => ?_)
    refine xr_iconst (pc' := 15) (-1 : Int32) hC dX3_freeFromEdge_14 rfl (by decide) ?_
    refine xr_icmp_ne (pc' := 18) 24 hC dX3_freeFromEdge_15 rfl (by decide) hf (fun hf => ?_) (fun hf => ?_)
    · refine xr_iinc (pc' := 27) hC dX3_freeFromEdge_24 rfl _ rfl hf 2 rfl (by decide) [1, 2, 0] (fun l2_3 => [(0, .ref (E.2.2.1 5)), (1, .int l1), (2, .int l2_3)]) (fun _ => rfl) (fun l2_3 hf => ?_)
      refine xr_goto 2 hC dX3_freeFromEdge_27 (by decide) ?_
      exact ih _ _ _ hf
    refine xr_aload_n (pc' := 19) 0 hC dX3_freeFromEdge_18 rfl rfl rfl ?_
    refine xr_iload_n (pc' := 20) 1 hC dX3_freeFromEdge_19 rfl rfl rfl ?_
    refine xr_iload_n (pc' := 21) 2 hC dX3_freeFromEdge_20 rfl rfl rfl ?_
    refine xr_callVv (pc' := 24) (rmy := k2_rm 1 22) [.int l1, .int l2] 5 hC dX3_freeFromEdge_21 rfl kX3_73 rfl rfl rfl rfl rfl ⟨Nat.le_of_ble_eq_true rfl, Nat.le_of_ble_eq_true rfl⟩ rfl (Nat.le_of_ble_eq_true rfl) hf (fun _ _ h => c_mould_freeInwards (xc_ok hC) h) (fun v4 σ5 hf => ?_)
    refine xr_iinc (pc' := 27) hC dX3_freeFromEdge_24 rfl _ rfl hf 2 rfl (by decide) [1, 2, 0] (fun l2_6 => [(0, .ref (E.2.2.1 5)), (1, .int l1), (2, .int l2_6)]) (fun _ => rfl) (fun l2_6 hf => ?_)
    refine xr_goto 2 hC dX3_freeFromEdge_27 (by decide) ?_
    exact ih _ _ _ hf

set_option maxRecDepth 100000 in
set_option maxHeartbeats 4000000 in
theorem c_mould_freeFromEdge {l : Launch} {E : xE} {N : Nat} (hG : xOk (GX E)) {l1 : Int32} {σ : xS} {r : Int32} {σ' : xS} (hf : mould_freeFromEdge N l1 σ = some (r, σ')) : xMet l (GX E) yX3_freeFromEdge cX3_freeFromEdge 3 none (k2_rm 2 46) [.ref (E.2.2.1 5), .int l1] σ none σ' := by
  refine x_met (own := RX3) (by decide +kernel) hG rfl (Nat.le_of_ble_eq_true rfl) (fun C hl hC => ?_)
  subst hl
  show xw C (GX E) 3 (xq C (GX E) none σ') σ 0 [(0, .ref (E.2.2.1 5)), (1, .int l1)] []
  unfold mould_freeFromEdge at hf
  refine xr_iconst (pc' := 1) (0 : Int32) hC dX3_freeFromEdge_0 rfl (by decide) ?_
  refine xr_istore_n (pc' := 2) (lv' := [(0, .ref (E.2.2.1 5)), (1, .int l1), (2, .int (0 : Int32))]) hC dX3_freeFromEdge_1 rfl rfl (by decide) [1, 2, 0] rfl ?_
  exact w_mould_freeFromEdge_b2 hC N _ _ _ hf

set_option maxRecDepth 100000 in
set_option maxHeartbeats 4000000 in
theorem c_cl_areWithin_cells {l : Launch} {E : xE} {N : Nat} (hG : xOk (GX E)) {l1 l2 l3 l4 : Int32} {σ : xS} {r : Int32} {σ' : xS} (hf : cl_areWithin 4 5 6 N l1 l2 l3 l4 σ = some (r, σ')) : xMet l (GX E) yX0_areWithin cX0_areWithin 5 (some .boolean) (k2_rm 0 0) [.ref (E.2.2.1 3), .int l1, .int l2, .int l3, .int l4] σ (some (.int r)) σ' := by
  refine x_met (own := RX0) (by decide +kernel) hG rfl (Nat.le_of_ble_eq_true rfl) (fun C hl hC => ?_)
  subst hl
  show xw C (GX E) 5 (xq C (GX E) (some (.int r)) σ') σ 0 [(0, .ref (E.2.2.1 3)), (1, .int l1), (2, .int l2), (3, .int l3), (4, .int l4)] []
  unfold cl_areWithin at hf
  refine xr_aload_n (pc' := 1) 0 hC dX0_areWithin_0 rfl rfl rfl ?_
  refine gX0_cells_wide (pc' := 4) hC dX0_areWithin_1 rfl ?_
  refine xr_if_le (pc' := 7) 65 hC dX0_areWithin_4 rfl (by decide) hf (fun hf => ?_) (fun hf => ?_)
  · refine xr_iconst (pc' := 66) (0 : Int32) hC dX0_areWithin_65 rfl (by decide) ?_
    exact xr_zreturn hC dX0_areWithin_66 rfl hf
  refine xr_iload_n (pc' := 8) 1 hC dX0_areWithin_7 rfl rfl rfl ?_
  refine xr_iload (pc' := 10) 4 hC dX0_areWithin_8 rfl rfl ?_
  refine xr_ineg (pc' := 11) hC dX0_areWithin_10 rfl ?_
  refine xr_icmp_lt (pc' := 14) 65 hC dX0_areWithin_11 rfl (by decide) hf (fun hf => ?_) (fun hf => ?_)
  · refine xr_iconst (pc' := 66) (0 : Int32) hC dX0_areWithin_65 rfl (by decide) ?_
    exact xr_zreturn hC dX0_areWithin_66 rfl hf
  refine xr_iload_n (pc' := 15) 1 hC dX0_areWithin_14 rfl rfl rfl ?_
  refine xr_aload_n (pc' := 16) 0 hC dX0_areWithin_15 rfl rfl rfl ?_
  refine gX0_cells_wide (pc' := 19) hC dX0_areWithin_16 rfl ?_
  refine xr_iload (pc' := 21) 4 hC dX0_areWithin_19 rfl rfl ?_
  refine xr_iadd (pc' := 22) hC dX0_areWithin_21 rfl ?_
  refine xr_icmp_ge (pc' := 25) 65 hC dX0_areWithin_22 rfl (by decide) hf (fun hf => ?_) (fun hf => ?_)
  · refine xr_iconst (pc' := 66) (0 : Int32) hC dX0_areWithin_65 rfl (by decide) ?_
    exact xr_zreturn hC dX0_areWithin_66 rfl hf
  refine xr_iload_n (pc' := 26) 2 hC dX0_areWithin_25 rfl rfl rfl ?_
  refine xr_iload (pc' := 28) 4 hC dX0_areWithin_26 rfl rfl ?_
  refine xr_ineg (pc' := 29) hC dX0_areWithin_28 rfl ?_
  refine xr_icmp_lt (pc' := 32) 65 hC dX0_areWithin_29 rfl (by decide) hf (fun hf => ?_) (fun hf => ?_)
  · refine xr_iconst (pc' := 66) (0 : Int32) hC dX0_areWithin_65 rfl (by decide) ?_
    exact xr_zreturn hC dX0_areWithin_66 rfl hf
  refine xr_iload_n (pc' := 33) 2 hC dX0_areWithin_32 rfl rfl rfl ?_
  refine xr_aload_n (pc' := 34) 0 hC dX0_areWithin_33 rfl rfl rfl ?_
  refine gX0_cells_high (pc' := 37) hC dX0_areWithin_34 rfl ?_
  refine xr_iload (pc' := 39) 4 hC dX0_areWithin_37 rfl rfl ?_
  refine xr_iadd (pc' := 40) hC dX0_areWithin_39 rfl ?_
  refine xr_icmp_ge (pc' := 43) 65 hC dX0_areWithin_40 rfl (by decide) hf (fun hf => ?_) (fun hf => ?_)
  · refine xr_iconst (pc' := 66) (0 : Int32) hC dX0_areWithin_65 rfl (by decide) ?_
    exact xr_zreturn hC dX0_areWithin_66 rfl hf
  refine xr_iload_n (pc' := 44) 3 hC dX0_areWithin_43 rfl rfl rfl ?_
  refine xr_iload (pc' := 46) 4 hC dX0_areWithin_44 rfl rfl ?_
  refine xr_ineg (pc' := 47) hC dX0_areWithin_46 rfl ?_
  refine xr_icmp_lt (pc' := 50) 65 hC dX0_areWithin_47 rfl (by decide) hf (fun hf => ?_) (fun hf => ?_)
  · refine xr_iconst (pc' := 66) (0 : Int32) hC dX0_areWithin_65 rfl (by decide) ?_
    exact xr_zreturn hC dX0_areWithin_66 rfl hf
  refine xr_iload_n (pc' := 51) 3 hC dX0_areWithin_50 rfl rfl rfl ?_
  refine xr_aload_n (pc' := 52) 0 hC dX0_areWithin_51 rfl rfl rfl ?_
  refine gX0_cells_deep (pc' := 55) hC dX0_areWithin_52 rfl ?_
  refine xr_iload (pc' := 57) 4 hC dX0_areWithin_55 rfl rfl ?_
  refine xr_iadd (pc' := 58) hC dX0_areWithin_57 rfl ?_
  refine xr_icmp_ge (pc' := 61) 65 hC dX0_areWithin_58 rfl (by decide) hf (fun hf => ?_) (fun hf => ?_)
  · refine xr_iconst (pc' := 66) (0 : Int32) hC dX0_areWithin_65 rfl (by decide) ?_
    exact xr_zreturn hC dX0_areWithin_66 rfl hf
  refine xr_iconst (pc' := 62) (1 : Int32) hC dX0_areWithin_61 rfl (by decide) ?_
  refine xr_goto 66 hC dX0_areWithin_62 (by decide) ?_
  exact xr_zreturn hC dX0_areWithin_66 rfl hf

set_option maxRecDepth 100000 in
set_option maxHeartbeats 4000000 in
theorem c_mould_cellAt {l : Launch} {E : xE} {N : Nat} (hG : xOk (GX E)) {l1 l2 l3 : Int32} {σ : xS} {r : Int32} {σ' : xS} (hf : mould_cellAt N l1 l2 l3 σ = some (r, σ')) : xMet l (GX E) yX3_cellAt cX3_cellAt 5 (some .int) (k2_rm 1 24) [.ref (E.2.2.1 5), .int l1, .int l2, .int l3] σ (some (.int r)) σ' := by
  refine x_met (own := RX3) (by decide +kernel) hG rfl (Nat.le_of_ble_eq_true rfl) (fun C hl hC => ?_)
  subst hl
  show xw C (GX E) 5 (xq C (GX E) (some (.int r)) σ') σ 0 [(0, .ref (E.2.2.1 5)), (1, .int l1), (2, .int l2), (3, .int l3)] []
  unfold mould_cellAt at hf
  refine xr_aload_n (pc' := 1) 0 hC dX3_cellAt_0 rfl rfl rfl ?_
  refine gX3_mould_cells (pc' := 4) hC dX3_cellAt_1 rfl ?_
  refine xr_iload_n (pc' := 5) 1 hC dX3_cellAt_4 rfl rfl rfl ?_
  refine xr_iload_n (pc' := 6) 2 hC dX3_cellAt_5 rfl rfl rfl ?_
  refine xr_iload_n (pc' := 7) 3 hC dX3_cellAt_6 rfl rfl rfl ?_
  refine xr_iconst (pc' := 8) (1 : Int32) hC dX3_cellAt_7 rfl (by decide) ?_
  refine xr_callV (pc' := 11) (rmy := k2_rm 0 0) [.int l1, .int l2, .int l3, .int (1 : Int32)] 3 hC dX3_cellAt_8 rfl kX3_54 rfl rfl rfl rfl rfl ⟨Nat.le_of_ble_eq_true rfl, Nat.le_of_ble_eq_true rfl⟩ rfl (Nat.le_of_ble_eq_true rfl) hf (fun _ _ h => c_cl_areWithin_cells (xc_ok hC) h) (fun v1 σ2 hf => ?_)
  refine xr_if_ne (pc' := 14) 16 hC dX3_cellAt_11 rfl (by decide) hf (fun hf => ?_) (fun hf => ?_)
  · refine xr_iload_n (pc' := 17) 1 hC dX3_cellAt_16 rfl rfl rfl ?_
    refine xr_iload_n (pc' := 18) 2 hC dX3_cellAt_17 rfl rfl rfl ?_
    refine xr_iload_n (pc' := 19) 3 hC dX3_cellAt_18 rfl rfl rfl ?_
    refine xr_callS (pc' := 22) (rmy := k2_rm 0 0) [.int l1, .int l2, .int l3] hC dX3_cellAt_19 rfl kX3_58 rfl rfl rfl ⟨Nat.le_of_ble_eq_true rfl, Nat.le_of_ble_eq_true rfl⟩ rfl (Nat.le_of_ble_eq_true rfl) hf (fun _ _ h => c_cl_indexOf (xc_ok hC) h) (fun v3 σ4 hf => ?_)
    refine xr_istore (pc' := 24) (lv' := [(0, .ref (E.2.2.1 5)), (1, .int l1), (2, .int l2), (3, .int l3), (4, .int v3)]) hC dX3_cellAt_22 rfl (by decide) [1, 2, 3, 4, 0] rfl ?_
    refine xr_aload_n (pc' := 25) 0 hC dX3_cellAt_24 rfl rfl rfl ?_
    refine gX3_mould_cells (pc' := 28) hC dX3_cellAt_25 rfl ?_
    refine xr_iload (pc' := 30) 4 hC dX3_cellAt_28 rfl rfl ?_
    refine xr_callV (pc' := 33) (rmy := k2_rm 0 0) [.int v3] 3 hC dX3_cellAt_30 rfl kX3_61 rfl rfl rfl rfl rfl ⟨Nat.le_of_ble_eq_true rfl, Nat.le_of_ble_eq_true rfl⟩ rfl (Nat.le_of_ble_eq_true rfl) hf (fun _ _ h => c_cl_isSolid_cells (xc_ok hC) h) (fun v5 σ6 hf => ?_)
    refine xr_if_eq (pc' := 36) 40 hC dX3_cellAt_33 rfl (by decide) hf (fun hf => ?_) (fun hf => ?_)
    · refine xr_iload (pc' := 42) 4 hC dX3_cellAt_40 rfl rfl ?_
      exact xr_ireturn hC dX3_cellAt_42 hf
    refine xr_iconst (pc' := 37) (-1 : Int32) hC dX3_cellAt_36 rfl (by decide) ?_
    refine xr_goto 42 hC dX3_cellAt_37 (by decide) ?_
    exact xr_ireturn hC dX3_cellAt_42 hf
  refine xr_iconst (pc' := 15) (-1 : Int32) hC dX3_cellAt_14 rfl (by decide) ?_
  exact xr_ireturn hC dX3_cellAt_15 hf

set_option maxRecDepth 100000 in
set_option maxHeartbeats 4000000 in
theorem c_mould_addMember {l : Launch} {E : xE} {N : Nat} (hG : xOk (GX E)) {l1 : Int32} {σ : xS} {r : Int32} {σ' : xS} (hf : mould_addMember N l1 σ = some (r, σ')) : xMet l (GX E) yX3_addMember cX3_addMember 2 none (k2_rm 0 0) [.ref (E.2.2.1 5), .int l1] σ none σ' := by
  refine x_met (own := RX3) (by decide +kernel) hG rfl (Nat.le_of_ble_eq_true rfl) (fun C hl hC => ?_)
  subst hl
  show xw C (GX E) 2 (xq C (GX E) none σ') σ 0 [(0, .ref (E.2.2.1 5)), (1, .int l1)] []
  unfold mould_addMember at hf
  refine xr_iload_n (pc' := 1) 1 hC dX3_addMember_0 rfl rfl rfl ?_
  refine xr_iconst (pc' := 2) (-1 : Int32) hC dX3_addMember_1 rfl (by decide) ?_
  refine xr_icmp_eq (pc' := 5) 35 hC dX3_addMember_2 rfl (by decide) hf (fun hf => ?_) (fun hf => ?_)
  · exact xr_return hC dX3_addMember_35 hf
  refine xr_aload_n (pc' := 6) 0 hC dX3_addMember_5 rfl rfl rfl ?_
  refine gX3_mould_length (pc' := 9) hC dX3_addMember_6 rfl ?_
  refine xr_sipush (pc' := 12) (1000 : Int32) hC dX3_addMember_9 rfl (by decide) ?_
  refine xr_icmp_ge (pc' := 15) 35 hC dX3_addMember_12 rfl (by decide) hf (fun hf => ?_) (fun hf => ?_)
  · exact xr_return hC dX3_addMember_35 hf
  refine xr_aload_n (pc' := 16) 0 hC dX3_addMember_15 rfl rfl rfl ?_
  refine gX3_mould_members (pc' := 19) hC dX3_addMember_16 rfl ?_
  refine xr_aload_n (pc' := 20) 0 hC dX3_addMember_19 rfl rfl rfl ?_
  refine gX3_mould_length (pc' := 23) hC dX3_addMember_20 rfl ?_
  refine xr_iload_n (pc' := 24) 1 hC dX3_addMember_23 rfl rfl rfl ?_
  refine sX_6 (pc' := 25) hC dX3_addMember_24 rfl hf (fun σ1 hf => ?_)
  refine xr_aload_n (pc' := 26) 0 hC dX3_addMember_25 rfl rfl rfl ?_
  refine xr_dup (pc' := 27) hC dX3_addMember_26 rfl rfl ?_
  refine gX3_mould_length (pc' := 30) hC dX3_addMember_27 rfl ?_
  refine xr_iconst (pc' := 31) (1 : Int32) hC dX3_addMember_30 rfl (by decide) ?_
  refine xr_iadd (pc' := 32) hC dX3_addMember_31 rfl ?_
  refine pX3_mould_length (pc' := 35) hC dX3_addMember_32 rfl hf (fun σ2 hf => ?_)
  exact xr_return hC dX3_addMember_35 hf

set_option maxRecDepth 100000 in
set_option maxHeartbeats 4000000 in
theorem w_mould_makeAnew_b83 {C : xT} {E : xE} {N : Nat} {r : Int32} {σ' : xS} (hC : xc C (GX E) RX3 cX3_makeAnew 4 none (k2_rm 3 68)) : ∀ (n : Nat) (l1 : Int32) (σ : xS), mould_makeAnew_b83 N n l1 σ = some (r, σ') → xw C (GX E) 4 (xq C (GX E) none σ') σ 83 [(0, .ref (E.2.2.1 5)), (1, .int l1)] [] := by
  intro n
  induction n with
  | zero =>
    intro l1 σ hf
    rw [mould_makeAnew_b83] at hf
    cases hf
  | succ n ih =>
    intro l1 σ hf
    rw [mould_makeAnew_b83] at hf
    refine xr_iload_n (pc' := 84) 1 hC dX3_makeAnew_83 rfl rfl rfl ?_
    refine xr_aload_n (pc' := 85) 0 hC dX3_makeAnew_84 rfl rfl rfl ?_
    refine gX3_mould_length (pc' := 88) hC dX3_makeAnew_85 rfl ?_
    refine xr_icmp_ge (pc' := 91) 107 hC dX3_makeAnew_88 rfl (by decide) hf (fun hf => ?_) (fun hf => ?_)
    · exact xr_return hC dX3_makeAnew_107 hf
    refine xr_aload_n (pc' := 92) 0 hC dX3_makeAnew_91 rfl rfl rfl ?_
    refine xr_aload_n (pc' := 93) 0 hC dX3_makeAnew_92 rfl rfl rfl ?_
    refine gX3_mould_members (pc' := 96) hC dX3_makeAnew_93 rfl ?_
    refine xr_iload_n (pc' := 97) 1 hC dX3_makeAnew_96 rfl rfl rfl ?_
    refine lX_6 (pc' := 98) hC dX3_makeAnew_97 rfl hf (fun v4 hf => ?_)
    refine xr_callVv (pc' := 101) (rmy := k2_rm 2 46) [.int v4] 5 hC dX3_makeAnew_98 rfl kX3_51 rfl rfl rfl rfl rfl ⟨Nat.le_of_ble_eq_true rfl, Nat.le_of_ble_eq_true rfl⟩ rfl (Nat.le_of_ble_eq_true rfl) hf (fun _ _ h => c_mould_freeFromEdge (xc_ok hC) h) (fun v5 σ6 hf => ?_)
    refine xr_iinc (pc' := 104) hC dX3_makeAnew_101 rfl _ rfl hf 1 rfl (by decide) [1, 0] (fun l1_7 => [(0, .ref (E.2.2.1 5)), (1, .int l1_7)]) (fun _ => rfl) (fun l1_7 hf => ?_)
    refine xr_goto 83 hC dX3_makeAnew_104 (by decide) ?_
    exact ih _ _ hf

set_option maxRecDepth 100000 in
set_option maxHeartbeats 4000000 in
theorem w_mould_makeAnew_b41 {C : xT} {E : xE} {N : Nat} {r : Int32} {σ' : xS} (hC : xc C (GX E) RX3 cX3_makeAnew 4 none (k2_rm 3 68)) (K15 : Int32 → xS → Option (Int32 × xS)) (hK15 : ∀ (l1 : Int32) (σ : xS), K15 l1 σ = some (r, σ') → xw C (GX E) 4 (xq C (GX E) none σ') σ 15 [(0, .ref (E.2.2.1 5)), (1, .int l1)] []) (K28 : Int32 → Int32 → xS → Option (Int32 × xS)) (hK28 : ∀ (l1 l2 : Int32) (σ : xS), K28 l1 l2 σ = some (r, σ') → xw C (GX E) 4 (xq C (GX E) none σ') σ 28 [(0, .ref (E.2.2.1 5)), (1, .int l1), (2, .int l2)] []) : ∀ (n : Nat) (l1 l2 l3 : Int32) (σ : xS), mould_makeAnew_b41 N K15 K28 n l1 l2 l3 σ = some (r, σ') → xw C (GX E) 4 (xq C (GX E) none σ') σ 41 [(0, .ref (E.2.2.1 5)), (1, .int l1), (2, .int l2), (3, .int l3)] [] := by
  intro n
  induction n with
  | zero =>
    intro l1 l2 l3 σ hf
    rw [mould_makeAnew_b41] at hf
    cases hf
  | succ n ih =>
    intro l1 l2 l3 σ hf
    rw [mould_makeAnew_b41] at hf
    refine xr_iload_n (pc' := 42) 3 hC dX3_makeAnew_41 rfl rfl rfl ?_
    refine xr_aload_n (pc' := 43) 0 hC dX3_makeAnew_42 rfl rfl rfl ?_
    refine gX3_mould_cells (pc' := 46) hC dX3_makeAnew_43 rfl ?_
    refine gX3_cells_wide (pc' := 49) hC dX3_makeAnew_46 rfl ?_
    refine xr_icmp_gt (pc' := 52) 69 hC dX3_makeAnew_49 rfl (by decide) hf (fun hf => ?_) (fun hf => ?_)
    · refine xr_iinc (pc' := 72) hC dX3_makeAnew_69 rfl _ rfl hf 2 rfl (by decide) [1, 2, 0, 3] (fun l2_9 => [(0, .ref (E.2.2.1 5)), (1, .int l1), (2, .int l2_9), (3, .int l3)]) (fun _ => rfl) (fun l2_9 hf => ?_)
      refine xr_goto 28 hC dX3_makeAnew_72 (by decide) ?_
      refine x_lv [0, 1, 2] rfl ?_
      exact hK28 _ _ _ hf
    refine xr_aload_n (pc' := 53) 0 hC dX3_makeAnew_52 rfl rfl rfl ?_
    refine xr_aload_n (pc' := 54) 0 hC dX3_makeAnew_53 rfl rfl rfl ?_
    refine xr_iload_n (pc' := 55) 3 hC dX3_makeAnew_54 rfl rfl rfl ?_
    refine xr_iload_n (pc' := 56) 2 hC dX3_makeAnew_55 rfl rfl rfl ?_
    refine xr_iload_n (pc' := 57) 1 hC dX3_makeAnew_56 rfl rfl rfl ?_
    refine xr_callV (pc' := 60) (rmy := k2_rm 1 24) [.int l3, .int l2, .int l1] 5 hC dX3_makeAnew_57 rfl kX3_43 rfl rfl rfl rfl rfl ⟨Nat.le_of_ble_eq_true rfl, Nat.le_of_ble_eq_true rfl⟩ rfl (Nat.le_of_ble_eq_true rfl) hf (fun _ _ h => c_mould_cellAt (xc_ok hC) h) (fun v10 σ11 hf => ?_)
    refine xr_callVv (pc' := 63) (rmy := k2_rm 0 0) [.int v10] 5 hC dX3_makeAnew_60 rfl kX3_47 rfl rfl rfl rfl rfl ⟨Nat.le_of_ble_eq_true rfl, Nat.le_of_ble_eq_true rfl⟩ rfl (Nat.le_of_ble_eq_true rfl) hf (fun _ _ h => c_mould_addMember (xc_ok hC) h) (fun v12 σ13 hf => ?_)
    refine xr_iinc (pc' := 66) hC dX3_makeAnew_63 rfl _ rfl hf 3 rfl (by decide) [1, 2, 3, 0] (fun l3_14 => [(0, .ref (E.2.2.1 5)), (1, .int l1), (2, .int l2), (3, .int l3_14)]) (fun _ => rfl) (fun l3_14 hf => ?_)
    refine xr_goto 41 hC dX3_makeAnew_66 (by decide) ?_
    exact ih _ _ _ _ hf

set_option maxRecDepth 100000 in
set_option maxHeartbeats 4000000 in
theorem w_mould_makeAnew_b28 {C : xT} {E : xE} {N : Nat} {r : Int32} {σ' : xS} (hC : xc C (GX E) RX3 cX3_makeAnew 4 none (k2_rm 3 68)) (K15 : Int32 → xS → Option (Int32 × xS)) (hK15 : ∀ (l1 : Int32) (σ : xS), K15 l1 σ = some (r, σ') → xw C (GX E) 4 (xq C (GX E) none σ') σ 15 [(0, .ref (E.2.2.1 5)), (1, .int l1)] []) : ∀ (n : Nat) (l1 l2 : Int32) (σ : xS), mould_makeAnew_b28 N K15 n l1 l2 σ = some (r, σ') → xw C (GX E) 4 (xq C (GX E) none σ') σ 28 [(0, .ref (E.2.2.1 5)), (1, .int l1), (2, .int l2)] [] := by
  intro n
  induction n with
  | zero =>
    intro l1 l2 σ hf
    rw [mould_makeAnew_b28] at hf
    cases hf
  | succ n ih =>
    intro l1 l2 σ hf
    rw [mould_makeAnew_b28] at hf
    refine xr_iload_n (pc' := 29) 2 hC dX3_makeAnew_28 rfl rfl rfl ?_
    refine xr_aload_n (pc' := 30) 0 hC dX3_makeAnew_29 rfl rfl rfl ?_
    refine gX3_mould_cells (pc' := 33) hC dX3_makeAnew_30 rfl ?_
    refine gX3_cells_high (pc' := 36) hC dX3_makeAnew_33 rfl ?_
    refine xr_icmp_gt (pc' := 39) 75 hC dX3_makeAnew_36 rfl (by decide) hf (fun hf => ?_) (fun hf => ?_)
    · refine xr_iinc (pc' := 78) hC dX3_makeAnew_75 rfl _ rfl hf 1 rfl (by decide) [1, 0, 2] (fun l1_8 => [(0, .ref (E.2.2.1 5)), (1, .int l1_8), (2, .int l2)]) (fun _ => rfl) (fun l1_8 hf => ?_)
      refine xr_goto 15 hC dX3_makeAnew_78 (by decide) ?_
      refine x_lv [0, 1] rfl ?_
      exact hK15 _ _ hf
    refine xr_iconst (pc' := 40) (-1 : Int32) hC dX3_makeAnew_39 rfl (by decide) ?_
    refine xr_istore_n (pc' := 41) (lv' := [(0, .ref (E.2.2.1 5)), (1, .int l1), (2, .int l2), (3, .int (-1 : Int32))]) hC dX3_makeAnew_40 rfl rfl (by decide) [1, 2, 3, 0] rfl ?_
    exact w_mould_makeAnew_b41 hC (K15) hK15 (mould_makeAnew_b28 N K15 n) ih N _ _ _ _ hf

set_option maxRecDepth 100000 in
set_option maxHeartbeats 4000000 in
theorem w_mould_makeAnew_b15 {C : xT} {E : xE} {N : Nat} {r : Int32} {σ' : xS} (hC : xc C (GX E) RX3 cX3_makeAnew 4 none (k2_rm 3 68)) : ∀ (n : Nat) (l1 : Int32) (σ : xS), mould_makeAnew_b15 N n l1 σ = some (r, σ') → xw C (GX E) 4 (xq C (GX E) none σ') σ 15 [(0, .ref (E.2.2.1 5)), (1, .int l1)] [] := by
  intro n
  induction n with
  | zero =>
    intro l1 σ hf
    rw [mould_makeAnew_b15] at hf
    cases hf
  | succ n ih =>
    intro l1 σ hf
    rw [mould_makeAnew_b15] at hf
    refine xr_iload_n (pc' := 16) 1 hC dX3_makeAnew_15 rfl rfl rfl ?_
    refine xr_aload_n (pc' := 17) 0 hC dX3_makeAnew_16 rfl rfl rfl ?_
    refine gX3_mould_cells (pc' := 20) hC dX3_makeAnew_17 rfl ?_
    refine gX3_cells_deep (pc' := 23) hC dX3_makeAnew_20 rfl ?_
    refine xr_icmp_gt (pc' := 26) 81 hC dX3_makeAnew_23 rfl (by decide) hf (fun hf => ?_) (fun hf => ?_)
    · refine xr_iconst (pc' := 82) (0 : Int32) hC dX3_makeAnew_81 rfl (by decide) ?_
      refine xr_istore_n (pc' := 83) (lv' := [(0, .ref (E.2.2.1 5)), (1, .int (0 : Int32))]) hC dX3_makeAnew_82 rfl rfl (by decide) [1, 0] rfl ?_
      exact w_mould_makeAnew_b83 hC N _ _ hf
    refine xr_iconst (pc' := 27) (-1 : Int32) hC dX3_makeAnew_26 rfl (by decide) ?_
    refine xr_istore_n (pc' := 28) (lv' := [(0, .ref (E.2.2.1 5)), (1, .int l1), (2, .int (-1 : Int32))]) hC dX3_makeAnew_27 rfl rfl (by decide) [1, 2, 0] rfl ?_
    exact w_mould_makeAnew_b28 hC (mould_makeAnew_b15 N n) ih N _ _ _ hf

set_option maxRecDepth 100000 in
set_option maxHeartbeats 4000000 in
theorem c_mould_makeAnew {l : Launch} {E : xE} {N : Nat} (hG : xOk (GX E)) {σ : xS} {r : Int32} {σ' : xS} (hf : mould_makeAnew N σ = some (r, σ')) : xMet l (GX E) yX3_makeAnew cX3_makeAnew 4 none (k2_rm 3 68) [.ref (E.2.2.1 5)] σ none σ' := by
  refine x_met (own := RX3) (by decide +kernel) hG rfl (Nat.le_of_ble_eq_true rfl) (fun C hl hC => ?_)
  subst hl
  show xw C (GX E) 4 (xq C (GX E) none σ') σ 0 [(0, .ref (E.2.2.1 5))] []
  unfold mould_makeAnew at hf
  refine xr_aload_n (pc' := 1) 0 hC dX3_makeAnew_0 rfl rfl rfl ?_
  refine gX3_mould_freeBits (pc' := 4) hC dX3_makeAnew_1 rfl ?_
  refine xr_iconst (pc' := 5) (0 : Int32) hC dX3_makeAnew_4 rfl (by decide) ?_
  refine xr_callSv (pc' := 8) (rmy := k2_rm 0 0) [.ref (E.2.2.1 18), .int (0 : Int32)] hC dX3_makeAnew_5 rfl kX3_24 rfl rfl rfl ⟨Nat.le_of_ble_eq_true rfl, Nat.le_of_ble_eq_true rfl⟩ rfl (Nat.le_of_ble_eq_true rfl) hf (fun _ _ h => c_ju_fill_freeBits (xc_ok hC) h) (fun v1 σ2 hf => ?_)
  refine xr_aload_n (pc' := 9) 0 hC dX3_makeAnew_8 rfl rfl rfl ?_
  refine xr_iconst (pc' := 10) (0 : Int32) hC dX3_makeAnew_9 rfl (by decide) ?_
  refine pX3_mould_length (pc' := 13) hC dX3_makeAnew_10 rfl hf (fun σ3 hf => ?_)
  refine xr_iconst (pc' := 14) (-1 : Int32) hC dX3_makeAnew_13 rfl (by decide) ?_
  refine xr_istore_n (pc' := 15) (lv' := [(0, .ref (E.2.2.1 5)), (1, .int (-1 : Int32))]) hC dX3_makeAnew_14 rfl rfl (by decide) [1, 0] rfl ?_
  exact w_mould_makeAnew_b15 hC N _ _ hf

set_option maxRecDepth 100000 in
set_option maxHeartbeats 4000000 in
theorem c_pieces_clear {l : Launch} {E : xE} {N : Nat} (hG : xOk (GX E)) {σ : xS} {r : Int32} {σ' : xS} (hf : pieces_clear N σ = some (r, σ')) : xMet l (GX E) yX6_clear cX6_clear 1 none (k2_rm 0 0) [.ref (E.2.2.1 6)] σ none σ' := by
  refine x_met (own := RX6) (by decide +kernel) hG rfl (Nat.le_of_ble_eq_true rfl) (fun C hl hC => ?_)
  subst hl
  show xw C (GX E) 1 (xq C (GX E) none σ') σ 0 [(0, .ref (E.2.2.1 6))] []
  unfold pieces_clear at hf
  refine xr_aload_n (pc' := 1) 0 hC dX6_clear_0 rfl rfl rfl ?_
  refine xr_iconst (pc' := 2) (0 : Int32) hC dX6_clear_1 rfl (by decide) ?_
  refine pX6_pieces_length (pc' := 5) hC dX6_clear_2 rfl hf (fun σ1 hf => ?_)
  exact xr_return hC dX6_clear_5 hf

set_option maxRecDepth 100000 in
set_option maxHeartbeats 4000000 in
theorem c_drawing_forget {l : Launch} {E : xE} {N : Nat} (hG : xOk (GX E)) {σ : xS} {r : Int32} {σ' : xS} (hf : drawing_forget N σ = some (r, σ')) : xMet l (GX E) yX1_forget cX1_forget 1 none (k2_rm 1 20) [.ref (E.2.2.1 7)] σ none σ' := by
  refine x_met (own := RX1) (by decide +kernel) hG rfl (Nat.le_of_ble_eq_true rfl) (fun C hl hC => ?_)
  subst hl
  show xw C (GX E) 1 (xq C (GX E) none σ') σ 0 [(0, .ref (E.2.2.1 7))] []
  unfold drawing_forget at hf
  refine xr_aload_n (pc' := 1) 0 hC dX1_forget_0 rfl rfl rfl ?_
  refine xr_iconst (pc' := 2) (0 : Int32) hC dX1_forget_1 rfl (by decide) ?_
  refine pX1_drawing_wayCount (pc' := 5) hC dX1_forget_2 rfl hf (fun σ1 hf => ?_)
  refine xr_aload_n (pc' := 6) 0 hC dX1_forget_5 rfl rfl rfl ?_
  refine gX1_drawing_pieces (pc' := 9) hC dX1_forget_6 rfl ?_
  refine xr_callVv (pc' := 12) (rmy := k2_rm 0 0) [] 6 hC dX1_forget_9 rfl kX1_47 rfl rfl rfl rfl rfl ⟨Nat.le_of_ble_eq_true rfl, Nat.le_of_ble_eq_true rfl⟩ rfl (Nat.le_of_ble_eq_true rfl) hf (fun _ _ h => c_pieces_clear (xc_ok hC) h) (fun v2 σ3 hf => ?_)
  exact xr_return hC dX1_forget_12 hf

set_option maxRecDepth 100000 in
set_option maxHeartbeats 4000000 in
theorem w_cells_countSolid_b4 {C : xT} {E : xE} {N : Nat} {r : Int32} {σ' : xS} (hC : xc C (GX E) RX0 cX0_countSolid 3 (some .int) (k2_rm 0 0)) : ∀ (n : Nat) (l1 l2 : Int32) (σ : xS), cells_countSolid_b4 N n l1 l2 σ = some (r, σ') → xw C (GX E) 3 (xq C (GX E) (some (.int r)) σ') σ 4 [(0, .ref (E.2.2.1 3)), (1, .int l1), (2, .int l2)] [] := by
  intro n
  induction n with
  | zero =>
    intro l1 l2 σ hf
    rw [cells_countSolid_b4] at hf
    cases hf
  | succ n ih =>
    intro l1 l2 σ hf
    rw [cells_countSolid_b4] at hf
    refine xr_iload_n (pc' := 5) 2 hC dX0_countSolid_4 rfl rfl rfl ?_
    refine xr_sipush (pc' := 8) (1000 : Int32) hC dX0_countSolid_5 rfl (by decide) ?_
    refine xr_icmp_ge (pc' := 11) 26 hC dX0_countSolid_8 rfl (by decide) hf (fun hf => ?_) (fun hf => ?_)
    · refine xr_iload_n (pc' := 27) 1 hC dX0_countSolid_26 rfl rfl rfl ?_
      exact xr_ireturn hC dX0_countSolid_27 hf
    refine xr_iload_n (pc' := 12) 1 hC dX0_countSolid_11 rfl rfl rfl ?_
    refine xr_aload_n (pc' := 13) 0 hC dX0_countSolid_12 rfl rfl rfl ?_
    refine gX0_cells_solidCells (pc' := 16) hC dX0_countSolid_13 rfl ?_
    refine xr_iload_n (pc' := 17) 2 hC dX0_countSolid_16 rfl rfl rfl ?_
    refine lX_2 (pc' := 18) hC dX0_countSolid_17 rfl hf (fun v1 hf => ?_)
    refine xr_iadd (pc' := 19) hC dX0_countSolid_18 rfl ?_
    refine xr_istoreb_n (pc' := 20) hC dX0_countSolid_19 rfl hf rfl (by decide) [1, 0, 2] (fun l1_2 => [(0, .ref (E.2.2.1 3)), (1, .int l1_2), (2, .int l2)]) (fun _ => rfl) (fun l1_2 hf => ?_)
    refine xr_iinc (pc' := 23) hC dX0_countSolid_20 rfl _ rfl hf 2 rfl (by decide) [1, 2, 0] (fun l2_3 => [(0, .ref (E.2.2.1 3)), (1, .int l1_2), (2, .int l2_3)]) (fun _ => rfl) (fun l2_3 hf => ?_)
    refine xr_goto 4 hC dX0_countSolid_23 (by decide) ?_
    exact ih _ _ _ hf

set_option maxRecDepth 100000 in
set_option maxHeartbeats 4000000 in
theorem c_cells_countSolid {l : Launch} {E : xE} {N : Nat} (hG : xOk (GX E)) {σ : xS} {r : Int32} {σ' : xS} (hf : cells_countSolid N σ = some (r, σ')) : xMet l (GX E) yX0_countSolid cX0_countSolid 3 (some .int) (k2_rm 0 0) [.ref (E.2.2.1 3)] σ (some (.int r)) σ' := by
  refine x_met (own := RX0) (by decide +kernel) hG rfl (Nat.le_of_ble_eq_true rfl) (fun C hl hC => ?_)
  subst hl
  show xw C (GX E) 3 (xq C (GX E) (some (.int r)) σ') σ 0 [(0, .ref (E.2.2.1 3))] []
  unfold cells_countSolid at hf
  refine xr_iconst (pc' := 1) (0 : Int32) hC dX0_countSolid_0 rfl (by decide) ?_
  refine xr_istore_n (pc' := 2) (lv' := [(0, .ref (E.2.2.1 3)), (1, .int (0 : Int32))]) hC dX0_countSolid_1 rfl rfl (by decide) [1, 0] rfl ?_
  refine xr_iconst (pc' := 3) (0 : Int32) hC dX0_countSolid_2 rfl (by decide) ?_
  refine xr_istore_n (pc' := 4) (lv' := [(0, .ref (E.2.2.1 3)), (1, .int (0 : Int32)), (2, .int (0 : Int32))]) hC dX0_countSolid_3 rfl rfl (by decide) [1, 2, 0] rfl ?_
  exact w_cells_countSolid_b4 hC N _ _ _ hf

set_option maxRecDepth 100000 in
set_option maxHeartbeats 4000000 in
theorem c_cw_form {l : Launch} {E : xE} {N : Nat} (hG : xOk (GX E)) {l1 l2 l3 : Int32} {σ : xS} {r : Int32} {σ' : xS} (hf : cw_form N l1 l2 l3 σ = some (r, σ')) : xMet l (GX E) yX9_form cX9_form 5 (some .int) (k2_rm 9 195) [.ref (E.2.2.1 0), .int l1, .int l2, .int l3] σ (some (.int r)) σ' := by
  refine x_met (own := RX9) (by decide +kernel) hG rfl (Nat.le_of_ble_eq_true rfl) (fun C hl hC => ?_)
  subst hl
  show xw C (GX E) 5 (xq C (GX E) (some (.int r)) σ') σ 0 [(0, .ref (E.2.2.1 0)), (1, .int l1), (2, .int l2), (3, .int l3)] []
  unfold cw_form at hf
  refine xr_iload_n (pc' := 1) 1 hC dX9_form_0 rfl rfl rfl ?_
  refine xr_callS (pc' := 4) (rmy := k2_rm 0 0) [.int l1] hC dX9_form_1 rfl kX9_90 rfl rfl rfl ⟨Nat.le_of_ble_eq_true rfl, Nat.le_of_ble_eq_true rfl⟩ rfl (Nat.le_of_ble_eq_true rfl) hf (fun _ _ h => c_cl_canBeSide (xc_ok hC) h) (fun v1 σ2 hf => ?_)
  refine xr_if_eq (pc' := 7) 21 hC dX9_form_4 rfl (by decide) hf (fun hf => ?_) (fun hf => ?_)
  · refine xr_bipush (pc' := 23) (-2 : Int32) hC dX9_form_21 rfl (by decide) ?_
    exact xr_ireturn hC dX9_form_23 hf
  refine xr_iload_n (pc' := 8) 2 hC dX9_form_7 rfl rfl rfl ?_
  refine xr_callS (pc' := 11) (rmy := k2_rm 0 0) [.int l2] hC dX9_form_8 rfl kX9_90 rfl rfl rfl ⟨Nat.le_of_ble_eq_true rfl, Nat.le_of_ble_eq_true rfl⟩ rfl (Nat.le_of_ble_eq_true rfl) hf (fun _ _ h => c_cl_canBeSide (xc_ok hC) h) (fun v3 σ4 hf => ?_)
  refine xr_if_eq (pc' := 14) 21 hC dX9_form_11 rfl (by decide) hf (fun hf => ?_) (fun hf => ?_)
  · refine xr_bipush (pc' := 23) (-2 : Int32) hC dX9_form_21 rfl (by decide) ?_
    exact xr_ireturn hC dX9_form_23 hf
  refine xr_iload_n (pc' := 15) 3 hC dX9_form_14 rfl rfl rfl ?_
  refine xr_callS (pc' := 18) (rmy := k2_rm 0 0) [.int l3] hC dX9_form_15 rfl kX9_90 rfl rfl rfl ⟨Nat.le_of_ble_eq_true rfl, Nat.le_of_ble_eq_true rfl⟩ rfl (Nat.le_of_ble_eq_true rfl) hf (fun _ _ h => c_cl_canBeSide (xc_ok hC) h) (fun v5 σ6 hf => ?_)
  refine xr_if_ne (pc' := 21) 24 hC dX9_form_18 rfl (by decide) hf (fun hf => ?_) (fun hf => ?_)
  · refine xr_aload_n (pc' := 25) 0 hC dX9_form_24 rfl rfl rfl ?_
    refine gX9_cw_draft (pc' := 28) hC dX9_form_25 rfl ?_
    refine xr_iload_n (pc' := 29) 1 hC dX9_form_28 rfl rfl rfl ?_
    refine xr_iload_n (pc' := 30) 2 hC dX9_form_29 rfl rfl rfl ?_
    refine xr_iload_n (pc' := 31) 3 hC dX9_form_30 rfl rfl rfl ?_
    refine xr_callVv (pc' := 34) (rmy := k2_rm 1 23) [.int l1, .int l2, .int l3] 4 hC dX9_form_31 rfl kX9_93 rfl rfl rfl rfl rfl ⟨Nat.le_of_ble_eq_true rfl, Nat.le_of_ble_eq_true rfl⟩ rfl (Nat.le_of_ble_eq_true rfl) hf (fun _ _ h => c_draft_begin (xc_ok hC) h) (fun v7 σ8 hf => ?_)
    refine xr_aload_n (pc' := 35) 0 hC dX9_form_34 rfl rfl rfl ?_
    refine gX9_cw_reader (pc' := 38) hC dX9_form_35 rfl ?_
    refine xr_aload_n (pc' := 39) 0 hC dX9_form_38 rfl rfl rfl ?_
    refine gX9_cw_draft (pc' := 42) hC dX9_form_39 rfl ?_
    refine xr_callV (pc' := 45) (rmy := k2_rm 8 173) [.ref (E.2.2.1 4)] 2 hC dX9_form_42 rfl kX9_97 rfl rfl rfl rfl rfl ⟨Nat.le_of_ble_eq_true rfl, Nat.le_of_ble_eq_true rfl⟩ rfl (Nat.le_of_ble_eq_true rfl) hf (fun _ _ h => c_reader_readOnto (xc_ok hC) h) (fun v9 σ10 hf => ?_)
    refine xr_istore (pc' := 47) (lv' := [(0, .ref (E.2.2.1 0)), (1, .int l1), (2, .int l2), (3, .int l3), (4, .int v9)]) hC dX9_form_45 rfl (by decide) [1, 2, 3, 4, 0] rfl ?_
    refine xr_aload_n (pc' := 48) 0 hC dX9_form_47 rfl rfl rfl ?_
    refine gX9_cw_tape (pc' := 51) hC dX9_form_48 rfl ?_
    refine xr_iconst (pc' := 52) (0 : Int32) hC dX9_form_51 rfl (by decide) ?_
    refine xr_callV (pc' := 55) (rmy := k2_rm 0 0) [.int (0 : Int32)] 1 hC dX9_form_52 rfl kX9_86 rfl rfl rfl rfl rfl ⟨Nat.le_of_ble_eq_true rfl, Nat.le_of_ble_eq_true rfl⟩ rfl (Nat.le_of_ble_eq_true rfl) hf (fun _ _ h => c_tape_keepFirst (xc_ok hC) h) (fun v11 σ12 hf => ?_)
    refine xr_pop (pc' := 56) hC dX9_form_55 rfl rfl ?_
    refine xr_iload (pc' := 58) 4 hC dX9_form_56 rfl rfl ?_
    refine xr_if_ne (pc' := 61) 63 hC dX9_form_58 rfl (by decide) hf (fun hf => ?_) (fun hf => ?_)
    · refine xr_aload_n (pc' := 64) 0 hC dX9_form_63 rfl rfl rfl ?_
      refine gX9_cw_cells (pc' := 67) hC dX9_form_64 rfl ?_
      refine xr_aload_n (pc' := 68) 0 hC dX9_form_67 rfl rfl rfl ?_
      refine gX9_cw_draft (pc' := 71) hC dX9_form_68 rfl ?_
      refine xr_callVv (pc' := 74) (rmy := k2_rm 1 60) [.ref (E.2.2.1 4)] 3 hC dX9_form_71 rfl kX9_101 rfl rfl rfl rfl rfl ⟨Nat.le_of_ble_eq_true rfl, Nat.le_of_ble_eq_true rfl⟩ rfl (Nat.le_of_ble_eq_true rfl) hf (fun _ _ h => c_cells_copyFrom (xc_ok hC) h) (fun v13 σ14 hf => ?_)
      refine xr_aload_n (pc' := 75) 0 hC dX9_form_74 rfl rfl rfl ?_
      refine gX9_cw_mould (pc' := 78) hC dX9_form_75 rfl ?_
      refine xr_callVv (pc' := 81) (rmy := k2_rm 3 68) [] 5 hC dX9_form_78 rfl kX9_104 rfl rfl rfl rfl rfl ⟨Nat.le_of_ble_eq_true rfl, Nat.le_of_ble_eq_true rfl⟩ rfl (Nat.le_of_ble_eq_true rfl) hf (fun _ _ h => c_mould_makeAnew (xc_ok hC) h) (fun v15 σ16 hf => ?_)
      refine xr_aload_n (pc' := 82) 0 hC dX9_form_81 rfl rfl rfl ?_
      refine gX9_cw_drawing (pc' := 85) hC dX9_form_82 rfl ?_
      refine xr_callVv (pc' := 88) (rmy := k2_rm 1 20) [] 7 hC dX9_form_85 rfl kX9_107 rfl rfl rfl rfl rfl ⟨Nat.le_of_ble_eq_true rfl, Nat.le_of_ble_eq_true rfl⟩ rfl (Nat.le_of_ble_eq_true rfl) hf (fun _ _ h => c_drawing_forget (xc_ok hC) h) (fun v17 σ18 hf => ?_)
      refine xr_aload_n (pc' := 89) 0 hC dX9_form_88 rfl rfl rfl ?_
      refine gX9_cw_cells (pc' := 92) hC dX9_form_89 rfl ?_
      refine xr_callV (pc' := 95) (rmy := k2_rm 0 0) [] 3 hC dX9_form_92 rfl kX9_110 rfl rfl rfl rfl rfl ⟨Nat.le_of_ble_eq_true rfl, Nat.le_of_ble_eq_true rfl⟩ rfl (Nat.le_of_ble_eq_true rfl) hf (fun _ _ h => c_cells_countSolid (xc_ok hC) h) (fun v19 σ20 hf => ?_)
      exact xr_ireturn hC dX9_form_95 hf
    refine xr_iconst (pc' := 62) (-1 : Int32) hC dX9_form_61 rfl (by decide) ?_
    exact xr_ireturn hC dX9_form_62 hf
  refine xr_bipush (pc' := 23) (-2 : Int32) hC dX9_form_21 rfl (by decide) ?_
  exact xr_ireturn hC dX9_form_23 hf

set_option maxRecDepth 100000 in
set_option maxHeartbeats 4000000 in
theorem c_reader_faultKind {l : Launch} {E : xE} {N : Nat} (hG : xOk (GX E)) {σ : xS} {r : Int32} {σ' : xS} (hf : reader_faultKind N σ = some (r, σ')) : xMet l (GX E) yX8_faultKind cX8_faultKind 1 (some .int) (k2_rm 0 0) [.ref (E.2.2.1 2)] σ (some (.int r)) σ' := by
  refine x_met (own := RX8) (by decide +kernel) hG rfl (Nat.le_of_ble_eq_true rfl) (fun C hl hC => ?_)
  subst hl
  show xw C (GX E) 1 (xq C (GX E) (some (.int r)) σ') σ 0 [(0, .ref (E.2.2.1 2))] []
  unfold reader_faultKind at hf
  refine xr_aload_n (pc' := 1) 0 hC dX8_faultKind_0 rfl rfl rfl ?_
  refine gX8_reader_kind (pc' := 4) hC dX8_faultKind_1 rfl ?_
  exact xr_ireturn hC dX8_faultKind_4 hf

set_option maxRecDepth 100000 in
set_option maxHeartbeats 4000000 in
theorem c_reader_faultPlace {l : Launch} {E : xE} {N : Nat} (hG : xOk (GX E)) {σ : xS} {r : Int32} {σ' : xS} (hf : reader_faultPlace N σ = some (r, σ')) : xMet l (GX E) yX8_faultPlace cX8_faultPlace 1 (some .int) (k2_rm 0 0) [.ref (E.2.2.1 2)] σ (some (.int r)) σ' := by
  refine x_met (own := RX8) (by decide +kernel) hG rfl (Nat.le_of_ble_eq_true rfl) (fun C hl hC => ?_)
  subst hl
  show xw C (GX E) 1 (xq C (GX E) (some (.int r)) σ') σ 0 [(0, .ref (E.2.2.1 2))] []
  unfold reader_faultPlace at hf
  refine xr_aload_n (pc' := 1) 0 hC dX8_faultPlace_0 rfl rfl rfl ?_
  refine gX8_reader_kindPlace (pc' := 4) hC dX8_faultPlace_1 rfl ?_
  exact xr_ireturn hC dX8_faultPlace_4 hf

set_option maxRecDepth 100000 in
set_option maxHeartbeats 4000000 in
theorem c_cw_fault {l : Launch} {E : xE} {N : Nat} (hG : xOk (GX E)) {l1 : Int32} {σ : xS} {r : Int32} {σ' : xS} (hf : cw_fault N l1 σ = some (r, σ')) : xMet l (GX E) yX9_fault cX9_fault 2 (some .int) (k2_rm 1 20) [.ref (E.2.2.1 0), .int l1] σ (some (.int r)) σ' := by
  refine x_met (own := RX9) (by decide +kernel) hG rfl (Nat.le_of_ble_eq_true rfl) (fun C hl hC => ?_)
  subst hl
  show xw C (GX E) 2 (xq C (GX E) (some (.int r)) σ') σ 0 [(0, .ref (E.2.2.1 0)), (1, .int l1)] []
  unfold cw_fault at hf
  refine xr_iload_n (pc' := 1) 1 hC dX9_fault_0 rfl rfl rfl ?_
  by_cases e0 : l1 = (0 : Int32)
  · rw [if_pos e0] at hf
    refine xr_lookup (off := 27) 28 hC dX9_fault_1 (by decide) (by rw [e0]; decide) (by decide) ?_
    refine xr_aload_n (pc' := 29) 0 hC dX9_fault_28 rfl rfl rfl ?_
    refine gX9_cw_reader (pc' := 32) hC dX9_fault_29 rfl ?_
    refine xr_callV (pc' := 35) (rmy := k2_rm 0 0) [] 2 hC dX9_fault_32 rfl kX9_113 rfl rfl rfl rfl rfl ⟨Nat.le_of_ble_eq_true rfl, Nat.le_of_ble_eq_true rfl⟩ rfl (Nat.le_of_ble_eq_true rfl) hf (fun _ _ h => c_reader_faultKind (xc_ok hC) h) (fun v1 σ2 hf => ?_)
    exact xr_ireturn hC dX9_fault_35 hf
  rw [if_neg e0] at hf
  by_cases e1 : l1 = (1 : Int32)
  · rw [if_pos e1] at hf
    refine xr_lookup (off := 35) 36 hC dX9_fault_1 (by decide) (by rw [e1]; decide) (by decide) ?_
    refine xr_aload_n (pc' := 37) 0 hC dX9_fault_36 rfl rfl rfl ?_
    refine gX9_cw_reader (pc' := 40) hC dX9_fault_37 rfl ?_
    refine xr_callV (pc' := 43) (rmy := k2_rm 0 0) [] 2 hC dX9_fault_40 rfl kX9_116 rfl rfl rfl rfl rfl ⟨Nat.le_of_ble_eq_true rfl, Nat.le_of_ble_eq_true rfl⟩ rfl (Nat.le_of_ble_eq_true rfl) hf (fun _ _ h => c_reader_faultPlace (xc_ok hC) h) (fun v3 σ4 hf => ?_)
    exact xr_ireturn hC dX9_fault_43 hf
  rw [if_neg e1] at hf
  refine xr_lookup (off := 43) 44 hC dX9_fault_1 (by decide) (by rw [lv_osw e0 (by decide)]; rw [lv_osw e1 (by decide)]; rfl) (by decide) ?_
  refine xr_iconst (pc' := 45) (-1 : Int32) hC dX9_fault_44 rfl (by decide) ?_
  exact xr_ireturn hC dX9_fault_45 hf

set_option maxRecDepth 100000 in
set_option maxHeartbeats 4000000 in
theorem c_cw_solid {l : Launch} {E : xE} {N : Nat} (hG : xOk (GX E)) {l1 l2 l3 : Int32} {σ : xS} {r : Int32} {σ' : xS} (hf : cw_solid N l1 l2 l3 σ = some (r, σ')) : xMet l (GX E) yX9_solid cX9_solid 4 (some .int) (k2_rm 1 24) [.ref (E.2.2.1 0), .int l1, .int l2, .int l3] σ (some (.int r)) σ' := by
  refine x_met (own := RX9) (by decide +kernel) hG rfl (Nat.le_of_ble_eq_true rfl) (fun C hl hC => ?_)
  subst hl
  show xw C (GX E) 4 (xq C (GX E) (some (.int r)) σ') σ 0 [(0, .ref (E.2.2.1 0)), (1, .int l1), (2, .int l2), (3, .int l3)] []
  unfold cw_solid at hf
  refine xr_aload_n (pc' := 1) 0 hC dX9_solid_0 rfl rfl rfl ?_
  refine gX9_cw_cells (pc' := 4) hC dX9_solid_1 rfl ?_
  refine xr_iload_n (pc' := 5) 1 hC dX9_solid_4 rfl rfl rfl ?_
  refine xr_iload_n (pc' := 6) 2 hC dX9_solid_5 rfl rfl rfl ?_
  refine xr_iload_n (pc' := 7) 3 hC dX9_solid_6 rfl rfl rfl ?_
  refine xr_iconst (pc' := 8) (0 : Int32) hC dX9_solid_7 rfl (by decide) ?_
  refine xr_callV (pc' := 11) (rmy := k2_rm 0 0) [.int l1, .int l2, .int l3, .int (0 : Int32)] 3 hC dX9_solid_8 rfl kX9_119 rfl rfl rfl rfl rfl ⟨Nat.le_of_ble_eq_true rfl, Nat.le_of_ble_eq_true rfl⟩ rfl (Nat.le_of_ble_eq_true rfl) hf (fun _ _ h => c_cl_areWithin_cells (xc_ok hC) h) (fun v1 σ2 hf => ?_)
  refine xr_if_ne (pc' := 14) 16 hC dX9_solid_11 rfl (by decide) hf (fun hf => ?_) (fun hf => ?_)
  · refine xr_aload_n (pc' := 17) 0 hC dX9_solid_16 rfl rfl rfl ?_
    refine gX9_cw_cells (pc' := 20) hC dX9_solid_17 rfl ?_
    refine xr_iload_n (pc' := 21) 1 hC dX9_solid_20 rfl rfl rfl ?_
    refine xr_iload_n (pc' := 22) 2 hC dX9_solid_21 rfl rfl rfl ?_
    refine xr_iload_n (pc' := 23) 3 hC dX9_solid_22 rfl rfl rfl ?_
    refine xr_callS (pc' := 26) (rmy := k2_rm 0 0) [.int l1, .int l2, .int l3] hC dX9_solid_23 rfl kX9_123 rfl rfl rfl ⟨Nat.le_of_ble_eq_true rfl, Nat.le_of_ble_eq_true rfl⟩ rfl (Nat.le_of_ble_eq_true rfl) hf (fun _ _ h => c_cl_indexOf (xc_ok hC) h) (fun v3 σ4 hf => ?_)
    refine xr_callV (pc' := 29) (rmy := k2_rm 0 0) [.int v3] 3 hC dX9_solid_26 rfl kX9_127 rfl rfl rfl rfl rfl ⟨Nat.le_of_ble_eq_true rfl, Nat.le_of_ble_eq_true rfl⟩ rfl (Nat.le_of_ble_eq_true rfl) hf (fun _ _ h => c_cl_isSolid_cells (xc_ok hC) h) (fun v5 σ6 hf => ?_)
    refine xr_if_eq (pc' := 32) 36 hC dX9_solid_29 rfl (by decide) hf (fun hf => ?_) (fun hf => ?_)
    · refine xr_iconst (pc' := 37) (0 : Int32) hC dX9_solid_36 rfl (by decide) ?_
      exact xr_ireturn hC dX9_solid_37 hf
    refine xr_iconst (pc' := 33) (1 : Int32) hC dX9_solid_32 rfl (by decide) ?_
    refine xr_goto 37 hC dX9_solid_33 (by decide) ?_
    exact xr_ireturn hC dX9_solid_37 hf
  refine xr_iconst (pc' := 15) (-1 : Int32) hC dX9_solid_14 rfl (by decide) ?_
  exact xr_ireturn hC dX9_solid_15 hf

