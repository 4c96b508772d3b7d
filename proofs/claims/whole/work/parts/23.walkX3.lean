set_option maxRecDepth 100000 in
set_option maxHeartbeats 4000000 in
theorem c_mould_freeWays {l : Launch} {E : xE} {N : Nat} (hG : xOk (GX E)) {l1 : Int32} {σ : xS} {r : Int32} {σ' : xS} (hf : mould_freeWays N l1 σ = some (r, σ')) : xMet l (GX E) yX3_freeWays cX3_freeWays 2 (some .int) (k2_rm 0 0) [.ref (E.2.2.1 5), .int l1] σ (some (.int r)) σ' := by
  refine x_met (own := RX3) (by decide +kernel) hG rfl (Nat.le_of_ble_eq_true rfl) (fun C hl hC => ?_)
  subst hl
  show xw C (GX E) 2 (xq C (GX E) (some (.int r)) σ') σ 0 [(0, .ref (E.2.2.1 5)), (1, .int l1)] []
  unfold mould_freeWays at hf
  refine xr_iload_n (pc' := 1) 1 hC dX3_freeWays_0 rfl rfl rfl ?_
  refine xr_if_lt (pc' := 4) 20 hC dX3_freeWays_1 rfl (by decide) hf (fun hf => ?_) (fun hf => ?_)
  · refine xr_iconst (pc' := 21) (0 : Int32) hC dX3_freeWays_20 rfl (by decide) ?_
    exact xr_ireturn hC dX3_freeWays_21 hf
  refine xr_iload_n (pc' := 5) 1 hC dX3_freeWays_4 rfl rfl rfl ?_
  refine xr_sipush (pc' := 8) (1000 : Int32) hC dX3_freeWays_5 rfl (by decide) ?_
  refine xr_icmp_ge (pc' := 11) 20 hC dX3_freeWays_8 rfl (by decide) hf (fun hf => ?_) (fun hf => ?_)
  · refine xr_iconst (pc' := 21) (0 : Int32) hC dX3_freeWays_20 rfl (by decide) ?_
    exact xr_ireturn hC dX3_freeWays_21 hf
  refine xr_aload_n (pc' := 12) 0 hC dX3_freeWays_11 rfl rfl rfl ?_
  refine gX3_mould_freeBits (pc' := 15) hC dX3_freeWays_12 rfl ?_
  refine xr_iload_n (pc' := 16) 1 hC dX3_freeWays_15 rfl rfl rfl ?_
  refine lX_7 (pc' := 17) hC dX3_freeWays_16 rfl hf (fun v1 hf => ?_)
  refine xr_goto 21 hC dX3_freeWays_17 (by decide) ?_
  exact xr_ireturn hC dX3_freeWays_21 hf

set_option maxRecDepth 100000 in
set_option maxHeartbeats 4000000 in
theorem c_cw_free {l : Launch} {E : xE} {N : Nat} (hG : xOk (GX E)) {l1 l2 l3 : Int32} {σ : xS} {r : Int32} {σ' : xS} (hf : cw_free N l1 l2 l3 σ = some (r, σ')) : xMet l (GX E) yX9_free cX9_free 5 (some .int) (k2_rm 2 48) [.ref (E.2.2.1 0), .int l1, .int l2, .int l3] σ (some (.int r)) σ' := by
  refine x_met (own := RX9) (by decide +kernel) hG rfl (Nat.le_of_ble_eq_true rfl) (fun C hl hC => ?_)
  subst hl
  show xw C (GX E) 5 (xq C (GX E) (some (.int r)) σ') σ 0 [(0, .ref (E.2.2.1 0)), (1, .int l1), (2, .int l2), (3, .int l3)] []
  unfold cw_free at hf
  refine xr_aload_n (pc' := 1) 0 hC dX9_free_0 rfl rfl rfl ?_
  refine gX9_cw_mould (pc' := 4) hC dX9_free_1 rfl ?_
  refine xr_iload_n (pc' := 5) 1 hC dX9_free_4 rfl rfl rfl ?_
  refine xr_iload_n (pc' := 6) 2 hC dX9_free_5 rfl rfl rfl ?_
  refine xr_iload_n (pc' := 7) 3 hC dX9_free_6 rfl rfl rfl ?_
  refine xr_callV (pc' := 10) (rmy := k2_rm 1 24) [.int l1, .int l2, .int l3] 5 hC dX9_free_7 rfl kX9_130 rfl rfl rfl rfl rfl ⟨Nat.le_of_ble_eq_true rfl, Nat.le_of_ble_eq_true rfl⟩ rfl (Nat.le_of_ble_eq_true rfl) hf (fun _ _ h => c_mould_cellAt (xc_ok hC) h) (fun v1 σ2 hf => ?_)
  refine xr_istore (pc' := 12) (lv' := [(0, .ref (E.2.2.1 0)), (1, .int l1), (2, .int l2), (3, .int l3), (4, .int v1)]) hC dX9_free_10 rfl (by decide) [1, 2, 3, 4, 0] rfl ?_
  refine xr_iload (pc' := 14) 4 hC dX9_free_12 rfl rfl ?_
  refine xr_iconst (pc' := 15) (-1 : Int32) hC dX9_free_14 rfl (by decide) ?_
  refine xr_icmp_ne (pc' := 18) 22 hC dX9_free_15 rfl (by decide) hf (fun hf => ?_) (fun hf => ?_)
  · refine xr_aload_n (pc' := 23) 0 hC dX9_free_22 rfl rfl rfl ?_
    refine gX9_cw_mould (pc' := 26) hC dX9_free_23 rfl ?_
    refine xr_iload (pc' := 28) 4 hC dX9_free_26 rfl rfl ?_
    refine xr_callV (pc' := 31) (rmy := k2_rm 0 0) [.int v1] 5 hC dX9_free_28 rfl kX9_133 rfl rfl rfl rfl rfl ⟨Nat.le_of_ble_eq_true rfl, Nat.le_of_ble_eq_true rfl⟩ rfl (Nat.le_of_ble_eq_true rfl) hf (fun _ _ h => c_mould_freeWays (xc_ok hC) h) (fun v3 σ4 hf => ?_)
    exact xr_ireturn hC dX9_free_31 hf
  refine xr_iconst (pc' := 19) (-1 : Int32) hC dX9_free_18 rfl (by decide) ?_
  refine xr_goto 31 hC dX9_free_19 (by decide) ?_
  exact xr_ireturn hC dX9_free_31 hf

set_option maxRecDepth 100000 in
set_option maxHeartbeats 4000000 in
theorem c_cells_isThere {l : Launch} {E : xE} {N : Nat} (hG : xOk (GX E)) {σ : xS} {r : Int32} {σ' : xS} (hf : cells_isThere N σ = some (r, σ')) : xMet l (GX E) yX0_isThere cX0_isThere 1 (some .boolean) (k2_rm 0 0) [.ref (E.2.2.1 3)] σ (some (.int r)) σ' := by
  refine x_met (own := RX0) (by decide +kernel) hG rfl (Nat.le_of_ble_eq_true rfl) (fun C hl hC => ?_)
  subst hl
  show xw C (GX E) 1 (xq C (GX E) (some (.int r)) σ') σ 0 [(0, .ref (E.2.2.1 3))] []
  unfold cells_isThere at hf
  refine xr_aload_n (pc' := 1) 0 hC dX0_isThere_0 rfl rfl rfl ?_
  refine gX0_cells_wide (pc' := 4) hC dX0_isThere_1 rfl ?_
  refine xr_if_le (pc' := 7) 11 hC dX0_isThere_4 rfl (by decide) hf (fun hf => ?_) (fun hf => ?_)
  · refine xr_iconst (pc' := 12) (0 : Int32) hC dX0_isThere_11 rfl (by decide) ?_
    exact xr_zreturn hC dX0_isThere_12 rfl hf
  refine xr_iconst (pc' := 8) (1 : Int32) hC dX0_isThere_7 rfl (by decide) ?_
  refine xr_goto 12 hC dX0_isThere_8 (by decide) ?_
  exact xr_zreturn hC dX0_isThere_12 rfl hf

set_option maxRecDepth 100000 in
set_option maxHeartbeats 4000000 in
theorem w_mould_countShut_b4 {C : xT} {E : xE} {N : Nat} {r : Int32} {σ' : xS} (hC : xc C (GX E) RX3 cX3_countShut 3 (some .int) (k2_rm 1 21)) : ∀ (n : Nat) (l1 l2 : Int32) (σ : xS), mould_countShut_b4 N n l1 l2 σ = some (r, σ') → xw C (GX E) 3 (xq C (GX E) (some (.int r)) σ') σ 4 [(0, .ref (E.2.2.1 5)), (1, .int l1), (2, .int l2)] [] := by
  intro n
  induction n with
  | zero =>
    intro l1 l2 σ hf
    rw [mould_countShut_b4] at hf
    cases hf
  | succ n ih =>
    intro l1 l2 σ hf
    rw [mould_countShut_b4] at hf
    refine xr_iload_n (pc' := 5) 2 hC dX3_countShut_4 rfl rfl rfl ?_
    refine xr_aload_n (pc' := 6) 0 hC dX3_countShut_5 rfl rfl rfl ?_
    refine gX3_mould_length (pc' := 9) hC dX3_countShut_6 rfl ?_
    refine xr_icmp_ge (pc' := 12) 39 hC dX3_countShut_9 rfl (by decide) hf (fun hf => ?_) (fun hf => ?_)
    · refine xr_iload_n (pc' := 40) 1 hC dX3_countShut_39 rfl rfl rfl ?_
      exact xr_ireturn hC dX3_countShut_40 hf
    refine xr_iload_n (pc' := 13) 1 hC dX3_countShut_12 rfl rfl rfl ?_
    refine xr_aload_n (pc' := 14) 0 hC dX3_countShut_13 rfl rfl rfl ?_
    refine xr_aload_n (pc' := 15) 0 hC dX3_countShut_14 rfl rfl rfl ?_
    refine gX3_mould_members (pc' := 18) hC dX3_countShut_15 rfl ?_
    refine xr_iload_n (pc' := 19) 2 hC dX3_countShut_18 rfl rfl rfl ?_
    refine lX_6 (pc' := 20) hC dX3_countShut_19 rfl hf (fun v1 hf => ?_)
    refine xr_callV (pc' := 23) (rmy := k2_rm 0 0) [.int v1] 5 hC dX3_countShut_20 rfl kX3_65 rfl rfl rfl rfl rfl ⟨Nat.le_of_ble_eq_true rfl, Nat.le_of_ble_eq_true rfl⟩ rfl (Nat.le_of_ble_eq_true rfl) hf (fun _ _ h => c_mould_freeWays (xc_ok hC) h) (fun v2 σ3 hf => ?_)
    refine xr_if_ne (pc' := 26) 30 hC dX3_countShut_23 rfl (by decide) hf (fun hf => ?_) (fun hf => ?_)
    · refine xr_iconst (pc' := 31) (0 : Int32) hC dX3_countShut_30 rfl (by decide) ?_
      refine xr_iadd (pc' := 32) hC dX3_countShut_31 rfl ?_
      refine xr_istoreb_n (pc' := 33) hC dX3_countShut_32 rfl hf rfl (by decide) [1, 0, 2] (fun l1_4 => [(0, .ref (E.2.2.1 5)), (1, .int l1_4), (2, .int l2)]) (fun _ => rfl) (fun l1_4 hf => ?_)
      refine xr_iinc (pc' := 36) hC dX3_countShut_33 rfl _ rfl hf 2 rfl (by decide) [1, 2, 0] (fun l2_5 => [(0, .ref (E.2.2.1 5)), (1, .int l1_4), (2, .int l2_5)]) (fun _ => rfl) (fun l2_5 hf => ?_)
      refine xr_goto 4 hC dX3_countShut_36 (by decide) ?_
      exact ih _ _ _ hf
    refine xr_iconst (pc' := 27) (1 : Int32) hC dX3_countShut_26 rfl (by decide) ?_
    refine xr_goto 31 hC dX3_countShut_27 (by decide) ?_
    refine xr_iadd (pc' := 32) hC dX3_countShut_31 rfl ?_
    refine xr_istoreb_n (pc' := 33) hC dX3_countShut_32 rfl hf rfl (by decide) [1, 0, 2] (fun l1_6 => [(0, .ref (E.2.2.1 5)), (1, .int l1_6), (2, .int l2)]) (fun _ => rfl) (fun l1_6 hf => ?_)
    refine xr_iinc (pc' := 36) hC dX3_countShut_33 rfl _ rfl hf 2 rfl (by decide) [1, 2, 0] (fun l2_7 => [(0, .ref (E.2.2.1 5)), (1, .int l1_6), (2, .int l2_7)]) (fun _ => rfl) (fun l2_7 hf => ?_)
    refine xr_goto 4 hC dX3_countShut_36 (by decide) ?_
    exact ih _ _ _ hf

set_option maxRecDepth 100000 in
set_option maxHeartbeats 4000000 in
theorem c_mould_countShut {l : Launch} {E : xE} {N : Nat} (hG : xOk (GX E)) {σ : xS} {r : Int32} {σ' : xS} (hf : mould_countShut N σ = some (r, σ')) : xMet l (GX E) yX3_countShut cX3_countShut 3 (some .int) (k2_rm 1 21) [.ref (E.2.2.1 5)] σ (some (.int r)) σ' := by
  refine x_met (own := RX3) (by decide +kernel) hG rfl (Nat.le_of_ble_eq_true rfl) (fun C hl hC => ?_)
  subst hl
  show xw C (GX E) 3 (xq C (GX E) (some (.int r)) σ') σ 0 [(0, .ref (E.2.2.1 5))] []
  unfold mould_countShut at hf
  refine xr_iconst (pc' := 1) (0 : Int32) hC dX3_countShut_0 rfl (by decide) ?_
  refine xr_istore_n (pc' := 2) (lv' := [(0, .ref (E.2.2.1 5)), (1, .int (0 : Int32))]) hC dX3_countShut_1 rfl rfl (by decide) [1, 0] rfl ?_
  refine xr_iconst (pc' := 3) (0 : Int32) hC dX3_countShut_2 rfl (by decide) ?_
  refine xr_istore_n (pc' := 4) (lv' := [(0, .ref (E.2.2.1 5)), (1, .int (0 : Int32)), (2, .int (0 : Int32))]) hC dX3_countShut_3 rfl rfl (by decide) [1, 2, 0] rfl ?_
  exact w_mould_countShut_b4 hC N _ _ _ hf

set_option maxRecDepth 100000 in
set_option maxHeartbeats 4000000 in
theorem c_cw_shut {l : Launch} {E : xE} {N : Nat} (hG : xOk (GX E)) {σ : xS} {r : Int32} {σ' : xS} (hf : cw_shut N σ = some (r, σ')) : xMet l (GX E) yX9_shut cX9_shut 1 (some .int) (k2_rm 2 43) [.ref (E.2.2.1 0)] σ (some (.int r)) σ' := by
  refine x_met (own := RX9) (by decide +kernel) hG rfl (Nat.le_of_ble_eq_true rfl) (fun C hl hC => ?_)
  subst hl
  show xw C (GX E) 1 (xq C (GX E) (some (.int r)) σ') σ 0 [(0, .ref (E.2.2.1 0))] []
  unfold cw_shut at hf
  refine xr_aload_n (pc' := 1) 0 hC dX9_shut_0 rfl rfl rfl ?_
  refine gX9_cw_cells (pc' := 4) hC dX9_shut_1 rfl ?_
  refine xr_callV (pc' := 7) (rmy := k2_rm 0 0) [] 3 hC dX9_shut_4 rfl kX9_137 rfl rfl rfl rfl rfl ⟨Nat.le_of_ble_eq_true rfl, Nat.le_of_ble_eq_true rfl⟩ rfl (Nat.le_of_ble_eq_true rfl) hf (fun _ _ h => c_cells_isThere (xc_ok hC) h) (fun v1 σ2 hf => ?_)
  refine xr_if_eq (pc' := 10) 20 hC dX9_shut_7 rfl (by decide) hf (fun hf => ?_) (fun hf => ?_)
  · refine xr_iconst (pc' := 21) (-1 : Int32) hC dX9_shut_20 rfl (by decide) ?_
    exact xr_ireturn hC dX9_shut_21 hf
  refine xr_aload_n (pc' := 11) 0 hC dX9_shut_10 rfl rfl rfl ?_
  refine gX9_cw_mould (pc' := 14) hC dX9_shut_11 rfl ?_
  refine xr_callV (pc' := 17) (rmy := k2_rm 1 21) [] 5 hC dX9_shut_14 rfl kX9_140 rfl rfl rfl rfl rfl ⟨Nat.le_of_ble_eq_true rfl, Nat.le_of_ble_eq_true rfl⟩ rfl (Nat.le_of_ble_eq_true rfl) hf (fun _ _ h => c_mould_countShut (xc_ok hC) h) (fun v3 σ4 hf => ?_)
  refine xr_goto 21 hC dX9_shut_17 (by decide) ?_
  exact xr_ireturn hC dX9_shut_21 hf

set_option maxRecDepth 100000 in
set_option maxHeartbeats 4000000 in
theorem w_ju_fill_cellsFreeBy_b5 {C : xT} {E : xE} {N : Nat} {r : Int32} {σ' : xS} (hC : xc C (GX E) RJ7 cJ7_fill_53178 4 none (k2_rm 0 0)) : ∀ (n : Nat) (l1 l2 l3 : Int32) (σ : xS), ju_fill_b5 15 64 N n l1 l2 l3 σ = some (r, σ') → xw C (GX E) 4 (xq C (GX E) none σ') σ 5 [(0, .ref (E.2.2.1 26)), (1, .int l1), (2, .int l2), (3, .int l3)] [] := by
  intro n
  induction n with
  | zero =>
    intro l1 l2 l3 σ hf
    rw [ju_fill_b5] at hf
    cases hf
  | succ n ih =>
    intro l1 l2 l3 σ hf
    rw [ju_fill_b5] at hf
    refine xr_iload_n (pc' := 6) 2 hC dJ7_fill_53178_5 rfl rfl rfl ?_
    refine xr_iload_n (pc' := 7) 3 hC dJ7_fill_53178_6 rfl rfl rfl ?_
    refine xr_icmp_ge (pc' := 10) 20 hC dJ7_fill_53178_7 rfl (by decide) hf (fun hf => ?_) (fun hf => ?_)
    · exact xr_return hC dJ7_fill_53178_20 hf
    refine xr_aload_n (pc' := 11) 0 hC dJ7_fill_53178_10 rfl rfl rfl ?_
    refine xr_iload_n (pc' := 12) 2 hC dJ7_fill_53178_11 rfl rfl rfl ?_
    refine xr_iload_n (pc' := 13) 1 hC dJ7_fill_53178_12 rfl rfl rfl ?_
    refine sX_15 (pc' := 14) hC dJ7_fill_53178_13 rfl hf (fun σ2 hf => ?_)
    refine xr_iinc (pc' := 17) hC dJ7_fill_53178_14 rfl _ rfl hf 2 rfl (by decide) [1, 2, 0, 3] (fun l2_3 => [(0, .ref (E.2.2.1 26)), (1, .int l1), (2, .int l2_3), (3, .int l3)]) (fun _ => rfl) (fun l2_3 hf => ?_)
    refine xr_goto 5 hC dJ7_fill_53178_17 (by decide) ?_
    exact ih _ _ _ _ hf

set_option maxRecDepth 100000 in
set_option maxHeartbeats 4000000 in
theorem c_ju_fill_cellsFreeBy {l : Launch} {E : xE} {N : Nat} (hG : xOk (GX E)) {l1 : Int32} {σ : xS} {r : Int32} {σ' : xS} (hf : ju_fill 15 64 N l1 σ = some (r, σ')) : xMet l (GX E) yJ7_fill_53178 cJ7_fill_53178 4 none (k2_rm 0 0) [.ref (E.2.2.1 26), .int l1] σ none σ' := by
  refine x_met (own := RJ7) (by decide +kernel) hG rfl (Nat.le_of_ble_eq_true rfl) (fun C hl hC => ?_)
  subst hl
  show xw C (GX E) 4 (xq C (GX E) none σ') σ 0 [(0, .ref (E.2.2.1 26)), (1, .int l1)] []
  unfold ju_fill at hf
  refine xr_iconst (pc' := 1) (0 : Int32) hC dJ7_fill_53178_0 rfl (by decide) ?_
  refine xr_istore_n (pc' := 2) (lv' := [(0, .ref (E.2.2.1 26)), (1, .int l1), (2, .int (0 : Int32))]) hC dJ7_fill_53178_1 rfl rfl (by decide) [1, 2, 0] rfl ?_
  refine xr_aload_n (pc' := 3) 0 hC dJ7_fill_53178_2 rfl rfl rfl ?_
  refine nX_15 (pc' := 4) hC dJ7_fill_53178_3 rfl ?_
  refine xr_istoreb_n (pc' := 5) hC dJ7_fill_53178_4 rfl hf rfl (by decide) [1, 2, 3, 0] (fun l3_1 => [(0, .ref (E.2.2.1 26)), (1, .int l1), (2, .int (0 : Int32)), (3, .int l3_1)]) (fun _ => rfl) (fun l3_1 hf => ?_)
  exact w_ju_fill_cellsFreeBy_b5 hC N _ _ _ _ hf

set_option maxRecDepth 100000 in
set_option maxHeartbeats 4000000 in
theorem c_mould_size {l : Launch} {E : xE} {N : Nat} (hG : xOk (GX E)) {σ : xS} {r : Int32} {σ' : xS} (hf : mould_size N σ = some (r, σ')) : xMet l (GX E) yX3_size cX3_size 1 (some .int) (k2_rm 0 0) [.ref (E.2.2.1 5)] σ (some (.int r)) σ' := by
  refine x_met (own := RX3) (by decide +kernel) hG rfl (Nat.le_of_ble_eq_true rfl) (fun C hl hC => ?_)
  subst hl
  show xw C (GX E) 1 (xq C (GX E) (some (.int r)) σ') σ 0 [(0, .ref (E.2.2.1 5))] []
  unfold mould_size at hf
  refine xr_aload_n (pc' := 1) 0 hC dX3_size_0 rfl rfl rfl ?_
  refine gX3_mould_length (pc' := 4) hC dX3_size_1 rfl ?_
  exact xr_ireturn hC dX3_size_4 hf

set_option maxRecDepth 100000 in
set_option maxHeartbeats 4000000 in
theorem c_mould_member {l : Launch} {E : xE} {N : Nat} (hG : xOk (GX E)) {l1 : Int32} {σ : xS} {r : Int32} {σ' : xS} (hf : mould_member N l1 σ = some (r, σ')) : xMet l (GX E) yX3_member cX3_member 2 (some .int) (k2_rm 0 0) [.ref (E.2.2.1 5), .int l1] σ (some (.int r)) σ' := by
  refine x_met (own := RX3) (by decide +kernel) hG rfl (Nat.le_of_ble_eq_true rfl) (fun C hl hC => ?_)
  subst hl
  show xw C (GX E) 2 (xq C (GX E) (some (.int r)) σ') σ 0 [(0, .ref (E.2.2.1 5)), (1, .int l1)] []
  unfold mould_member at hf
  refine xr_iload_n (pc' := 1) 1 hC dX3_member_0 rfl rfl rfl ?_
  refine xr_if_lt (pc' := 4) 21 hC dX3_member_1 rfl (by decide) hf (fun hf => ?_) (fun hf => ?_)
  · refine xr_iconst (pc' := 22) (-1 : Int32) hC dX3_member_21 rfl (by decide) ?_
    exact xr_ireturn hC dX3_member_22 hf
  refine xr_iload_n (pc' := 5) 1 hC dX3_member_4 rfl rfl rfl ?_
  refine xr_aload_n (pc' := 6) 0 hC dX3_member_5 rfl rfl rfl ?_
  refine gX3_mould_length (pc' := 9) hC dX3_member_6 rfl ?_
  refine xr_icmp_ge (pc' := 12) 21 hC dX3_member_9 rfl (by decide) hf (fun hf => ?_) (fun hf => ?_)
  · refine xr_iconst (pc' := 22) (-1 : Int32) hC dX3_member_21 rfl (by decide) ?_
    exact xr_ireturn hC dX3_member_22 hf
  refine xr_aload_n (pc' := 13) 0 hC dX3_member_12 rfl rfl rfl ?_
  refine gX3_mould_members (pc' := 16) hC dX3_member_13 rfl ?_
  refine xr_iload_n (pc' := 17) 1 hC dX3_member_16 rfl rfl rfl ?_
  refine lX_6 (pc' := 18) hC dX3_member_17 rfl hf (fun v1 hf => ?_)
  refine xr_goto 22 hC dX3_member_18 (by decide) ?_
  exact xr_ireturn hC dX3_member_22 hf

set_option maxRecDepth 100000 in
set_option maxHeartbeats 4000000 in
theorem w_drawing_noteFreedoms_b10 {C : xT} {E : xE} {N : Nat} {r : Int32} {σ' : xS} (hC : xc C (GX E) RX1 cX1_noteFreedoms 2 none (k2_rm 1 23)) : ∀ (n : Nat) (l1 : Int32) (σ : xS), drawing_noteFreedoms_b10 N n l1 σ = some (r, σ') → xw C (GX E) 2 (xq C (GX E) none σ') σ 10 [(0, .ref (E.2.2.1 7)), (1, .int l1)] [] := by
  intro n
  induction n with
  | zero =>
    intro l1 σ hf
    rw [drawing_noteFreedoms_b10] at hf
    cases hf
  | succ n ih =>
    intro l1 σ hf
    rw [drawing_noteFreedoms_b10] at hf
    refine xr_iload_n (pc' := 11) 1 hC dX1_noteFreedoms_10 rfl rfl rfl ?_
    refine xr_aload_n (pc' := 12) 0 hC dX1_noteFreedoms_11 rfl rfl rfl ?_
    refine gX1_drawing_mould (pc' := 15) hC dX1_noteFreedoms_12 rfl ?_
    refine xr_callV (pc' := 18) (rmy := k2_rm 0 0) [] 5 hC dX1_noteFreedoms_15 rfl kX1_83 rfl rfl rfl rfl rfl ⟨Nat.le_of_ble_eq_true rfl, Nat.le_of_ble_eq_true rfl⟩ rfl (Nat.le_of_ble_eq_true rfl) hf (fun _ _ h => c_mould_size (xc_ok hC) h) (fun v3 σ4 hf => ?_)
    refine xr_icmp_ge (pc' := 21) 54 hC dX1_noteFreedoms_18 rfl (by decide) hf (fun hf => ?_) (fun hf => ?_)
    · exact xr_return hC dX1_noteFreedoms_54 hf
    refine xr_aload_n (pc' := 22) 0 hC dX1_noteFreedoms_21 rfl rfl rfl ?_
    refine gX1_drawing_cellsFreeBy (pc' := 25) hC dX1_noteFreedoms_22 rfl ?_
    refine xr_aload_n (pc' := 26) 0 hC dX1_noteFreedoms_25 rfl rfl rfl ?_
    refine gX1_drawing_mould (pc' := 29) hC dX1_noteFreedoms_26 rfl ?_
    refine xr_aload_n (pc' := 30) 0 hC dX1_noteFreedoms_29 rfl rfl rfl ?_
    refine gX1_drawing_mould (pc' := 33) hC dX1_noteFreedoms_30 rfl ?_
    refine xr_iload_n (pc' := 34) 1 hC dX1_noteFreedoms_33 rfl rfl rfl ?_
    refine xr_callV (pc' := 37) (rmy := k2_rm 0 0) [.int l1] 5 hC dX1_noteFreedoms_34 rfl kX1_86 rfl rfl rfl rfl rfl ⟨Nat.le_of_ble_eq_true rfl, Nat.le_of_ble_eq_true rfl⟩ rfl (Nat.le_of_ble_eq_true rfl) hf (fun _ _ h => c_mould_member (xc_ok hC) h) (fun v5 σ6 hf => ?_)
    refine xr_callV (pc' := 40) (rmy := k2_rm 0 0) [.int v5] 5 hC dX1_noteFreedoms_37 rfl kX1_89 rfl rfl rfl rfl rfl ⟨Nat.le_of_ble_eq_true rfl, Nat.le_of_ble_eq_true rfl⟩ rfl (Nat.le_of_ble_eq_true rfl) hf (fun _ _ h => c_mould_freeWays (xc_ok hC) h) (fun v7 σ8 hf => ?_)
    refine xr_bipush (pc' := 42) (63 : Int32) hC dX1_noteFreedoms_40 rfl (by decide) ?_
    refine xr_iand (pc' := 43) hC dX1_noteFreedoms_42 rfl ?_
    refine xr_dup2 (pc' := 44) hC dX1_noteFreedoms_43 rfl rfl rfl ?_
    refine lX_15 (pc' := 45) hC dX1_noteFreedoms_44 rfl hf (fun v9 hf => ?_)
    refine xr_iconst (pc' := 46) (1 : Int32) hC dX1_noteFreedoms_45 rfl (by decide) ?_
    refine xr_iadd (pc' := 47) hC dX1_noteFreedoms_46 rfl ?_
    refine sX_15 (pc' := 48) hC dX1_noteFreedoms_47 rfl hf (fun σ10 hf => ?_)
    refine xr_iinc (pc' := 51) hC dX1_noteFreedoms_48 rfl _ rfl hf 1 rfl (by decide) [1, 0] (fun l1_11 => [(0, .ref (E.2.2.1 7)), (1, .int l1_11)]) (fun _ => rfl) (fun l1_11 hf => ?_)
    refine xr_goto 10 hC dX1_noteFreedoms_51 (by decide) ?_
    exact ih _ _ hf

set_option maxRecDepth 100000 in
set_option maxHeartbeats 4000000 in
theorem c_drawing_noteFreedoms {l : Launch} {E : xE} {N : Nat} (hG : xOk (GX E)) {σ : xS} {r : Int32} {σ' : xS} (hf : drawing_noteFreedoms N σ = some (r, σ')) : xMet l (GX E) yX1_noteFreedoms cX1_noteFreedoms 2 none (k2_rm 1 23) [.ref (E.2.2.1 7)] σ none σ' := by
  refine x_met (own := RX1) (by decide +kernel) hG rfl (Nat.le_of_ble_eq_true rfl) (fun C hl hC => ?_)
  subst hl
  show xw C (GX E) 2 (xq C (GX E) none σ') σ 0 [(0, .ref (E.2.2.1 7))] []
  unfold drawing_noteFreedoms at hf
  refine xr_aload_n (pc' := 1) 0 hC dX1_noteFreedoms_0 rfl rfl rfl ?_
  refine gX1_drawing_cellsFreeBy (pc' := 4) hC dX1_noteFreedoms_1 rfl ?_
  refine xr_iconst (pc' := 5) (0 : Int32) hC dX1_noteFreedoms_4 rfl (by decide) ?_
  refine xr_callSv (pc' := 8) (rmy := k2_rm 0 0) [.ref (E.2.2.1 26), .int (0 : Int32)] hC dX1_noteFreedoms_5 rfl kX1_77 rfl rfl rfl ⟨Nat.le_of_ble_eq_true rfl, Nat.le_of_ble_eq_true rfl⟩ rfl (Nat.le_of_ble_eq_true rfl) hf (fun _ _ h => c_ju_fill_cellsFreeBy (xc_ok hC) h) (fun v1 σ2 hf => ?_)
  refine xr_iconst (pc' := 9) (0 : Int32) hC dX1_noteFreedoms_8 rfl (by decide) ?_
  refine xr_istore_n (pc' := 10) (lv' := [(0, .ref (E.2.2.1 7)), (1, .int (0 : Int32))]) hC dX1_noteFreedoms_9 rfl rfl (by decide) [1, 0] rfl ?_
  exact w_drawing_noteFreedoms_b10 hC N _ _ hf

set_option maxRecDepth 100000 in
set_option maxHeartbeats 4000000 in
theorem c_ji_bitCount {l : Launch} {E : xE} {N : Nat} (hG : xOk (GX E)) {l0 : Int32} {σ : xS} {r : Int32} {σ' : xS} (hf : ji_bitCount N l0 σ = some (r, σ')) : xMet l (GX E) yJ6_bitCount_0f7a4 cJ6_bitCount_0f7a4 1 (some .int) (k2_rm 0 0) [.int l0] σ (some (.int r)) σ' := by
  refine x_met (own := RJ6) (by decide +kernel) hG rfl (Nat.le_of_ble_eq_true rfl) (fun C hl hC => ?_)
  subst hl
  show xw C (GX E) 1 (xq C (GX E) (some (.int r)) σ') σ 0 [(0, .int l0)] []
  unfold ji_bitCount at hf
  refine xr_iload_n (pc' := 1) 0 hC dJ6_bitCount_0f7a4_0 rfl rfl rfl ?_
  refine xr_iload_n (pc' := 2) 0 hC dJ6_bitCount_0f7a4_1 rfl rfl rfl ?_
  refine xr_iconst (pc' := 3) (1 : Int32) hC dJ6_bitCount_0f7a4_2 rfl (by decide) ?_
  refine xr_iushr (pc' := 4) hC dJ6_bitCount_0f7a4_3 rfl ?_
  refine xr_ldc_w (pc' := 7) (1431655765 : Int32) hC dJ6_bitCount_0f7a4_4 rfl qJ6_265 ?_
  refine xr_iand (pc' := 8) hC dJ6_bitCount_0f7a4_7 rfl ?_
  refine xr_isub (pc' := 9) hC dJ6_bitCount_0f7a4_8 rfl ?_
  refine xr_istoreb_n (pc' := 10) hC dJ6_bitCount_0f7a4_9 rfl hf rfl (by decide) [0] (fun l0_1 => [(0, .int l0_1)]) (fun _ => rfl) (fun l0_1 hf => ?_)
  refine xr_iload_n (pc' := 11) 0 hC dJ6_bitCount_0f7a4_10 rfl rfl rfl ?_
  refine xr_ldc_w (pc' := 14) (858993459 : Int32) hC dJ6_bitCount_0f7a4_11 rfl qJ6_266 ?_
  refine xr_iand (pc' := 15) hC dJ6_bitCount_0f7a4_14 rfl ?_
  refine xr_iload_n (pc' := 16) 0 hC dJ6_bitCount_0f7a4_15 rfl rfl rfl ?_
  refine xr_iconst (pc' := 17) (2 : Int32) hC dJ6_bitCount_0f7a4_16 rfl (by decide) ?_
  refine xr_iushr (pc' := 18) hC dJ6_bitCount_0f7a4_17 rfl ?_
  refine xr_ldc_w (pc' := 21) (858993459 : Int32) hC dJ6_bitCount_0f7a4_18 rfl qJ6_266 ?_
  refine xr_iand (pc' := 22) hC dJ6_bitCount_0f7a4_21 rfl ?_
  refine xr_iadd (pc' := 23) hC dJ6_bitCount_0f7a4_22 rfl ?_
  refine xr_istoreb_n (pc' := 24) hC dJ6_bitCount_0f7a4_23 rfl hf rfl (by decide) [0] (fun l0_2 => [(0, .int l0_2)]) (fun _ => rfl) (fun l0_2 hf => ?_)
  refine xr_iload_n (pc' := 25) 0 hC dJ6_bitCount_0f7a4_24 rfl rfl rfl ?_
  refine xr_iload_n (pc' := 26) 0 hC dJ6_bitCount_0f7a4_25 rfl rfl rfl ?_
  refine xr_iconst (pc' := 27) (4 : Int32) hC dJ6_bitCount_0f7a4_26 rfl (by decide) ?_
  refine xr_iushr (pc' := 28) hC dJ6_bitCount_0f7a4_27 rfl ?_
  refine xr_iadd (pc' := 29) hC dJ6_bitCount_0f7a4_28 rfl ?_
  refine xr_ldc_w (pc' := 32) (252645135 : Int32) hC dJ6_bitCount_0f7a4_29 rfl qJ6_267 ?_
  refine xr_iand (pc' := 33) hC dJ6_bitCount_0f7a4_32 rfl ?_
  refine xr_istoreb_n (pc' := 34) hC dJ6_bitCount_0f7a4_33 rfl hf rfl (by decide) [0] (fun l0_3 => [(0, .int l0_3)]) (fun _ => rfl) (fun l0_3 hf => ?_)
  refine xr_iload_n (pc' := 35) 0 hC dJ6_bitCount_0f7a4_34 rfl rfl rfl ?_
  refine xr_iload_n (pc' := 36) 0 hC dJ6_bitCount_0f7a4_35 rfl rfl rfl ?_
  refine xr_bipush (pc' := 38) (8 : Int32) hC dJ6_bitCount_0f7a4_36 rfl (by decide) ?_
  refine xr_iushr (pc' := 39) hC dJ6_bitCount_0f7a4_38 rfl ?_
  refine xr_iadd (pc' := 40) hC dJ6_bitCount_0f7a4_39 rfl ?_
  refine xr_istoreb_n (pc' := 41) hC dJ6_bitCount_0f7a4_40 rfl hf rfl (by decide) [0] (fun l0_4 => [(0, .int l0_4)]) (fun _ => rfl) (fun l0_4 hf => ?_)
  refine xr_iload_n (pc' := 42) 0 hC dJ6_bitCount_0f7a4_41 rfl rfl rfl ?_
  refine xr_iload_n (pc' := 43) 0 hC dJ6_bitCount_0f7a4_42 rfl rfl rfl ?_
  refine xr_bipush (pc' := 45) (16 : Int32) hC dJ6_bitCount_0f7a4_43 rfl (by decide) ?_
  refine xr_iushr (pc' := 46) hC dJ6_bitCount_0f7a4_45 rfl ?_
  refine xr_iadd (pc' := 47) hC dJ6_bitCount_0f7a4_46 rfl ?_
  refine xr_istoreb_n (pc' := 48) hC dJ6_bitCount_0f7a4_47 rfl hf rfl (by decide) [0] (fun l0_5 => [(0, .int l0_5)]) (fun _ => rfl) (fun l0_5 hf => ?_)
  refine xr_iload_n (pc' := 49) 0 hC dJ6_bitCount_0f7a4_48 rfl rfl rfl ?_
  refine xr_bipush (pc' := 51) (63 : Int32) hC dJ6_bitCount_0f7a4_49 rfl (by decide) ?_
  refine xr_iand (pc' := 52) hC dJ6_bitCount_0f7a4_51 rfl ?_
  exact xr_ireturn hC dJ6_bitCount_0f7a4_52 hf

set_option maxRecDepth 100000 in
set_option maxHeartbeats 4000000 in
theorem w_drawing_frees_b2 {C : xT} {E : xE} {N : Nat} {r : Int32} {σ' : xS} (hC : xc C (GX E) RX1 cX1_frees 3 (some .boolean) (k2_rm 0 0)) : ∀ (n : Nat) (l1 l2 : Int32) (σ : xS), drawing_frees_b2 N n l1 l2 σ = some (r, σ') → xw C (GX E) 3 (xq C (GX E) (some (.int r)) σ') σ 2 [(0, .ref (E.2.2.1 7)), (1, .int l1), (2, .int l2)] [] := by
  intro n
  induction n with
  | zero =>
    intro l1 l2 σ hf
    rw [drawing_frees_b2] at hf
    cases hf
  | succ n ih =>
    intro l1 l2 σ hf
    rw [drawing_frees_b2] at hf
    refine xr_iload_n (pc' := 3) 2 hC dX1_frees_2 rfl rfl rfl ?_
    refine xr_bipush (pc' := 5) (64 : Int32) hC dX1_frees_3 rfl (by decide) ?_
    refine xr_icmp_ge (pc' := 8) 31 hC dX1_frees_5 rfl (by decide) hf (fun hf => ?_) (fun hf => ?_)
    · refine xr_iconst (pc' := 32) (1 : Int32) hC dX1_frees_31 rfl (by decide) ?_
      exact xr_zreturn hC dX1_frees_32 rfl hf
    refine xr_aload_n (pc' := 9) 0 hC dX1_frees_8 rfl rfl rfl ?_
    refine gX1_drawing_cellsFreeBy (pc' := 12) hC dX1_frees_9 rfl ?_
    refine xr_iload_n (pc' := 13) 2 hC dX1_frees_12 rfl rfl rfl ?_
    refine lX_15 (pc' := 14) hC dX1_frees_13 rfl hf (fun v1 hf => ?_)
    refine xr_if_le (pc' := 17) 25 hC dX1_frees_14 rfl (by decide) hf (fun hf => ?_) (fun hf => ?_)
    · refine xr_iinc (pc' := 28) hC dX1_frees_25 rfl _ rfl hf 2 rfl (by decide) [1, 2, 0] (fun l2_2 => [(0, .ref (E.2.2.1 7)), (1, .int l1), (2, .int l2_2)]) (fun _ => rfl) (fun l2_2 hf => ?_)
      refine xr_goto 2 hC dX1_frees_28 (by decide) ?_
      exact ih _ _ _ hf
    refine xr_iload_n (pc' := 18) 2 hC dX1_frees_17 rfl rfl rfl ?_
    refine xr_iload_n (pc' := 19) 1 hC dX1_frees_18 rfl rfl rfl ?_
    refine xr_iand (pc' := 20) hC dX1_frees_19 rfl ?_
    refine xr_if_ne (pc' := 23) 25 hC dX1_frees_20 rfl (by decide) hf (fun hf => ?_) (fun hf => ?_)
    · refine xr_iinc (pc' := 28) hC dX1_frees_25 rfl _ rfl hf 2 rfl (by decide) [1, 2, 0] (fun l2_3 => [(0, .ref (E.2.2.1 7)), (1, .int l1), (2, .int l2_3)]) (fun _ => rfl) (fun l2_3 hf => ?_)
      refine xr_goto 2 hC dX1_frees_28 (by decide) ?_
      exact ih _ _ _ hf
    refine xr_iconst (pc' := 24) (0 : Int32) hC dX1_frees_23 rfl (by decide) ?_
    exact xr_zreturn hC dX1_frees_24 rfl hf

set_option maxRecDepth 100000 in
set_option maxHeartbeats 4000000 in
theorem c_drawing_frees {l : Launch} {E : xE} {N : Nat} (hG : xOk (GX E)) {l1 : Int32} {σ : xS} {r : Int32} {σ' : xS} (hf : drawing_frees N l1 σ = some (r, σ')) : xMet l (GX E) yX1_frees cX1_frees 3 (some .boolean) (k2_rm 0 0) [.ref (E.2.2.1 7), .int l1] σ (some (.int r)) σ' := by
  refine x_met (own := RX1) (by decide +kernel) hG rfl (Nat.le_of_ble_eq_true rfl) (fun C hl hC => ?_)
  subst hl
  show xw C (GX E) 3 (xq C (GX E) (some (.int r)) σ') σ 0 [(0, .ref (E.2.2.1 7)), (1, .int l1)] []
  unfold drawing_frees at hf
  refine xr_iconst (pc' := 1) (0 : Int32) hC dX1_frees_0 rfl (by decide) ?_
  refine xr_istore_n (pc' := 2) (lv' := [(0, .ref (E.2.2.1 7)), (1, .int l1), (2, .int (0 : Int32))]) hC dX1_frees_1 rfl rfl (by decide) [1, 2, 0] rfl ?_
  exact w_drawing_frees_b2 hC N _ _ _ hf

set_option maxRecDepth 100000 in
set_option maxHeartbeats 4000000 in
theorem w_drawing_fewestWays_b4 {C : xT} {E : xE} {N : Nat} {r : Int32} {σ' : xS} (hC : xc C (GX E) RX1 cX1_fewestWays 4 (some .int) (k2_rm 1 22)) : ∀ (n : Nat) (l1 l2 : Int32) (σ : xS), drawing_fewestWays_b4 N n l1 l2 σ = some (r, σ') → xw C (GX E) 4 (xq C (GX E) (some (.int r)) σ') σ 4 [(0, .ref (E.2.2.1 7)), (1, .int l1), (2, .int l2)] [] := by
  intro n
  induction n with
  | zero =>
    intro l1 l2 σ hf
    rw [drawing_fewestWays_b4] at hf
    cases hf
  | succ n ih =>
    intro l1 l2 σ hf
    rw [drawing_fewestWays_b4] at hf
    refine xr_iload_n (pc' := 5) 2 hC dX1_fewestWays_4 rfl rfl rfl ?_
    refine xr_bipush (pc' := 7) (64 : Int32) hC dX1_fewestWays_5 rfl (by decide) ?_
    refine xr_icmp_ge (pc' := 10) 41 hC dX1_fewestWays_7 rfl (by decide) hf (fun hf => ?_) (fun hf => ?_)
    · refine xr_iload_n (pc' := 42) 1 hC dX1_fewestWays_41 rfl rfl rfl ?_
      exact xr_ireturn hC dX1_fewestWays_42 hf
    refine xr_iload_n (pc' := 11) 2 hC dX1_fewestWays_10 rfl rfl rfl ?_
    refine xr_callS (pc' := 14) (rmy := k2_rm 0 0) [.int l2] hC dX1_fewestWays_11 rfl kX1_92 rfl rfl rfl ⟨Nat.le_of_ble_eq_true rfl, Nat.le_of_ble_eq_true rfl⟩ rfl (Nat.le_of_ble_eq_true rfl) hf (fun _ _ h => c_ji_bitCount (xc_ok hC) h) (fun v1 σ2 hf => ?_)
    refine xr_istore_n (pc' := 15) (lv' := [(0, .ref (E.2.2.1 7)), (1, .int l1), (2, .int l2), (3, .int v1)]) hC dX1_fewestWays_14 rfl rfl (by decide) [1, 2, 3, 0] rfl ?_
    refine xr_iload_n (pc' := 16) 1 hC dX1_fewestWays_15 rfl rfl rfl ?_
    refine xr_iconst (pc' := 17) (-1 : Int32) hC dX1_fewestWays_16 rfl (by decide) ?_
    refine xr_icmp_eq (pc' := 20) 25 hC dX1_fewestWays_17 rfl (by decide) hf (fun hf => ?_) (fun hf => ?_)
    · refine xr_aload_n (pc' := 26) 0 hC dX1_fewestWays_25 rfl rfl rfl ?_
      refine xr_iload_n (pc' := 27) 2 hC dX1_fewestWays_26 rfl rfl rfl ?_
      refine xr_callV (pc' := 30) (rmy := k2_rm 0 0) [.int l2] 7 hC dX1_fewestWays_27 rfl kX1_97 rfl rfl rfl rfl rfl ⟨Nat.le_of_ble_eq_true rfl, Nat.le_of_ble_eq_true rfl⟩ rfl (Nat.le_of_ble_eq_true rfl) hf (fun _ _ h => c_drawing_frees (xc_ok hC) h) (fun v3 σ4 hf => ?_)
      refine xr_if_eq (pc' := 33) 35 hC dX1_fewestWays_30 rfl (by decide) hf (fun hf => ?_) (fun hf => ?_)
      · refine xr_iinc (pc' := 38) hC dX1_fewestWays_35 rfl _ rfl hf 2 rfl (by decide) [1, 2, 0, 3] (fun l2_5 => [(0, .ref (E.2.2.1 7)), (1, .int l1), (2, .int l2_5), (3, .int v1)]) (fun _ => rfl) (fun l2_5 hf => ?_)
        refine xr_goto 4 hC dX1_fewestWays_38 (by decide) ?_
        refine x_lv [0, 1, 2] rfl ?_
        exact ih _ _ _ hf
      refine xr_iload_n (pc' := 34) 3 hC dX1_fewestWays_33 rfl rfl rfl ?_
      refine xr_istore_n (pc' := 35) (lv' := [(0, .ref (E.2.2.1 7)), (1, .int v1), (2, .int l2), (3, .int v1)]) hC dX1_fewestWays_34 rfl rfl (by decide) [1, 0, 2, 3] rfl ?_
      refine xr_iinc (pc' := 38) hC dX1_fewestWays_35 rfl _ rfl hf 2 rfl (by decide) [1, 2, 0, 3] (fun l2_6 => [(0, .ref (E.2.2.1 7)), (1, .int v1), (2, .int l2_6), (3, .int v1)]) (fun _ => rfl) (fun l2_6 hf => ?_)
      refine xr_goto 4 hC dX1_fewestWays_38 (by decide) ?_
      refine x_lv [0, 1, 2] rfl ?_
      exact ih _ _ _ hf
    refine xr_iload_n (pc' := 21) 3 hC dX1_fewestWays_20 rfl rfl rfl ?_
    refine xr_iload_n (pc' := 22) 1 hC dX1_fewestWays_21 rfl rfl rfl ?_
    refine xr_icmp_ge (pc' := 25) 35 hC dX1_fewestWays_22 rfl (by decide) hf (fun hf => ?_) (fun hf => ?_)
    · refine xr_iinc (pc' := 38) hC dX1_fewestWays_35 rfl _ rfl hf 2 rfl (by decide) [1, 2, 0, 3] (fun l2_7 => [(0, .ref (E.2.2.1 7)), (1, .int l1), (2, .int l2_7), (3, .int v1)]) (fun _ => rfl) (fun l2_7 hf => ?_)
      refine xr_goto 4 hC dX1_fewestWays_38 (by decide) ?_
      refine x_lv [0, 1, 2] rfl ?_
      exact ih _ _ _ hf
    refine xr_aload_n (pc' := 26) 0 hC dX1_fewestWays_25 rfl rfl rfl ?_
    refine xr_iload_n (pc' := 27) 2 hC dX1_fewestWays_26 rfl rfl rfl ?_
    refine xr_callV (pc' := 30) (rmy := k2_rm 0 0) [.int l2] 7 hC dX1_fewestWays_27 rfl kX1_97 rfl rfl rfl rfl rfl ⟨Nat.le_of_ble_eq_true rfl, Nat.le_of_ble_eq_true rfl⟩ rfl (Nat.le_of_ble_eq_true rfl) hf (fun _ _ h => c_drawing_frees (xc_ok hC) h) (fun v8 σ9 hf => ?_)
    refine xr_if_eq (pc' := 33) 35 hC dX1_fewestWays_30 rfl (by decide) hf (fun hf => ?_) (fun hf => ?_)
    · refine xr_iinc (pc' := 38) hC dX1_fewestWays_35 rfl _ rfl hf 2 rfl (by decide) [1, 2, 0, 3] (fun l2_10 => [(0, .ref (E.2.2.1 7)), (1, .int l1), (2, .int l2_10), (3, .int v1)]) (fun _ => rfl) (fun l2_10 hf => ?_)
      refine xr_goto 4 hC dX1_fewestWays_38 (by decide) ?_
      refine x_lv [0, 1, 2] rfl ?_
      exact ih _ _ _ hf
    refine xr_iload_n (pc' := 34) 3 hC dX1_fewestWays_33 rfl rfl rfl ?_
    refine xr_istore_n (pc' := 35) (lv' := [(0, .ref (E.2.2.1 7)), (1, .int v1), (2, .int l2), (3, .int v1)]) hC dX1_fewestWays_34 rfl rfl (by decide) [1, 0, 2, 3] rfl ?_
    refine xr_iinc (pc' := 38) hC dX1_fewestWays_35 rfl _ rfl hf 2 rfl (by decide) [1, 2, 0, 3] (fun l2_11 => [(0, .ref (E.2.2.1 7)), (1, .int v1), (2, .int l2_11), (3, .int v1)]) (fun _ => rfl) (fun l2_11 hf => ?_)
    refine xr_goto 4 hC dX1_fewestWays_38 (by decide) ?_
    refine x_lv [0, 1, 2] rfl ?_
    exact ih _ _ _ hf

set_option maxRecDepth 100000 in
set_option maxHeartbeats 4000000 in
theorem c_drawing_fewestWays {l : Launch} {E : xE} {N : Nat} (hG : xOk (GX E)) {σ : xS} {r : Int32} {σ' : xS} (hf : drawing_fewestWays N σ = some (r, σ')) : xMet l (GX E) yX1_fewestWays cX1_fewestWays 4 (some .int) (k2_rm 1 22) [.ref (E.2.2.1 7)] σ (some (.int r)) σ' := by
  refine x_met (own := RX1) (by decide +kernel) hG rfl (Nat.le_of_ble_eq_true rfl) (fun C hl hC => ?_)
  subst hl
  show xw C (GX E) 4 (xq C (GX E) (some (.int r)) σ') σ 0 [(0, .ref (E.2.2.1 7))] []
  unfold drawing_fewestWays at hf
  refine xr_iconst (pc' := 1) (-1 : Int32) hC dX1_fewestWays_0 rfl (by decide) ?_
  refine xr_istore_n (pc' := 2) (lv' := [(0, .ref (E.2.2.1 7)), (1, .int (-1 : Int32))]) hC dX1_fewestWays_1 rfl rfl (by decide) [1, 0] rfl ?_
  refine xr_iconst (pc' := 3) (1 : Int32) hC dX1_fewestWays_2 rfl (by decide) ?_
  refine xr_istore_n (pc' := 4) (lv' := [(0, .ref (E.2.2.1 7)), (1, .int (-1 : Int32)), (2, .int (1 : Int32))]) hC dX1_fewestWays_3 rfl rfl (by decide) [1, 2, 0] rfl ?_
  exact w_drawing_fewestWays_b4 hC N _ _ _ hf

set_option maxRecDepth 100000 in
set_option maxHeartbeats 4000000 in
theorem w_parting_openCells_b2 {C : xT} {E : xE} {N : Nat} {r : Int32} {σ' : xS} (hC : xc C (GX E) RX5 cX5_openCells 6 none (k2_rm 1 21)) : ∀ (n : Nat) (l1 l2 l3 : Int32) (σ : xS), parting_openCells_b2 N n l1 l2 l3 σ = some (r, σ') → xw C (GX E) 6 (xq C (GX E) none σ') σ 2 [(0, .ref (E.2.2.1 8)), (1, .int l1), (2, .int l2), (3, .int l3)] [] := by
  intro n
  induction n with
  | zero =>
    intro l1 l2 l3 σ hf
    rw [parting_openCells_b2] at hf
    cases hf
  | succ n ih =>
    intro l1 l2 l3 σ hf
    rw [parting_openCells_b2] at hf
    refine xr_iload_n (pc' := 3) 3 hC dX5_openCells_2 rfl rfl rfl ?_
    refine xr_aload_n (pc' := 4) 0 hC dX5_openCells_3 rfl rfl rfl ?_
    refine gX5_parting_mould (pc' := 7) hC dX5_openCells_4 rfl ?_
    refine xr_callV (pc' := 10) (rmy := k2_rm 0 0) [] 5 hC dX5_openCells_7 rfl kX5_28 rfl rfl rfl rfl rfl ⟨Nat.le_of_ble_eq_true rfl, Nat.le_of_ble_eq_true rfl⟩ rfl (Nat.le_of_ble_eq_true rfl) hf (fun _ _ h => c_mould_size (xc_ok hC) h) (fun v1 σ2 hf => ?_)
    refine xr_icmp_ge (pc' := 13) 66 hC dX5_openCells_10 rfl (by decide) hf (fun hf => ?_) (fun hf => ?_)
    · exact xr_return hC dX5_openCells_66 hf
    refine xr_aload_n (pc' := 14) 0 hC dX5_openCells_13 rfl rfl rfl ?_
    refine gX5_parting_mould (pc' := 17) hC dX5_openCells_14 rfl ?_
    refine xr_iload_n (pc' := 18) 3 hC dX5_openCells_17 rfl rfl rfl ?_
    refine xr_callV (pc' := 21) (rmy := k2_rm 0 0) [.int l3] 5 hC dX5_openCells_18 rfl kX5_34 rfl rfl rfl rfl rfl ⟨Nat.le_of_ble_eq_true rfl, Nat.le_of_ble_eq_true rfl⟩ rfl (Nat.le_of_ble_eq_true rfl) hf (fun _ _ h => c_mould_member (xc_ok hC) h) (fun v3 σ4 hf => ?_)
    refine xr_istore (pc' := 23) (lv' := [(0, .ref (E.2.2.1 8)), (1, .int l1), (2, .int l2), (3, .int l3), (4, .int v3)]) hC dX5_openCells_21 rfl (by decide) [1, 2, 3, 4, 0] rfl ?_
    refine xr_aload_n (pc' := 24) 0 hC dX5_openCells_23 rfl rfl rfl ?_
    refine gX5_parting_mould (pc' := 27) hC dX5_openCells_24 rfl ?_
    refine xr_iload (pc' := 29) 4 hC dX5_openCells_27 rfl rfl ?_
    refine xr_callV (pc' := 32) (rmy := k2_rm 0 0) [.int v3] 5 hC dX5_openCells_29 rfl kX5_44 rfl rfl rfl rfl rfl ⟨Nat.le_of_ble_eq_true rfl, Nat.le_of_ble_eq_true rfl⟩ rfl (Nat.le_of_ble_eq_true rfl) hf (fun _ _ h => c_mould_freeWays (xc_ok hC) h) (fun v5 σ6 hf => ?_)
    refine xr_istore (pc' := 34) (lv' := [(0, .ref (E.2.2.1 8)), (1, .int l1), (2, .int l2), (3, .int l3), (4, .int v3), (5, .int v5)]) hC dX5_openCells_32 rfl (by decide) [1, 2, 3, 4, 5, 0] rfl ?_
    refine xr_iload (pc' := 36) 5 hC dX5_openCells_34 rfl rfl ?_
    refine xr_iload_n (pc' := 37) 1 hC dX5_openCells_36 rfl rfl rfl ?_
    refine xr_ishr (pc' := 38) hC dX5_openCells_37 rfl ?_
    refine xr_iconst (pc' := 39) (1 : Int32) hC dX5_openCells_38 rfl (by decide) ?_
    refine xr_iand (pc' := 40) hC dX5_openCells_39 rfl ?_
    refine xr_iconst (pc' := 41) (1 : Int32) hC dX5_openCells_40 rfl (by decide) ?_
    refine xr_icmp_ne (pc' := 44) 60 hC dX5_openCells_41 rfl (by decide) hf (fun hf => ?_) (fun hf => ?_)
    · refine xr_iinc (pc' := 63) hC dX5_openCells_60 rfl _ rfl hf 3 rfl (by decide) [1, 2, 3, 0, 4, 5] (fun l3_7 => [(0, .ref (E.2.2.1 8)), (1, .int l1), (2, .int l2), (3, .int l3_7), (4, .int v3), (5, .int v5)]) (fun _ => rfl) (fun l3_7 hf => ?_)
      refine xr_goto 2 hC dX5_openCells_63 (by decide) ?_
      refine x_lv [0, 1, 2, 3] rfl ?_
      exact ih _ _ _ _ hf
    refine xr_iload (pc' := 46) 5 hC dX5_openCells_44 rfl rfl ?_
    refine xr_iload_n (pc' := 47) 2 hC dX5_openCells_46 rfl rfl rfl ?_
    refine xr_iand (pc' := 48) hC dX5_openCells_47 rfl ?_
    refine xr_if_ne (pc' := 51) 60 hC dX5_openCells_48 rfl (by decide) hf (fun hf => ?_) (fun hf => ?_)
    · refine xr_iinc (pc' := 63) hC dX5_openCells_60 rfl _ rfl hf 3 rfl (by decide) [1, 2, 3, 0, 4, 5] (fun l3_8 => [(0, .ref (E.2.2.1 8)), (1, .int l1), (2, .int l2), (3, .int l3_8), (4, .int v3), (5, .int v5)]) (fun _ => rfl) (fun l3_8 hf => ?_)
      refine xr_goto 2 hC dX5_openCells_63 (by decide) ?_
      refine x_lv [0, 1, 2, 3] rfl ?_
      exact ih _ _ _ _ hf
    refine xr_aload_n (pc' := 52) 0 hC dX5_openCells_51 rfl rfl rfl ?_
    refine gX5_parting_numberOf (pc' := 55) hC dX5_openCells_52 rfl ?_
    refine xr_iload (pc' := 57) 4 hC dX5_openCells_55 rfl rfl ?_
    refine xr_bipush (pc' := 59) (-2 : Int32) hC dX5_openCells_57 rfl (by decide) ?_
    refine sX_16 (pc' := 60) hC dX5_openCells_59 rfl hf (fun σ9 hf => ?_)
    refine xr_iinc (pc' := 63) hC dX5_openCells_60 rfl _ rfl hf 3 rfl (by decide) [1, 2, 3, 0, 4, 5] (fun l3_10 => [(0, .ref (E.2.2.1 8)), (1, .int l1), (2, .int l2), (3, .int l3_10), (4, .int v3), (5, .int v5)]) (fun _ => rfl) (fun l3_10 hf => ?_)
    refine xr_goto 2 hC dX5_openCells_63 (by decide) ?_
    refine x_lv [0, 1, 2, 3] rfl ?_
    exact ih _ _ _ _ hf

set_option maxRecDepth 100000 in
set_option maxHeartbeats 4000000 in
theorem c_parting_openCells {l : Launch} {E : xE} {N : Nat} (hG : xOk (GX E)) {l1 l2 : Int32} {σ : xS} {r : Int32} {σ' : xS} (hf : parting_openCells N l1 l2 σ = some (r, σ')) : xMet l (GX E) yX5_openCells cX5_openCells 6 none (k2_rm 1 21) [.ref (E.2.2.1 8), .int l1, .int l2] σ none σ' := by
  refine x_met (own := RX5) (by decide +kernel) hG rfl (Nat.le_of_ble_eq_true rfl) (fun C hl hC => ?_)
  subst hl
  show xw C (GX E) 6 (xq C (GX E) none σ') σ 0 [(0, .ref (E.2.2.1 8)), (1, .int l1), (2, .int l2)] []
  unfold parting_openCells at hf
  refine xr_iconst (pc' := 1) (0 : Int32) hC dX5_openCells_0 rfl (by decide) ?_
  refine xr_istore_n (pc' := 2) (lv' := [(0, .ref (E.2.2.1 8)), (1, .int l1), (2, .int l2), (3, .int (0 : Int32))]) hC dX5_openCells_1 rfl rfl (by decide) [1, 2, 3, 0] rfl ?_
  exact w_parting_openCells_b2 hC N _ _ _ _ hf

set_option maxRecDepth 100000 in
set_option maxHeartbeats 4000000 in
theorem c_parting_numberAt {l : Launch} {E : xE} {N : Nat} (hG : xOk (GX E)) {l1 : Int32} {σ : xS} {r : Int32} {σ' : xS} (hf : parting_numberAt N l1 σ = some (r, σ')) : xMet l (GX E) yX5_numberAt cX5_numberAt 2 (some .int) (k2_rm 0 0) [.ref (E.2.2.1 8), .int l1] σ (some (.int r)) σ' := by
  refine x_met (own := RX5) (by decide +kernel) hG rfl (Nat.le_of_ble_eq_true rfl) (fun C hl hC => ?_)
  subst hl
  show xw C (GX E) 2 (xq C (GX E) (some (.int r)) σ') σ 0 [(0, .ref (E.2.2.1 8)), (1, .int l1)] []
  unfold parting_numberAt at hf
  refine xr_iload_n (pc' := 1) 1 hC dX5_numberAt_0 rfl rfl rfl ?_
  refine xr_if_lt (pc' := 4) 20 hC dX5_numberAt_1 rfl (by decide) hf (fun hf => ?_) (fun hf => ?_)
  · refine xr_iconst (pc' := 21) (-1 : Int32) hC dX5_numberAt_20 rfl (by decide) ?_
    exact xr_ireturn hC dX5_numberAt_21 hf
  refine xr_iload_n (pc' := 5) 1 hC dX5_numberAt_4 rfl rfl rfl ?_
  refine xr_sipush (pc' := 8) (1000 : Int32) hC dX5_numberAt_5 rfl (by decide) ?_
  refine xr_icmp_ge (pc' := 11) 20 hC dX5_numberAt_8 rfl (by decide) hf (fun hf => ?_) (fun hf => ?_)
  · refine xr_iconst (pc' := 21) (-1 : Int32) hC dX5_numberAt_20 rfl (by decide) ?_
    exact xr_ireturn hC dX5_numberAt_21 hf
  refine xr_aload_n (pc' := 12) 0 hC dX5_numberAt_11 rfl rfl rfl ?_
  refine gX5_parting_numberOf (pc' := 15) hC dX5_numberAt_12 rfl ?_
  refine xr_iload_n (pc' := 16) 1 hC dX5_numberAt_15 rfl rfl rfl ?_
  refine lX_16 (pc' := 17) hC dX5_numberAt_16 rfl hf (fun v1 hf => ?_)
  refine xr_goto 21 hC dX5_numberAt_17 (by decide) ?_
  exact xr_ireturn hC dX5_numberAt_21 hf

set_option maxRecDepth 100000 in
set_option maxHeartbeats 4000000 in
theorem c_parting_reach {l : Launch} {E : xE} {N : Nat} (hG : xOk (GX E)) {l1 l2 l3 : Int32} {σ : xS} {r : Int32} {σ' : xS} (hf : parting_reach N l1 l2 l3 σ = some (r, σ')) : xMet l (GX E) yX5_reach cX5_reach 4 (some .int) (k2_rm 0 0) [.ref (E.2.2.1 8), .int l1, .int l2, .int l3] σ (some (.int r)) σ' := by
  refine x_met (own := RX5) (by decide +kernel) hG rfl (Nat.le_of_ble_eq_true rfl) (fun C hl hC => ?_)
  subst hl
  show xw C (GX E) 4 (xq C (GX E) (some (.int r)) σ') σ 0 [(0, .ref (E.2.2.1 8)), (1, .int l1), (2, .int l2), (3, .int l3)] []
  unfold parting_reach at hf
  refine xr_iload_n (pc' := 1) 1 hC dX5_reach_0 rfl rfl rfl ?_
  refine xr_if_lt (pc' := 4) 29 hC dX5_reach_1 rfl (by decide) hf (fun hf => ?_) (fun hf => ?_)
  · refine xr_iload_n (pc' := 30) 3 hC dX5_reach_29 rfl rfl rfl ?_
    exact xr_ireturn hC dX5_reach_30 hf
  refine xr_iload_n (pc' := 5) 1 hC dX5_reach_4 rfl rfl rfl ?_
  refine xr_sipush (pc' := 8) (1000 : Int32) hC dX5_reach_5 rfl (by decide) ?_
  refine xr_icmp_ge (pc' := 11) 29 hC dX5_reach_8 rfl (by decide) hf (fun hf => ?_) (fun hf => ?_)
  · refine xr_iload_n (pc' := 30) 3 hC dX5_reach_29 rfl rfl rfl ?_
    exact xr_ireturn hC dX5_reach_30 hf
  refine xr_aload_n (pc' := 12) 0 hC dX5_reach_11 rfl rfl rfl ?_
  refine gX5_parting_numberOf (pc' := 15) hC dX5_reach_12 rfl ?_
  refine xr_iload_n (pc' := 16) 1 hC dX5_reach_15 rfl rfl rfl ?_
  refine lX_16 (pc' := 17) hC dX5_reach_16 rfl hf (fun v1 hf => ?_)
  refine xr_bipush (pc' := 19) (-2 : Int32) hC dX5_reach_17 rfl (by decide) ?_
  refine xr_icmp_ne (pc' := 22) 29 hC dX5_reach_19 rfl (by decide) hf (fun hf => ?_) (fun hf => ?_)
  · refine xr_iload_n (pc' := 30) 3 hC dX5_reach_29 rfl rfl rfl ?_
    exact xr_ireturn hC dX5_reach_30 hf
  refine xr_iload_n (pc' := 23) 3 hC dX5_reach_22 rfl rfl rfl ?_
  refine xr_sipush (pc' := 26) (1000 : Int32) hC dX5_reach_23 rfl (by decide) ?_
  refine xr_icmp_lt (pc' := 29) 31 hC dX5_reach_26 rfl (by decide) hf (fun hf => ?_) (fun hf => ?_)
  · refine xr_aload_n (pc' := 32) 0 hC dX5_reach_31 rfl rfl rfl ?_
    refine gX5_parting_numberOf (pc' := 35) hC dX5_reach_32 rfl ?_
    refine xr_iload_n (pc' := 36) 1 hC dX5_reach_35 rfl rfl rfl ?_
    refine xr_iload_n (pc' := 37) 2 hC dX5_reach_36 rfl rfl rfl ?_
    refine sX_16 (pc' := 38) hC dX5_reach_37 rfl hf (fun σ2 hf => ?_)
    refine xr_aload_n (pc' := 39) 0 hC dX5_reach_38 rfl rfl rfl ?_
    refine gX5_parting_waiting (pc' := 42) hC dX5_reach_39 rfl ?_
    refine xr_iload_n (pc' := 43) 3 hC dX5_reach_42 rfl rfl rfl ?_
    refine xr_iload_n (pc' := 44) 1 hC dX5_reach_43 rfl rfl rfl ?_
    refine sX_17 (pc' := 45) hC dX5_reach_44 rfl hf (fun σ3 hf => ?_)
    refine xr_iload_n (pc' := 46) 3 hC dX5_reach_45 rfl rfl rfl ?_
    refine xr_iconst (pc' := 47) (1 : Int32) hC dX5_reach_46 rfl (by decide) ?_
    refine xr_iadd (pc' := 48) hC dX5_reach_47 rfl ?_
    exact xr_ireturn hC dX5_reach_48 hf
  refine xr_iload_n (pc' := 30) 3 hC dX5_reach_29 rfl rfl rfl ?_
  exact xr_ireturn hC dX5_reach_30 hf

set_option maxRecDepth 100000 in
set_option maxHeartbeats 4000000 in
theorem w_parting_spread_b28 {C : xT} {E : xE} {N : Nat} {r : Int32} {σ' : xS} (hC : xc C (GX E) RX5 cX5_spread 6 none (k2_rm 1 23)) (K11 : Int32 → Int32 → Int32 → xS → Option (Int32 × xS)) (hK11 : ∀ (l2 l3 l4 : Int32) (σ : xS), K11 l2 l3 l4 σ = some (r, σ') → xw C (GX E) 6 (xq C (GX E) none σ') σ 11 [(0, .ref (E.2.2.1 8)), (2, .int l2), (3, .int l3), (4, .int l4)] []) : ∀ (n : Nat) (l2 l3 l4 l5 : Int32) (σ : xS), parting_spread_b28 N K11 n l2 l3 l4 l5 σ = some (r, σ') → xw C (GX E) 6 (xq C (GX E) none σ') σ 28 [(0, .ref (E.2.2.1 8)), (2, .int l2), (3, .int l3), (4, .int l4), (5, .int l5)] [] := by
  intro n
  induction n with
  | zero =>
    intro l2 l3 l4 l5 σ hf
    rw [parting_spread_b28] at hf
    cases hf
  | succ n ih =>
    intro l2 l3 l4 l5 σ hf
    rw [parting_spread_b28] at hf
    refine xr_iload (pc' := 30) 4 hC dX5_spread_28 rfl rfl ?_
    refine xr_bipush (pc' := 32) (6 : Int32) hC dX5_spread_30 rfl (by decide) ?_
    refine xr_icmp_ge (pc' := 35) 64 hC dX5_spread_32 rfl (by decide) hf (fun hf => ?_) (fun hf => ?_)
    · refine xr_iinc (pc' := 67) hC dX5_spread_64 rfl _ rfl hf 3 rfl (by decide) [1, 2, 3, 0, 4] (fun l4_3 => [(0, .ref (E.2.2.1 8)), (2, .int l2), (3, .int l3), (4, .int l4_3), (5, .int l5)]) (fun _ => rfl) (fun l4_3 hf => ?_)
      refine xr_goto 11 hC dX5_spread_67 (by decide) ?_
      refine x_lv [0, 1, 2, 3] rfl ?_
      exact hK11 _ _ _ _ hf
    refine xr_aload_n (pc' := 36) 0 hC dX5_spread_35 rfl rfl rfl ?_
    refine xr_aload_n (pc' := 37) 0 hC dX5_spread_36 rfl rfl rfl ?_
    refine gX5_parting_mould (pc' := 40) hC dX5_spread_37 rfl ?_
    refine xr_aload_n (pc' := 41) 0 hC dX5_spread_40 rfl rfl rfl ?_
    refine gX5_parting_waiting (pc' := 44) hC dX5_spread_41 rfl ?_
    refine xr_iload (pc' := 46) 3 hC dX5_spread_44 rfl rfl ?_
    refine lX_17 (pc' := 47) hC dX5_spread_46 rfl hf (fun v4 hf => ?_)
    refine xr_iload (pc' := 49) 4 hC dX5_spread_47 rfl rfl ?_
    refine xr_callV (pc' := 52) (rmy := k2_rm 0 0) [.int v4, .int l5] 5 hC dX5_spread_49 rfl kX5_51 rfl rfl rfl rfl rfl ⟨Nat.le_of_ble_eq_true rfl, Nat.le_of_ble_eq_true rfl⟩ rfl (Nat.le_of_ble_eq_true rfl) hf (fun _ _ h => c_mould_beside (xc_ok hC) h) (fun v5 σ6 hf => ?_)
    refine xr_iload_n (pc' := 53) 1 hC dX5_spread_52 rfl rfl rfl ?_
    refine xr_iload_n (pc' := 54) 2 hC dX5_spread_53 rfl rfl rfl ?_
    refine xr_callV (pc' := 57) (rmy := k2_rm 0 0) [.int v5, .int l2, .int l3] 8 hC dX5_spread_54 rfl kX5_47 rfl rfl rfl rfl rfl ⟨Nat.le_of_ble_eq_true rfl, Nat.le_of_ble_eq_true rfl⟩ rfl (Nat.le_of_ble_eq_true rfl) hf (fun _ _ h => c_parting_reach (xc_ok hC) h) (fun v7 σ8 hf => ?_)
    refine xr_istore_n (pc' := 58) (lv' := [(0, .ref (E.2.2.1 8)), (2, .int l2), (3, .int v7), (4, .int l4), (5, .int l5)]) hC dX5_spread_57 rfl rfl (by decide) [1, 2, 0, 3, 4] rfl ?_
    refine xr_iinc (pc' := 61) hC dX5_spread_58 rfl _ rfl hf 4 rfl (by decide) [1, 2, 3, 4, 0] (fun l5_9 => [(0, .ref (E.2.2.1 8)), (2, .int l2), (3, .int v7), (4, .int l4), (5, .int l5_9)]) (fun _ => rfl) (fun l5_9 hf => ?_)
    refine xr_goto 28 hC dX5_spread_61 (by decide) ?_
    exact ih _ _ _ _ _ hf

set_option maxRecDepth 100000 in
set_option maxHeartbeats 4000000 in
theorem w_parting_spread_b11 {C : xT} {E : xE} {N : Nat} {r : Int32} {σ' : xS} (hC : xc C (GX E) RX5 cX5_spread 6 none (k2_rm 1 23)) : ∀ (n : Nat) (l2 l3 l4 : Int32) (σ : xS), parting_spread_b11 N n l2 l3 l4 σ = some (r, σ') → xw C (GX E) 6 (xq C (GX E) none σ') σ 11 [(0, .ref (E.2.2.1 8)), (2, .int l2), (3, .int l3), (4, .int l4)] [] := by
  intro n
  induction n with
  | zero =>
    intro l2 l3 l4 σ hf
    rw [parting_spread_b11] at hf
    cases hf
  | succ n ih =>
    intro l2 l3 l4 σ hf
    rw [parting_spread_b11] at hf
    refine xr_iload (pc' := 13) 3 hC dX5_spread_11 rfl rfl ?_
    refine xr_iload_n (pc' := 14) 2 hC dX5_spread_13 rfl rfl rfl ?_
    refine xr_icmp_ge (pc' := 17) 70 hC dX5_spread_14 rfl (by decide) hf (fun hf => ?_) (fun hf => ?_)
    · exact xr_return hC dX5_spread_70 hf
    refine xr_iload (pc' := 19) 3 hC dX5_spread_17 rfl rfl ?_
    refine xr_sipush (pc' := 22) (1000 : Int32) hC dX5_spread_19 rfl (by decide) ?_
    refine xr_icmp_ge (pc' := 25) 70 hC dX5_spread_22 rfl (by decide) hf (fun hf => ?_) (fun hf => ?_)
    · exact xr_return hC dX5_spread_70 hf
    refine xr_iconst (pc' := 26) (0 : Int32) hC dX5_spread_25 rfl (by decide) ?_
    refine xr_istore (pc' := 28) (lv' := [(0, .ref (E.2.2.1 8)), (2, .int l2), (3, .int l3), (4, .int l4), (5, .int (0 : Int32))]) hC dX5_spread_26 rfl (by decide) [1, 2, 3, 4, 0] rfl ?_
    exact w_parting_spread_b28 hC (parting_spread_b11 N n) ih N _ _ _ _ _ hf

set_option maxRecDepth 100000 in
set_option maxHeartbeats 4000000 in
theorem c_parting_spread {l : Launch} {E : xE} {N : Nat} (hG : xOk (GX E)) {l1 l2 : Int32} {σ : xS} {r : Int32} {σ' : xS} (hf : parting_spread N l1 l2 σ = some (r, σ')) : xMet l (GX E) yX5_spread cX5_spread 6 none (k2_rm 1 23) [.ref (E.2.2.1 8), .int l1, .int l2] σ none σ' := by
  refine x_met (own := RX5) (by decide +kernel) hG rfl (Nat.le_of_ble_eq_true rfl) (fun C hl hC => ?_)
  subst hl
  show xw C (GX E) 6 (xq C (GX E) none σ') σ 0 [(0, .ref (E.2.2.1 8)), (1, .int l1), (2, .int l2)] []
  unfold parting_spread at hf
  refine xr_aload_n (pc' := 1) 0 hC dX5_spread_0 rfl rfl rfl ?_
  refine xr_iload_n (pc' := 2) 1 hC dX5_spread_1 rfl rfl rfl ?_
  refine xr_iload_n (pc' := 3) 2 hC dX5_spread_2 rfl rfl rfl ?_
  refine xr_iconst (pc' := 4) (0 : Int32) hC dX5_spread_3 rfl (by decide) ?_
  refine xr_callV (pc' := 7) (rmy := k2_rm 0 0) [.int l1, .int l2, .int (0 : Int32)] 8 hC dX5_spread_4 rfl kX5_47 rfl rfl rfl rfl rfl ⟨Nat.le_of_ble_eq_true rfl, Nat.le_of_ble_eq_true rfl⟩ rfl (Nat.le_of_ble_eq_true rfl) hf (fun _ _ h => c_parting_reach (xc_ok hC) h) (fun v1 σ2 hf => ?_)
  refine xr_istore_n (pc' := 8) (lv' := [(0, .ref (E.2.2.1 8)), (1, .int l1), (2, .int l2), (3, .int v1)]) hC dX5_spread_7 rfl rfl (by decide) [1, 2, 3, 0] rfl ?_
  refine xr_iconst (pc' := 9) (0 : Int32) hC dX5_spread_8 rfl (by decide) ?_
  refine xr_istore (pc' := 11) (lv' := [(0, .ref (E.2.2.1 8)), (1, .int l1), (2, .int l2), (3, .int v1), (4, .int (0 : Int32))]) hC dX5_spread_9 rfl (by decide) [1, 2, 3, 4, 0] rfl ?_
  refine x_lv [0, 2, 3, 4] rfl ?_
  exact w_parting_spread_b11 hC N _ _ _ _ hf

set_option maxRecDepth 100000 in
set_option maxHeartbeats 4000000 in
theorem w_parting_part_b12 {C : xT} {E : xE} {N : Nat} {r : Int32} {σ' : xS} (hC : xc C (GX E) RX5 cX5_part 7 (some .int) (k2_rm 2 48)) : ∀ (n : Nat) (l3 l4 l5 : Int32) (σ : xS), parting_part_b12 N n l3 l4 l5 σ = some (r, σ') → xw C (GX E) 7 (xq C (GX E) (some (.int r)) σ') σ 12 [(0, .ref (E.2.2.1 8)), (3, .int l3), (4, .int l4), (5, .int l5)] [] := by
  intro n
  induction n with
  | zero =>
    intro l3 l4 l5 σ hf
    rw [parting_part_b12] at hf
    cases hf
  | succ n ih =>
    intro l3 l4 l5 σ hf
    rw [parting_part_b12] at hf
    refine xr_iload (pc' := 14) 3 hC dX5_part_12 rfl rfl ?_
    refine xr_aload_n (pc' := 15) 0 hC dX5_part_14 rfl rfl rfl ?_
    refine gX5_parting_mould (pc' := 18) hC dX5_part_15 rfl ?_
    refine xr_callV (pc' := 21) (rmy := k2_rm 0 0) [] 5 hC dX5_part_18 rfl kX5_28 rfl rfl rfl rfl rfl ⟨Nat.le_of_ble_eq_true rfl, Nat.le_of_ble_eq_true rfl⟩ rfl (Nat.le_of_ble_eq_true rfl) hf (fun _ _ h => c_mould_size (xc_ok hC) h) (fun v3 σ4 hf => ?_)
    refine xr_icmp_ge (pc' := 24) 63 hC dX5_part_21 rfl (by decide) hf (fun hf => ?_) (fun hf => ?_)
    · refine xr_iload (pc' := 65) 2 hC dX5_part_63 rfl rfl ?_
      refine xr_iload_n (pc' := 66) 1 hC dX5_part_65 rfl rfl rfl ?_
      refine xr_isub (pc' := 67) hC dX5_part_66 rfl ?_
      exact xr_ireturn hC dX5_part_67 hf
    refine xr_aload_n (pc' := 25) 0 hC dX5_part_24 rfl rfl rfl ?_
    refine gX5_parting_mould (pc' := 28) hC dX5_part_25 rfl ?_
    refine xr_iload (pc' := 30) 3 hC dX5_part_28 rfl rfl ?_
    refine xr_callV (pc' := 33) (rmy := k2_rm 0 0) [.int l5] 5 hC dX5_part_30 rfl kX5_34 rfl rfl rfl rfl rfl ⟨Nat.le_of_ble_eq_true rfl, Nat.le_of_ble_eq_true rfl⟩ rfl (Nat.le_of_ble_eq_true rfl) hf (fun _ _ h => c_mould_member (xc_ok hC) h) (fun v5 σ6 hf => ?_)
    refine xr_istore (pc' := 35) (lv' := [(0, .ref (E.2.2.1 8)), (3, .int l3), (4, .int l4), (5, .int l5), (6, .int v5)]) hC dX5_part_33 rfl (by decide) [1, 2, 3, 4, 0] rfl ?_
    refine xr_aload_n (pc' := 36) 0 hC dX5_part_35 rfl rfl rfl ?_
    refine xr_iload (pc' := 38) 4 hC dX5_part_36 rfl rfl ?_
    refine xr_callV (pc' := 41) (rmy := k2_rm 0 0) [.int v5] 8 hC dX5_part_38 rfl kX5_38 rfl rfl rfl rfl rfl ⟨Nat.le_of_ble_eq_true rfl, Nat.le_of_ble_eq_true rfl⟩ rfl (Nat.le_of_ble_eq_true rfl) hf (fun _ _ h => c_parting_numberAt (xc_ok hC) h) (fun v7 σ8 hf => ?_)
    refine xr_bipush (pc' := 43) (-2 : Int32) hC dX5_part_41 rfl (by decide) ?_
    refine xr_icmp_ne (pc' := 46) 57 hC dX5_part_43 rfl (by decide) hf (fun hf => ?_) (fun hf => ?_)
    · refine xr_iinc (pc' := 60) hC dX5_part_57 rfl _ rfl hf 3 rfl (by decide) [1, 2, 3, 0, 4] (fun l5_9 => [(0, .ref (E.2.2.1 8)), (3, .int l3), (4, .int l4), (5, .int l5_9), (6, .int v5)]) (fun _ => rfl) (fun l5_9 hf => ?_)
      refine xr_goto 12 hC dX5_part_60 (by decide) ?_
      refine x_lv [0, 1, 2, 3] rfl ?_
      exact ih _ _ _ _ hf
    refine xr_aload_n (pc' := 47) 0 hC dX5_part_46 rfl rfl rfl ?_
    refine xr_iload (pc' := 49) 4 hC dX5_part_47 rfl rfl ?_
    refine xr_iload (pc' := 51) 2 hC dX5_part_49 rfl rfl ?_
    refine xr_callVv (pc' := 54) (rmy := k2_rm 1 23) [.int v5, .int l4] 8 hC dX5_part_51 rfl kX5_41 rfl rfl rfl rfl rfl ⟨Nat.le_of_ble_eq_true rfl, Nat.le_of_ble_eq_true rfl⟩ rfl (Nat.le_of_ble_eq_true rfl) hf (fun _ _ h => c_parting_spread (xc_ok hC) h) (fun v10 σ11 hf => ?_)
    refine xr_iinc (pc' := 57) hC dX5_part_54 rfl _ rfl hf 2 rfl (by decide) [1, 2, 0, 3, 4] (fun l4_12 => [(0, .ref (E.2.2.1 8)), (3, .int l3), (4, .int l4_12), (5, .int l5), (6, .int v5)]) (fun _ => rfl) (fun l4_12 hf => ?_)
    refine xr_iinc (pc' := 60) hC dX5_part_57 rfl _ rfl hf 3 rfl (by decide) [1, 2, 3, 0, 4] (fun l5_13 => [(0, .ref (E.2.2.1 8)), (3, .int l3), (4, .int l4_12), (5, .int l5_13), (6, .int v5)]) (fun _ => rfl) (fun l5_13 hf => ?_)
    refine xr_goto 12 hC dX5_part_60 (by decide) ?_
    refine x_lv [0, 1, 2, 3] rfl ?_
    exact ih _ _ _ _ hf

set_option maxRecDepth 100000 in
set_option maxHeartbeats 4000000 in
theorem c_parting_part {l : Launch} {E : xE} {N : Nat} (hG : xOk (GX E)) {l1 l2 l3 : Int32} {σ : xS} {r : Int32} {σ' : xS} (hf : parting_part N l1 l2 l3 σ = some (r, σ')) : xMet l (GX E) yX5_part cX5_part 7 (some .int) (k2_rm 2 48) [.ref (E.2.2.1 8), .int l1, .int l2, .int l3] σ (some (.int r)) σ' := by
  refine x_met (own := RX5) (by decide +kernel) hG rfl (Nat.le_of_ble_eq_true rfl) (fun C hl hC => ?_)
  subst hl
  show xw C (GX E) 7 (xq C (GX E) (some (.int r)) σ') σ 0 [(0, .ref (E.2.2.1 8)), (1, .int l1), (2, .int l2), (3, .int l3)] []
  unfold parting_part at hf
  refine xr_aload_n (pc' := 1) 0 hC dX5_part_0 rfl rfl rfl ?_
  refine xr_iload_n (pc' := 2) 1 hC dX5_part_1 rfl rfl rfl ?_
  refine xr_iload_n (pc' := 3) 2 hC dX5_part_2 rfl rfl rfl ?_
  refine xr_callVv (pc' := 6) (rmy := k2_rm 1 21) [.int l1, .int l2] 8 hC dX5_part_3 rfl kX5_24 rfl rfl rfl rfl rfl ⟨Nat.le_of_ble_eq_true rfl, Nat.le_of_ble_eq_true rfl⟩ rfl (Nat.le_of_ble_eq_true rfl) hf (fun _ _ h => c_parting_openCells (xc_ok hC) h) (fun v1 σ2 hf => ?_)
  refine xr_iload_n (pc' := 7) 3 hC dX5_part_6 rfl rfl rfl ?_
  refine xr_istore (pc' := 9) (lv' := [(0, .ref (E.2.2.1 8)), (1, .int l1), (2, .int l2), (3, .int l3), (4, .int l3)]) hC dX5_part_7 rfl (by decide) [1, 2, 3, 4, 0] rfl ?_
  refine xr_iconst (pc' := 10) (0 : Int32) hC dX5_part_9 rfl (by decide) ?_
  refine xr_istore (pc' := 12) (lv' := [(0, .ref (E.2.2.1 8)), (1, .int l1), (2, .int l2), (3, .int l3), (4, .int l3), (5, .int (0 : Int32))]) hC dX5_part_10 rfl (by decide) [1, 2, 3, 4, 5, 0] rfl ?_
  refine x_lv [0, 3, 4, 5] rfl ?_
  exact w_parting_part_b12 hC N _ _ _ _ hf

set_option maxRecDepth 100000 in
set_option maxHeartbeats 4000000 in
theorem w_drawing_weighWays_b2 {C : xT} {E : xE} {N : Nat} {r : Int32} {σ' : xS} (hC : xc C (GX E) RX1 cX1_weighWays 5 none (k2_rm 3 74)) : ∀ (n : Nat) (l1 l2 : Int32) (σ : xS), drawing_weighWays_b2 N n l1 l2 σ = some (r, σ') → xw C (GX E) 5 (xq C (GX E) none σ') σ 2 [(0, .ref (E.2.2.1 7)), (1, .int l1), (2, .int l2)] [] := by
  intro n
  induction n with
  | zero =>
    intro l1 l2 σ hf
    rw [drawing_weighWays_b2] at hf
    cases hf
  | succ n ih =>
    intro l1 l2 σ hf
    rw [drawing_weighWays_b2] at hf
    refine xr_iload_n (pc' := 3) 2 hC dX1_weighWays_2 rfl rfl rfl ?_
    refine xr_bipush (pc' := 5) (6 : Int32) hC dX1_weighWays_3 rfl (by decide) ?_
    refine xr_icmp_ge (pc' := 8) 87 hC dX1_weighWays_5 rfl (by decide) hf (fun hf => ?_) (fun hf => ?_)
    · exact xr_return hC dX1_weighWays_87 hf
    refine xr_iload_n (pc' := 9) 1 hC dX1_weighWays_8 rfl rfl rfl ?_
    refine xr_iconst (pc' := 10) (1 : Int32) hC dX1_weighWays_9 rfl (by decide) ?_
    refine xr_iload_n (pc' := 11) 2 hC dX1_weighWays_10 rfl rfl rfl ?_
    refine xr_ishl (pc' := 12) hC dX1_weighWays_11 rfl ?_
    refine xr_ior (pc' := 13) hC dX1_weighWays_12 rfl ?_
    refine xr_istoreb_n (pc' := 14) hC dX1_weighWays_13 rfl hf rfl (by decide) [1, 2, 3, 0] (fun l3_1 => [(0, .ref (E.2.2.1 7)), (1, .int l1), (2, .int l2), (3, .int l3_1)]) (fun _ => rfl) (fun l3_1 hf => ?_)
    refine xr_iload_n (pc' := 15) 3 hC dX1_weighWays_14 rfl rfl rfl ?_
    refine xr_iload_n (pc' := 16) 1 hC dX1_weighWays_15 rfl rfl rfl ?_
    refine xr_icmp_eq (pc' := 19) 81 hC dX1_weighWays_16 rfl (by decide) hf (fun hf => ?_) (fun hf => ?_)
    · refine xr_iinc (pc' := 84) hC dX1_weighWays_81 rfl _ rfl hf 2 rfl (by decide) [1, 2, 0, 3] (fun l2_2 => [(0, .ref (E.2.2.1 7)), (1, .int l1), (2, .int l2_2), (3, .int l3_1)]) (fun _ => rfl) (fun l2_2 hf => ?_)
      refine xr_goto 2 hC dX1_weighWays_84 (by decide) ?_
      refine x_lv [0, 1, 2] rfl ?_
      exact ih _ _ _ hf
    refine xr_aload_n (pc' := 20) 0 hC dX1_weighWays_19 rfl rfl rfl ?_
    refine gX1_drawing_piecesToCome (pc' := 23) hC dX1_weighWays_20 rfl ?_
    refine xr_iload_n (pc' := 24) 3 hC dX1_weighWays_23 rfl rfl rfl ?_
    refine lX_13 (pc' := 25) hC dX1_weighWays_24 rfl hf (fun v3 hf => ?_)
    refine xr_iconst (pc' := 26) (1 : Int32) hC dX1_weighWays_25 rfl (by decide) ?_
    refine xr_iadd (pc' := 27) hC dX1_weighWays_26 rfl ?_
    refine xr_aload_n (pc' := 28) 0 hC dX1_weighWays_27 rfl rfl rfl ?_
    refine gX1_drawing_piecesToCome (pc' := 31) hC dX1_weighWays_28 rfl ?_
    refine xr_iload_n (pc' := 32) 1 hC dX1_weighWays_31 rfl rfl rfl ?_
    refine lX_13 (pc' := 33) hC dX1_weighWays_32 rfl hf (fun v4 hf => ?_)
    refine xr_icmp_ge (pc' := 36) 81 hC dX1_weighWays_33 rfl (by decide) hf (fun hf => ?_) (fun hf => ?_)
    · refine xr_iinc (pc' := 84) hC dX1_weighWays_81 rfl _ rfl hf 2 rfl (by decide) [1, 2, 0, 3] (fun l2_5 => [(0, .ref (E.2.2.1 7)), (1, .int l1), (2, .int l2_5), (3, .int l3_1)]) (fun _ => rfl) (fun l2_5 hf => ?_)
      refine xr_goto 2 hC dX1_weighWays_84 (by decide) ?_
      refine x_lv [0, 1, 2] rfl ?_
      exact ih _ _ _ hf
    refine xr_aload_n (pc' := 37) 0 hC dX1_weighWays_36 rfl rfl rfl ?_
    refine gX1_drawing_parting (pc' := 40) hC dX1_weighWays_37 rfl ?_
    refine xr_iload_n (pc' := 41) 2 hC dX1_weighWays_40 rfl rfl rfl ?_
    refine xr_iload_n (pc' := 42) 1 hC dX1_weighWays_41 rfl rfl rfl ?_
    refine xr_iconst (pc' := 43) (0 : Int32) hC dX1_weighWays_42 rfl (by decide) ?_
    refine xr_callV (pc' := 46) (rmy := k2_rm 2 48) [.int l2, .int l1, .int (0 : Int32)] 8 hC dX1_weighWays_43 rfl kX1_105 rfl rfl rfl rfl rfl ⟨Nat.le_of_ble_eq_true rfl, Nat.le_of_ble_eq_true rfl⟩ rfl (Nat.le_of_ble_eq_true rfl) hf (fun _ _ h => c_parting_part (xc_ok hC) h) (fun v6 σ7 hf => ?_)
    refine xr_aload_n (pc' := 47) 0 hC dX1_weighWays_46 rfl rfl rfl ?_
    refine gX1_drawing_piecesToCome (pc' := 50) hC dX1_weighWays_47 rfl ?_
    refine xr_iload_n (pc' := 51) 3 hC dX1_weighWays_50 rfl rfl rfl ?_
    refine lX_13 (pc' := 52) hC dX1_weighWays_51 rfl hf (fun v8 hf => ?_)
    refine xr_iadd (pc' := 53) hC dX1_weighWays_52 rfl ?_
    refine xr_istoreb (pc' := 55) hC dX1_weighWays_53 rfl hf (by decide) [1, 2, 3, 4, 0] (fun l4_9 => [(0, .ref (E.2.2.1 7)), (1, .int l1), (2, .int l2), (3, .int l3_1), (4, .int l4_9)]) (fun _ => rfl) (fun l4_9 hf => ?_)
    refine xr_iload (pc' := 57) 4 hC dX1_weighWays_55 rfl rfl ?_
    refine xr_aload_n (pc' := 58) 0 hC dX1_weighWays_57 rfl rfl rfl ?_
    refine gX1_drawing_piecesToCome (pc' := 61) hC dX1_weighWays_58 rfl ?_
    refine xr_iload_n (pc' := 62) 1 hC dX1_weighWays_61 rfl rfl rfl ?_
    refine lX_13 (pc' := 63) hC dX1_weighWays_62 rfl hf (fun v10 hf => ?_)
    refine xr_icmp_ge (pc' := 66) 81 hC dX1_weighWays_63 rfl (by decide) hf (fun hf => ?_) (fun hf => ?_)
    · refine xr_iinc (pc' := 84) hC dX1_weighWays_81 rfl _ rfl hf 2 rfl (by decide) [1, 2, 0, 3, 4] (fun l2_11 => [(0, .ref (E.2.2.1 7)), (1, .int l1), (2, .int l2_11), (3, .int l3_1), (4, .int l4_9)]) (fun _ => rfl) (fun l2_11 hf => ?_)
      refine xr_goto 2 hC dX1_weighWays_84 (by decide) ?_
      refine x_lv [0, 1, 2] rfl ?_
      exact ih _ _ _ hf
    refine xr_aload_n (pc' := 67) 0 hC dX1_weighWays_66 rfl rfl rfl ?_
    refine gX1_drawing_piecesToCome (pc' := 70) hC dX1_weighWays_67 rfl ?_
    refine xr_iload_n (pc' := 71) 1 hC dX1_weighWays_70 rfl rfl rfl ?_
    refine xr_iload (pc' := 73) 4 hC dX1_weighWays_71 rfl rfl ?_
    refine sX_13 (pc' := 74) hC dX1_weighWays_73 rfl hf (fun σ12 hf => ?_)
    refine xr_aload_n (pc' := 75) 0 hC dX1_weighWays_74 rfl rfl rfl ?_
    refine gX1_drawing_wayToCome (pc' := 78) hC dX1_weighWays_75 rfl ?_
    refine xr_iload_n (pc' := 79) 1 hC dX1_weighWays_78 rfl rfl rfl ?_
    refine xr_iload_n (pc' := 80) 2 hC dX1_weighWays_79 rfl rfl rfl ?_
    refine sX_14 (pc' := 81) hC dX1_weighWays_80 rfl hf (fun σ13 hf => ?_)
    refine xr_iinc (pc' := 84) hC dX1_weighWays_81 rfl _ rfl hf 2 rfl (by decide) [1, 2, 0, 3, 4] (fun l2_14 => [(0, .ref (E.2.2.1 7)), (1, .int l1), (2, .int l2_14), (3, .int l3_1), (4, .int l4_9)]) (fun _ => rfl) (fun l2_14 hf => ?_)
    refine xr_goto 2 hC dX1_weighWays_84 (by decide) ?_
    refine x_lv [0, 1, 2] rfl ?_
    exact ih _ _ _ hf

set_option maxRecDepth 100000 in
set_option maxHeartbeats 4000000 in
theorem c_drawing_weighWays {l : Launch} {E : xE} {N : Nat} (hG : xOk (GX E)) {l1 : Int32} {σ : xS} {r : Int32} {σ' : xS} (hf : drawing_weighWays N l1 σ = some (r, σ')) : xMet l (GX E) yX1_weighWays cX1_weighWays 5 none (k2_rm 3 74) [.ref (E.2.2.1 7), .int l1] σ none σ' := by
  refine x_met (own := RX1) (by decide +kernel) hG rfl (Nat.le_of_ble_eq_true rfl) (fun C hl hC => ?_)
  subst hl
  show xw C (GX E) 5 (xq C (GX E) none σ') σ 0 [(0, .ref (E.2.2.1 7)), (1, .int l1)] []
  unfold drawing_weighWays at hf
  refine xr_iconst (pc' := 1) (0 : Int32) hC dX1_weighWays_0 rfl (by decide) ?_
  refine xr_istore_n (pc' := 2) (lv' := [(0, .ref (E.2.2.1 7)), (1, .int l1), (2, .int (0 : Int32))]) hC dX1_weighWays_1 rfl rfl (by decide) [1, 2, 0] rfl ?_
  exact w_drawing_weighWays_b2 hC N _ _ _ hf

