set_option maxRecDepth 100000 in
set_option maxHeartbeats 4000000 in
theorem w_orders_findRow_b26 {C : xT} {E : xE} {N : Nat} {r : Int32} {σ' : xS} (hC : xc C (GX E) RX4 cX4_findRow 4 (some .int) (k2_rm 3 60)) : ∀ (n : Nat) (l1 l2 l3 : Int32) (σ : xS), orders_findRow_b26 N n l1 l2 l3 σ = some (r, σ') → xw C (GX E) 4 (xq C (GX E) (some (.int r)) σ') σ 26 [(0, .ref (E.2.2.1 9)), (1, .int l1), (2, .int l2), (3, .int l3)] [] := by
  intro n
  induction n with
  | zero =>
    intro l1 l2 l3 σ hf
    rw [orders_findRow_b26] at hf
    cases hf
  | succ n ih =>
    intro l1 l2 l3 σ hf
    rw [orders_findRow_b26] at hf
    refine xr_iload_n (pc' := 27) 3 hC dX4_findRow_26 rfl rfl rfl ?_
    refine xr_iload_n (pc' := 28) 1 hC dX4_findRow_27 rfl rfl rfl ?_
    refine xr_icmp_gt (pc' := 31) 56 hC dX4_findRow_28 rfl (by decide) hf (fun hf => ?_) (fun hf => ?_)
    · refine xr_aload_n (pc' := 57) 0 hC dX4_findRow_56 rfl rfl rfl ?_
      refine xr_iload_n (pc' := 58) 1 hC dX4_findRow_57 rfl rfl rfl ?_
      refine xr_callVv (pc' := 61) (rmy := k2_rm 2 35) [.int l1] 9 hC dX4_findRow_58 rfl kX4_52 rfl rfl rfl rfl rfl ⟨Nat.le_of_ble_eq_true rfl, Nat.le_of_ble_eq_true rfl⟩ rfl (Nat.le_of_ble_eq_true rfl) hf (fun _ _ h => c_orders_keepRow (xc_ok hC) h) (fun v6 σ7 hf => ?_)
      refine xr_aload_n (pc' := 62) 0 hC dX4_findRow_61 rfl rfl rfl ?_
      refine gX4_orders_leastSum (pc' := 65) hC dX4_findRow_62 rfl ?_
      refine xr_iload_n (pc' := 66) 1 hC dX4_findRow_65 rfl rfl rfl ?_
      refine lX_21 (pc' := 67) hC dX4_findRow_66 rfl hf (fun v8 hf => ?_)
      exact xr_ireturn hC dX4_findRow_67 hf
    refine xr_iload_n (pc' := 32) 3 hC dX4_findRow_31 rfl rfl rfl ?_
    refine xr_iload_n (pc' := 33) 1 hC dX4_findRow_32 rfl rfl rfl ?_
    refine xr_iand (pc' := 34) hC dX4_findRow_33 rfl ?_
    refine xr_iload_n (pc' := 35) 3 hC dX4_findRow_34 rfl rfl rfl ?_
    refine xr_icmp_ne (pc' := 38) 50 hC dX4_findRow_35 rfl (by decide) hf (fun hf => ?_) (fun hf => ?_)
    · refine xr_iinc (pc' := 53) hC dX4_findRow_50 rfl _ rfl hf 3 rfl (by decide) [1, 2, 3, 0] (fun l3_9 => [(0, .ref (E.2.2.1 9)), (1, .int l1), (2, .int l2), (3, .int l3_9)]) (fun _ => rfl) (fun l3_9 hf => ?_)
      refine xr_goto 26 hC dX4_findRow_53 (by decide) ?_
      exact ih _ _ _ _ hf
    refine xr_aload_n (pc' := 39) 0 hC dX4_findRow_38 rfl rfl rfl ?_
    refine xr_iload_n (pc' := 40) 3 hC dX4_findRow_39 rfl rfl rfl ?_
    refine xr_iload_n (pc' := 41) 2 hC dX4_findRow_40 rfl rfl rfl ?_
    refine xr_aload_n (pc' := 42) 0 hC dX4_findRow_41 rfl rfl rfl ?_
    refine xr_iload_n (pc' := 43) 3 hC dX4_findRow_42 rfl rfl rfl ?_
    refine xr_callV (pc' := 46) (rmy := k2_rm 0 0) [.int l3] 9 hC dX4_findRow_43 rfl kX4_44 rfl rfl rfl rfl rfl ⟨Nat.le_of_ble_eq_true rfl, Nat.le_of_ble_eq_true rfl⟩ rfl (Nat.le_of_ble_eq_true rfl) hf (fun _ _ h => c_orders_poursOf (xc_ok hC) h) (fun v10 σ11 hf => ?_)
    refine xr_isub (pc' := 47) hC dX4_findRow_46 rfl ?_
    refine xr_callVv (pc' := 50) (rmy := k2_rm 2 35) [.int l3, .int (l2 - v10)] 9 hC dX4_findRow_47 rfl kX4_48 rfl rfl rfl rfl rfl ⟨Nat.le_of_ble_eq_true rfl, Nat.le_of_ble_eq_true rfl⟩ rfl (Nat.le_of_ble_eq_true rfl) hf (fun _ _ h => c_orders_weighSet (xc_ok hC) h) (fun v12 σ13 hf => ?_)
    refine xr_iinc (pc' := 53) hC dX4_findRow_50 rfl _ rfl hf 3 rfl (by decide) [1, 2, 3, 0] (fun l3_14 => [(0, .ref (E.2.2.1 9)), (1, .int l1), (2, .int l2), (3, .int l3_14)]) (fun _ => rfl) (fun l3_14 hf => ?_)
    refine xr_goto 26 hC dX4_findRow_53 (by decide) ?_
    exact ih _ _ _ _ hf

set_option maxRecDepth 100000 in
set_option maxHeartbeats 4000000 in
theorem c_orders_findRow {l : Launch} {E : xE} {N : Nat} (hG : xOk (GX E)) {σ : xS} {r : Int32} {σ' : xS} (hf : orders_findRow N σ = some (r, σ')) : xMet l (GX E) yX4_findRow cX4_findRow 4 (some .int) (k2_rm 3 60) [.ref (E.2.2.1 9)] σ (some (.int r)) σ' := by
  refine x_met (own := RX4) (by decide +kernel) hG rfl (Nat.le_of_ble_eq_true rfl) (fun C hl hC => ?_)
  subst hl
  show xw C (GX E) 4 (xq C (GX E) (some (.int r)) σ') σ 0 [(0, .ref (E.2.2.1 9))] []
  unfold orders_findRow at hf
  refine xr_aload_n (pc' := 1) 0 hC dX4_findRow_0 rfl rfl rfl ?_
  refine xr_callV (pc' := 4) (rmy := k2_rm 0 0) [] 9 hC dX4_findRow_1 rfl kX4_40 rfl rfl rfl rfl rfl ⟨Nat.le_of_ble_eq_true rfl, Nat.le_of_ble_eq_true rfl⟩ rfl (Nat.le_of_ble_eq_true rfl) hf (fun _ _ h => c_orders_allOrders (xc_ok hC) h) (fun v1 σ2 hf => ?_)
  refine xr_istore_n (pc' := 5) (lv' := [(0, .ref (E.2.2.1 9)), (1, .int v1)]) hC dX4_findRow_4 rfl rfl (by decide) [1, 0] rfl ?_
  refine xr_iload_n (pc' := 6) 1 hC dX4_findRow_5 rfl rfl rfl ?_
  refine xr_if_ne (pc' := 9) 11 hC dX4_findRow_6 rfl (by decide) hf (fun hf => ?_) (fun hf => ?_)
  · refine xr_aload_n (pc' := 12) 0 hC dX4_findRow_11 rfl rfl rfl ?_
    refine xr_iload_n (pc' := 13) 1 hC dX4_findRow_12 rfl rfl rfl ?_
    refine xr_callV (pc' := 16) (rmy := k2_rm 0 0) [.int v1] 9 hC dX4_findRow_13 rfl kX4_44 rfl rfl rfl rfl rfl ⟨Nat.le_of_ble_eq_true rfl, Nat.le_of_ble_eq_true rfl⟩ rfl (Nat.le_of_ble_eq_true rfl) hf (fun _ _ h => c_orders_poursOf (xc_ok hC) h) (fun v3 σ4 hf => ?_)
    refine xr_istore_n (pc' := 17) (lv' := [(0, .ref (E.2.2.1 9)), (1, .int v1), (2, .int v3)]) hC dX4_findRow_16 rfl rfl (by decide) [1, 2, 0] rfl ?_
    refine xr_aload_n (pc' := 18) 0 hC dX4_findRow_17 rfl rfl rfl ?_
    refine gX4_orders_leastSum (pc' := 21) hC dX4_findRow_18 rfl ?_
    refine xr_iconst (pc' := 22) (0 : Int32) hC dX4_findRow_21 rfl (by decide) ?_
    refine xr_iconst (pc' := 23) (0 : Int32) hC dX4_findRow_22 rfl (by decide) ?_
    refine sX_21 (pc' := 24) hC dX4_findRow_23 rfl hf (fun σ5 hf => ?_)
    refine xr_iconst (pc' := 25) (1 : Int32) hC dX4_findRow_24 rfl (by decide) ?_
    refine xr_istore_n (pc' := 26) (lv' := [(0, .ref (E.2.2.1 9)), (1, .int v1), (2, .int v3), (3, .int (1 : Int32))]) hC dX4_findRow_25 rfl rfl (by decide) [1, 2, 3, 0] rfl ?_
    exact w_orders_findRow_b26 hC N _ _ _ _ hf
  refine xr_iconst (pc' := 10) (-1 : Int32) hC dX4_findRow_9 rfl (by decide) ?_
  exact xr_ireturn hC dX4_findRow_10 hf

set_option maxRecDepth 100000 in
set_option maxHeartbeats 4000000 in
theorem c_cw_row {l : Launch} {E : xE} {N : Nat} (hG : xOk (GX E)) {σ : xS} {r : Int32} {σ' : xS} (hf : cw_row N σ = some (r, σ')) : xMet l (GX E) yX9_row cX9_row 1 (some .int) (k2_rm 4 83) [.ref (E.2.2.1 0)] σ (some (.int r)) σ' := by
  refine x_met (own := RX9) (by decide +kernel) hG rfl (Nat.le_of_ble_eq_true rfl) (fun C hl hC => ?_)
  subst hl
  show xw C (GX E) 1 (xq C (GX E) (some (.int r)) σ') σ 0 [(0, .ref (E.2.2.1 0))] []
  unfold cw_row at hf
  refine xr_aload_n (pc' := 1) 0 hC dX9_row_0 rfl rfl rfl ?_
  refine gX9_cw_orders (pc' := 4) hC dX9_row_1 rfl ?_
  refine xr_callV (pc' := 7) (rmy := k2_rm 3 60) [] 9 hC dX9_row_4 rfl kX9_187 rfl rfl rfl rfl rfl ⟨Nat.le_of_ble_eq_true rfl, Nat.le_of_ble_eq_true rfl⟩ rfl (Nat.le_of_ble_eq_true rfl) hf (fun _ _ h => c_orders_findRow (xc_ok hC) h) (fun v1 σ2 hf => ?_)
  exact xr_ireturn hC dX9_row_7 hf

set_option maxRecDepth 100000 in
set_option maxHeartbeats 4000000 in
theorem c_orders_rowNumber {l : Launch} {E : xE} {N : Nat} (hG : xOk (GX E)) {l1 : Int32} {σ : xS} {r : Int32} {σ' : xS} (hf : orders_rowNumber N l1 σ = some (r, σ')) : xMet l (GX E) yX4_rowNumber cX4_rowNumber 2 (some .int) (k2_rm 0 0) [.ref (E.2.2.1 9), .int l1] σ (some (.int r)) σ' := by
  refine x_met (own := RX4) (by decide +kernel) hG rfl (Nat.le_of_ble_eq_true rfl) (fun C hl hC => ?_)
  subst hl
  show xw C (GX E) 2 (xq C (GX E) (some (.int r)) σ') σ 0 [(0, .ref (E.2.2.1 9)), (1, .int l1)] []
  unfold orders_rowNumber at hf
  refine xr_iload_n (pc' := 1) 1 hC dX4_rowNumber_0 rfl rfl rfl ?_
  refine xr_if_lt (pc' := 4) 21 hC dX4_rowNumber_1 rfl (by decide) hf (fun hf => ?_) (fun hf => ?_)
  · refine xr_iconst (pc' := 22) (-1 : Int32) hC dX4_rowNumber_21 rfl (by decide) ?_
    exact xr_ireturn hC dX4_rowNumber_22 hf
  refine xr_iload_n (pc' := 5) 1 hC dX4_rowNumber_4 rfl rfl rfl ?_
  refine xr_aload_n (pc' := 6) 0 hC dX4_rowNumber_5 rfl rfl rfl ?_
  refine gX4_orders_rowLength (pc' := 9) hC dX4_rowNumber_6 rfl ?_
  refine xr_icmp_ge (pc' := 12) 21 hC dX4_rowNumber_9 rfl (by decide) hf (fun hf => ?_) (fun hf => ?_)
  · refine xr_iconst (pc' := 22) (-1 : Int32) hC dX4_rowNumber_21 rfl (by decide) ?_
    exact xr_ireturn hC dX4_rowNumber_22 hf
  refine xr_aload_n (pc' := 13) 0 hC dX4_rowNumber_12 rfl rfl rfl ?_
  refine gX4_orders_rowOrders (pc' := 16) hC dX4_rowNumber_13 rfl ?_
  refine xr_iload_n (pc' := 17) 1 hC dX4_rowNumber_16 rfl rfl rfl ?_
  refine lX_23 (pc' := 18) hC dX4_rowNumber_17 rfl hf (fun v1 hf => ?_)
  refine xr_goto 22 hC dX4_rowNumber_18 (by decide) ?_
  exact xr_ireturn hC dX4_rowNumber_22 hf

set_option maxRecDepth 100000 in
set_option maxHeartbeats 4000000 in
theorem c_cw_next {l : Launch} {E : xE} {N : Nat} (hG : xOk (GX E)) {l1 : Int32} {σ : xS} {r : Int32} {σ' : xS} (hf : cw_next N l1 σ = some (r, σ')) : xMet l (GX E) yX9_next cX9_next 2 (some .int) (k2_rm 1 21) [.ref (E.2.2.1 0), .int l1] σ (some (.int r)) σ' := by
  refine x_met (own := RX9) (by decide +kernel) hG rfl (Nat.le_of_ble_eq_true rfl) (fun C hl hC => ?_)
  subst hl
  show xw C (GX E) 2 (xq C (GX E) (some (.int r)) σ') σ 0 [(0, .ref (E.2.2.1 0)), (1, .int l1)] []
  unfold cw_next at hf
  refine xr_aload_n (pc' := 1) 0 hC dX9_next_0 rfl rfl rfl ?_
  refine gX9_cw_orders (pc' := 4) hC dX9_next_1 rfl ?_
  refine xr_iload_n (pc' := 5) 1 hC dX9_next_4 rfl rfl rfl ?_
  refine xr_callV (pc' := 8) (rmy := k2_rm 0 0) [.int l1] 9 hC dX9_next_5 rfl kX9_190 rfl rfl rfl rfl rfl ⟨Nat.le_of_ble_eq_true rfl, Nat.le_of_ble_eq_true rfl⟩ rfl (Nat.le_of_ble_eq_true rfl) hf (fun _ _ h => c_orders_rowNumber (xc_ok hC) h) (fun v1 σ2 hf => ?_)
  exact xr_ireturn hC dX9_next_8 hf

set_option maxRecDepth 100000 in
set_option maxHeartbeats 4000000 in
theorem c_orders_rowLateness {l : Launch} {E : xE} {N : Nat} (hG : xOk (GX E)) {l1 : Int32} {σ : xS} {r : Int32} {σ' : xS} (hf : orders_rowLateness N l1 σ = some (r, σ')) : xMet l (GX E) yX4_rowLateness cX4_rowLateness 2 (some .int) (k2_rm 0 0) [.ref (E.2.2.1 9), .int l1] σ (some (.int r)) σ' := by
  refine x_met (own := RX4) (by decide +kernel) hG rfl (Nat.le_of_ble_eq_true rfl) (fun C hl hC => ?_)
  subst hl
  show xw C (GX E) 2 (xq C (GX E) (some (.int r)) σ') σ 0 [(0, .ref (E.2.2.1 9)), (1, .int l1)] []
  unfold orders_rowLateness at hf
  refine xr_iload_n (pc' := 1) 1 hC dX4_rowLateness_0 rfl rfl rfl ?_
  refine xr_if_lt (pc' := 4) 21 hC dX4_rowLateness_1 rfl (by decide) hf (fun hf => ?_) (fun hf => ?_)
  · refine xr_iconst (pc' := 22) (-1 : Int32) hC dX4_rowLateness_21 rfl (by decide) ?_
    exact xr_ireturn hC dX4_rowLateness_22 hf
  refine xr_iload_n (pc' := 5) 1 hC dX4_rowLateness_4 rfl rfl rfl ?_
  refine xr_aload_n (pc' := 6) 0 hC dX4_rowLateness_5 rfl rfl rfl ?_
  refine gX4_orders_rowLength (pc' := 9) hC dX4_rowLateness_6 rfl ?_
  refine xr_icmp_ge (pc' := 12) 21 hC dX4_rowLateness_9 rfl (by decide) hf (fun hf => ?_) (fun hf => ?_)
  · refine xr_iconst (pc' := 22) (-1 : Int32) hC dX4_rowLateness_21 rfl (by decide) ?_
    exact xr_ireturn hC dX4_rowLateness_22 hf
  refine xr_aload_n (pc' := 13) 0 hC dX4_rowLateness_12 rfl rfl rfl ?_
  refine gX4_orders_rowLate (pc' := 16) hC dX4_rowLateness_13 rfl ?_
  refine xr_iload_n (pc' := 17) 1 hC dX4_rowLateness_16 rfl rfl rfl ?_
  refine lX_24 (pc' := 18) hC dX4_rowLateness_17 rfl hf (fun v1 hf => ?_)
  refine xr_goto 22 hC dX4_rowLateness_18 (by decide) ?_
  exact xr_ireturn hC dX4_rowLateness_22 hf

set_option maxRecDepth 100000 in
set_option maxHeartbeats 4000000 in
theorem c_cw_late {l : Launch} {E : xE} {N : Nat} (hG : xOk (GX E)) {l1 : Int32} {σ : xS} {r : Int32} {σ' : xS} (hf : cw_late N l1 σ = some (r, σ')) : xMet l (GX E) yX9_late cX9_late 2 (some .int) (k2_rm 1 21) [.ref (E.2.2.1 0), .int l1] σ (some (.int r)) σ' := by
  refine x_met (own := RX9) (by decide +kernel) hG rfl (Nat.le_of_ble_eq_true rfl) (fun C hl hC => ?_)
  subst hl
  show xw C (GX E) 2 (xq C (GX E) (some (.int r)) σ') σ 0 [(0, .ref (E.2.2.1 0)), (1, .int l1)] []
  unfold cw_late at hf
  refine xr_aload_n (pc' := 1) 0 hC dX9_late_0 rfl rfl rfl ?_
  refine gX9_cw_orders (pc' := 4) hC dX9_late_1 rfl ?_
  refine xr_iload_n (pc' := 5) 1 hC dX9_late_4 rfl rfl rfl ?_
  refine xr_callV (pc' := 8) (rmy := k2_rm 0 0) [.int l1] 9 hC dX9_late_5 rfl kX9_193 rfl rfl rfl rfl rfl ⟨Nat.le_of_ble_eq_true rfl, Nat.le_of_ble_eq_true rfl⟩ rfl (Nat.le_of_ble_eq_true rfl) hf (fun _ _ h => c_orders_rowLateness (xc_ok hC) h) (fun v1 σ2 hf => ?_)
  exact xr_ireturn hC dX9_late_8 hf

set_option maxRecDepth 100000 in
set_option maxHeartbeats 4000000 in
theorem w_finds_set_b39 {C : xT} {E : xE} {N : Nat} {r : Int32} {σ' : xS} (hC : xc C (GX E) RX2 cX2_set 4 (some .boolean) (k2_rm 0 0)) : ∀ (l1 l2 l3 : Int32) (σ : xS), finds_set_b39 N l1 l2 l3 σ = some (r, σ') → xw C (GX E) 4 (xq C (GX E) (some (.int r)) σ') σ 39 [(0, .ref (E.2.2.1 10)), (1, .int l1), (2, .int l2), (3, .int l3)] [] := by
  intro l1 l2 l3 σ hf
  unfold finds_set_b39 at hf
  refine xr_aload_n (pc' := 40) 0 hC dX2_set_39 rfl rfl rfl ?_
  refine gX2_finds_sizes (pc' := 43) hC dX2_set_40 rfl ?_
  refine xr_iload_n (pc' := 44) 1 hC dX2_set_43 rfl rfl rfl ?_
  refine xr_iload_n (pc' := 45) 2 hC dX2_set_44 rfl rfl rfl ?_
  refine sX_25 (pc' := 46) hC dX2_set_45 rfl hf (fun σ1 hf => ?_)
  refine xr_aload_n (pc' := 47) 0 hC dX2_set_46 rfl rfl rfl ?_
  refine gX2_finds_details (pc' := 50) hC dX2_set_47 rfl ?_
  refine xr_iload_n (pc' := 51) 1 hC dX2_set_50 rfl rfl rfl ?_
  refine xr_iload_n (pc' := 52) 2 hC dX2_set_51 rfl rfl rfl ?_
  refine xr_if_le (pc' := 55) 59 hC dX2_set_52 rfl (by decide) hf (fun hf => ?_) (fun hf => ?_)
  · refine xr_iconst (pc' := 60) (0 : Int32) hC dX2_set_59 rfl (by decide) ?_
    refine sX_26 (pc' := 61) hC dX2_set_60 rfl hf (fun σ2 hf => ?_)
    refine xr_iconst (pc' := 62) (1 : Int32) hC dX2_set_61 rfl (by decide) ?_
    exact xr_zreturn hC dX2_set_62 rfl hf
  refine xr_iload_n (pc' := 56) 3 hC dX2_set_55 rfl rfl rfl ?_
  refine xr_goto 60 hC dX2_set_56 (by decide) ?_
  refine sX_26 (pc' := 61) hC dX2_set_60 rfl hf (fun σ3 hf => ?_)
  refine xr_iconst (pc' := 62) (1 : Int32) hC dX2_set_61 rfl (by decide) ?_
  exact xr_zreturn hC dX2_set_62 rfl hf

set_option maxRecDepth 100000 in
set_option maxHeartbeats 4000000 in
theorem c_finds_set {l : Launch} {E : xE} {N : Nat} (hG : xOk (GX E)) {l1 l2 l3 : Int32} {σ : xS} {r : Int32} {σ' : xS} (hf : finds_set N l1 l2 l3 σ = some (r, σ')) : xMet l (GX E) yX2_set cX2_set 4 (some .boolean) (k2_rm 0 0) [.ref (E.2.2.1 10), .int l1, .int l2, .int l3] σ (some (.int r)) σ' := by
  refine x_met (own := RX2) (by decide +kernel) hG rfl (Nat.le_of_ble_eq_true rfl) (fun C hl hC => ?_)
  subst hl
  show xw C (GX E) 4 (xq C (GX E) (some (.int r)) σ') σ 0 [(0, .ref (E.2.2.1 10)), (1, .int l1), (2, .int l2), (3, .int l3)] []
  unfold finds_set at hf
  refine xr_iload_n (pc' := 1) 1 hC dX2_set_0 rfl rfl rfl ?_
  refine xr_if_lt (pc' := 4) 20 hC dX2_set_1 rfl (by decide) hf (fun hf => ?_) (fun hf => ?_)
  · refine xr_iconst (pc' := 21) (0 : Int32) hC dX2_set_20 rfl (by decide) ?_
    exact xr_zreturn hC dX2_set_21 rfl hf
  refine xr_iload_n (pc' := 5) 1 hC dX2_set_4 rfl rfl rfl ?_
  refine xr_bipush (pc' := 7) (12 : Int32) hC dX2_set_5 rfl (by decide) ?_
  refine xr_icmp_ge (pc' := 10) 20 hC dX2_set_7 rfl (by decide) hf (fun hf => ?_) (fun hf => ?_)
  · refine xr_iconst (pc' := 21) (0 : Int32) hC dX2_set_20 rfl (by decide) ?_
    exact xr_zreturn hC dX2_set_21 rfl hf
  refine xr_iload_n (pc' := 11) 2 hC dX2_set_10 rfl rfl rfl ?_
  refine xr_if_lt (pc' := 14) 20 hC dX2_set_11 rfl (by decide) hf (fun hf => ?_) (fun hf => ?_)
  · refine xr_iconst (pc' := 21) (0 : Int32) hC dX2_set_20 rfl (by decide) ?_
    exact xr_zreturn hC dX2_set_21 rfl hf
  refine xr_iload_n (pc' := 15) 2 hC dX2_set_14 rfl rfl rfl ?_
  refine xr_ldc (pc' := 17) (100000 : Int32) hC dX2_set_15 rfl qX2_28 ?_
  refine xr_icmp_le (pc' := 20) 22 hC dX2_set_17 rfl (by decide) hf (fun hf => ?_) (fun hf => ?_)
  · refine xr_iload_n (pc' := 23) 2 hC dX2_set_22 rfl rfl rfl ?_
    refine xr_if_le (pc' := 26) 39 hC dX2_set_23 rfl (by decide) hf (fun hf => ?_) (fun hf => ?_)
    · exact w_finds_set_b39 hC _ _ _ _ hf
    refine xr_iload_n (pc' := 27) 3 hC dX2_set_26 rfl rfl rfl ?_
    refine xr_if_lt (pc' := 30) 37 hC dX2_set_27 rfl (by decide) hf (fun hf => ?_) (fun hf => ?_)
    · refine xr_iconst (pc' := 38) (0 : Int32) hC dX2_set_37 rfl (by decide) ?_
      exact xr_zreturn hC dX2_set_38 rfl hf
    refine xr_iload_n (pc' := 31) 3 hC dX2_set_30 rfl rfl rfl ?_
    refine xr_sipush (pc' := 34) (1000 : Int32) hC dX2_set_31 rfl (by decide) ?_
    refine xr_icmp_le (pc' := 37) 39 hC dX2_set_34 rfl (by decide) hf (fun hf => ?_) (fun hf => ?_)
    · exact w_finds_set_b39 hC _ _ _ _ hf
    refine xr_iconst (pc' := 38) (0 : Int32) hC dX2_set_37 rfl (by decide) ?_
    exact xr_zreturn hC dX2_set_38 rfl hf
  refine xr_iconst (pc' := 21) (0 : Int32) hC dX2_set_20 rfl (by decide) ?_
  exact xr_zreturn hC dX2_set_21 rfl hf

set_option maxRecDepth 100000 in
set_option maxHeartbeats 4000000 in
theorem c_cw_cast {l : Launch} {E : xE} {N : Nat} (hG : xOk (GX E)) {l1 l2 l3 : Int32} {σ : xS} {r : Int32} {σ' : xS} (hf : cw_cast N l1 l2 l3 σ = some (r, σ')) : xMet l (GX E) yX9_cast cX9_cast 4 (some .boolean) (k2_rm 1 23) [.ref (E.2.2.1 0), .int l1, .int l2, .int l3] σ (some (.int r)) σ' := by
  refine x_met (own := RX9) (by decide +kernel) hG rfl (Nat.le_of_ble_eq_true rfl) (fun C hl hC => ?_)
  subst hl
  show xw C (GX E) 4 (xq C (GX E) (some (.int r)) σ') σ 0 [(0, .ref (E.2.2.1 0)), (1, .int l1), (2, .int l2), (3, .int l3)] []
  unfold cw_cast at hf
  refine xr_aload_n (pc' := 1) 0 hC dX9_cast_0 rfl rfl rfl ?_
  refine gX9_cw_finds (pc' := 4) hC dX9_cast_1 rfl ?_
  refine xr_iload_n (pc' := 5) 1 hC dX9_cast_4 rfl rfl rfl ?_
  refine xr_iload_n (pc' := 6) 2 hC dX9_cast_5 rfl rfl rfl ?_
  refine xr_iload_n (pc' := 7) 3 hC dX9_cast_6 rfl rfl rfl ?_
  refine xr_callV (pc' := 10) (rmy := k2_rm 0 0) [.int l1, .int l2, .int l3] 10 hC dX9_cast_7 rfl kX9_196 rfl rfl rfl rfl rfl ⟨Nat.le_of_ble_eq_true rfl, Nat.le_of_ble_eq_true rfl⟩ rfl (Nat.le_of_ble_eq_true rfl) hf (fun _ _ h => c_finds_set (xc_ok hC) h) (fun v1 σ2 hf => ?_)
  exact xr_breturn hC dX9_cast_10 hf

set_option maxRecDepth 100000 in
set_option maxHeartbeats 4000000 in
theorem c_finds_setCopying {l : Launch} {E : xE} {N : Nat} (hG : xOk (GX E)) {l1 l2 l3 : Int32} {σ : xS} {r : Int32} {σ' : xS} (hf : finds_setCopying N l1 l2 l3 σ = some (r, σ')) : xMet l (GX E) yX2_setCopying cX2_setCopying 4 (some .boolean) (k2_rm 0 0) [.ref (E.2.2.1 10), .int l1, .int l2, .int l3] σ (some (.int r)) σ' := by
  refine x_met (own := RX2) (by decide +kernel) hG rfl (Nat.le_of_ble_eq_true rfl) (fun C hl hC => ?_)
  subst hl
  show xw C (GX E) 4 (xq C (GX E) (some (.int r)) σ') σ 0 [(0, .ref (E.2.2.1 10)), (1, .int l1), (2, .int l2), (3, .int l3)] []
  unfold finds_setCopying at hf
  refine xr_iload_n (pc' := 1) 1 hC dX2_setCopying_0 rfl rfl rfl ?_
  refine xr_sipush (pc' := 4) (900 : Int32) hC dX2_setCopying_1 rfl (by decide) ?_
  refine xr_icmp_lt (pc' := 7) 35 hC dX2_setCopying_4 rfl (by decide) hf (fun hf => ?_) (fun hf => ?_)
  · refine xr_iconst (pc' := 36) (0 : Int32) hC dX2_setCopying_35 rfl (by decide) ?_
    exact xr_zreturn hC dX2_setCopying_36 rfl hf
  refine xr_iload_n (pc' := 8) 1 hC dX2_setCopying_7 rfl rfl rfl ?_
  refine xr_sipush (pc' := 11) (1000 : Int32) hC dX2_setCopying_8 rfl (by decide) ?_
  refine xr_icmp_gt (pc' := 14) 35 hC dX2_setCopying_11 rfl (by decide) hf (fun hf => ?_) (fun hf => ?_)
  · refine xr_iconst (pc' := 36) (0 : Int32) hC dX2_setCopying_35 rfl (by decide) ?_
    exact xr_zreturn hC dX2_setCopying_36 rfl hf
  refine xr_iload_n (pc' := 15) 2 hC dX2_setCopying_14 rfl rfl rfl ?_
  refine xr_if_lt (pc' := 18) 35 hC dX2_setCopying_15 rfl (by decide) hf (fun hf => ?_) (fun hf => ?_)
  · refine xr_iconst (pc' := 36) (0 : Int32) hC dX2_setCopying_35 rfl (by decide) ?_
    exact xr_zreturn hC dX2_setCopying_36 rfl hf
  refine xr_iload_n (pc' := 19) 2 hC dX2_setCopying_18 rfl rfl rfl ?_
  refine xr_sipush (pc' := 22) (1000 : Int32) hC dX2_setCopying_19 rfl (by decide) ?_
  refine xr_icmp_gt (pc' := 25) 35 hC dX2_setCopying_22 rfl (by decide) hf (fun hf => ?_) (fun hf => ?_)
  · refine xr_iconst (pc' := 36) (0 : Int32) hC dX2_setCopying_35 rfl (by decide) ?_
    exact xr_zreturn hC dX2_setCopying_36 rfl hf
  refine xr_iload_n (pc' := 26) 3 hC dX2_setCopying_25 rfl rfl rfl ?_
  refine xr_if_lt (pc' := 29) 35 hC dX2_setCopying_26 rfl (by decide) hf (fun hf => ?_) (fun hf => ?_)
  · refine xr_iconst (pc' := 36) (0 : Int32) hC dX2_setCopying_35 rfl (by decide) ?_
    exact xr_zreturn hC dX2_setCopying_36 rfl hf
  refine xr_iload_n (pc' := 30) 3 hC dX2_setCopying_29 rfl rfl rfl ?_
  refine xr_ldc (pc' := 32) (100000 : Int32) hC dX2_setCopying_30 rfl qX2_28 ?_
  refine xr_icmp_le (pc' := 35) 37 hC dX2_setCopying_32 rfl (by decide) hf (fun hf => ?_) (fun hf => ?_)
  · refine xr_aload_n (pc' := 38) 0 hC dX2_setCopying_37 rfl rfl rfl ?_
    refine xr_iload_n (pc' := 39) 1 hC dX2_setCopying_38 rfl rfl rfl ?_
    refine pX2_finds_shrinking (pc' := 42) hC dX2_setCopying_39 rfl hf (fun σ1 hf => ?_)
    refine xr_aload_n (pc' := 43) 0 hC dX2_setCopying_42 rfl rfl rfl ?_
    refine xr_iload_n (pc' := 44) 2 hC dX2_setCopying_43 rfl rfl rfl ?_
    refine pX2_finds_blurring (pc' := 47) hC dX2_setCopying_44 rfl hf (fun σ2 hf => ?_)
    refine xr_aload_n (pc' := 48) 0 hC dX2_setCopying_47 rfl rfl rfl ?_
    refine xr_iload_n (pc' := 49) 3 hC dX2_setCopying_48 rfl rfl rfl ?_
    refine pX2_finds_mostQuarrel (pc' := 52) hC dX2_setCopying_49 rfl hf (fun σ3 hf => ?_)
    refine xr_iconst (pc' := 53) (1 : Int32) hC dX2_setCopying_52 rfl (by decide) ?_
    exact xr_zreturn hC dX2_setCopying_53 rfl hf
  refine xr_iconst (pc' := 36) (0 : Int32) hC dX2_setCopying_35 rfl (by decide) ?_
  exact xr_zreturn hC dX2_setCopying_36 rfl hf

set_option maxRecDepth 100000 in
set_option maxHeartbeats 4000000 in
theorem c_cw_copies {l : Launch} {E : xE} {N : Nat} (hG : xOk (GX E)) {l1 l2 l3 : Int32} {σ : xS} {r : Int32} {σ' : xS} (hf : cw_copies N l1 l2 l3 σ = some (r, σ')) : xMet l (GX E) yX9_copies cX9_copies 4 (some .boolean) (k2_rm 1 23) [.ref (E.2.2.1 0), .int l1, .int l2, .int l3] σ (some (.int r)) σ' := by
  refine x_met (own := RX9) (by decide +kernel) hG rfl (Nat.le_of_ble_eq_true rfl) (fun C hl hC => ?_)
  subst hl
  show xw C (GX E) 4 (xq C (GX E) (some (.int r)) σ') σ 0 [(0, .ref (E.2.2.1 0)), (1, .int l1), (2, .int l2), (3, .int l3)] []
  unfold cw_copies at hf
  refine xr_aload_n (pc' := 1) 0 hC dX9_copies_0 rfl rfl rfl ?_
  refine gX9_cw_finds (pc' := 4) hC dX9_copies_1 rfl ?_
  refine xr_iload_n (pc' := 5) 1 hC dX9_copies_4 rfl rfl rfl ?_
  refine xr_iload_n (pc' := 6) 2 hC dX9_copies_5 rfl rfl rfl ?_
  refine xr_iload_n (pc' := 7) 3 hC dX9_copies_6 rfl rfl rfl ?_
  refine xr_callV (pc' := 10) (rmy := k2_rm 0 0) [.int l1, .int l2, .int l3] 10 hC dX9_copies_7 rfl kX9_200 rfl rfl rfl rfl rfl ⟨Nat.le_of_ble_eq_true rfl, Nat.le_of_ble_eq_true rfl⟩ rfl (Nat.le_of_ble_eq_true rfl) hf (fun _ _ h => c_finds_setCopying (xc_ok hC) h) (fun v1 σ2 hf => ?_)
  exact xr_breturn hC dX9_copies_10 hf

set_option maxRecDepth 100000 in
set_option maxHeartbeats 4000000 in
theorem c_finds_has {l : Launch} {E : xE} {N : Nat} (hG : xOk (GX E)) {l1 : Int32} {σ : xS} {r : Int32} {σ' : xS} (hf : finds_has N l1 σ = some (r, σ')) : xMet l (GX E) yX2_has cX2_has 2 (some .boolean) (k2_rm 0 0) [.ref (E.2.2.1 10), .int l1] σ (some (.int r)) σ' := by
  refine x_met (own := RX2) (by decide +kernel) hG rfl (Nat.le_of_ble_eq_true rfl) (fun C hl hC => ?_)
  subst hl
  show xw C (GX E) 2 (xq C (GX E) (some (.int r)) σ') σ 0 [(0, .ref (E.2.2.1 10)), (1, .int l1)] []
  unfold finds_has at hf
  refine xr_iload_n (pc' := 1) 1 hC dX2_has_0 rfl rfl rfl ?_
  refine xr_if_lt (pc' := 4) 23 hC dX2_has_1 rfl (by decide) hf (fun hf => ?_) (fun hf => ?_)
  · refine xr_iconst (pc' := 24) (0 : Int32) hC dX2_has_23 rfl (by decide) ?_
    exact xr_zreturn hC dX2_has_24 rfl hf
  refine xr_iload_n (pc' := 5) 1 hC dX2_has_4 rfl rfl rfl ?_
  refine xr_bipush (pc' := 7) (12 : Int32) hC dX2_has_5 rfl (by decide) ?_
  refine xr_icmp_ge (pc' := 10) 23 hC dX2_has_7 rfl (by decide) hf (fun hf => ?_) (fun hf => ?_)
  · refine xr_iconst (pc' := 24) (0 : Int32) hC dX2_has_23 rfl (by decide) ?_
    exact xr_zreturn hC dX2_has_24 rfl hf
  refine xr_aload_n (pc' := 11) 0 hC dX2_has_10 rfl rfl rfl ?_
  refine gX2_finds_sizes (pc' := 14) hC dX2_has_11 rfl ?_
  refine xr_iload_n (pc' := 15) 1 hC dX2_has_14 rfl rfl rfl ?_
  refine lX_25 (pc' := 16) hC dX2_has_15 rfl hf (fun v1 hf => ?_)
  refine xr_if_le (pc' := 19) 23 hC dX2_has_16 rfl (by decide) hf (fun hf => ?_) (fun hf => ?_)
  · refine xr_iconst (pc' := 24) (0 : Int32) hC dX2_has_23 rfl (by decide) ?_
    exact xr_zreturn hC dX2_has_24 rfl hf
  refine xr_iconst (pc' := 20) (1 : Int32) hC dX2_has_19 rfl (by decide) ?_
  refine xr_goto 24 hC dX2_has_20 (by decide) ?_
  exact xr_zreturn hC dX2_has_24 rfl hf

set_option maxRecDepth 100000 in
set_option maxHeartbeats 4000000 in
theorem c_finds_canBeMother {l : Launch} {E : xE} {N : Nat} (hG : xOk (GX E)) {l1 l2 : Int32} {σ : xS} {r : Int32} {σ' : xS} (hf : finds_canBeMother N l1 l2 σ = some (r, σ')) : xMet l (GX E) yX2_canBeMother cX2_canBeMother 3 (some .boolean) (k2_rm 1 21) [.ref (E.2.2.1 10), .int l1, .int l2] σ (some (.int r)) σ' := by
  refine x_met (own := RX2) (by decide +kernel) hG rfl (Nat.le_of_ble_eq_true rfl) (fun C hl hC => ?_)
  subst hl
  show xw C (GX E) 3 (xq C (GX E) (some (.int r)) σ') σ 0 [(0, .ref (E.2.2.1 10)), (1, .int l1), (2, .int l2)] []
  unfold finds_canBeMother at hf
  refine xr_aload_n (pc' := 1) 0 hC dX2_canBeMother_0 rfl rfl rfl ?_
  refine xr_iload_n (pc' := 2) 1 hC dX2_canBeMother_1 rfl rfl rfl ?_
  refine xr_callV (pc' := 5) (rmy := k2_rm 0 0) [.int l1] 10 hC dX2_canBeMother_2 rfl kX2_41 rfl rfl rfl rfl rfl ⟨Nat.le_of_ble_eq_true rfl, Nat.le_of_ble_eq_true rfl⟩ rfl (Nat.le_of_ble_eq_true rfl) hf (fun _ _ h => c_finds_has (xc_ok hC) h) (fun v1 σ2 hf => ?_)
  refine xr_if_eq (pc' := 8) 65 hC dX2_canBeMother_5 rfl (by decide) hf (fun hf => ?_) (fun hf => ?_)
  · refine xr_iconst (pc' := 66) (0 : Int32) hC dX2_canBeMother_65 rfl (by decide) ?_
    exact xr_zreturn hC dX2_canBeMother_66 rfl hf
  refine xr_aload_n (pc' := 9) 0 hC dX2_canBeMother_8 rfl rfl rfl ?_
  refine xr_iload_n (pc' := 10) 2 hC dX2_canBeMother_9 rfl rfl rfl ?_
  refine xr_callV (pc' := 13) (rmy := k2_rm 0 0) [.int l2] 10 hC dX2_canBeMother_10 rfl kX2_41 rfl rfl rfl rfl rfl ⟨Nat.le_of_ble_eq_true rfl, Nat.le_of_ble_eq_true rfl⟩ rfl (Nat.le_of_ble_eq_true rfl) hf (fun _ _ h => c_finds_has (xc_ok hC) h) (fun v3 σ4 hf => ?_)
  refine xr_if_eq (pc' := 16) 65 hC dX2_canBeMother_13 rfl (by decide) hf (fun hf => ?_) (fun hf => ?_)
  · refine xr_iconst (pc' := 66) (0 : Int32) hC dX2_canBeMother_65 rfl (by decide) ?_
    exact xr_zreturn hC dX2_canBeMother_66 rfl hf
  refine xr_aload_n (pc' := 17) 0 hC dX2_canBeMother_16 rfl rfl rfl ?_
  refine gX2_finds_sizes (pc' := 20) hC dX2_canBeMother_17 rfl ?_
  refine xr_iload_n (pc' := 21) 1 hC dX2_canBeMother_20 rfl rfl rfl ?_
  refine lX_25 (pc' := 22) hC dX2_canBeMother_21 rfl hf (fun v5 hf => ?_)
  refine xr_aload_n (pc' := 23) 0 hC dX2_canBeMother_22 rfl rfl rfl ?_
  refine gX2_finds_sizes (pc' := 26) hC dX2_canBeMother_23 rfl ?_
  refine xr_iload_n (pc' := 27) 2 hC dX2_canBeMother_26 rfl rfl rfl ?_
  refine lX_25 (pc' := 28) hC dX2_canBeMother_27 rfl hf (fun v6 hf => ?_)
  refine xr_icmp_gt (pc' := 31) 61 hC dX2_canBeMother_28 rfl (by decide) hf (fun hf => ?_) (fun hf => ?_)
  · refine xr_iconst (pc' := 62) (1 : Int32) hC dX2_canBeMother_61 rfl (by decide) ?_
    refine xr_goto 66 hC dX2_canBeMother_62 (by decide) ?_
    exact xr_zreturn hC dX2_canBeMother_66 rfl hf
  refine xr_aload_n (pc' := 32) 0 hC dX2_canBeMother_31 rfl rfl rfl ?_
  refine gX2_finds_sizes (pc' := 35) hC dX2_canBeMother_32 rfl ?_
  refine xr_iload_n (pc' := 36) 1 hC dX2_canBeMother_35 rfl rfl rfl ?_
  refine lX_25 (pc' := 37) hC dX2_canBeMother_36 rfl hf (fun v7 hf => ?_)
  refine xr_aload_n (pc' := 38) 0 hC dX2_canBeMother_37 rfl rfl rfl ?_
  refine gX2_finds_sizes (pc' := 41) hC dX2_canBeMother_38 rfl ?_
  refine xr_iload_n (pc' := 42) 2 hC dX2_canBeMother_41 rfl rfl rfl ?_
  refine lX_25 (pc' := 43) hC dX2_canBeMother_42 rfl hf (fun v8 hf => ?_)
  refine xr_icmp_ne (pc' := 46) 65 hC dX2_canBeMother_43 rfl (by decide) hf (fun hf => ?_) (fun hf => ?_)
  · refine xr_iconst (pc' := 66) (0 : Int32) hC dX2_canBeMother_65 rfl (by decide) ?_
    exact xr_zreturn hC dX2_canBeMother_66 rfl hf
  refine xr_aload_n (pc' := 47) 0 hC dX2_canBeMother_46 rfl rfl rfl ?_
  refine gX2_finds_details (pc' := 50) hC dX2_canBeMother_47 rfl ?_
  refine xr_iload_n (pc' := 51) 1 hC dX2_canBeMother_50 rfl rfl rfl ?_
  refine lX_26 (pc' := 52) hC dX2_canBeMother_51 rfl hf (fun v9 hf => ?_)
  refine xr_aload_n (pc' := 53) 0 hC dX2_canBeMother_52 rfl rfl rfl ?_
  refine gX2_finds_details (pc' := 56) hC dX2_canBeMother_53 rfl ?_
  refine xr_iload_n (pc' := 57) 2 hC dX2_canBeMother_56 rfl rfl rfl ?_
  refine lX_26 (pc' := 58) hC dX2_canBeMother_57 rfl hf (fun v10 hf => ?_)
  refine xr_icmp_le (pc' := 61) 65 hC dX2_canBeMother_58 rfl (by decide) hf (fun hf => ?_) (fun hf => ?_)
  · refine xr_iconst (pc' := 66) (0 : Int32) hC dX2_canBeMother_65 rfl (by decide) ?_
    exact xr_zreturn hC dX2_canBeMother_66 rfl hf
  refine xr_iconst (pc' := 62) (1 : Int32) hC dX2_canBeMother_61 rfl (by decide) ?_
  refine xr_goto 66 hC dX2_canBeMother_62 (by decide) ?_
  exact xr_zreturn hC dX2_canBeMother_66 rfl hf

set_option maxRecDepth 100000 in
set_option maxHeartbeats 4000000 in
theorem c_finds_quarrelOf {l : Launch} {E : xE} {N : Nat} (hG : xOk (GX E)) {l1 l2 : Int32} {σ : xS} {r : Int32} {σ' : xS} (hf : finds_quarrelOf N l1 l2 σ = some (r, σ')) : xMet l (GX E) yX2_quarrelOf cX2_quarrelOf 5 (some .int) (k2_rm 1 21) [.ref (E.2.2.1 10), .int l1, .int l2] σ (some (.int r)) σ' := by
  refine x_met (own := RX2) (by decide +kernel) hG rfl (Nat.le_of_ble_eq_true rfl) (fun C hl hC => ?_)
  subst hl
  show xw C (GX E) 5 (xq C (GX E) (some (.int r)) σ') σ 0 [(0, .ref (E.2.2.1 10)), (1, .int l1), (2, .int l2)] []
  unfold finds_quarrelOf at hf
  refine xr_aload_n (pc' := 1) 0 hC dX2_quarrelOf_0 rfl rfl rfl ?_
  refine xr_iload_n (pc' := 2) 1 hC dX2_quarrelOf_1 rfl rfl rfl ?_
  refine xr_callV (pc' := 5) (rmy := k2_rm 0 0) [.int l1] 10 hC dX2_quarrelOf_2 rfl kX2_41 rfl rfl rfl rfl rfl ⟨Nat.le_of_ble_eq_true rfl, Nat.le_of_ble_eq_true rfl⟩ rfl (Nat.le_of_ble_eq_true rfl) hf (fun _ _ h => c_finds_has (xc_ok hC) h) (fun v1 σ2 hf => ?_)
  refine xr_if_eq (pc' := 8) 16 hC dX2_quarrelOf_5 rfl (by decide) hf (fun hf => ?_) (fun hf => ?_)
  · refine xr_iconst (pc' := 17) (0 : Int32) hC dX2_quarrelOf_16 rfl (by decide) ?_
    exact xr_ireturn hC dX2_quarrelOf_17 hf
  refine xr_aload_n (pc' := 9) 0 hC dX2_quarrelOf_8 rfl rfl rfl ?_
  refine xr_iload_n (pc' := 10) 2 hC dX2_quarrelOf_9 rfl rfl rfl ?_
  refine xr_callV (pc' := 13) (rmy := k2_rm 0 0) [.int l2] 10 hC dX2_quarrelOf_10 rfl kX2_41 rfl rfl rfl rfl rfl ⟨Nat.le_of_ble_eq_true rfl, Nat.le_of_ble_eq_true rfl⟩ rfl (Nat.le_of_ble_eq_true rfl) hf (fun _ _ h => c_finds_has (xc_ok hC) h) (fun v3 σ4 hf => ?_)
  refine xr_if_ne (pc' := 16) 18 hC dX2_quarrelOf_13 rfl (by decide) hf (fun hf => ?_) (fun hf => ?_)
  · refine xr_aload_n (pc' := 19) 0 hC dX2_quarrelOf_18 rfl rfl rfl ?_
    refine gX2_finds_sizes (pc' := 22) hC dX2_quarrelOf_19 rfl ?_
    refine xr_iload_n (pc' := 23) 1 hC dX2_quarrelOf_22 rfl rfl rfl ?_
    refine lX_25 (pc' := 24) hC dX2_quarrelOf_23 rfl hf (fun v5 hf => ?_)
    refine xr_aload_n (pc' := 25) 0 hC dX2_quarrelOf_24 rfl rfl rfl ?_
    refine gX2_finds_sizes (pc' := 28) hC dX2_quarrelOf_25 rfl ?_
    refine xr_iload_n (pc' := 29) 2 hC dX2_quarrelOf_28 rfl rfl rfl ?_
    refine lX_25 (pc' := 30) hC dX2_quarrelOf_29 rfl hf (fun v6 hf => ?_)
    refine xr_aload_n (pc' := 31) 0 hC dX2_quarrelOf_30 rfl rfl rfl ?_
    refine gX2_finds_shrinking (pc' := 34) hC dX2_quarrelOf_31 rfl ?_
    refine xr_imul (pc' := 35) hC dX2_quarrelOf_34 rfl ?_
    refine xr_sipush (pc' := 38) (1000 : Int32) hC dX2_quarrelOf_35 rfl (by decide) ?_
    refine xr_idiv (pc' := 39) hC dX2_quarrelOf_38 rfl hf (fun hf => ?_)
    refine xr_isub (pc' := 40) hC dX2_quarrelOf_39 rfl ?_
    refine xr_mabs (pc' := 43) hC dX2_quarrelOf_40 rfl kX2_45 (Nat.le_of_ble_eq_true rfl) (Nat.le_of_ble_eq_true rfl) ?_
    refine xr_top (x := xabs (v5 - ((v6 * (σ4.1 17)) / (1000 : Int32)))) hf (fun v7 hf => ?_)
    refine xr_istore_n (pc' := 44) (lv' := [(0, .ref (E.2.2.1 10)), (1, .int l1), (2, .int l2), (3, .int v7)]) hC dX2_quarrelOf_43 rfl rfl (by decide) [1, 2, 3, 0] rfl ?_
    refine xr_aload_n (pc' := 45) 0 hC dX2_quarrelOf_44 rfl rfl rfl ?_
    refine gX2_finds_details (pc' := 48) hC dX2_quarrelOf_45 rfl ?_
    refine xr_iload_n (pc' := 49) 1 hC dX2_quarrelOf_48 rfl rfl rfl ?_
    refine lX_26 (pc' := 50) hC dX2_quarrelOf_49 rfl hf (fun v8 hf => ?_)
    refine xr_aload_n (pc' := 51) 0 hC dX2_quarrelOf_50 rfl rfl rfl ?_
    refine gX2_finds_details (pc' := 54) hC dX2_quarrelOf_51 rfl ?_
    refine xr_iload_n (pc' := 55) 2 hC dX2_quarrelOf_54 rfl rfl rfl ?_
    refine lX_26 (pc' := 56) hC dX2_quarrelOf_55 rfl hf (fun v9 hf => ?_)
    refine xr_aload_n (pc' := 57) 0 hC dX2_quarrelOf_56 rfl rfl rfl ?_
    refine gX2_finds_blurring (pc' := 60) hC dX2_quarrelOf_57 rfl ?_
    refine xr_imul (pc' := 61) hC dX2_quarrelOf_60 rfl ?_
    refine xr_sipush (pc' := 64) (1000 : Int32) hC dX2_quarrelOf_61 rfl (by decide) ?_
    refine xr_idiv (pc' := 65) hC dX2_quarrelOf_64 rfl hf (fun hf => ?_)
    refine xr_isub (pc' := 66) hC dX2_quarrelOf_65 rfl ?_
    refine xr_mabs (pc' := 69) hC dX2_quarrelOf_66 rfl kX2_45 (Nat.le_of_ble_eq_true rfl) (Nat.le_of_ble_eq_true rfl) ?_
    refine xr_top (x := xabs (v8 - ((v9 * (σ4.1 18)) / (1000 : Int32)))) hf (fun v10 hf => ?_)
    refine xr_istore (pc' := 71) (lv' := [(0, .ref (E.2.2.1 10)), (1, .int l1), (2, .int l2), (3, .int v7), (4, .int v10)]) hC dX2_quarrelOf_69 rfl (by decide) [1, 2, 3, 4, 0] rfl ?_
    refine xr_iload_n (pc' := 72) 3 hC dX2_quarrelOf_71 rfl rfl rfl ?_
    refine xr_iload (pc' := 74) 4 hC dX2_quarrelOf_72 rfl rfl ?_
    refine xr_iadd (pc' := 75) hC dX2_quarrelOf_74 rfl ?_
    exact xr_ireturn hC dX2_quarrelOf_75 hf
  refine xr_iconst (pc' := 17) (0 : Int32) hC dX2_quarrelOf_16 rfl (by decide) ?_
  exact xr_ireturn hC dX2_quarrelOf_17 hf

set_option maxRecDepth 100000 in
set_option maxHeartbeats 4000000 in
theorem w_finds_motherOf_b12 {C : xT} {E : xE} {N : Nat} {r : Int32} {σ' : xS} (hC : xc C (GX E) RX2 cX2_motherOf 6 (some .int) (k2_rm 2 45)) : ∀ (n : Nat) (l1 l2 l3 l4 : Int32) (σ : xS), finds_motherOf_b12 N n l1 l2 l3 l4 σ = some (r, σ') → xw C (GX E) 6 (xq C (GX E) (some (.int r)) σ') σ 12 [(0, .ref (E.2.2.1 10)), (1, .int l1), (2, .int l2), (3, .int l3), (4, .int l4)] [] := by
  intro n
  induction n with
  | zero =>
    intro l1 l2 l3 l4 σ hf
    rw [finds_motherOf_b12] at hf
    cases hf
  | succ n ih =>
    intro l1 l2 l3 l4 σ hf
    rw [finds_motherOf_b12] at hf
    refine xr_iload (pc' := 14) 4 hC dX2_motherOf_12 rfl rfl ?_
    refine xr_bipush (pc' := 16) (12 : Int32) hC dX2_motherOf_14 rfl (by decide) ?_
    refine xr_icmp_ge (pc' := 19) 56 hC dX2_motherOf_16 rfl (by decide) hf (fun hf => ?_) (fun hf => ?_)
    · refine xr_iload_n (pc' := 57) 2 hC dX2_motherOf_56 rfl rfl rfl ?_
      exact xr_ireturn hC dX2_motherOf_57 hf
    refine xr_aload_n (pc' := 20) 0 hC dX2_motherOf_19 rfl rfl rfl ?_
    refine xr_iload (pc' := 22) 4 hC dX2_motherOf_20 rfl rfl ?_
    refine xr_iload_n (pc' := 23) 1 hC dX2_motherOf_22 rfl rfl rfl ?_
    refine xr_callV (pc' := 26) (rmy := k2_rm 1 21) [.int l4, .int l1] 10 hC dX2_motherOf_23 rfl kX2_29 rfl rfl rfl rfl rfl ⟨Nat.le_of_ble_eq_true rfl, Nat.le_of_ble_eq_true rfl⟩ rfl (Nat.le_of_ble_eq_true rfl) hf (fun _ _ h => c_finds_canBeMother (xc_ok hC) h) (fun v2 σ3 hf => ?_)
    refine xr_if_eq (pc' := 29) 50 hC dX2_motherOf_26 rfl (by decide) hf (fun hf => ?_) (fun hf => ?_)
    · refine xr_iinc (pc' := 53) hC dX2_motherOf_50 rfl _ rfl hf 4 rfl (by decide) [1, 2, 3, 4, 0] (fun l4_4 => [(0, .ref (E.2.2.1 10)), (1, .int l1), (2, .int l2), (3, .int l3), (4, .int l4_4)]) (fun _ => rfl) (fun l4_4 hf => ?_)
      refine xr_goto 12 hC dX2_motherOf_53 (by decide) ?_
      exact ih _ _ _ _ _ hf
    refine xr_aload_n (pc' := 30) 0 hC dX2_motherOf_29 rfl rfl rfl ?_
    refine xr_iload_n (pc' := 31) 1 hC dX2_motherOf_30 rfl rfl rfl ?_
    refine xr_iload (pc' := 33) 4 hC dX2_motherOf_31 rfl rfl ?_
    refine xr_callV (pc' := 36) (rmy := k2_rm 1 21) [.int l1, .int l4] 10 hC dX2_motherOf_33 rfl kX2_33 rfl rfl rfl rfl rfl ⟨Nat.le_of_ble_eq_true rfl, Nat.le_of_ble_eq_true rfl⟩ rfl (Nat.le_of_ble_eq_true rfl) hf (fun _ _ h => c_finds_quarrelOf (xc_ok hC) h) (fun v5 σ6 hf => ?_)
    refine xr_istore (pc' := 38) (lv' := [(0, .ref (E.2.2.1 10)), (1, .int l1), (2, .int l2), (3, .int l3), (4, .int l4), (5, .int v5)]) hC dX2_motherOf_36 rfl (by decide) [1, 2, 3, 4, 5, 0] rfl ?_
    refine xr_iload (pc' := 40) 5 hC dX2_motherOf_38 rfl rfl ?_
    refine xr_iload_n (pc' := 41) 3 hC dX2_motherOf_40 rfl rfl rfl ?_
    refine xr_icmp_ge (pc' := 44) 50 hC dX2_motherOf_41 rfl (by decide) hf (fun hf => ?_) (fun hf => ?_)
    · refine xr_iinc (pc' := 53) hC dX2_motherOf_50 rfl _ rfl hf 4 rfl (by decide) [1, 2, 3, 4, 0, 5] (fun l4_7 => [(0, .ref (E.2.2.1 10)), (1, .int l1), (2, .int l2), (3, .int l3), (4, .int l4_7), (5, .int v5)]) (fun _ => rfl) (fun l4_7 hf => ?_)
      refine xr_goto 12 hC dX2_motherOf_53 (by decide) ?_
      refine x_lv [0, 1, 2, 3, 4] rfl ?_
      exact ih _ _ _ _ _ hf
    refine xr_iload (pc' := 46) 5 hC dX2_motherOf_44 rfl rfl ?_
    refine xr_istore_n (pc' := 47) (lv' := [(0, .ref (E.2.2.1 10)), (1, .int l1), (2, .int l2), (3, .int v5), (4, .int l4), (5, .int v5)]) hC dX2_motherOf_46 rfl rfl (by decide) [1, 2, 3, 0, 4, 5] rfl ?_
    refine xr_iload (pc' := 49) 4 hC dX2_motherOf_47 rfl rfl ?_
    refine xr_istore_n (pc' := 50) (lv' := [(0, .ref (E.2.2.1 10)), (1, .int l1), (2, .int l4), (3, .int v5), (4, .int l4), (5, .int v5)]) hC dX2_motherOf_49 rfl rfl (by decide) [1, 2, 0, 3, 4, 5] rfl ?_
    refine xr_iinc (pc' := 53) hC dX2_motherOf_50 rfl _ rfl hf 4 rfl (by decide) [1, 2, 3, 4, 0, 5] (fun l4_8 => [(0, .ref (E.2.2.1 10)), (1, .int l1), (2, .int l4), (3, .int v5), (4, .int l4_8), (5, .int v5)]) (fun _ => rfl) (fun l4_8 hf => ?_)
    refine xr_goto 12 hC dX2_motherOf_53 (by decide) ?_
    refine x_lv [0, 1, 2, 3, 4] rfl ?_
    exact ih _ _ _ _ _ hf

set_option maxRecDepth 100000 in
set_option maxHeartbeats 4000000 in
theorem c_finds_motherOf {l : Launch} {E : xE} {N : Nat} (hG : xOk (GX E)) {l1 : Int32} {σ : xS} {r : Int32} {σ' : xS} (hf : finds_motherOf N l1 σ = some (r, σ')) : xMet l (GX E) yX2_motherOf cX2_motherOf 6 (some .int) (k2_rm 2 45) [.ref (E.2.2.1 10), .int l1] σ (some (.int r)) σ' := by
  refine x_met (own := RX2) (by decide +kernel) hG rfl (Nat.le_of_ble_eq_true rfl) (fun C hl hC => ?_)
  subst hl
  show xw C (GX E) 6 (xq C (GX E) (some (.int r)) σ') σ 0 [(0, .ref (E.2.2.1 10)), (1, .int l1)] []
  unfold finds_motherOf at hf
  refine xr_iconst (pc' := 1) (-1 : Int32) hC dX2_motherOf_0 rfl (by decide) ?_
  refine xr_istore_n (pc' := 2) (lv' := [(0, .ref (E.2.2.1 10)), (1, .int l1), (2, .int (-1 : Int32))]) hC dX2_motherOf_1 rfl rfl (by decide) [1, 2, 0] rfl ?_
  refine xr_aload_n (pc' := 3) 0 hC dX2_motherOf_2 rfl rfl rfl ?_
  refine gX2_finds_mostQuarrel (pc' := 6) hC dX2_motherOf_3 rfl ?_
  refine xr_iconst (pc' := 7) (1 : Int32) hC dX2_motherOf_6 rfl (by decide) ?_
  refine xr_iadd (pc' := 8) hC dX2_motherOf_7 rfl ?_
  refine xr_istoreb_n (pc' := 9) hC dX2_motherOf_8 rfl hf rfl (by decide) [1, 2, 3, 0] (fun l3_1 => [(0, .ref (E.2.2.1 10)), (1, .int l1), (2, .int (-1 : Int32)), (3, .int l3_1)]) (fun _ => rfl) (fun l3_1 hf => ?_)
  refine xr_iconst (pc' := 10) (0 : Int32) hC dX2_motherOf_9 rfl (by decide) ?_
  refine xr_istore (pc' := 12) (lv' := [(0, .ref (E.2.2.1 10)), (1, .int l1), (2, .int (-1 : Int32)), (3, .int l3_1), (4, .int (0 : Int32))]) hC dX2_motherOf_10 rfl (by decide) [1, 2, 3, 4, 0] rfl ?_
  exact w_finds_motherOf_b12 hC N _ _ _ _ _ hf

set_option maxRecDepth 100000 in
set_option maxHeartbeats 4000000 in
theorem c_cw_mother {l : Launch} {E : xE} {N : Nat} (hG : xOk (GX E)) {l1 : Int32} {σ : xS} {r : Int32} {σ' : xS} (hf : cw_mother N l1 σ = some (r, σ')) : xMet l (GX E) yX9_mother cX9_mother 3 (some .int) (k2_rm 3 70) [.ref (E.2.2.1 0), .int l1] σ (some (.int r)) σ' := by
  refine x_met (own := RX9) (by decide +kernel) hG rfl (Nat.le_of_ble_eq_true rfl) (fun C hl hC => ?_)
  subst hl
  show xw C (GX E) 3 (xq C (GX E) (some (.int r)) σ') σ 0 [(0, .ref (E.2.2.1 0)), (1, .int l1)] []
  unfold cw_mother at hf
  refine xr_aload_n (pc' := 1) 0 hC dX9_mother_0 rfl rfl rfl ?_
  refine gX9_cw_finds (pc' := 4) hC dX9_mother_1 rfl ?_
  refine xr_iload_n (pc' := 5) 1 hC dX9_mother_4 rfl rfl rfl ?_
  refine xr_callV (pc' := 8) (rmy := k2_rm 0 0) [.int l1] 10 hC dX9_mother_5 rfl kX9_203 rfl rfl rfl rfl rfl ⟨Nat.le_of_ble_eq_true rfl, Nat.le_of_ble_eq_true rfl⟩ rfl (Nat.le_of_ble_eq_true rfl) hf (fun _ _ h => c_finds_has (xc_ok hC) h) (fun v1 σ2 hf => ?_)
  refine xr_if_ne (pc' := 11) 13 hC dX9_mother_8 rfl (by decide) hf (fun hf => ?_) (fun hf => ?_)
  · refine xr_aload_n (pc' := 14) 0 hC dX9_mother_13 rfl rfl rfl ?_
    refine gX9_cw_finds (pc' := 17) hC dX9_mother_14 rfl ?_
    refine xr_iload_n (pc' := 18) 1 hC dX9_mother_17 rfl rfl rfl ?_
    refine xr_callV (pc' := 21) (rmy := k2_rm 2 45) [.int l1] 10 hC dX9_mother_18 rfl kX9_204 rfl rfl rfl rfl rfl ⟨Nat.le_of_ble_eq_true rfl, Nat.le_of_ble_eq_true rfl⟩ rfl (Nat.le_of_ble_eq_true rfl) hf (fun _ _ h => c_finds_motherOf (xc_ok hC) h) (fun v3 σ4 hf => ?_)
    refine xr_istore_n (pc' := 22) (lv' := [(0, .ref (E.2.2.1 0)), (1, .int l1), (2, .int v3)]) hC dX9_mother_21 rfl rfl (by decide) [1, 2, 0] rfl ?_
    refine xr_iload_n (pc' := 23) 2 hC dX9_mother_22 rfl rfl rfl ?_
    refine xr_iconst (pc' := 24) (-1 : Int32) hC dX9_mother_23 rfl (by decide) ?_
    refine xr_icmp_ne (pc' := 27) 32 hC dX9_mother_24 rfl (by decide) hf (fun hf => ?_) (fun hf => ?_)
    · refine xr_iload_n (pc' := 33) 2 hC dX9_mother_32 rfl rfl rfl ?_
      exact xr_ireturn hC dX9_mother_33 hf
    refine xr_bipush (pc' := 29) (-2 : Int32) hC dX9_mother_27 rfl (by decide) ?_
    refine xr_goto 33 hC dX9_mother_29 (by decide) ?_
    exact xr_ireturn hC dX9_mother_33 hf
  refine xr_iconst (pc' := 12) (-1 : Int32) hC dX9_mother_11 rfl (by decide) ?_
  exact xr_ireturn hC dX9_mother_12 hf

set_option maxRecDepth 100000 in
set_option maxHeartbeats 4000000 in
theorem w_finds_stepsFrom_b11 {C : xT} {E : xE} {N : Nat} {r : Int32} {σ' : xS} (hC : xc C (GX E) RX2 cX2_stepsFrom 5 (some .int) (k2_rm 3 70)) : ∀ (n : Nat) (l2 l3 l4 : Int32) (σ : xS), finds_stepsFrom_b11 N n l2 l3 l4 σ = some (r, σ') → xw C (GX E) 5 (xq C (GX E) (some (.int r)) σ') σ 11 [(0, .ref (E.2.2.1 10)), (2, .int l2), (3, .int l3), (4, .int l4)] [] := by
  intro n
  induction n with
  | zero =>
    intro l2 l3 l4 σ hf
    rw [finds_stepsFrom_b11] at hf
    cases hf
  | succ n ih =>
    intro l2 l3 l4 σ hf
    rw [finds_stepsFrom_b11] at hf
    refine xr_iload (pc' := 13) 3 hC dX2_stepsFrom_11 rfl rfl ?_
    refine xr_bipush (pc' := 15) (12 : Int32) hC dX2_stepsFrom_13 rfl (by decide) ?_
    refine xr_icmp_ge (pc' := 18) 38 hC dX2_stepsFrom_15 rfl (by decide) hf (fun hf => ?_) (fun hf => ?_)
    · refine xr_iload_n (pc' := 39) 1 hC dX2_stepsFrom_38 rfl rfl rfl ?_
      exact xr_ireturn hC dX2_stepsFrom_39 hf
    refine xr_iload_n (pc' := 19) 2 hC dX2_stepsFrom_18 rfl rfl rfl ?_
    refine xr_iconst (pc' := 20) (-1 : Int32) hC dX2_stepsFrom_19 rfl (by decide) ?_
    refine xr_icmp_eq (pc' := 23) 38 hC dX2_stepsFrom_20 rfl (by decide) hf (fun hf => ?_) (fun hf => ?_)
    · refine xr_iload_n (pc' := 39) 1 hC dX2_stepsFrom_38 rfl rfl rfl ?_
      exact xr_ireturn hC dX2_stepsFrom_39 hf
    refine xr_iinc (pc' := 26) hC dX2_stepsFrom_23 rfl _ rfl hf 1 rfl (by decide) [1, 0, 2, 3] (fun l2_3 => [(0, .ref (E.2.2.1 10)), (2, .int l2_3), (3, .int l3), (4, .int l4)]) (fun _ => rfl) (fun l2_3 hf => ?_)
    refine xr_aload_n (pc' := 27) 0 hC dX2_stepsFrom_26 rfl rfl rfl ?_
    refine xr_iload_n (pc' := 28) 2 hC dX2_stepsFrom_27 rfl rfl rfl ?_
    refine xr_callV (pc' := 31) (rmy := k2_rm 2 45) [.int l3] 10 hC dX2_stepsFrom_28 rfl kX2_37 rfl rfl rfl rfl rfl ⟨Nat.le_of_ble_eq_true rfl, Nat.le_of_ble_eq_true rfl⟩ rfl (Nat.le_of_ble_eq_true rfl) hf (fun _ _ h => c_finds_motherOf (xc_ok hC) h) (fun v4 σ5 hf => ?_)
    refine xr_istore_n (pc' := 32) (lv' := [(0, .ref (E.2.2.1 10)), (2, .int l2_3), (3, .int v4), (4, .int l4)]) hC dX2_stepsFrom_31 rfl rfl (by decide) [1, 2, 0, 3] rfl ?_
    refine xr_iinc (pc' := 35) hC dX2_stepsFrom_32 rfl _ rfl hf 3 rfl (by decide) [1, 2, 3, 0] (fun l4_6 => [(0, .ref (E.2.2.1 10)), (2, .int l2_3), (3, .int v4), (4, .int l4_6)]) (fun _ => rfl) (fun l4_6 hf => ?_)
    refine xr_goto 11 hC dX2_stepsFrom_35 (by decide) ?_
    exact ih _ _ _ _ hf

set_option maxRecDepth 100000 in
set_option maxHeartbeats 4000000 in
theorem c_finds_stepsFrom {l : Launch} {E : xE} {N : Nat} (hG : xOk (GX E)) {l1 : Int32} {σ : xS} {r : Int32} {σ' : xS} (hf : finds_stepsFrom N l1 σ = some (r, σ')) : xMet l (GX E) yX2_stepsFrom cX2_stepsFrom 5 (some .int) (k2_rm 3 70) [.ref (E.2.2.1 10), .int l1] σ (some (.int r)) σ' := by
  refine x_met (own := RX2) (by decide +kernel) hG rfl (Nat.le_of_ble_eq_true rfl) (fun C hl hC => ?_)
  subst hl
  show xw C (GX E) 5 (xq C (GX E) (some (.int r)) σ') σ 0 [(0, .ref (E.2.2.1 10)), (1, .int l1)] []
  unfold finds_stepsFrom at hf
  refine xr_iconst (pc' := 1) (0 : Int32) hC dX2_stepsFrom_0 rfl (by decide) ?_
  refine xr_istore_n (pc' := 2) (lv' := [(0, .ref (E.2.2.1 10)), (1, .int l1), (2, .int (0 : Int32))]) hC dX2_stepsFrom_1 rfl rfl (by decide) [1, 2, 0] rfl ?_
  refine xr_aload_n (pc' := 3) 0 hC dX2_stepsFrom_2 rfl rfl rfl ?_
  refine xr_iload_n (pc' := 4) 1 hC dX2_stepsFrom_3 rfl rfl rfl ?_
  refine xr_callV (pc' := 7) (rmy := k2_rm 2 45) [.int l1] 10 hC dX2_stepsFrom_4 rfl kX2_37 rfl rfl rfl rfl rfl ⟨Nat.le_of_ble_eq_true rfl, Nat.le_of_ble_eq_true rfl⟩ rfl (Nat.le_of_ble_eq_true rfl) hf (fun _ _ h => c_finds_motherOf (xc_ok hC) h) (fun v1 σ2 hf => ?_)
  refine xr_istore_n (pc' := 8) (lv' := [(0, .ref (E.2.2.1 10)), (1, .int l1), (2, .int (0 : Int32)), (3, .int v1)]) hC dX2_stepsFrom_7 rfl rfl (by decide) [1, 2, 3, 0] rfl ?_
  refine xr_iconst (pc' := 9) (0 : Int32) hC dX2_stepsFrom_8 rfl (by decide) ?_
  refine xr_istore (pc' := 11) (lv' := [(0, .ref (E.2.2.1 10)), (1, .int l1), (2, .int (0 : Int32)), (3, .int v1), (4, .int (0 : Int32))]) hC dX2_stepsFrom_9 rfl (by decide) [1, 2, 3, 4, 0] rfl ?_
  refine x_lv [0, 2, 3, 4] rfl ?_
  exact w_finds_stepsFrom_b11 hC N _ _ _ _ hf

set_option maxRecDepth 100000 in
set_option maxHeartbeats 4000000 in
theorem c_cw_steps {l : Launch} {E : xE} {N : Nat} (hG : xOk (GX E)) {l1 : Int32} {σ : xS} {r : Int32} {σ' : xS} (hf : cw_steps N l1 σ = some (r, σ')) : xMet l (GX E) yX9_steps cX9_steps 2 (some .int) (k2_rm 4 94) [.ref (E.2.2.1 0), .int l1] σ (some (.int r)) σ' := by
  refine x_met (own := RX9) (by decide +kernel) hG rfl (Nat.le_of_ble_eq_true rfl) (fun C hl hC => ?_)
  subst hl
  show xw C (GX E) 2 (xq C (GX E) (some (.int r)) σ') σ 0 [(0, .ref (E.2.2.1 0)), (1, .int l1)] []
  unfold cw_steps at hf
  refine xr_aload_n (pc' := 1) 0 hC dX9_steps_0 rfl rfl rfl ?_
  refine gX9_cw_finds (pc' := 4) hC dX9_steps_1 rfl ?_
  refine xr_iload_n (pc' := 5) 1 hC dX9_steps_4 rfl rfl rfl ?_
  refine xr_callV (pc' := 8) (rmy := k2_rm 0 0) [.int l1] 10 hC dX9_steps_5 rfl kX9_203 rfl rfl rfl rfl rfl ⟨Nat.le_of_ble_eq_true rfl, Nat.le_of_ble_eq_true rfl⟩ rfl (Nat.le_of_ble_eq_true rfl) hf (fun _ _ h => c_finds_has (xc_ok hC) h) (fun v1 σ2 hf => ?_)
  refine xr_if_eq (pc' := 11) 22 hC dX9_steps_8 rfl (by decide) hf (fun hf => ?_) (fun hf => ?_)
  · refine xr_iconst (pc' := 23) (-1 : Int32) hC dX9_steps_22 rfl (by decide) ?_
    exact xr_ireturn hC dX9_steps_23 hf
  refine xr_aload_n (pc' := 12) 0 hC dX9_steps_11 rfl rfl rfl ?_
  refine gX9_cw_finds (pc' := 15) hC dX9_steps_12 rfl ?_
  refine xr_iload_n (pc' := 16) 1 hC dX9_steps_15 rfl rfl rfl ?_
  refine xr_callV (pc' := 19) (rmy := k2_rm 3 70) [.int l1] 10 hC dX9_steps_16 rfl kX9_207 rfl rfl rfl rfl rfl ⟨Nat.le_of_ble_eq_true rfl, Nat.le_of_ble_eq_true rfl⟩ rfl (Nat.le_of_ble_eq_true rfl) hf (fun _ _ h => c_finds_stepsFrom (xc_ok hC) h) (fun v3 σ4 hf => ?_)
  refine xr_goto 23 hC dX9_steps_19 (by decide) ?_
  exact xr_ireturn hC dX9_steps_23 hf

set_option maxRecDepth 100000 in
set_option maxHeartbeats 4000000 in
theorem w_finds_countMotherless_b4 {C : xT} {E : xE} {N : Nat} {r : Int32} {σ' : xS} (hC : xc C (GX E) RX2 cX2_countMotherless 3 (some .int) (k2_rm 3 70)) : ∀ (n : Nat) (l1 l2 : Int32) (σ : xS), finds_countMotherless_b4 N n l1 l2 σ = some (r, σ') → xw C (GX E) 3 (xq C (GX E) (some (.int r)) σ') σ 4 [(0, .ref (E.2.2.1 10)), (1, .int l1), (2, .int l2)] [] := by
  intro n
  induction n with
  | zero =>
    intro l1 l2 σ hf
    rw [finds_countMotherless_b4] at hf
    cases hf
  | succ n ih =>
    intro l1 l2 σ hf
    rw [finds_countMotherless_b4] at hf
    refine xr_iload_n (pc' := 5) 2 hC dX2_countMotherless_4 rfl rfl rfl ?_
    refine xr_bipush (pc' := 7) (12 : Int32) hC dX2_countMotherless_5 rfl (by decide) ?_
    refine xr_icmp_ge (pc' := 10) 41 hC dX2_countMotherless_7 rfl (by decide) hf (fun hf => ?_) (fun hf => ?_)
    · refine xr_iload_n (pc' := 42) 1 hC dX2_countMotherless_41 rfl rfl rfl ?_
      exact xr_ireturn hC dX2_countMotherless_42 hf
    refine xr_iload_n (pc' := 11) 1 hC dX2_countMotherless_10 rfl rfl rfl ?_
    refine xr_aload_n (pc' := 12) 0 hC dX2_countMotherless_11 rfl rfl rfl ?_
    refine xr_iload_n (pc' := 13) 2 hC dX2_countMotherless_12 rfl rfl rfl ?_
    refine xr_callV (pc' := 16) (rmy := k2_rm 0 0) [.int l2] 10 hC dX2_countMotherless_13 rfl kX2_41 rfl rfl rfl rfl rfl ⟨Nat.le_of_ble_eq_true rfl, Nat.le_of_ble_eq_true rfl⟩ rfl (Nat.le_of_ble_eq_true rfl) hf (fun _ _ h => c_finds_has (xc_ok hC) h) (fun v1 σ2 hf => ?_)
    refine xr_if_eq (pc' := 19) 32 hC dX2_countMotherless_16 rfl (by decide) hf (fun hf => ?_) (fun hf => ?_)
    · refine xr_iconst (pc' := 33) (0 : Int32) hC dX2_countMotherless_32 rfl (by decide) ?_
      refine xr_iadd (pc' := 34) hC dX2_countMotherless_33 rfl ?_
      refine xr_istoreb_n (pc' := 35) hC dX2_countMotherless_34 rfl hf rfl (by decide) [1, 0, 2] (fun l1_3 => [(0, .ref (E.2.2.1 10)), (1, .int l1_3), (2, .int l2)]) (fun _ => rfl) (fun l1_3 hf => ?_)
      refine xr_iinc (pc' := 38) hC dX2_countMotherless_35 rfl _ rfl hf 2 rfl (by decide) [1, 2, 0] (fun l2_4 => [(0, .ref (E.2.2.1 10)), (1, .int l1_3), (2, .int l2_4)]) (fun _ => rfl) (fun l2_4 hf => ?_)
      refine xr_goto 4 hC dX2_countMotherless_38 (by decide) ?_
      exact ih _ _ _ hf
    refine xr_aload_n (pc' := 20) 0 hC dX2_countMotherless_19 rfl rfl rfl ?_
    refine xr_iload_n (pc' := 21) 2 hC dX2_countMotherless_20 rfl rfl rfl ?_
    refine xr_callV (pc' := 24) (rmy := k2_rm 2 45) [.int l2] 10 hC dX2_countMotherless_21 rfl kX2_37 rfl rfl rfl rfl rfl ⟨Nat.le_of_ble_eq_true rfl, Nat.le_of_ble_eq_true rfl⟩ rfl (Nat.le_of_ble_eq_true rfl) hf (fun _ _ h => c_finds_motherOf (xc_ok hC) h) (fun v5 σ6 hf => ?_)
    refine xr_iconst (pc' := 25) (-1 : Int32) hC dX2_countMotherless_24 rfl (by decide) ?_
    refine xr_icmp_ne (pc' := 28) 32 hC dX2_countMotherless_25 rfl (by decide) hf (fun hf => ?_) (fun hf => ?_)
    · refine xr_iconst (pc' := 33) (0 : Int32) hC dX2_countMotherless_32 rfl (by decide) ?_
      refine xr_iadd (pc' := 34) hC dX2_countMotherless_33 rfl ?_
      refine xr_istoreb_n (pc' := 35) hC dX2_countMotherless_34 rfl hf rfl (by decide) [1, 0, 2] (fun l1_7 => [(0, .ref (E.2.2.1 10)), (1, .int l1_7), (2, .int l2)]) (fun _ => rfl) (fun l1_7 hf => ?_)
      refine xr_iinc (pc' := 38) hC dX2_countMotherless_35 rfl _ rfl hf 2 rfl (by decide) [1, 2, 0] (fun l2_8 => [(0, .ref (E.2.2.1 10)), (1, .int l1_7), (2, .int l2_8)]) (fun _ => rfl) (fun l2_8 hf => ?_)
      refine xr_goto 4 hC dX2_countMotherless_38 (by decide) ?_
      exact ih _ _ _ hf
    refine xr_iconst (pc' := 29) (1 : Int32) hC dX2_countMotherless_28 rfl (by decide) ?_
    refine xr_goto 33 hC dX2_countMotherless_29 (by decide) ?_
    refine xr_iadd (pc' := 34) hC dX2_countMotherless_33 rfl ?_
    refine xr_istoreb_n (pc' := 35) hC dX2_countMotherless_34 rfl hf rfl (by decide) [1, 0, 2] (fun l1_9 => [(0, .ref (E.2.2.1 10)), (1, .int l1_9), (2, .int l2)]) (fun _ => rfl) (fun l1_9 hf => ?_)
    refine xr_iinc (pc' := 38) hC dX2_countMotherless_35 rfl _ rfl hf 2 rfl (by decide) [1, 2, 0] (fun l2_10 => [(0, .ref (E.2.2.1 10)), (1, .int l1_9), (2, .int l2_10)]) (fun _ => rfl) (fun l2_10 hf => ?_)
    refine xr_goto 4 hC dX2_countMotherless_38 (by decide) ?_
    exact ih _ _ _ hf

set_option maxRecDepth 100000 in
set_option maxHeartbeats 4000000 in
theorem c_finds_countMotherless {l : Launch} {E : xE} {N : Nat} (hG : xOk (GX E)) {σ : xS} {r : Int32} {σ' : xS} (hf : finds_countMotherless N σ = some (r, σ')) : xMet l (GX E) yX2_countMotherless cX2_countMotherless 3 (some .int) (k2_rm 3 70) [.ref (E.2.2.1 10)] σ (some (.int r)) σ' := by
  refine x_met (own := RX2) (by decide +kernel) hG rfl (Nat.le_of_ble_eq_true rfl) (fun C hl hC => ?_)
  subst hl
  show xw C (GX E) 3 (xq C (GX E) (some (.int r)) σ') σ 0 [(0, .ref (E.2.2.1 10))] []
  unfold finds_countMotherless at hf
  refine xr_iconst (pc' := 1) (0 : Int32) hC dX2_countMotherless_0 rfl (by decide) ?_
  refine xr_istore_n (pc' := 2) (lv' := [(0, .ref (E.2.2.1 10)), (1, .int (0 : Int32))]) hC dX2_countMotherless_1 rfl rfl (by decide) [1, 0] rfl ?_
  refine xr_iconst (pc' := 3) (0 : Int32) hC dX2_countMotherless_2 rfl (by decide) ?_
  refine xr_istore_n (pc' := 4) (lv' := [(0, .ref (E.2.2.1 10)), (1, .int (0 : Int32)), (2, .int (0 : Int32))]) hC dX2_countMotherless_3 rfl rfl (by decide) [1, 2, 0] rfl ?_
  exact w_finds_countMotherless_b4 hC N _ _ _ hf

set_option maxRecDepth 100000 in
set_option maxHeartbeats 4000000 in
theorem w_finds_sumQuarrels_b4 {C : xT} {E : xE} {N : Nat} {r : Int32} {σ' : xS} (hC : xc C (GX E) RX2 cX2_sumQuarrels 4 (some .int) (k2_rm 3 70)) : ∀ (n : Nat) (l1 l2 : Int32) (σ : xS), finds_sumQuarrels_b4 N n l1 l2 σ = some (r, σ') → xw C (GX E) 4 (xq C (GX E) (some (.int r)) σ') σ 4 [(0, .ref (E.2.2.1 10)), (1, .int l1), (2, .int l2)] [] := by
  intro n
  induction n with
  | zero =>
    intro l1 l2 σ hf
    rw [finds_sumQuarrels_b4] at hf
    cases hf
  | succ n ih =>
    intro l1 l2 σ hf
    rw [finds_sumQuarrels_b4] at hf
    refine xr_iload_n (pc' := 5) 2 hC dX2_sumQuarrels_4 rfl rfl rfl ?_
    refine xr_bipush (pc' := 7) (12 : Int32) hC dX2_sumQuarrels_5 rfl (by decide) ?_
    refine xr_icmp_ge (pc' := 10) 40 hC dX2_sumQuarrels_7 rfl (by decide) hf (fun hf => ?_) (fun hf => ?_)
    · refine xr_iload_n (pc' := 41) 1 hC dX2_sumQuarrels_40 rfl rfl rfl ?_
      exact xr_ireturn hC dX2_sumQuarrels_41 hf
    refine xr_aload_n (pc' := 11) 0 hC dX2_sumQuarrels_10 rfl rfl rfl ?_
    refine xr_iload_n (pc' := 12) 2 hC dX2_sumQuarrels_11 rfl rfl rfl ?_
    refine xr_callV (pc' := 15) (rmy := k2_rm 2 45) [.int l2] 10 hC dX2_sumQuarrels_12 rfl kX2_37 rfl rfl rfl rfl rfl ⟨Nat.le_of_ble_eq_true rfl, Nat.le_of_ble_eq_true rfl⟩ rfl (Nat.le_of_ble_eq_true rfl) hf (fun _ _ h => c_finds_motherOf (xc_ok hC) h) (fun v1 σ2 hf => ?_)
    refine xr_istore_n (pc' := 16) (lv' := [(0, .ref (E.2.2.1 10)), (1, .int l1), (2, .int l2), (3, .int v1)]) hC dX2_sumQuarrels_15 rfl rfl (by decide) [1, 2, 3, 0] rfl ?_
    refine xr_iload_n (pc' := 17) 1 hC dX2_sumQuarrels_16 rfl rfl rfl ?_
    refine xr_iload_n (pc' := 18) 3 hC dX2_sumQuarrels_17 rfl rfl rfl ?_
    refine xr_iconst (pc' := 19) (-1 : Int32) hC dX2_sumQuarrels_18 rfl (by decide) ?_
    refine xr_icmp_ne (pc' := 22) 26 hC dX2_sumQuarrels_19 rfl (by decide) hf (fun hf => ?_) (fun hf => ?_)
    · refine xr_aload_n (pc' := 27) 0 hC dX2_sumQuarrels_26 rfl rfl rfl ?_
      refine xr_iload_n (pc' := 28) 2 hC dX2_sumQuarrels_27 rfl rfl rfl ?_
      refine xr_iload_n (pc' := 29) 3 hC dX2_sumQuarrels_28 rfl rfl rfl ?_
      refine xr_callV (pc' := 32) (rmy := k2_rm 1 21) [.int l2, .int v1] 10 hC dX2_sumQuarrels_29 rfl kX2_33 rfl rfl rfl rfl rfl ⟨Nat.le_of_ble_eq_true rfl, Nat.le_of_ble_eq_true rfl⟩ rfl (Nat.le_of_ble_eq_true rfl) hf (fun _ _ h => c_finds_quarrelOf (xc_ok hC) h) (fun v3 σ4 hf => ?_)
      refine xr_iadd (pc' := 33) hC dX2_sumQuarrels_32 rfl ?_
      refine xr_istoreb_n (pc' := 34) hC dX2_sumQuarrels_33 rfl hf rfl (by decide) [1, 0, 2, 3] (fun l1_5 => [(0, .ref (E.2.2.1 10)), (1, .int l1_5), (2, .int l2), (3, .int v1)]) (fun _ => rfl) (fun l1_5 hf => ?_)
      refine xr_iinc (pc' := 37) hC dX2_sumQuarrels_34 rfl _ rfl hf 2 rfl (by decide) [1, 2, 0, 3] (fun l2_6 => [(0, .ref (E.2.2.1 10)), (1, .int l1_5), (2, .int l2_6), (3, .int v1)]) (fun _ => rfl) (fun l2_6 hf => ?_)
      refine xr_goto 4 hC dX2_sumQuarrels_37 (by decide) ?_
      refine x_lv [0, 1, 2] rfl ?_
      exact ih _ _ _ hf
    refine xr_iconst (pc' := 23) (0 : Int32) hC dX2_sumQuarrels_22 rfl (by decide) ?_
    refine xr_goto 32 hC dX2_sumQuarrels_23 (by decide) ?_
    refine xr_iadd (pc' := 33) hC dX2_sumQuarrels_32 rfl ?_
    refine xr_istoreb_n (pc' := 34) hC dX2_sumQuarrels_33 rfl hf rfl (by decide) [1, 0, 2, 3] (fun l1_7 => [(0, .ref (E.2.2.1 10)), (1, .int l1_7), (2, .int l2), (3, .int v1)]) (fun _ => rfl) (fun l1_7 hf => ?_)
    refine xr_iinc (pc' := 37) hC dX2_sumQuarrels_34 rfl _ rfl hf 2 rfl (by decide) [1, 2, 0, 3] (fun l2_8 => [(0, .ref (E.2.2.1 10)), (1, .int l1_7), (2, .int l2_8), (3, .int v1)]) (fun _ => rfl) (fun l2_8 hf => ?_)
    refine xr_goto 4 hC dX2_sumQuarrels_37 (by decide) ?_
    refine x_lv [0, 1, 2] rfl ?_
    exact ih _ _ _ hf

set_option maxRecDepth 100000 in
set_option maxHeartbeats 4000000 in
theorem c_finds_sumQuarrels {l : Launch} {E : xE} {N : Nat} (hG : xOk (GX E)) {σ : xS} {r : Int32} {σ' : xS} (hf : finds_sumQuarrels N σ = some (r, σ')) : xMet l (GX E) yX2_sumQuarrels cX2_sumQuarrels 4 (some .int) (k2_rm 3 70) [.ref (E.2.2.1 10)] σ (some (.int r)) σ' := by
  refine x_met (own := RX2) (by decide +kernel) hG rfl (Nat.le_of_ble_eq_true rfl) (fun C hl hC => ?_)
  subst hl
  show xw C (GX E) 4 (xq C (GX E) (some (.int r)) σ') σ 0 [(0, .ref (E.2.2.1 10))] []
  unfold finds_sumQuarrels at hf
  refine xr_iconst (pc' := 1) (0 : Int32) hC dX2_sumQuarrels_0 rfl (by decide) ?_
  refine xr_istore_n (pc' := 2) (lv' := [(0, .ref (E.2.2.1 10)), (1, .int (0 : Int32))]) hC dX2_sumQuarrels_1 rfl rfl (by decide) [1, 0] rfl ?_
  refine xr_iconst (pc' := 3) (0 : Int32) hC dX2_sumQuarrels_2 rfl (by decide) ?_
  refine xr_istore_n (pc' := 4) (lv' := [(0, .ref (E.2.2.1 10)), (1, .int (0 : Int32)), (2, .int (0 : Int32))]) hC dX2_sumQuarrels_3 rfl rfl (by decide) [1, 2, 0] rfl ?_
  exact w_finds_sumQuarrels_b4 hC N _ _ _ hf

set_option maxRecDepth 100000 in
set_option maxHeartbeats 4000000 in
theorem c_cw_told {l : Launch} {E : xE} {N : Nat} (hG : xOk (GX E)) {l1 : Int32} {σ : xS} {r : Int32} {σ' : xS} (hf : cw_told N l1 σ = some (r, σ')) : xMet l (GX E) yX9_told cX9_told 2 (some .int) (k2_rm 4 93) [.ref (E.2.2.1 0), .int l1] σ (some (.int r)) σ' := by
  refine x_met (own := RX9) (by decide +kernel) hG rfl (Nat.le_of_ble_eq_true rfl) (fun C hl hC => ?_)
  subst hl
  show xw C (GX E) 2 (xq C (GX E) (some (.int r)) σ') σ 0 [(0, .ref (E.2.2.1 0)), (1, .int l1)] []
  unfold cw_told at hf
  refine xr_iload_n (pc' := 1) 1 hC dX9_told_0 rfl rfl rfl ?_
  by_cases e0 : l1 = (0 : Int32)
  · rw [if_pos e0] at hf
    refine xr_lookup (off := 27) 28 hC dX9_told_1 (by decide) (by rw [e0]; decide) (by decide) ?_
    refine xr_aload_n (pc' := 29) 0 hC dX9_told_28 rfl rfl rfl ?_
    refine gX9_cw_finds (pc' := 32) hC dX9_told_29 rfl ?_
    refine xr_callV (pc' := 35) (rmy := k2_rm 3 70) [] 10 hC dX9_told_32 rfl kX9_210 rfl rfl rfl rfl rfl ⟨Nat.le_of_ble_eq_true rfl, Nat.le_of_ble_eq_true rfl⟩ rfl (Nat.le_of_ble_eq_true rfl) hf (fun _ _ h => c_finds_countMotherless (xc_ok hC) h) (fun v1 σ2 hf => ?_)
    exact xr_ireturn hC dX9_told_35 hf
  rw [if_neg e0] at hf
  by_cases e1 : l1 = (1 : Int32)
  · rw [if_pos e1] at hf
    refine xr_lookup (off := 35) 36 hC dX9_told_1 (by decide) (by rw [e1]; decide) (by decide) ?_
    refine xr_aload_n (pc' := 37) 0 hC dX9_told_36 rfl rfl rfl ?_
    refine gX9_cw_finds (pc' := 40) hC dX9_told_37 rfl ?_
    refine xr_callV (pc' := 43) (rmy := k2_rm 3 70) [] 10 hC dX9_told_40 rfl kX9_213 rfl rfl rfl rfl rfl ⟨Nat.le_of_ble_eq_true rfl, Nat.le_of_ble_eq_true rfl⟩ rfl (Nat.le_of_ble_eq_true rfl) hf (fun _ _ h => c_finds_sumQuarrels (xc_ok hC) h) (fun v3 σ4 hf => ?_)
    exact xr_ireturn hC dX9_told_43 hf
  rw [if_neg e1] at hf
  refine xr_lookup (off := 43) 44 hC dX9_told_1 (by decide) (by rw [lv_osw e0 (by decide)]; rw [lv_osw e1 (by decide)]; rfl) (by decide) ?_
  refine xr_iconst (pc' := 45) (-1 : Int32) hC dX9_told_44 rfl (by decide) ?_
  exact xr_ireturn hC dX9_told_45 hf

