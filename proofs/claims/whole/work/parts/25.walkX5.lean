set_option maxRecDepth 100000 in
set_option maxHeartbeats 4000000 in
theorem w_pieces_pourWhileBorne_b30 {C : xT} {E : xE} {N : Nat} {r : Int32} {σ' : xS} (hC : xc C (GX E) RX6 cX6_pourWhileBorne 4 (some .int) (k2_rm 3 55)) : ∀ (n : Nat) (l2 l3 : Int32) (σ : xS), pieces_pourWhileBorne_b30 N n l2 l3 σ = some (r, σ') → xw C (GX E) 4 (xq C (GX E) (some (.int r)) σ') σ 30 [(0, .ref (E.2.2.1 6)), (2, .int l2), (3, .int l3)] [] := by
  intro n
  induction n with
  | zero =>
    intro l2 l3 σ hf
    rw [pieces_pourWhileBorne_b30] at hf
    cases hf
  | succ n ih =>
    intro l2 l3 σ hf
    rw [pieces_pourWhileBorne_b30] at hf
    refine xr_iload_n (pc' := 31) 2 hC dX6_pourWhileBorne_30 rfl rfl rfl ?_
    refine xr_aload_n (pc' := 32) 0 hC dX6_pourWhileBorne_31 rfl rfl rfl ?_
    refine gX6_pieces_length (pc' := 35) hC dX6_pourWhileBorne_32 rfl ?_
    refine xr_icmp_ge (pc' := 38) 54 hC dX6_pourWhileBorne_35 rfl (by decide) hf (fun hf => ?_) (fun hf => ?_)
    · refine xr_iload_n (pc' := 55) 1 hC dX6_pourWhileBorne_54 rfl rfl rfl ?_
      exact xr_ireturn hC dX6_pourWhileBorne_55 hf
    refine xr_aload_n (pc' := 39) 0 hC dX6_pourWhileBorne_38 rfl rfl rfl ?_
    refine gX6_pieces_poured (pc' := 42) hC dX6_pourWhileBorne_39 rfl ?_
    refine xr_iload_n (pc' := 43) 2 hC dX6_pourWhileBorne_42 rfl rfl rfl ?_
    refine xr_dup2 (pc' := 44) hC dX6_pourWhileBorne_43 rfl rfl rfl ?_
    refine lX_11 (pc' := 45) hC dX6_pourWhileBorne_44 rfl hf (fun v1 hf => ?_)
    refine xr_iload_n (pc' := 46) 1 hC dX6_pourWhileBorne_45 rfl rfl rfl ?_
    refine xr_iadd (pc' := 47) hC dX6_pourWhileBorne_46 rfl ?_
    refine sX_11 (pc' := 48) hC dX6_pourWhileBorne_47 rfl hf (fun σ2 hf => ?_)
    refine xr_iinc (pc' := 51) hC dX6_pourWhileBorne_48 rfl _ rfl hf 2 rfl (by decide) [1, 2, 0] (fun l3_3 => [(0, .ref (E.2.2.1 6)), (2, .int l2), (3, .int l3_3)]) (fun _ => rfl) (fun l3_3 hf => ?_)
    refine xr_goto 30 hC dX6_pourWhileBorne_51 (by decide) ?_
    exact ih _ _ _ hf

set_option maxRecDepth 100000 in
set_option maxHeartbeats 4000000 in
theorem w_pieces_pourWhileBorne_b4 {C : xT} {E : xE} {N : Nat} {r : Int32} {σ' : xS} (hC : xc C (GX E) RX6 cX6_pourWhileBorne 4 (some .int) (k2_rm 3 55)) : ∀ (n : Nat) (l2 l3 : Int32) (σ : xS), pieces_pourWhileBorne_b4 N n l2 l3 σ = some (r, σ') → xw C (GX E) 4 (xq C (GX E) (some (.int r)) σ') σ 4 [(0, .ref (E.2.2.1 6)), (2, .int l2), (3, .int l3)] [] := by
  intro n
  induction n with
  | zero =>
    intro l2 l3 σ hf
    rw [pieces_pourWhileBorne_b4] at hf
    cases hf
  | succ n ih =>
    intro l2 l3 σ hf
    rw [pieces_pourWhileBorne_b4] at hf
    refine xr_iload_n (pc' := 5) 2 hC dX6_pourWhileBorne_4 rfl rfl rfl ?_
    refine xr_aload_n (pc' := 6) 0 hC dX6_pourWhileBorne_5 rfl rfl rfl ?_
    refine gX6_pieces_length (pc' := 9) hC dX6_pourWhileBorne_6 rfl ?_
    refine xr_icmp_ge (pc' := 12) 28 hC dX6_pourWhileBorne_9 rfl (by decide) hf (fun hf => ?_) (fun hf => ?_)
    · refine xr_iconst (pc' := 29) (0 : Int32) hC dX6_pourWhileBorne_28 rfl (by decide) ?_
      refine xr_istore_n (pc' := 30) (lv' := [(0, .ref (E.2.2.1 6)), (2, .int l2), (3, .int (0 : Int32))]) hC dX6_pourWhileBorne_29 rfl rfl (by decide) [1, 2, 0] rfl ?_
      exact w_pieces_pourWhileBorne_b30 hC N _ _ _ hf
    refine xr_iload_n (pc' := 13) 1 hC dX6_pourWhileBorne_12 rfl rfl rfl ?_
    refine xr_aload_n (pc' := 14) 0 hC dX6_pourWhileBorne_13 rfl rfl rfl ?_
    refine xr_iload_n (pc' := 15) 2 hC dX6_pourWhileBorne_14 rfl rfl rfl ?_
    refine xr_callV (pc' := 18) (rmy := k2_rm 2 34) [.int l3] 6 hC dX6_pourWhileBorne_15 rfl kX6_67 rfl rfl rfl rfl rfl ⟨Nat.le_of_ble_eq_true rfl, Nat.le_of_ble_eq_true rfl⟩ rfl (Nat.le_of_ble_eq_true rfl) hf (fun _ _ h => c_pieces_leftOn (xc_ok hC) h) (fun v4 σ5 hf => ?_)
    refine xr_mmin (pc' := 21) hC dX6_pourWhileBorne_18 rfl kX6_70 (Nat.le_of_ble_eq_true rfl) (Nat.le_of_ble_eq_true rfl) ?_
    refine xr_top (x := xmin l2 v4) hf (fun v6 hf => ?_)
    refine xr_istore_n (pc' := 22) (lv' := [(0, .ref (E.2.2.1 6)), (2, .int v6), (3, .int l3)]) hC dX6_pourWhileBorne_21 rfl rfl (by decide) [1, 0, 2] rfl ?_
    refine xr_iinc (pc' := 25) hC dX6_pourWhileBorne_22 rfl _ rfl hf 2 rfl (by decide) [1, 2, 0] (fun l3_7 => [(0, .ref (E.2.2.1 6)), (2, .int v6), (3, .int l3_7)]) (fun _ => rfl) (fun l3_7 hf => ?_)
    refine xr_goto 4 hC dX6_pourWhileBorne_25 (by decide) ?_
    exact ih _ _ _ hf

set_option maxRecDepth 100000 in
set_option maxHeartbeats 4000000 in
theorem c_pieces_pourWhileBorne {l : Launch} {E : xE} {N : Nat} (hG : xOk (GX E)) {l1 : Int32} {σ : xS} {r : Int32} {σ' : xS} (hf : pieces_pourWhileBorne N l1 σ = some (r, σ')) : xMet l (GX E) yX6_pourWhileBorne cX6_pourWhileBorne 4 (some .int) (k2_rm 3 55) [.ref (E.2.2.1 6), .int l1] σ (some (.int r)) σ' := by
  refine x_met (own := RX6) (by decide +kernel) hG rfl (Nat.le_of_ble_eq_true rfl) (fun C hl hC => ?_)
  subst hl
  show xw C (GX E) 4 (xq C (GX E) (some (.int r)) σ') σ 0 [(0, .ref (E.2.2.1 6)), (1, .int l1)] []
  unfold pieces_pourWhileBorne at hf
  refine xr_iload_n (pc' := 1) 1 hC dX6_pourWhileBorne_0 rfl rfl rfl ?_
  refine xr_istore_n (pc' := 2) (lv' := [(0, .ref (E.2.2.1 6)), (1, .int l1), (2, .int l1)]) hC dX6_pourWhileBorne_1 rfl rfl (by decide) [1, 2, 0] rfl ?_
  refine xr_iconst (pc' := 3) (0 : Int32) hC dX6_pourWhileBorne_2 rfl (by decide) ?_
  refine xr_istore_n (pc' := 4) (lv' := [(0, .ref (E.2.2.1 6)), (1, .int l1), (2, .int l1), (3, .int (0 : Int32))]) hC dX6_pourWhileBorne_3 rfl rfl (by decide) [1, 2, 3, 0] rfl ?_
  refine x_lv [0, 2, 3] rfl ?_
  exact w_pieces_pourWhileBorne_b4 hC N _ _ _ hf

set_option maxRecDepth 100000 in
set_option maxHeartbeats 4000000 in
theorem c_cw_pour {l : Launch} {E : xE} {N : Nat} (hG : xOk (GX E)) {l1 : Int32} {σ : xS} {r : Int32} {σ' : xS} (hf : cw_pour N l1 σ = some (r, σ')) : xMet l (GX E) yX9_pour cX9_pour 2 (some .int) (k2_rm 4 78) [.ref (E.2.2.1 0), .int l1] σ (some (.int r)) σ' := by
  refine x_met (own := RX9) (by decide +kernel) hG rfl (Nat.le_of_ble_eq_true rfl) (fun C hl hC => ?_)
  subst hl
  show xw C (GX E) 2 (xq C (GX E) (some (.int r)) σ') σ 0 [(0, .ref (E.2.2.1 0)), (1, .int l1)] []
  unfold cw_pour at hf
  refine xr_aload_n (pc' := 1) 0 hC dX9_pour_0 rfl rfl rfl ?_
  refine gX9_cw_pieces (pc' := 4) hC dX9_pour_1 rfl ?_
  refine xr_iload_n (pc' := 5) 1 hC dX9_pour_4 rfl rfl rfl ?_
  refine xr_callV (pc' := 8) (rmy := k2_rm 0 0) [.int l1] 6 hC dX9_pour_5 rfl kX9_163 rfl rfl rfl rfl rfl ⟨Nat.le_of_ble_eq_true rfl, Nat.le_of_ble_eq_true rfl⟩ rfl (Nat.le_of_ble_eq_true rfl) hf (fun _ _ h => c_pieces_canPour (xc_ok hC) h) (fun v1 σ2 hf => ?_)
  refine xr_if_eq (pc' := 11) 22 hC dX9_pour_8 rfl (by decide) hf (fun hf => ?_) (fun hf => ?_)
  · refine xr_iconst (pc' := 23) (-1 : Int32) hC dX9_pour_22 rfl (by decide) ?_
    exact xr_ireturn hC dX9_pour_23 hf
  refine xr_aload_n (pc' := 12) 0 hC dX9_pour_11 rfl rfl rfl ?_
  refine gX9_cw_pieces (pc' := 15) hC dX9_pour_12 rfl ?_
  refine xr_iload_n (pc' := 16) 1 hC dX9_pour_15 rfl rfl rfl ?_
  refine xr_callV (pc' := 19) (rmy := k2_rm 3 55) [.int l1] 6 hC dX9_pour_16 rfl kX9_166 rfl rfl rfl rfl rfl ⟨Nat.le_of_ble_eq_true rfl, Nat.le_of_ble_eq_true rfl⟩ rfl (Nat.le_of_ble_eq_true rfl) hf (fun _ _ h => c_pieces_pourWhileBorne (xc_ok hC) h) (fun v3 σ4 hf => ?_)
  refine xr_goto 23 hC dX9_pour_19 (by decide) ?_
  exact xr_ireturn hC dX9_pour_23 hf

set_option maxRecDepth 100000 in
set_option maxHeartbeats 4000000 in
theorem c_pieces_mendOne {l : Launch} {E : xE} {N : Nat} (hG : xOk (GX E)) {l1 : Int32} {σ : xS} {r : Int32} {σ' : xS} (hf : pieces_mendOne N l1 σ = some (r, σ')) : xMet l (GX E) yX6_mendOne cX6_mendOne 2 (some .int) (k2_rm 1 21) [.ref (E.2.2.1 6), .int l1] σ (some (.int r)) σ' := by
  refine x_met (own := RX6) (by decide +kernel) hG rfl (Nat.le_of_ble_eq_true rfl) (fun C hl hC => ?_)
  subst hl
  show xw C (GX E) 2 (xq C (GX E) (some (.int r)) σ') σ 0 [(0, .ref (E.2.2.1 6)), (1, .int l1)] []
  unfold pieces_mendOne at hf
  refine xr_aload_n (pc' := 1) 0 hC dX6_mendOne_0 rfl rfl rfl ?_
  refine xr_iload_n (pc' := 2) 1 hC dX6_mendOne_1 rfl rfl rfl ?_
  refine xr_callV (pc' := 5) (rmy := k2_rm 0 0) [.int l1] 6 hC dX6_mendOne_2 rfl kX6_51 rfl rfl rfl rfl rfl ⟨Nat.le_of_ble_eq_true rfl, Nat.le_of_ble_eq_true rfl⟩ rfl (Nat.le_of_ble_eq_true rfl) hf (fun _ _ h => c_pieces_has (xc_ok hC) h) (fun v1 σ2 hf => ?_)
  refine xr_if_ne (pc' := 8) 10 hC dX6_mendOne_5 rfl (by decide) hf (fun hf => ?_) (fun hf => ?_)
  · refine xr_aload_n (pc' := 11) 0 hC dX6_mendOne_10 rfl rfl rfl ?_
    refine gX6_pieces_poured (pc' := 14) hC dX6_mendOne_11 rfl ?_
    refine xr_iload_n (pc' := 15) 1 hC dX6_mendOne_14 rfl rfl rfl ?_
    refine xr_iconst (pc' := 16) (0 : Int32) hC dX6_mendOne_15 rfl (by decide) ?_
    refine sX_11 (pc' := 17) hC dX6_mendOne_16 rfl hf (fun σ3 hf => ?_)
    refine xr_aload_n (pc' := 18) 0 hC dX6_mendOne_17 rfl rfl rfl ?_
    refine gX6_pieces_sizes (pc' := 21) hC dX6_mendOne_18 rfl ?_
    refine xr_iload_n (pc' := 22) 1 hC dX6_mendOne_21 rfl rfl rfl ?_
    refine lX_9 (pc' := 23) hC dX6_mendOne_22 rfl hf (fun v4 hf => ?_)
    refine xr_aload_n (pc' := 24) 0 hC dX6_mendOne_23 rfl rfl rfl ?_
    refine gX6_pieces_price (pc' := 27) hC dX6_mendOne_24 rfl ?_
    refine xr_imul (pc' := 28) hC dX6_mendOne_27 rfl ?_
    exact xr_ireturn hC dX6_mendOne_28 hf
  refine xr_iconst (pc' := 9) (-1 : Int32) hC dX6_mendOne_8 rfl (by decide) ?_
  exact xr_ireturn hC dX6_mendOne_9 hf

set_option maxRecDepth 100000 in
set_option maxHeartbeats 4000000 in
theorem c_cw_mend {l : Launch} {E : xE} {N : Nat} (hG : xOk (GX E)) {l1 : Int32} {σ : xS} {r : Int32} {σ' : xS} (hf : cw_mend N l1 σ = some (r, σ')) : xMet l (GX E) yX9_mend cX9_mend 2 (some .int) (k2_rm 2 42) [.ref (E.2.2.1 0), .int l1] σ (some (.int r)) σ' := by
  refine x_met (own := RX9) (by decide +kernel) hG rfl (Nat.le_of_ble_eq_true rfl) (fun C hl hC => ?_)
  subst hl
  show xw C (GX E) 2 (xq C (GX E) (some (.int r)) σ') σ 0 [(0, .ref (E.2.2.1 0)), (1, .int l1)] []
  unfold cw_mend at hf
  refine xr_aload_n (pc' := 1) 0 hC dX9_mend_0 rfl rfl rfl ?_
  refine gX9_cw_pieces (pc' := 4) hC dX9_mend_1 rfl ?_
  refine xr_iload_n (pc' := 5) 1 hC dX9_mend_4 rfl rfl rfl ?_
  refine xr_callV (pc' := 8) (rmy := k2_rm 0 0) [.int l1] 6 hC dX9_mend_5 rfl kX9_169 rfl rfl rfl rfl rfl ⟨Nat.le_of_ble_eq_true rfl, Nat.le_of_ble_eq_true rfl⟩ rfl (Nat.le_of_ble_eq_true rfl) hf (fun _ _ h => c_pieces_has (xc_ok hC) h) (fun v1 σ2 hf => ?_)
  refine xr_if_eq (pc' := 11) 22 hC dX9_mend_8 rfl (by decide) hf (fun hf => ?_) (fun hf => ?_)
  · refine xr_iconst (pc' := 23) (-1 : Int32) hC dX9_mend_22 rfl (by decide) ?_
    exact xr_ireturn hC dX9_mend_23 hf
  refine xr_aload_n (pc' := 12) 0 hC dX9_mend_11 rfl rfl rfl ?_
  refine gX9_cw_pieces (pc' := 15) hC dX9_mend_12 rfl ?_
  refine xr_iload_n (pc' := 16) 1 hC dX9_mend_15 rfl rfl rfl ?_
  refine xr_callV (pc' := 19) (rmy := k2_rm 1 21) [.int l1] 6 hC dX9_mend_16 rfl kX9_172 rfl rfl rfl rfl rfl ⟨Nat.le_of_ble_eq_true rfl, Nat.le_of_ble_eq_true rfl⟩ rfl (Nat.le_of_ble_eq_true rfl) hf (fun _ _ h => c_pieces_mendOne (xc_ok hC) h) (fun v3 σ4 hf => ?_)
  refine xr_goto 23 hC dX9_mend_19 (by decide) ?_
  exact xr_ireturn hC dX9_mend_23 hf

set_option maxRecDepth 100000 in
set_option maxHeartbeats 4000000 in
theorem c_pieces_pourAndMendOne {l : Launch} {E : xE} {N : Nat} (hG : xOk (GX E)) {l1 l2 : Int32} {σ : xS} {r : Int32} {σ' : xS} (hf : pieces_pourAndMendOne N l1 l2 σ = some (r, σ')) : xMet l (GX E) yX6_pourAndMendOne cX6_pourAndMendOne 7 (some .int) (k2_rm 3 55) [.ref (E.2.2.1 6), .int l1, .int l2] σ (some (.int r)) σ' := by
  refine x_met (own := RX6) (by decide +kernel) hG rfl (Nat.le_of_ble_eq_true rfl) (fun C hl hC => ?_)
  subst hl
  show xw C (GX E) 7 (xq C (GX E) (some (.int r)) σ') σ 0 [(0, .ref (E.2.2.1 6)), (1, .int l1), (2, .int l2)] []
  unfold pieces_pourAndMendOne at hf
  refine xr_aload_n (pc' := 1) 0 hC dX6_pourAndMendOne_0 rfl rfl rfl ?_
  refine xr_iload_n (pc' := 2) 1 hC dX6_pourAndMendOne_1 rfl rfl rfl ?_
  refine xr_callV (pc' := 5) (rmy := k2_rm 2 34) [.int l1] 6 hC dX6_pourAndMendOne_2 rfl kX6_67 rfl rfl rfl rfl rfl ⟨Nat.le_of_ble_eq_true rfl, Nat.le_of_ble_eq_true rfl⟩ rfl (Nat.le_of_ble_eq_true rfl) hf (fun _ _ h => c_pieces_leftOn (xc_ok hC) h) (fun v1 σ2 hf => ?_)
  refine xr_istore_n (pc' := 6) (lv' := [(0, .ref (E.2.2.1 6)), (1, .int l1), (2, .int l2), (3, .int v1)]) hC dX6_pourAndMendOne_5 rfl rfl (by decide) [1, 2, 3, 0] rfl ?_
  refine xr_iload_n (pc' := 7) 2 hC dX6_pourAndMendOne_6 rfl rfl rfl ?_
  refine xr_iload_n (pc' := 8) 3 hC dX6_pourAndMendOne_7 rfl rfl rfl ?_
  refine xr_icmp_gt (pc' := 11) 23 hC dX6_pourAndMendOne_8 rfl (by decide) hf (fun hf => ?_) (fun hf => ?_)
  · refine xr_iconst (pc' := 24) (1 : Int32) hC dX6_pourAndMendOne_23 rfl (by decide) ?_
    refine xr_aload_n (pc' := 25) 0 hC dX6_pourAndMendOne_24 rfl rfl rfl ?_
    refine xr_iload_n (pc' := 26) 1 hC dX6_pourAndMendOne_25 rfl rfl rfl ?_
    refine xr_callV (pc' := 29) (rmy := k2_rm 1 13) [.int l1] 6 hC dX6_pourAndMendOne_26 rfl kX6_64 rfl rfl rfl rfl rfl ⟨Nat.le_of_ble_eq_true rfl, Nat.le_of_ble_eq_true rfl⟩ rfl (Nat.le_of_ble_eq_true rfl) hf (fun _ _ h => c_pieces_borneBy (xc_ok hC) h) (fun v3 σ4 hf => ?_)
    refine xr_mmax (pc' := 32) hC dX6_pourAndMendOne_29 rfl kX6_79 (Nat.le_of_ble_eq_true rfl) (Nat.le_of_ble_eq_true rfl) ?_
    refine xr_top (x := xmax (1 : Int32) v3) hf (fun v5 hf => ?_)
    refine xr_istore (pc' := 34) (lv' := [(0, .ref (E.2.2.1 6)), (1, .int l1), (2, .int l2), (3, .int v1), (4, .int v5)]) hC dX6_pourAndMendOne_32 rfl (by decide) [1, 2, 3, 4, 0] rfl ?_
    refine xr_iload_n (pc' := 35) 2 hC dX6_pourAndMendOne_34 rfl rfl rfl ?_
    refine xr_iload_n (pc' := 36) 3 hC dX6_pourAndMendOne_35 rfl rfl rfl ?_
    refine xr_isub (pc' := 37) hC dX6_pourAndMendOne_36 rfl ?_
    refine xr_istoreb (pc' := 39) hC dX6_pourAndMendOne_37 rfl hf (by decide) [1, 2, 3, 4, 5, 0] (fun l5_6 => [(0, .ref (E.2.2.1 6)), (1, .int l1), (2, .int l2), (3, .int v1), (4, .int v5), (5, .int l5_6)]) (fun _ => rfl) (fun l5_6 hf => ?_)
    refine xr_iload (pc' := 41) 5 hC dX6_pourAndMendOne_39 rfl rfl ?_
    refine xr_iload (pc' := 43) 4 hC dX6_pourAndMendOne_41 rfl rfl ?_
    refine xr_iadd (pc' := 44) hC dX6_pourAndMendOne_43 rfl ?_
    refine xr_iconst (pc' := 45) (1 : Int32) hC dX6_pourAndMendOne_44 rfl (by decide) ?_
    refine xr_isub (pc' := 46) hC dX6_pourAndMendOne_45 rfl ?_
    refine xr_iload (pc' := 48) 4 hC dX6_pourAndMendOne_46 rfl rfl ?_
    refine xr_idiv (pc' := 49) hC dX6_pourAndMendOne_48 rfl hf (fun hf => ?_)
    refine xr_istoreb (pc' := 51) hC dX6_pourAndMendOne_49 rfl hf (by decide) [1, 2, 3, 4, 5, 6, 0] (fun l6_7 => [(0, .ref (E.2.2.1 6)), (1, .int l1), (2, .int l2), (3, .int v1), (4, .int v5), (5, .int l5_6), (6, .int l6_7)]) (fun _ => rfl) (fun l6_7 hf => ?_)
    refine xr_aload_n (pc' := 52) 0 hC dX6_pourAndMendOne_51 rfl rfl rfl ?_
    refine gX6_pieces_poured (pc' := 55) hC dX6_pourAndMendOne_52 rfl ?_
    refine xr_iload_n (pc' := 56) 1 hC dX6_pourAndMendOne_55 rfl rfl rfl ?_
    refine xr_iload (pc' := 58) 5 hC dX6_pourAndMendOne_56 rfl rfl ?_
    refine xr_iload (pc' := 60) 6 hC dX6_pourAndMendOne_58 rfl rfl ?_
    refine xr_iconst (pc' := 61) (1 : Int32) hC dX6_pourAndMendOne_60 rfl (by decide) ?_
    refine xr_isub (pc' := 62) hC dX6_pourAndMendOne_61 rfl ?_
    refine xr_iload (pc' := 64) 4 hC dX6_pourAndMendOne_62 rfl rfl ?_
    refine xr_imul (pc' := 65) hC dX6_pourAndMendOne_64 rfl ?_
    refine xr_isub (pc' := 66) hC dX6_pourAndMendOne_65 rfl ?_
    refine sX_11 (pc' := 67) hC dX6_pourAndMendOne_66 rfl hf (fun σ8 hf => ?_)
    refine xr_iload (pc' := 69) 6 hC dX6_pourAndMendOne_67 rfl rfl ?_
    refine xr_aload_n (pc' := 70) 0 hC dX6_pourAndMendOne_69 rfl rfl rfl ?_
    refine gX6_pieces_sizes (pc' := 73) hC dX6_pourAndMendOne_70 rfl ?_
    refine xr_iload_n (pc' := 74) 1 hC dX6_pourAndMendOne_73 rfl rfl rfl ?_
    refine lX_9 (pc' := 75) hC dX6_pourAndMendOne_74 rfl hf (fun v9 hf => ?_)
    refine xr_imul (pc' := 76) hC dX6_pourAndMendOne_75 rfl ?_
    refine xr_aload_n (pc' := 77) 0 hC dX6_pourAndMendOne_76 rfl rfl rfl ?_
    refine gX6_pieces_price (pc' := 80) hC dX6_pourAndMendOne_77 rfl ?_
    refine xr_imul (pc' := 81) hC dX6_pourAndMendOne_80 rfl ?_
    exact xr_ireturn hC dX6_pourAndMendOne_81 hf
  refine xr_aload_n (pc' := 12) 0 hC dX6_pourAndMendOne_11 rfl rfl rfl ?_
  refine gX6_pieces_poured (pc' := 15) hC dX6_pourAndMendOne_12 rfl ?_
  refine xr_iload_n (pc' := 16) 1 hC dX6_pourAndMendOne_15 rfl rfl rfl ?_
  refine xr_dup2 (pc' := 17) hC dX6_pourAndMendOne_16 rfl rfl rfl ?_
  refine lX_11 (pc' := 18) hC dX6_pourAndMendOne_17 rfl hf (fun v10 hf => ?_)
  refine xr_iload_n (pc' := 19) 2 hC dX6_pourAndMendOne_18 rfl rfl rfl ?_
  refine xr_iadd (pc' := 20) hC dX6_pourAndMendOne_19 rfl ?_
  refine sX_11 (pc' := 21) hC dX6_pourAndMendOne_20 rfl hf (fun σ11 hf => ?_)
  refine xr_iconst (pc' := 22) (0 : Int32) hC dX6_pourAndMendOne_21 rfl (by decide) ?_
  exact xr_ireturn hC dX6_pourAndMendOne_22 hf

set_option maxRecDepth 100000 in
set_option maxHeartbeats 4000000 in
theorem w_pieces_pourAndMend_b4 {C : xT} {E : xE} {N : Nat} {r : Int32} {σ' : xS} (hC : xc C (GX E) RX6 cX6_pourAndMend 4 (some .int) (k2_rm 4 81)) : ∀ (n : Nat) (l1 l2 l3 : Int32) (σ : xS), pieces_pourAndMend_b4 N n l1 l2 l3 σ = some (r, σ') → xw C (GX E) 4 (xq C (GX E) (some (.int r)) σ') σ 4 [(0, .ref (E.2.2.1 6)), (1, .int l1), (2, .int l2), (3, .int l3)] [] := by
  intro n
  induction n with
  | zero =>
    intro l1 l2 l3 σ hf
    rw [pieces_pourAndMend_b4] at hf
    cases hf
  | succ n ih =>
    intro l1 l2 l3 σ hf
    rw [pieces_pourAndMend_b4] at hf
    refine xr_iload_n (pc' := 5) 3 hC dX6_pourAndMend_4 rfl rfl rfl ?_
    refine xr_aload_n (pc' := 6) 0 hC dX6_pourAndMend_5 rfl rfl rfl ?_
    refine gX6_pieces_length (pc' := 9) hC dX6_pourAndMend_6 rfl ?_
    refine xr_icmp_ge (pc' := 12) 27 hC dX6_pourAndMend_9 rfl (by decide) hf (fun hf => ?_) (fun hf => ?_)
    · refine xr_iload_n (pc' := 28) 2 hC dX6_pourAndMend_27 rfl rfl rfl ?_
      exact xr_ireturn hC dX6_pourAndMend_28 hf
    refine xr_iload_n (pc' := 13) 2 hC dX6_pourAndMend_12 rfl rfl rfl ?_
    refine xr_aload_n (pc' := 14) 0 hC dX6_pourAndMend_13 rfl rfl rfl ?_
    refine xr_iload_n (pc' := 15) 3 hC dX6_pourAndMend_14 rfl rfl rfl ?_
    refine xr_iload_n (pc' := 16) 1 hC dX6_pourAndMend_15 rfl rfl rfl ?_
    refine xr_callV (pc' := 19) (rmy := k2_rm 3 55) [.int l3, .int l1] 6 hC dX6_pourAndMend_16 rfl kX6_76 rfl rfl rfl rfl rfl ⟨Nat.le_of_ble_eq_true rfl, Nat.le_of_ble_eq_true rfl⟩ rfl (Nat.le_of_ble_eq_true rfl) hf (fun _ _ h => c_pieces_pourAndMendOne (xc_ok hC) h) (fun v1 σ2 hf => ?_)
    refine xr_iadd (pc' := 20) hC dX6_pourAndMend_19 rfl ?_
    refine xr_istoreb_n (pc' := 21) hC dX6_pourAndMend_20 rfl hf rfl (by decide) [1, 2, 0, 3] (fun l2_3 => [(0, .ref (E.2.2.1 6)), (1, .int l1), (2, .int l2_3), (3, .int l3)]) (fun _ => rfl) (fun l2_3 hf => ?_)
    refine xr_iinc (pc' := 24) hC dX6_pourAndMend_21 rfl _ rfl hf 3 rfl (by decide) [1, 2, 3, 0] (fun l3_4 => [(0, .ref (E.2.2.1 6)), (1, .int l1), (2, .int l2_3), (3, .int l3_4)]) (fun _ => rfl) (fun l3_4 hf => ?_)
    refine xr_goto 4 hC dX6_pourAndMend_24 (by decide) ?_
    exact ih _ _ _ _ hf

set_option maxRecDepth 100000 in
set_option maxHeartbeats 4000000 in
theorem c_pieces_pourAndMend {l : Launch} {E : xE} {N : Nat} (hG : xOk (GX E)) {l1 : Int32} {σ : xS} {r : Int32} {σ' : xS} (hf : pieces_pourAndMend N l1 σ = some (r, σ')) : xMet l (GX E) yX6_pourAndMend cX6_pourAndMend 4 (some .int) (k2_rm 4 81) [.ref (E.2.2.1 6), .int l1] σ (some (.int r)) σ' := by
  refine x_met (own := RX6) (by decide +kernel) hG rfl (Nat.le_of_ble_eq_true rfl) (fun C hl hC => ?_)
  subst hl
  show xw C (GX E) 4 (xq C (GX E) (some (.int r)) σ') σ 0 [(0, .ref (E.2.2.1 6)), (1, .int l1)] []
  unfold pieces_pourAndMend at hf
  refine xr_iconst (pc' := 1) (0 : Int32) hC dX6_pourAndMend_0 rfl (by decide) ?_
  refine xr_istore_n (pc' := 2) (lv' := [(0, .ref (E.2.2.1 6)), (1, .int l1), (2, .int (0 : Int32))]) hC dX6_pourAndMend_1 rfl rfl (by decide) [1, 2, 0] rfl ?_
  refine xr_iconst (pc' := 3) (0 : Int32) hC dX6_pourAndMend_2 rfl (by decide) ?_
  refine xr_istore_n (pc' := 4) (lv' := [(0, .ref (E.2.2.1 6)), (1, .int l1), (2, .int (0 : Int32)), (3, .int (0 : Int32))]) hC dX6_pourAndMend_3 rfl rfl (by decide) [1, 2, 3, 0] rfl ?_
  exact w_pieces_pourAndMend_b4 hC N _ _ _ _ hf

set_option maxRecDepth 100000 in
set_option maxHeartbeats 4000000 in
theorem c_cw_run {l : Launch} {E : xE} {N : Nat} (hG : xOk (GX E)) {l1 : Int32} {σ : xS} {r : Int32} {σ' : xS} (hf : cw_run N l1 σ = some (r, σ')) : xMet l (GX E) yX9_run cX9_run 2 (some .int) (k2_rm 5 104) [.ref (E.2.2.1 0), .int l1] σ (some (.int r)) σ' := by
  refine x_met (own := RX9) (by decide +kernel) hG rfl (Nat.le_of_ble_eq_true rfl) (fun C hl hC => ?_)
  subst hl
  show xw C (GX E) 2 (xq C (GX E) (some (.int r)) σ') σ 0 [(0, .ref (E.2.2.1 0)), (1, .int l1)] []
  unfold cw_run at hf
  refine xr_aload_n (pc' := 1) 0 hC dX9_run_0 rfl rfl rfl ?_
  refine gX9_cw_pieces (pc' := 4) hC dX9_run_1 rfl ?_
  refine xr_iload_n (pc' := 5) 1 hC dX9_run_4 rfl rfl rfl ?_
  refine xr_callV (pc' := 8) (rmy := k2_rm 0 0) [.int l1] 6 hC dX9_run_5 rfl kX9_163 rfl rfl rfl rfl rfl ⟨Nat.le_of_ble_eq_true rfl, Nat.le_of_ble_eq_true rfl⟩ rfl (Nat.le_of_ble_eq_true rfl) hf (fun _ _ h => c_pieces_canPour (xc_ok hC) h) (fun v1 σ2 hf => ?_)
  refine xr_if_eq (pc' := 11) 22 hC dX9_run_8 rfl (by decide) hf (fun hf => ?_) (fun hf => ?_)
  · refine xr_iconst (pc' := 23) (-1 : Int32) hC dX9_run_22 rfl (by decide) ?_
    exact xr_ireturn hC dX9_run_23 hf
  refine xr_aload_n (pc' := 12) 0 hC dX9_run_11 rfl rfl rfl ?_
  refine gX9_cw_pieces (pc' := 15) hC dX9_run_12 rfl ?_
  refine xr_iload_n (pc' := 16) 1 hC dX9_run_15 rfl rfl rfl ?_
  refine xr_callV (pc' := 19) (rmy := k2_rm 4 81) [.int l1] 6 hC dX9_run_16 rfl kX9_175 rfl rfl rfl rfl rfl ⟨Nat.le_of_ble_eq_true rfl, Nat.le_of_ble_eq_true rfl⟩ rfl (Nat.le_of_ble_eq_true rfl) hf (fun _ _ h => c_pieces_pourAndMend (xc_ok hC) h) (fun v3 σ4 hf => ?_)
  refine xr_goto 23 hC dX9_run_19 (by decide) ?_
  exact xr_ireturn hC dX9_run_23 hf

set_option maxRecDepth 100000 in
set_option maxHeartbeats 4000000 in
theorem c_orders_setDry {l : Launch} {E : xE} {N : Nat} (hG : xOk (GX E)) {l1 : Int32} {σ : xS} {r : Int32} {σ' : xS} (hf : orders_setDry N l1 σ = some (r, σ')) : xMet l (GX E) yX4_setDry cX4_setDry 3 (some .int) (k2_rm 0 0) [.ref (E.2.2.1 9), .int l1] σ (some (.int r)) σ' := by
  refine x_met (own := RX4) (by decide +kernel) hG rfl (Nat.le_of_ble_eq_true rfl) (fun C hl hC => ?_)
  subst hl
  show xw C (GX E) 3 (xq C (GX E) (some (.int r)) σ') σ 0 [(0, .ref (E.2.2.1 9)), (1, .int l1)] []
  unfold orders_setDry at hf
  refine xr_iload_n (pc' := 1) 1 hC dX4_setDry_0 rfl rfl rfl ?_
  refine xr_if_lt (pc' := 4) 10 hC dX4_setDry_1 rfl (by decide) hf (fun hf => ?_) (fun hf => ?_)
  · refine xr_iconst (pc' := 11) (-1 : Int32) hC dX4_setDry_10 rfl (by decide) ?_
    exact xr_ireturn hC dX4_setDry_11 hf
  refine xr_iload_n (pc' := 5) 1 hC dX4_setDry_4 rfl rfl rfl ?_
  refine xr_bipush (pc' := 7) (100 : Int32) hC dX4_setDry_5 rfl (by decide) ?_
  refine xr_icmp_le (pc' := 10) 12 hC dX4_setDry_7 rfl (by decide) hf (fun hf => ?_) (fun hf => ?_)
  · refine xr_aload_n (pc' := 13) 0 hC dX4_setDry_12 rfl rfl rfl ?_
    refine gX4_orders_dryDays (pc' := 16) hC dX4_setDry_13 rfl ?_
    refine xr_istoreb_n (pc' := 17) hC dX4_setDry_16 rfl hf rfl (by decide) [1, 2, 0] (fun l2_1 => [(0, .ref (E.2.2.1 9)), (1, .int l1), (2, .int l2_1)]) (fun _ => rfl) (fun l2_1 hf => ?_)
    refine xr_aload_n (pc' := 18) 0 hC dX4_setDry_17 rfl rfl rfl ?_
    refine xr_iload_n (pc' := 19) 1 hC dX4_setDry_18 rfl rfl rfl ?_
    refine pX4_orders_dryDays (pc' := 22) hC dX4_setDry_19 rfl hf (fun σ2 hf => ?_)
    refine xr_iload_n (pc' := 23) 2 hC dX4_setDry_22 rfl rfl rfl ?_
    exact xr_ireturn hC dX4_setDry_23 hf
  refine xr_iconst (pc' := 11) (-1 : Int32) hC dX4_setDry_10 rfl (by decide) ?_
  exact xr_ireturn hC dX4_setDry_11 hf

set_option maxRecDepth 100000 in
set_option maxHeartbeats 4000000 in
theorem c_cw_dry {l : Launch} {E : xE} {N : Nat} (hG : xOk (GX E)) {l1 : Int32} {σ : xS} {r : Int32} {σ' : xS} (hf : cw_dry N l1 σ = some (r, σ')) : xMet l (GX E) yX9_dry cX9_dry 2 (some .int) (k2_rm 1 22) [.ref (E.2.2.1 0), .int l1] σ (some (.int r)) σ' := by
  refine x_met (own := RX9) (by decide +kernel) hG rfl (Nat.le_of_ble_eq_true rfl) (fun C hl hC => ?_)
  subst hl
  show xw C (GX E) 2 (xq C (GX E) (some (.int r)) σ') σ 0 [(0, .ref (E.2.2.1 0)), (1, .int l1)] []
  unfold cw_dry at hf
  refine xr_aload_n (pc' := 1) 0 hC dX9_dry_0 rfl rfl rfl ?_
  refine gX9_cw_orders (pc' := 4) hC dX9_dry_1 rfl ?_
  refine xr_iload_n (pc' := 5) 1 hC dX9_dry_4 rfl rfl rfl ?_
  refine xr_callV (pc' := 8) (rmy := k2_rm 0 0) [.int l1] 9 hC dX9_dry_5 rfl kX9_178 rfl rfl rfl rfl rfl ⟨Nat.le_of_ble_eq_true rfl, Nat.le_of_ble_eq_true rfl⟩ rfl (Nat.le_of_ble_eq_true rfl) hf (fun _ _ h => c_orders_setDry (xc_ok hC) h) (fun v1 σ2 hf => ?_)
  exact xr_ireturn hC dX9_dry_8 hf

set_option maxRecDepth 100000 in
set_option maxHeartbeats 4000000 in
theorem w_orders_add_b43 {C : xT} {E : xE} {N : Nat} {r : Int32} {σ' : xS} (hC : xc C (GX E) RX4 cX4_add 6 (some .int) (k2_rm 0 0)) : ∀ (n : Nat) (l1 l2 l3 l4 l5 : Int32) (σ : xS), orders_add_b43 N n l1 l2 l3 l4 l5 σ = some (r, σ') → xw C (GX E) 6 (xq C (GX E) (some (.int r)) σ') σ 43 [(0, .ref (E.2.2.1 9)), (1, .int l1), (2, .int l2), (3, .int l3), (4, .int l4), (5, .int l5)] [] := by
  intro n
  induction n with
  | zero =>
    intro l1 l2 l3 l4 l5 σ hf
    rw [orders_add_b43] at hf
    cases hf
  | succ n ih =>
    intro l1 l2 l3 l4 l5 σ hf
    rw [orders_add_b43] at hf
    refine xr_iload (pc' := 45) 5 hC dX4_add_43 rfl rfl ?_
    refine xr_bipush (pc' := 47) (10 : Int32) hC dX4_add_45 rfl (by decide) ?_
    refine xr_icmp_ge (pc' := 50) 98 hC dX4_add_47 rfl (by decide) hf (fun hf => ?_) (fun hf => ?_)
    · refine xr_iconst (pc' := 99) (-1 : Int32) hC dX4_add_98 rfl (by decide) ?_
      exact xr_ireturn hC dX4_add_99 hf
    refine xr_iload (pc' := 52) 4 hC dX4_add_50 rfl rfl ?_
    refine xr_if_eq (pc' := 55) 98 hC dX4_add_52 rfl (by decide) hf (fun hf => ?_) (fun hf => ?_)
    · refine xr_iconst (pc' := 99) (-1 : Int32) hC dX4_add_98 rfl (by decide) ?_
      exact xr_ireturn hC dX4_add_99 hf
    refine xr_aload_n (pc' := 56) 0 hC dX4_add_55 rfl rfl rfl ?_
    refine gX4_orders_pours (pc' := 59) hC dX4_add_56 rfl ?_
    refine xr_iload (pc' := 61) 5 hC dX4_add_59 rfl rfl ?_
    refine lX_18 (pc' := 62) hC dX4_add_61 rfl hf (fun v1 hf => ?_)
    refine xr_if_ne (pc' := 65) 92 hC dX4_add_62 rfl (by decide) hf (fun hf => ?_) (fun hf => ?_)
    · refine xr_iinc (pc' := 95) hC dX4_add_92 rfl _ rfl hf 5 rfl (by decide) [1, 2, 3, 4, 5, 0] (fun l5_2 => [(0, .ref (E.2.2.1 9)), (1, .int l1), (2, .int l2), (3, .int l3), (4, .int l4), (5, .int l5_2)]) (fun _ => rfl) (fun l5_2 hf => ?_)
      refine xr_goto 43 hC dX4_add_95 (by decide) ?_
      exact ih _ _ _ _ _ _ hf
    refine xr_aload_n (pc' := 66) 0 hC dX4_add_65 rfl rfl rfl ?_
    refine gX4_orders_pours (pc' := 69) hC dX4_add_66 rfl ?_
    refine xr_iload (pc' := 71) 5 hC dX4_add_69 rfl rfl ?_
    refine xr_iload_n (pc' := 72) 1 hC dX4_add_71 rfl rfl rfl ?_
    refine sX_18 (pc' := 73) hC dX4_add_72 rfl hf (fun σ3 hf => ?_)
    refine xr_aload_n (pc' := 74) 0 hC dX4_add_73 rfl rfl rfl ?_
    refine gX4_orders_dues (pc' := 77) hC dX4_add_74 rfl ?_
    refine xr_iload (pc' := 79) 5 hC dX4_add_77 rfl rfl ?_
    refine xr_iload_n (pc' := 80) 2 hC dX4_add_79 rfl rfl rfl ?_
    refine sX_19 (pc' := 81) hC dX4_add_80 rfl hf (fun σ4 hf => ?_)
    refine xr_aload_n (pc' := 82) 0 hC dX4_add_81 rfl rfl rfl ?_
    refine gX4_orders_weights (pc' := 85) hC dX4_add_82 rfl ?_
    refine xr_iload (pc' := 87) 5 hC dX4_add_85 rfl rfl ?_
    refine xr_iload_n (pc' := 88) 3 hC dX4_add_87 rfl rfl rfl ?_
    refine sX_20 (pc' := 89) hC dX4_add_88 rfl hf (fun σ5 hf => ?_)
    refine xr_iload (pc' := 91) 5 hC dX4_add_89 rfl rfl ?_
    exact xr_ireturn hC dX4_add_91 hf

set_option maxRecDepth 100000 in
set_option maxHeartbeats 4000000 in
theorem c_orders_add {l : Launch} {E : xE} {N : Nat} (hG : xOk (GX E)) {l1 l2 l3 : Int32} {σ : xS} {r : Int32} {σ' : xS} (hf : orders_add N l1 l2 l3 σ = some (r, σ')) : xMet l (GX E) yX4_add cX4_add 6 (some .int) (k2_rm 0 0) [.ref (E.2.2.1 9), .int l1, .int l2, .int l3] σ (some (.int r)) σ' := by
  refine x_met (own := RX4) (by decide +kernel) hG rfl (Nat.le_of_ble_eq_true rfl) (fun C hl hC => ?_)
  subst hl
  show xw C (GX E) 6 (xq C (GX E) (some (.int r)) σ') σ 0 [(0, .ref (E.2.2.1 9)), (1, .int l1), (2, .int l2), (3, .int l3)] []
  unfold orders_add at hf
  refine xr_iload_n (pc' := 1) 1 hC dX4_add_0 rfl rfl rfl ?_
  refine xr_iconst (pc' := 2) (1 : Int32) hC dX4_add_1 rfl (by decide) ?_
  refine xr_icmp_lt (pc' := 5) 37 hC dX4_add_2 rfl (by decide) hf (fun hf => ?_) (fun hf => ?_)
  · refine xr_iconst (pc' := 38) (0 : Int32) hC dX4_add_37 rfl (by decide) ?_
    refine xr_istore (pc' := 40) (lv' := [(0, .ref (E.2.2.1 9)), (1, .int l1), (2, .int l2), (3, .int l3), (4, .int (0 : Int32))]) hC dX4_add_38 rfl (by decide) [1, 2, 3, 4, 0] rfl ?_
    refine xr_iconst (pc' := 41) (0 : Int32) hC dX4_add_40 rfl (by decide) ?_
    refine xr_istore (pc' := 43) (lv' := [(0, .ref (E.2.2.1 9)), (1, .int l1), (2, .int l2), (3, .int l3), (4, .int (0 : Int32)), (5, .int (0 : Int32))]) hC dX4_add_41 rfl (by decide) [1, 2, 3, 4, 5, 0] rfl ?_
    exact w_orders_add_b43 hC N _ _ _ _ _ _ hf
  refine xr_iload_n (pc' := 6) 1 hC dX4_add_5 rfl rfl rfl ?_
  refine xr_bipush (pc' := 8) (50 : Int32) hC dX4_add_6 rfl (by decide) ?_
  refine xr_icmp_gt (pc' := 11) 37 hC dX4_add_8 rfl (by decide) hf (fun hf => ?_) (fun hf => ?_)
  · refine xr_iconst (pc' := 38) (0 : Int32) hC dX4_add_37 rfl (by decide) ?_
    refine xr_istore (pc' := 40) (lv' := [(0, .ref (E.2.2.1 9)), (1, .int l1), (2, .int l2), (3, .int l3), (4, .int (0 : Int32))]) hC dX4_add_38 rfl (by decide) [1, 2, 3, 4, 0] rfl ?_
    refine xr_iconst (pc' := 41) (0 : Int32) hC dX4_add_40 rfl (by decide) ?_
    refine xr_istore (pc' := 43) (lv' := [(0, .ref (E.2.2.1 9)), (1, .int l1), (2, .int l2), (3, .int l3), (4, .int (0 : Int32)), (5, .int (0 : Int32))]) hC dX4_add_41 rfl (by decide) [1, 2, 3, 4, 5, 0] rfl ?_
    exact w_orders_add_b43 hC N _ _ _ _ _ _ hf
  refine xr_iload_n (pc' := 12) 2 hC dX4_add_11 rfl rfl rfl ?_
  refine xr_if_lt (pc' := 15) 37 hC dX4_add_12 rfl (by decide) hf (fun hf => ?_) (fun hf => ?_)
  · refine xr_iconst (pc' := 38) (0 : Int32) hC dX4_add_37 rfl (by decide) ?_
    refine xr_istore (pc' := 40) (lv' := [(0, .ref (E.2.2.1 9)), (1, .int l1), (2, .int l2), (3, .int l3), (4, .int (0 : Int32))]) hC dX4_add_38 rfl (by decide) [1, 2, 3, 4, 0] rfl ?_
    refine xr_iconst (pc' := 41) (0 : Int32) hC dX4_add_40 rfl (by decide) ?_
    refine xr_istore (pc' := 43) (lv' := [(0, .ref (E.2.2.1 9)), (1, .int l1), (2, .int l2), (3, .int l3), (4, .int (0 : Int32)), (5, .int (0 : Int32))]) hC dX4_add_41 rfl (by decide) [1, 2, 3, 4, 5, 0] rfl ?_
    exact w_orders_add_b43 hC N _ _ _ _ _ _ hf
  refine xr_iload_n (pc' := 16) 2 hC dX4_add_15 rfl rfl rfl ?_
  refine xr_sipush (pc' := 19) (1000 : Int32) hC dX4_add_16 rfl (by decide) ?_
  refine xr_icmp_gt (pc' := 22) 37 hC dX4_add_19 rfl (by decide) hf (fun hf => ?_) (fun hf => ?_)
  · refine xr_iconst (pc' := 38) (0 : Int32) hC dX4_add_37 rfl (by decide) ?_
    refine xr_istore (pc' := 40) (lv' := [(0, .ref (E.2.2.1 9)), (1, .int l1), (2, .int l2), (3, .int l3), (4, .int (0 : Int32))]) hC dX4_add_38 rfl (by decide) [1, 2, 3, 4, 0] rfl ?_
    refine xr_iconst (pc' := 41) (0 : Int32) hC dX4_add_40 rfl (by decide) ?_
    refine xr_istore (pc' := 43) (lv' := [(0, .ref (E.2.2.1 9)), (1, .int l1), (2, .int l2), (3, .int l3), (4, .int (0 : Int32)), (5, .int (0 : Int32))]) hC dX4_add_41 rfl (by decide) [1, 2, 3, 4, 5, 0] rfl ?_
    exact w_orders_add_b43 hC N _ _ _ _ _ _ hf
  refine xr_iload_n (pc' := 23) 3 hC dX4_add_22 rfl rfl rfl ?_
  refine xr_iconst (pc' := 24) (1 : Int32) hC dX4_add_23 rfl (by decide) ?_
  refine xr_icmp_lt (pc' := 27) 37 hC dX4_add_24 rfl (by decide) hf (fun hf => ?_) (fun hf => ?_)
  · refine xr_iconst (pc' := 38) (0 : Int32) hC dX4_add_37 rfl (by decide) ?_
    refine xr_istore (pc' := 40) (lv' := [(0, .ref (E.2.2.1 9)), (1, .int l1), (2, .int l2), (3, .int l3), (4, .int (0 : Int32))]) hC dX4_add_38 rfl (by decide) [1, 2, 3, 4, 0] rfl ?_
    refine xr_iconst (pc' := 41) (0 : Int32) hC dX4_add_40 rfl (by decide) ?_
    refine xr_istore (pc' := 43) (lv' := [(0, .ref (E.2.2.1 9)), (1, .int l1), (2, .int l2), (3, .int l3), (4, .int (0 : Int32)), (5, .int (0 : Int32))]) hC dX4_add_41 rfl (by decide) [1, 2, 3, 4, 5, 0] rfl ?_
    exact w_orders_add_b43 hC N _ _ _ _ _ _ hf
  refine xr_iload_n (pc' := 28) 3 hC dX4_add_27 rfl rfl rfl ?_
  refine xr_bipush (pc' := 30) (100 : Int32) hC dX4_add_28 rfl (by decide) ?_
  refine xr_icmp_gt (pc' := 33) 37 hC dX4_add_30 rfl (by decide) hf (fun hf => ?_) (fun hf => ?_)
  · refine xr_iconst (pc' := 38) (0 : Int32) hC dX4_add_37 rfl (by decide) ?_
    refine xr_istore (pc' := 40) (lv' := [(0, .ref (E.2.2.1 9)), (1, .int l1), (2, .int l2), (3, .int l3), (4, .int (0 : Int32))]) hC dX4_add_38 rfl (by decide) [1, 2, 3, 4, 0] rfl ?_
    refine xr_iconst (pc' := 41) (0 : Int32) hC dX4_add_40 rfl (by decide) ?_
    refine xr_istore (pc' := 43) (lv' := [(0, .ref (E.2.2.1 9)), (1, .int l1), (2, .int l2), (3, .int l3), (4, .int (0 : Int32)), (5, .int (0 : Int32))]) hC dX4_add_41 rfl (by decide) [1, 2, 3, 4, 5, 0] rfl ?_
    exact w_orders_add_b43 hC N _ _ _ _ _ _ hf
  refine xr_iconst (pc' := 34) (1 : Int32) hC dX4_add_33 rfl (by decide) ?_
  refine xr_goto 38 hC dX4_add_34 (by decide) ?_
  refine xr_istore (pc' := 40) (lv' := [(0, .ref (E.2.2.1 9)), (1, .int l1), (2, .int l2), (3, .int l3), (4, .int (1 : Int32))]) hC dX4_add_38 rfl (by decide) [1, 2, 3, 4, 0] rfl ?_
  refine xr_iconst (pc' := 41) (0 : Int32) hC dX4_add_40 rfl (by decide) ?_
  refine xr_istore (pc' := 43) (lv' := [(0, .ref (E.2.2.1 9)), (1, .int l1), (2, .int l2), (3, .int l3), (4, .int (1 : Int32)), (5, .int (0 : Int32))]) hC dX4_add_41 rfl (by decide) [1, 2, 3, 4, 5, 0] rfl ?_
  exact w_orders_add_b43 hC N _ _ _ _ _ _ hf

set_option maxRecDepth 100000 in
set_option maxHeartbeats 4000000 in
theorem c_cw_order {l : Launch} {E : xE} {N : Nat} (hG : xOk (GX E)) {l1 l2 l3 : Int32} {σ : xS} {r : Int32} {σ' : xS} (hf : cw_order N l1 l2 l3 σ = some (r, σ')) : xMet l (GX E) yX9_order cX9_order 4 (some .int) (k2_rm 1 25) [.ref (E.2.2.1 0), .int l1, .int l2, .int l3] σ (some (.int r)) σ' := by
  refine x_met (own := RX9) (by decide +kernel) hG rfl (Nat.le_of_ble_eq_true rfl) (fun C hl hC => ?_)
  subst hl
  show xw C (GX E) 4 (xq C (GX E) (some (.int r)) σ') σ 0 [(0, .ref (E.2.2.1 0)), (1, .int l1), (2, .int l2), (3, .int l3)] []
  unfold cw_order at hf
  refine xr_aload_n (pc' := 1) 0 hC dX9_order_0 rfl rfl rfl ?_
  refine gX9_cw_orders (pc' := 4) hC dX9_order_1 rfl ?_
  refine xr_iload_n (pc' := 5) 1 hC dX9_order_4 rfl rfl rfl ?_
  refine xr_iload_n (pc' := 6) 2 hC dX9_order_5 rfl rfl rfl ?_
  refine xr_iload_n (pc' := 7) 3 hC dX9_order_6 rfl rfl rfl ?_
  refine xr_callV (pc' := 10) (rmy := k2_rm 0 0) [.int l1, .int l2, .int l3] 9 hC dX9_order_7 rfl kX9_181 rfl rfl rfl rfl rfl ⟨Nat.le_of_ble_eq_true rfl, Nat.le_of_ble_eq_true rfl⟩ rfl (Nat.le_of_ble_eq_true rfl) hf (fun _ _ h => c_orders_add (xc_ok hC) h) (fun v1 σ2 hf => ?_)
  exact xr_ireturn hC dX9_order_10 hf

set_option maxRecDepth 100000 in
set_option maxHeartbeats 4000000 in
theorem c_orders_remove {l : Launch} {E : xE} {N : Nat} (hG : xOk (GX E)) {l1 : Int32} {σ : xS} {r : Int32} {σ' : xS} (hf : orders_remove N l1 σ = some (r, σ')) : xMet l (GX E) yX4_remove cX4_remove 2 (some .boolean) (k2_rm 0 0) [.ref (E.2.2.1 9), .int l1] σ (some (.int r)) σ' := by
  refine x_met (own := RX4) (by decide +kernel) hG rfl (Nat.le_of_ble_eq_true rfl) (fun C hl hC => ?_)
  subst hl
  show xw C (GX E) 2 (xq C (GX E) (some (.int r)) σ') σ 0 [(0, .ref (E.2.2.1 9)), (1, .int l1)] []
  unfold orders_remove at hf
  refine xr_iload_n (pc' := 1) 1 hC dX4_remove_0 rfl rfl rfl ?_
  refine xr_if_lt (pc' := 4) 19 hC dX4_remove_1 rfl (by decide) hf (fun hf => ?_) (fun hf => ?_)
  · refine xr_iconst (pc' := 20) (0 : Int32) hC dX4_remove_19 rfl (by decide) ?_
    exact xr_zreturn hC dX4_remove_20 rfl hf
  refine xr_iload_n (pc' := 5) 1 hC dX4_remove_4 rfl rfl rfl ?_
  refine xr_bipush (pc' := 7) (10 : Int32) hC dX4_remove_5 rfl (by decide) ?_
  refine xr_icmp_ge (pc' := 10) 19 hC dX4_remove_7 rfl (by decide) hf (fun hf => ?_) (fun hf => ?_)
  · refine xr_iconst (pc' := 20) (0 : Int32) hC dX4_remove_19 rfl (by decide) ?_
    exact xr_zreturn hC dX4_remove_20 rfl hf
  refine xr_aload_n (pc' := 11) 0 hC dX4_remove_10 rfl rfl rfl ?_
  refine gX4_orders_pours (pc' := 14) hC dX4_remove_11 rfl ?_
  refine xr_iload_n (pc' := 15) 1 hC dX4_remove_14 rfl rfl rfl ?_
  refine lX_18 (pc' := 16) hC dX4_remove_15 rfl hf (fun v1 hf => ?_)
  refine xr_if_ne (pc' := 19) 21 hC dX4_remove_16 rfl (by decide) hf (fun hf => ?_) (fun hf => ?_)
  · refine xr_aload_n (pc' := 22) 0 hC dX4_remove_21 rfl rfl rfl ?_
    refine gX4_orders_pours (pc' := 25) hC dX4_remove_22 rfl ?_
    refine xr_iload_n (pc' := 26) 1 hC dX4_remove_25 rfl rfl rfl ?_
    refine xr_iconst (pc' := 27) (0 : Int32) hC dX4_remove_26 rfl (by decide) ?_
    refine sX_18 (pc' := 28) hC dX4_remove_27 rfl hf (fun σ2 hf => ?_)
    refine xr_iconst (pc' := 29) (1 : Int32) hC dX4_remove_28 rfl (by decide) ?_
    exact xr_zreturn hC dX4_remove_29 rfl hf
  refine xr_iconst (pc' := 20) (0 : Int32) hC dX4_remove_19 rfl (by decide) ?_
  exact xr_zreturn hC dX4_remove_20 rfl hf

set_option maxRecDepth 100000 in
set_option maxHeartbeats 4000000 in
theorem c_cw_cancel {l : Launch} {E : xE} {N : Nat} (hG : xOk (GX E)) {l1 : Int32} {σ : xS} {r : Int32} {σ' : xS} (hf : cw_cancel N l1 σ = some (r, σ')) : xMet l (GX E) yX9_cancel cX9_cancel 2 (some .boolean) (k2_rm 1 21) [.ref (E.2.2.1 0), .int l1] σ (some (.int r)) σ' := by
  refine x_met (own := RX9) (by decide +kernel) hG rfl (Nat.le_of_ble_eq_true rfl) (fun C hl hC => ?_)
  subst hl
  show xw C (GX E) 2 (xq C (GX E) (some (.int r)) σ') σ 0 [(0, .ref (E.2.2.1 0)), (1, .int l1)] []
  unfold cw_cancel at hf
  refine xr_aload_n (pc' := 1) 0 hC dX9_cancel_0 rfl rfl rfl ?_
  refine gX9_cw_orders (pc' := 4) hC dX9_cancel_1 rfl ?_
  refine xr_iload_n (pc' := 5) 1 hC dX9_cancel_4 rfl rfl rfl ?_
  refine xr_callV (pc' := 8) (rmy := k2_rm 0 0) [.int l1] 9 hC dX9_cancel_5 rfl kX9_184 rfl rfl rfl rfl rfl ⟨Nat.le_of_ble_eq_true rfl, Nat.le_of_ble_eq_true rfl⟩ rfl (Nat.le_of_ble_eq_true rfl) hf (fun _ _ h => c_orders_remove (xc_ok hC) h) (fun v1 σ2 hf => ?_)
  exact xr_breturn hC dX9_cancel_8 hf

set_option maxRecDepth 100000 in
set_option maxHeartbeats 4000000 in
theorem w_orders_allOrders_b4 {C : xT} {E : xE} {N : Nat} {r : Int32} {σ' : xS} (hC : xc C (GX E) RX4 cX4_allOrders 3 (some .int) (k2_rm 0 0)) : ∀ (n : Nat) (l1 l2 : Int32) (σ : xS), orders_allOrders_b4 N n l1 l2 σ = some (r, σ') → xw C (GX E) 3 (xq C (GX E) (some (.int r)) σ') σ 4 [(0, .ref (E.2.2.1 9)), (1, .int l1), (2, .int l2)] [] := by
  intro n
  induction n with
  | zero =>
    intro l1 l2 σ hf
    rw [orders_allOrders_b4] at hf
    cases hf
  | succ n ih =>
    intro l1 l2 σ hf
    rw [orders_allOrders_b4] at hf
    refine xr_iload_n (pc' := 5) 2 hC dX4_allOrders_4 rfl rfl rfl ?_
    refine xr_bipush (pc' := 7) (10 : Int32) hC dX4_allOrders_5 rfl (by decide) ?_
    refine xr_icmp_ge (pc' := 10) 35 hC dX4_allOrders_7 rfl (by decide) hf (fun hf => ?_) (fun hf => ?_)
    · refine xr_iload_n (pc' := 36) 1 hC dX4_allOrders_35 rfl rfl rfl ?_
      exact xr_ireturn hC dX4_allOrders_36 hf
    refine xr_iload_n (pc' := 11) 1 hC dX4_allOrders_10 rfl rfl rfl ?_
    refine xr_aload_n (pc' := 12) 0 hC dX4_allOrders_11 rfl rfl rfl ?_
    refine gX4_orders_pours (pc' := 15) hC dX4_allOrders_12 rfl ?_
    refine xr_iload_n (pc' := 16) 2 hC dX4_allOrders_15 rfl rfl rfl ?_
    refine lX_18 (pc' := 17) hC dX4_allOrders_16 rfl hf (fun v1 hf => ?_)
    refine xr_if_le (pc' := 20) 26 hC dX4_allOrders_17 rfl (by decide) hf (fun hf => ?_) (fun hf => ?_)
    · refine xr_iconst (pc' := 27) (0 : Int32) hC dX4_allOrders_26 rfl (by decide) ?_
      refine xr_ior (pc' := 28) hC dX4_allOrders_27 rfl ?_
      refine xr_istoreb_n (pc' := 29) hC dX4_allOrders_28 rfl hf rfl (by decide) [1, 0, 2] (fun l1_2 => [(0, .ref (E.2.2.1 9)), (1, .int l1_2), (2, .int l2)]) (fun _ => rfl) (fun l1_2 hf => ?_)
      refine xr_iinc (pc' := 32) hC dX4_allOrders_29 rfl _ rfl hf 2 rfl (by decide) [1, 2, 0] (fun l2_3 => [(0, .ref (E.2.2.1 9)), (1, .int l1_2), (2, .int l2_3)]) (fun _ => rfl) (fun l2_3 hf => ?_)
      refine xr_goto 4 hC dX4_allOrders_32 (by decide) ?_
      exact ih _ _ _ hf
    refine xr_iconst (pc' := 21) (1 : Int32) hC dX4_allOrders_20 rfl (by decide) ?_
    refine xr_iload_n (pc' := 22) 2 hC dX4_allOrders_21 rfl rfl rfl ?_
    refine xr_ishl (pc' := 23) hC dX4_allOrders_22 rfl ?_
    refine xr_goto 27 hC dX4_allOrders_23 (by decide) ?_
    refine xr_ior (pc' := 28) hC dX4_allOrders_27 rfl ?_
    refine xr_istoreb_n (pc' := 29) hC dX4_allOrders_28 rfl hf rfl (by decide) [1, 0, 2] (fun l1_4 => [(0, .ref (E.2.2.1 9)), (1, .int l1_4), (2, .int l2)]) (fun _ => rfl) (fun l1_4 hf => ?_)
    refine xr_iinc (pc' := 32) hC dX4_allOrders_29 rfl _ rfl hf 2 rfl (by decide) [1, 2, 0] (fun l2_5 => [(0, .ref (E.2.2.1 9)), (1, .int l1_4), (2, .int l2_5)]) (fun _ => rfl) (fun l2_5 hf => ?_)
    refine xr_goto 4 hC dX4_allOrders_32 (by decide) ?_
    exact ih _ _ _ hf

set_option maxRecDepth 100000 in
set_option maxHeartbeats 4000000 in
theorem c_orders_allOrders {l : Launch} {E : xE} {N : Nat} (hG : xOk (GX E)) {σ : xS} {r : Int32} {σ' : xS} (hf : orders_allOrders N σ = some (r, σ')) : xMet l (GX E) yX4_allOrders cX4_allOrders 3 (some .int) (k2_rm 0 0) [.ref (E.2.2.1 9)] σ (some (.int r)) σ' := by
  refine x_met (own := RX4) (by decide +kernel) hG rfl (Nat.le_of_ble_eq_true rfl) (fun C hl hC => ?_)
  subst hl
  show xw C (GX E) 3 (xq C (GX E) (some (.int r)) σ') σ 0 [(0, .ref (E.2.2.1 9))] []
  unfold orders_allOrders at hf
  refine xr_iconst (pc' := 1) (0 : Int32) hC dX4_allOrders_0 rfl (by decide) ?_
  refine xr_istore_n (pc' := 2) (lv' := [(0, .ref (E.2.2.1 9)), (1, .int (0 : Int32))]) hC dX4_allOrders_1 rfl rfl (by decide) [1, 0] rfl ?_
  refine xr_iconst (pc' := 3) (0 : Int32) hC dX4_allOrders_2 rfl (by decide) ?_
  refine xr_istore_n (pc' := 4) (lv' := [(0, .ref (E.2.2.1 9)), (1, .int (0 : Int32)), (2, .int (0 : Int32))]) hC dX4_allOrders_3 rfl rfl (by decide) [1, 2, 0] rfl ?_
  exact w_orders_allOrders_b4 hC N _ _ _ hf

set_option maxRecDepth 100000 in
set_option maxHeartbeats 4000000 in
theorem w_orders_poursOf_b4 {C : xT} {E : xE} {N : Nat} {r : Int32} {σ' : xS} (hC : xc C (GX E) RX4 cX4_poursOf 4 (some .int) (k2_rm 0 0)) : ∀ (n : Nat) (l1 l2 l3 : Int32) (σ : xS), orders_poursOf_b4 N n l1 l2 l3 σ = some (r, σ') → xw C (GX E) 4 (xq C (GX E) (some (.int r)) σ') σ 4 [(0, .ref (E.2.2.1 9)), (1, .int l1), (2, .int l2), (3, .int l3)] [] := by
  intro n
  induction n with
  | zero =>
    intro l1 l2 l3 σ hf
    rw [orders_poursOf_b4] at hf
    cases hf
  | succ n ih =>
    intro l1 l2 l3 σ hf
    rw [orders_poursOf_b4] at hf
    refine xr_iload_n (pc' := 5) 3 hC dX4_poursOf_4 rfl rfl rfl ?_
    refine xr_bipush (pc' := 7) (10 : Int32) hC dX4_poursOf_5 rfl (by decide) ?_
    refine xr_icmp_ge (pc' := 10) 31 hC dX4_poursOf_7 rfl (by decide) hf (fun hf => ?_) (fun hf => ?_)
    · refine xr_iload_n (pc' := 32) 2 hC dX4_poursOf_31 rfl rfl rfl ?_
      exact xr_ireturn hC dX4_poursOf_32 hf
    refine xr_iload_n (pc' := 11) 2 hC dX4_poursOf_10 rfl rfl rfl ?_
    refine xr_iload_n (pc' := 12) 1 hC dX4_poursOf_11 rfl rfl rfl ?_
    refine xr_iload_n (pc' := 13) 3 hC dX4_poursOf_12 rfl rfl rfl ?_
    refine xr_ishr (pc' := 14) hC dX4_poursOf_13 rfl ?_
    refine xr_iconst (pc' := 15) (1 : Int32) hC dX4_poursOf_14 rfl (by decide) ?_
    refine xr_iand (pc' := 16) hC dX4_poursOf_15 rfl ?_
    refine xr_aload_n (pc' := 17) 0 hC dX4_poursOf_16 rfl rfl rfl ?_
    refine gX4_orders_pours (pc' := 20) hC dX4_poursOf_17 rfl ?_
    refine xr_iload_n (pc' := 21) 3 hC dX4_poursOf_20 rfl rfl rfl ?_
    refine lX_18 (pc' := 22) hC dX4_poursOf_21 rfl hf (fun v1 hf => ?_)
    refine xr_imul (pc' := 23) hC dX4_poursOf_22 rfl ?_
    refine xr_iadd (pc' := 24) hC dX4_poursOf_23 rfl ?_
    refine xr_istoreb_n (pc' := 25) hC dX4_poursOf_24 rfl hf rfl (by decide) [1, 2, 0, 3] (fun l2_2 => [(0, .ref (E.2.2.1 9)), (1, .int l1), (2, .int l2_2), (3, .int l3)]) (fun _ => rfl) (fun l2_2 hf => ?_)
    refine xr_iinc (pc' := 28) hC dX4_poursOf_25 rfl _ rfl hf 3 rfl (by decide) [1, 2, 3, 0] (fun l3_3 => [(0, .ref (E.2.2.1 9)), (1, .int l1), (2, .int l2_2), (3, .int l3_3)]) (fun _ => rfl) (fun l3_3 hf => ?_)
    refine xr_goto 4 hC dX4_poursOf_28 (by decide) ?_
    exact ih _ _ _ _ hf

set_option maxRecDepth 100000 in
set_option maxHeartbeats 4000000 in
theorem c_orders_poursOf {l : Launch} {E : xE} {N : Nat} (hG : xOk (GX E)) {l1 : Int32} {σ : xS} {r : Int32} {σ' : xS} (hf : orders_poursOf N l1 σ = some (r, σ')) : xMet l (GX E) yX4_poursOf cX4_poursOf 4 (some .int) (k2_rm 0 0) [.ref (E.2.2.1 9), .int l1] σ (some (.int r)) σ' := by
  refine x_met (own := RX4) (by decide +kernel) hG rfl (Nat.le_of_ble_eq_true rfl) (fun C hl hC => ?_)
  subst hl
  show xw C (GX E) 4 (xq C (GX E) (some (.int r)) σ') σ 0 [(0, .ref (E.2.2.1 9)), (1, .int l1)] []
  unfold orders_poursOf at hf
  refine xr_iconst (pc' := 1) (0 : Int32) hC dX4_poursOf_0 rfl (by decide) ?_
  refine xr_istore_n (pc' := 2) (lv' := [(0, .ref (E.2.2.1 9)), (1, .int l1), (2, .int (0 : Int32))]) hC dX4_poursOf_1 rfl rfl (by decide) [1, 2, 0] rfl ?_
  refine xr_iconst (pc' := 3) (0 : Int32) hC dX4_poursOf_2 rfl (by decide) ?_
  refine xr_istore_n (pc' := 4) (lv' := [(0, .ref (E.2.2.1 9)), (1, .int l1), (2, .int (0 : Int32)), (3, .int (0 : Int32))]) hC dX4_poursOf_3 rfl rfl (by decide) [1, 2, 3, 0] rfl ?_
  exact w_orders_poursOf_b4 hC N _ _ _ _ hf

set_option maxRecDepth 100000 in
set_option maxHeartbeats 4000000 in
theorem c_orders_latenessOf {l : Launch} {E : xE} {N : Nat} (hG : xOk (GX E)) {l1 l2 : Int32} {σ : xS} {r : Int32} {σ' : xS} (hf : orders_latenessOf N l1 l2 σ = some (r, σ')) : xMet l (GX E) yX4_latenessOf cX4_latenessOf 3 (some .int) (k2_rm 1 13) [.ref (E.2.2.1 9), .int l1, .int l2] σ (some (.int r)) σ' := by
  refine x_met (own := RX4) (by decide +kernel) hG rfl (Nat.le_of_ble_eq_true rfl) (fun C hl hC => ?_)
  subst hl
  show xw C (GX E) 3 (xq C (GX E) (some (.int r)) σ') σ 0 [(0, .ref (E.2.2.1 9)), (1, .int l1), (2, .int l2)] []
  unfold orders_latenessOf at hf
  refine xr_iconst (pc' := 1) (0 : Int32) hC dX4_latenessOf_0 rfl (by decide) ?_
  refine xr_iload_n (pc' := 2) 2 hC dX4_latenessOf_1 rfl rfl rfl ?_
  refine xr_aload_n (pc' := 3) 0 hC dX4_latenessOf_2 rfl rfl rfl ?_
  refine gX4_orders_pours (pc' := 6) hC dX4_latenessOf_3 rfl ?_
  refine xr_iload_n (pc' := 7) 1 hC dX4_latenessOf_6 rfl rfl rfl ?_
  refine lX_18 (pc' := 8) hC dX4_latenessOf_7 rfl hf (fun v1 hf => ?_)
  refine xr_iadd (pc' := 9) hC dX4_latenessOf_8 rfl ?_
  refine xr_aload_n (pc' := 10) 0 hC dX4_latenessOf_9 rfl rfl rfl ?_
  refine gX4_orders_dryDays (pc' := 13) hC dX4_latenessOf_10 rfl ?_
  refine xr_iadd (pc' := 14) hC dX4_latenessOf_13 rfl ?_
  refine xr_aload_n (pc' := 15) 0 hC dX4_latenessOf_14 rfl rfl rfl ?_
  refine gX4_orders_dues (pc' := 18) hC dX4_latenessOf_15 rfl ?_
  refine xr_iload_n (pc' := 19) 1 hC dX4_latenessOf_18 rfl rfl rfl ?_
  refine lX_19 (pc' := 20) hC dX4_latenessOf_19 rfl hf (fun v2 hf => ?_)
  refine xr_isub (pc' := 21) hC dX4_latenessOf_20 rfl ?_
  refine xr_mmax (pc' := 24) hC dX4_latenessOf_21 rfl kX4_61 (Nat.le_of_ble_eq_true rfl) (Nat.le_of_ble_eq_true rfl) ?_
  refine xr_top (x := xmax (0 : Int32) (((l2 + v1) + (σ.1 15)) - v2)) hf (fun v3 hf => ?_)
  exact xr_ireturn hC dX4_latenessOf_24 hf

set_option maxRecDepth 100000 in
set_option maxHeartbeats 4000000 in
theorem w_orders_keepRow_b12 {C : xT} {E : xE} {N : Nat} {r : Int32} {σ' : xS} (hC : xc C (GX E) RX4 cX4_keepRow 6 none (k2_rm 2 35)) : ∀ (n : Nat) (l2 l3 l4 : Int32) (σ : xS), orders_keepRow_b12 N n l2 l3 l4 σ = some (r, σ') → xw C (GX E) 6 (xq C (GX E) none σ') σ 12 [(0, .ref (E.2.2.1 9)), (2, .int l2), (3, .int l3), (4, .int l4)] [] := by
  intro n
  induction n with
  | zero =>
    intro l2 l3 l4 σ hf
    rw [orders_keepRow_b12] at hf
    cases hf
  | succ n ih =>
    intro l2 l3 l4 σ hf
    rw [orders_keepRow_b12] at hf
    refine xr_iload (pc' := 14) 3 hC dX4_keepRow_12 rfl rfl ?_
    refine xr_bipush (pc' := 16) (10 : Int32) hC dX4_keepRow_14 rfl (by decide) ?_
    refine xr_icmp_ge (pc' := 19) 87 hC dX4_keepRow_16 rfl (by decide) hf (fun hf => ?_) (fun hf => ?_)
    · exact xr_return hC dX4_keepRow_87 hf
    refine xr_iload_n (pc' := 20) 1 hC dX4_keepRow_19 rfl rfl rfl ?_
    refine xr_if_eq (pc' := 23) 87 hC dX4_keepRow_20 rfl (by decide) hf (fun hf => ?_) (fun hf => ?_)
    · exact xr_return hC dX4_keepRow_87 hf
    refine xr_aload_n (pc' := 24) 0 hC dX4_keepRow_23 rfl rfl rfl ?_
    refine gX4_orders_leader (pc' := 27) hC dX4_keepRow_24 rfl ?_
    refine xr_iload_n (pc' := 28) 1 hC dX4_keepRow_27 rfl rfl rfl ?_
    refine lX_22 (pc' := 29) hC dX4_keepRow_28 rfl hf (fun v2 hf => ?_)
    refine xr_istore (pc' := 31) (lv' := [(0, .ref (E.2.2.1 9)), (2, .int l2), (3, .int l3), (4, .int l4), (5, .int v2)]) hC dX4_keepRow_29 rfl (by decide) [1, 2, 3, 4, 0] rfl ?_
    refine xr_aload_n (pc' := 32) 0 hC dX4_keepRow_31 rfl rfl rfl ?_
    refine gX4_orders_rowOrders (pc' := 35) hC dX4_keepRow_32 rfl ?_
    refine xr_iload (pc' := 37) 3 hC dX4_keepRow_35 rfl rfl ?_
    refine xr_iload (pc' := 39) 4 hC dX4_keepRow_37 rfl rfl ?_
    refine sX_23 (pc' := 40) hC dX4_keepRow_39 rfl hf (fun σ3 hf => ?_)
    refine xr_aload_n (pc' := 41) 0 hC dX4_keepRow_40 rfl rfl rfl ?_
    refine gX4_orders_rowLate (pc' := 44) hC dX4_keepRow_41 rfl ?_
    refine xr_iload (pc' := 46) 3 hC dX4_keepRow_44 rfl rfl ?_
    refine xr_aload_n (pc' := 47) 0 hC dX4_keepRow_46 rfl rfl rfl ?_
    refine xr_iload (pc' := 49) 4 hC dX4_keepRow_47 rfl rfl ?_
    refine xr_iload_n (pc' := 50) 2 hC dX4_keepRow_49 rfl rfl rfl ?_
    refine xr_callV (pc' := 53) (rmy := k2_rm 1 13) [.int v2, .int l3] 9 hC dX4_keepRow_50 rfl kX4_57 rfl rfl rfl rfl rfl ⟨Nat.le_of_ble_eq_true rfl, Nat.le_of_ble_eq_true rfl⟩ rfl (Nat.le_of_ble_eq_true rfl) hf (fun _ _ h => c_orders_latenessOf (xc_ok hC) h) (fun v4 σ5 hf => ?_)
    refine sX_24 (pc' := 54) hC dX4_keepRow_53 rfl hf (fun σ6 hf => ?_)
    refine xr_aload_n (pc' := 55) 0 hC dX4_keepRow_54 rfl rfl rfl ?_
    refine xr_iload (pc' := 57) 3 hC dX4_keepRow_55 rfl rfl ?_
    refine xr_iconst (pc' := 58) (1 : Int32) hC dX4_keepRow_57 rfl (by decide) ?_
    refine xr_iadd (pc' := 59) hC dX4_keepRow_58 rfl ?_
    refine pX4_orders_rowLength (pc' := 62) hC dX4_keepRow_59 rfl hf (fun σ7 hf => ?_)
    refine xr_iload_n (pc' := 63) 2 hC dX4_keepRow_62 rfl rfl rfl ?_
    refine xr_aload_n (pc' := 64) 0 hC dX4_keepRow_63 rfl rfl rfl ?_
    refine gX4_orders_pours (pc' := 67) hC dX4_keepRow_64 rfl ?_
    refine xr_iload (pc' := 69) 4 hC dX4_keepRow_67 rfl rfl ?_
    refine lX_18 (pc' := 70) hC dX4_keepRow_69 rfl hf (fun v8 hf => ?_)
    refine xr_iadd (pc' := 71) hC dX4_keepRow_70 rfl ?_
    refine xr_istoreb_n (pc' := 72) hC dX4_keepRow_71 rfl hf rfl (by decide) [1, 2, 0, 3, 4] (fun l3_9 => [(0, .ref (E.2.2.1 9)), (2, .int l2), (3, .int l3_9), (4, .int l4), (5, .int v2)]) (fun _ => rfl) (fun l3_9 hf => ?_)
    refine xr_iload_n (pc' := 73) 1 hC dX4_keepRow_72 rfl rfl rfl ?_
    refine xr_iconst (pc' := 74) (1 : Int32) hC dX4_keepRow_73 rfl (by decide) ?_
    refine xr_iload (pc' := 76) 4 hC dX4_keepRow_74 rfl rfl ?_
    refine xr_ishl (pc' := 77) hC dX4_keepRow_76 rfl ?_
    refine xr_iconst (pc' := 78) (-1 : Int32) hC dX4_keepRow_77 rfl (by decide) ?_
    refine xr_ixor (pc' := 79) hC dX4_keepRow_78 rfl ?_
    refine xr_iand (pc' := 80) hC dX4_keepRow_79 rfl ?_
    refine xr_istoreb_n (pc' := 81) hC dX4_keepRow_80 rfl hf rfl (by decide) [1, 0, 2, 3, 4] (fun l2_10 => [(0, .ref (E.2.2.1 9)), (2, .int l2_10), (3, .int l3_9), (4, .int l4), (5, .int v2)]) (fun _ => rfl) (fun l2_10 hf => ?_)
    refine xr_iinc (pc' := 84) hC dX4_keepRow_81 rfl _ rfl hf 3 rfl (by decide) [1, 2, 3, 0, 4] (fun l4_11 => [(0, .ref (E.2.2.1 9)), (2, .int l2_10), (3, .int l3_9), (4, .int l4_11), (5, .int v2)]) (fun _ => rfl) (fun l4_11 hf => ?_)
    refine xr_goto 12 hC dX4_keepRow_84 (by decide) ?_
    refine x_lv [0, 1, 2, 3] rfl ?_
    exact ih _ _ _ _ hf

set_option maxRecDepth 100000 in
set_option maxHeartbeats 4000000 in
theorem c_orders_keepRow {l : Launch} {E : xE} {N : Nat} (hG : xOk (GX E)) {l1 : Int32} {σ : xS} {r : Int32} {σ' : xS} (hf : orders_keepRow N l1 σ = some (r, σ')) : xMet l (GX E) yX4_keepRow cX4_keepRow 6 none (k2_rm 2 35) [.ref (E.2.2.1 9), .int l1] σ none σ' := by
  refine x_met (own := RX4) (by decide +kernel) hG rfl (Nat.le_of_ble_eq_true rfl) (fun C hl hC => ?_)
  subst hl
  show xw C (GX E) 6 (xq C (GX E) none σ') σ 0 [(0, .ref (E.2.2.1 9)), (1, .int l1)] []
  unfold orders_keepRow at hf
  refine xr_iload_n (pc' := 1) 1 hC dX4_keepRow_0 rfl rfl rfl ?_
  refine xr_istore_n (pc' := 2) (lv' := [(0, .ref (E.2.2.1 9)), (1, .int l1), (2, .int l1)]) hC dX4_keepRow_1 rfl rfl (by decide) [1, 2, 0] rfl ?_
  refine xr_iconst (pc' := 3) (0 : Int32) hC dX4_keepRow_2 rfl (by decide) ?_
  refine xr_istore_n (pc' := 4) (lv' := [(0, .ref (E.2.2.1 9)), (1, .int l1), (2, .int l1), (3, .int (0 : Int32))]) hC dX4_keepRow_3 rfl rfl (by decide) [1, 2, 3, 0] rfl ?_
  refine xr_aload_n (pc' := 5) 0 hC dX4_keepRow_4 rfl rfl rfl ?_
  refine xr_iconst (pc' := 6) (0 : Int32) hC dX4_keepRow_5 rfl (by decide) ?_
  refine pX4_orders_rowLength (pc' := 9) hC dX4_keepRow_6 rfl hf (fun σ1 hf => ?_)
  refine xr_iconst (pc' := 10) (0 : Int32) hC dX4_keepRow_9 rfl (by decide) ?_
  refine xr_istore (pc' := 12) (lv' := [(0, .ref (E.2.2.1 9)), (1, .int l1), (2, .int l1), (3, .int (0 : Int32)), (4, .int (0 : Int32))]) hC dX4_keepRow_10 rfl (by decide) [1, 2, 3, 4, 0] rfl ?_
  refine x_lv [0, 2, 3, 4] rfl ?_
  exact w_orders_keepRow_b12 hC N _ _ _ _ hf

set_option maxRecDepth 100000 in
set_option maxHeartbeats 4000000 in
theorem w_orders_weighSet_b10 {C : xT} {E : xE} {N : Nat} {r : Int32} {σ' : xS} (hC : xc C (GX E) RX4 cX4_weighSet 6 none (k2_rm 2 35)) : ∀ (n : Nat) (l1 l2 l3 : Int32) (σ : xS), orders_weighSet_b10 N n l1 l2 l3 σ = some (r, σ') → xw C (GX E) 6 (xq C (GX E) none σ') σ 10 [(0, .ref (E.2.2.1 9)), (1, .int l1), (2, .int l2), (3, .int l3)] [] := by
  intro n
  induction n with
  | zero =>
    intro l1 l2 l3 σ hf
    rw [orders_weighSet_b10] at hf
    cases hf
  | succ n ih =>
    intro l1 l2 l3 σ hf
    rw [orders_weighSet_b10] at hf
    refine xr_iload_n (pc' := 11) 3 hC dX4_weighSet_10 rfl rfl rfl ?_
    refine xr_bipush (pc' := 13) (10 : Int32) hC dX4_weighSet_11 rfl (by decide) ?_
    refine xr_icmp_ge (pc' := 16) 86 hC dX4_weighSet_13 rfl (by decide) hf (fun hf => ?_) (fun hf => ?_)
    · exact xr_return hC dX4_weighSet_86 hf
    refine xr_iload_n (pc' := 17) 1 hC dX4_weighSet_16 rfl rfl rfl ?_
    refine xr_iconst (pc' := 18) (1 : Int32) hC dX4_weighSet_17 rfl (by decide) ?_
    refine xr_iload_n (pc' := 19) 3 hC dX4_weighSet_18 rfl rfl rfl ?_
    refine xr_ishl (pc' := 20) hC dX4_weighSet_19 rfl ?_
    refine xr_iconst (pc' := 21) (-1 : Int32) hC dX4_weighSet_20 rfl (by decide) ?_
    refine xr_ixor (pc' := 22) hC dX4_weighSet_21 rfl ?_
    refine xr_iand (pc' := 23) hC dX4_weighSet_22 rfl ?_
    refine xr_istoreb (pc' := 25) hC dX4_weighSet_23 rfl hf (by decide) [1, 2, 3, 4, 0] (fun l4_2 => [(0, .ref (E.2.2.1 9)), (1, .int l1), (2, .int l2), (3, .int l3), (4, .int l4_2)]) (fun _ => rfl) (fun l4_2 hf => ?_)
    refine xr_iload (pc' := 27) 4 hC dX4_weighSet_25 rfl rfl ?_
    refine xr_iload_n (pc' := 28) 1 hC dX4_weighSet_27 rfl rfl rfl ?_
    refine xr_icmp_eq (pc' := 31) 80 hC dX4_weighSet_28 rfl (by decide) hf (fun hf => ?_) (fun hf => ?_)
    · refine xr_iinc (pc' := 83) hC dX4_weighSet_80 rfl _ rfl hf 3 rfl (by decide) [1, 2, 3, 0, 4] (fun l3_3 => [(0, .ref (E.2.2.1 9)), (1, .int l1), (2, .int l2), (3, .int l3_3), (4, .int l4_2)]) (fun _ => rfl) (fun l3_3 hf => ?_)
      refine xr_goto 10 hC dX4_weighSet_83 (by decide) ?_
      refine x_lv [0, 1, 2, 3] rfl ?_
      exact ih _ _ _ _ hf
    refine xr_aload_n (pc' := 32) 0 hC dX4_weighSet_31 rfl rfl rfl ?_
    refine gX4_orders_weights (pc' := 35) hC dX4_weighSet_32 rfl ?_
    refine xr_iload_n (pc' := 36) 3 hC dX4_weighSet_35 rfl rfl rfl ?_
    refine lX_20 (pc' := 37) hC dX4_weighSet_36 rfl hf (fun v4 hf => ?_)
    refine xr_aload_n (pc' := 38) 0 hC dX4_weighSet_37 rfl rfl rfl ?_
    refine xr_iload_n (pc' := 39) 3 hC dX4_weighSet_38 rfl rfl rfl ?_
    refine xr_iload_n (pc' := 40) 2 hC dX4_weighSet_39 rfl rfl rfl ?_
    refine xr_callV (pc' := 43) (rmy := k2_rm 1 13) [.int l3, .int l2] 9 hC dX4_weighSet_40 rfl kX4_57 rfl rfl rfl rfl rfl ⟨Nat.le_of_ble_eq_true rfl, Nat.le_of_ble_eq_true rfl⟩ rfl (Nat.le_of_ble_eq_true rfl) hf (fun _ _ h => c_orders_latenessOf (xc_ok hC) h) (fun v5 σ6 hf => ?_)
    refine xr_imul (pc' := 44) hC dX4_weighSet_43 rfl ?_
    refine xr_aload_n (pc' := 45) 0 hC dX4_weighSet_44 rfl rfl rfl ?_
    refine gX4_orders_leastSum (pc' := 48) hC dX4_weighSet_45 rfl ?_
    refine xr_iload (pc' := 50) 4 hC dX4_weighSet_48 rfl rfl ?_
    refine lX_21 (pc' := 51) hC dX4_weighSet_50 rfl hf (fun v7 hf => ?_)
    refine xr_iadd (pc' := 52) hC dX4_weighSet_51 rfl ?_
    refine xr_istoreb (pc' := 54) hC dX4_weighSet_52 rfl hf (by decide) [1, 2, 3, 4, 5, 0] (fun l5_8 => [(0, .ref (E.2.2.1 9)), (1, .int l1), (2, .int l2), (3, .int l3), (4, .int l4_2), (5, .int l5_8)]) (fun _ => rfl) (fun l5_8 hf => ?_)
    refine xr_iload (pc' := 56) 5 hC dX4_weighSet_54 rfl rfl ?_
    refine xr_aload_n (pc' := 57) 0 hC dX4_weighSet_56 rfl rfl rfl ?_
    refine gX4_orders_leastSum (pc' := 60) hC dX4_weighSet_57 rfl ?_
    refine xr_iload_n (pc' := 61) 1 hC dX4_weighSet_60 rfl rfl rfl ?_
    refine lX_21 (pc' := 62) hC dX4_weighSet_61 rfl hf (fun v9 hf => ?_)
    refine xr_icmp_ge (pc' := 65) 80 hC dX4_weighSet_62 rfl (by decide) hf (fun hf => ?_) (fun hf => ?_)
    · refine xr_iinc (pc' := 83) hC dX4_weighSet_80 rfl _ rfl hf 3 rfl (by decide) [1, 2, 3, 0, 4, 5] (fun l3_10 => [(0, .ref (E.2.2.1 9)), (1, .int l1), (2, .int l2), (3, .int l3_10), (4, .int l4_2), (5, .int l5_8)]) (fun _ => rfl) (fun l3_10 hf => ?_)
      refine xr_goto 10 hC dX4_weighSet_83 (by decide) ?_
      refine x_lv [0, 1, 2, 3] rfl ?_
      exact ih _ _ _ _ hf
    refine xr_aload_n (pc' := 66) 0 hC dX4_weighSet_65 rfl rfl rfl ?_
    refine gX4_orders_leastSum (pc' := 69) hC dX4_weighSet_66 rfl ?_
    refine xr_iload_n (pc' := 70) 1 hC dX4_weighSet_69 rfl rfl rfl ?_
    refine xr_iload (pc' := 72) 5 hC dX4_weighSet_70 rfl rfl ?_
    refine sX_21 (pc' := 73) hC dX4_weighSet_72 rfl hf (fun σ11 hf => ?_)
    refine xr_aload_n (pc' := 74) 0 hC dX4_weighSet_73 rfl rfl rfl ?_
    refine gX4_orders_leader (pc' := 77) hC dX4_weighSet_74 rfl ?_
    refine xr_iload_n (pc' := 78) 1 hC dX4_weighSet_77 rfl rfl rfl ?_
    refine xr_iload_n (pc' := 79) 3 hC dX4_weighSet_78 rfl rfl rfl ?_
    refine sX_22 (pc' := 80) hC dX4_weighSet_79 rfl hf (fun σ12 hf => ?_)
    refine xr_iinc (pc' := 83) hC dX4_weighSet_80 rfl _ rfl hf 3 rfl (by decide) [1, 2, 3, 0, 4, 5] (fun l3_13 => [(0, .ref (E.2.2.1 9)), (1, .int l1), (2, .int l2), (3, .int l3_13), (4, .int l4_2), (5, .int l5_8)]) (fun _ => rfl) (fun l3_13 hf => ?_)
    refine xr_goto 10 hC dX4_weighSet_83 (by decide) ?_
    refine x_lv [0, 1, 2, 3] rfl ?_
    exact ih _ _ _ _ hf

set_option maxRecDepth 100000 in
set_option maxHeartbeats 4000000 in
theorem c_orders_weighSet {l : Launch} {E : xE} {N : Nat} (hG : xOk (GX E)) {l1 l2 : Int32} {σ : xS} {r : Int32} {σ' : xS} (hf : orders_weighSet N l1 l2 σ = some (r, σ')) : xMet l (GX E) yX4_weighSet cX4_weighSet 6 none (k2_rm 2 35) [.ref (E.2.2.1 9), .int l1, .int l2] σ none σ' := by
  refine x_met (own := RX4) (by decide +kernel) hG rfl (Nat.le_of_ble_eq_true rfl) (fun C hl hC => ?_)
  subst hl
  show xw C (GX E) 6 (xq C (GX E) none σ') σ 0 [(0, .ref (E.2.2.1 9)), (1, .int l1), (2, .int l2)] []
  unfold orders_weighSet at hf
  refine xr_aload_n (pc' := 1) 0 hC dX4_weighSet_0 rfl rfl rfl ?_
  refine gX4_orders_leastSum (pc' := 4) hC dX4_weighSet_1 rfl ?_
  refine xr_iload_n (pc' := 5) 1 hC dX4_weighSet_4 rfl rfl rfl ?_
  refine xr_ldc (pc' := 7) (1000000 : Int32) hC dX4_weighSet_5 rfl qX4_56 ?_
  refine sX_21 (pc' := 8) hC dX4_weighSet_7 rfl hf (fun σ1 hf => ?_)
  refine xr_iconst (pc' := 9) (0 : Int32) hC dX4_weighSet_8 rfl (by decide) ?_
  refine xr_istore_n (pc' := 10) (lv' := [(0, .ref (E.2.2.1 9)), (1, .int l1), (2, .int l2), (3, .int (0 : Int32))]) hC dX4_weighSet_9 rfl rfl (by decide) [1, 2, 3, 0] rfl ?_
  exact w_orders_weighSet_b10 hC N _ _ _ _ hf

