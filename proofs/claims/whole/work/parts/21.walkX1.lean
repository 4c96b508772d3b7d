set_option maxRecDepth 100000 in
set_option maxHeartbeats 4000000 in
theorem c_reader_readTurn {l : Launch} {E : xE} {N : Nat} (hG : xOk (GX E)) {l2 : Int32} {σ : xS} {r : Int32} {σ' : xS} (hf : reader_readTurn N l2 σ = some (r, σ')) : xMet l (GX E) yX8_readTurn cX8_readTurn 3 none (k2_rm 3 71) [.ref (E.2.2.1 2), .ref (E.2.2.1 4), .int l2] σ none σ' := by
  refine x_met (own := RX8) (by decide +kernel) hG rfl (Nat.le_of_ble_eq_true rfl) (fun C hl hC => ?_)
  subst hl
  show xw C (GX E) 3 (xq C (GX E) none σ') σ 0 [(0, .ref (E.2.2.1 2)), (1, .ref (E.2.2.1 4)), (2, .int l2)] []
  unfold reader_readTurn at hf
  refine xr_aload_n (pc' := 1) 1 hC dX8_readTurn_0 rfl rfl rfl ?_
  refine xr_callV (pc' := 4) (rmy := k2_rm 0 0) [] 4 hC dX8_readTurn_1 rfl kX8_91 rfl rfl rfl rfl rfl ⟨Nat.le_of_ble_eq_true rfl, Nat.le_of_ble_eq_true rfl⟩ rfl (Nat.le_of_ble_eq_true rfl) hf (fun _ _ h => c_draft_canTurn (xc_ok hC) h) (fun v1 σ2 hf => ?_)
  refine xr_if_ne (pc' := 7) 13 hC dX8_readTurn_4 rfl (by decide) hf (fun hf => ?_) (fun hf => ?_)
  · refine xr_aload_n (pc' := 14) 0 hC dX8_readTurn_13 rfl rfl rfl ?_
    refine xr_callVv (pc' := 17) (rmy := k2_rm 2 41) [] 2 hC dX8_readTurn_14 rfl kX8_72 rfl rfl rfl rfl rfl ⟨Nat.le_of_ble_eq_true rfl, Nat.le_of_ble_eq_true rfl⟩ rfl (Nat.le_of_ble_eq_true rfl) hf (fun _ _ h => c_reader_readSemicolon (xc_ok hC) h) (fun v3 σ4 hf => ?_)
    refine xr_aload_n (pc' := 18) 0 hC dX8_readTurn_17 rfl rfl rfl ?_
    refine gX8_reader_kind (pc' := 21) hC dX8_readTurn_18 rfl ?_
    refine xr_if_ne (pc' := 24) 28 hC dX8_readTurn_21 rfl (by decide) hf (fun hf => ?_) (fun hf => ?_)
    · exact xr_return hC dX8_readTurn_28 hf
    refine xr_aload_n (pc' := 25) 1 hC dX8_readTurn_24 rfl rfl rfl ?_
    refine xr_callVv (pc' := 28) (rmy := k2_rm 2 48) [] 4 hC dX8_readTurn_25 rfl kX8_95 rfl rfl rfl rfl rfl ⟨Nat.le_of_ble_eq_true rfl, Nat.le_of_ble_eq_true rfl⟩ rfl (Nat.le_of_ble_eq_true rfl) hf (fun _ _ h => c_draft_turnOnce (xc_ok hC) h) (fun v5 σ6 hf => ?_)
    exact xr_return hC dX8_readTurn_28 hf
  refine xr_aload_n (pc' := 8) 0 hC dX8_readTurn_7 rfl rfl rfl ?_
  refine xr_iconst (pc' := 9) (2 : Int32) hC dX8_readTurn_8 rfl (by decide) ?_
  refine xr_iload_n (pc' := 10) 2 hC dX8_readTurn_9 rfl rfl rfl ?_
  refine xr_callVv (pc' := 13) (rmy := k2_rm 0 0) [.int (2 : Int32), .int l2] 2 hC dX8_readTurn_10 rfl kX8_64 rfl rfl rfl rfl rfl ⟨Nat.le_of_ble_eq_true rfl, Nat.le_of_ble_eq_true rfl⟩ rfl (Nat.le_of_ble_eq_true rfl) hf (fun _ _ h => c_reader_refuse (xc_ok hC) h) (fun v7 σ8 hf => ?_)
  refine xr_aload_n (pc' := 14) 0 hC dX8_readTurn_13 rfl rfl rfl ?_
  refine xr_callVv (pc' := 17) (rmy := k2_rm 2 41) [] 2 hC dX8_readTurn_14 rfl kX8_72 rfl rfl rfl rfl rfl ⟨Nat.le_of_ble_eq_true rfl, Nat.le_of_ble_eq_true rfl⟩ rfl (Nat.le_of_ble_eq_true rfl) hf (fun _ _ h => c_reader_readSemicolon (xc_ok hC) h) (fun v9 σ10 hf => ?_)
  refine xr_aload_n (pc' := 18) 0 hC dX8_readTurn_17 rfl rfl rfl ?_
  refine gX8_reader_kind (pc' := 21) hC dX8_readTurn_18 rfl ?_
  refine xr_if_ne (pc' := 24) 28 hC dX8_readTurn_21 rfl (by decide) hf (fun hf => ?_) (fun hf => ?_)
  · exact xr_return hC dX8_readTurn_28 hf
  refine xr_aload_n (pc' := 25) 1 hC dX8_readTurn_24 rfl rfl rfl ?_
  refine xr_callVv (pc' := 28) (rmy := k2_rm 2 48) [] 4 hC dX8_readTurn_25 rfl kX8_95 rfl rfl rfl rfl rfl ⟨Nat.le_of_ble_eq_true rfl, Nat.le_of_ble_eq_true rfl⟩ rfl (Nat.le_of_ble_eq_true rfl) hf (fun _ _ h => c_draft_turnOnce (xc_ok hC) h) (fun v11 σ12 hf => ?_)
  exact xr_return hC dX8_readTurn_28 hf

set_option maxRecDepth 100000 in
set_option maxHeartbeats 4000000 in
theorem c_reader_takeAxis {l : Launch} {E : xE} {N : Nat} (hG : xOk (GX E)) {σ : xS} {r : Int32} {σ' : xS} (hf : reader_takeAxis N σ = some (r, σ')) : xMet l (GX E) yX8_takeAxis cX8_takeAxis 1 (some .int) (k2_rm 5 108) [.ref (E.2.2.1 2)] σ (some (.int r)) σ' := by
  refine x_met (own := RX8) (by decide +kernel) hG rfl (Nat.le_of_ble_eq_true rfl) (fun C hl hC => ?_)
  subst hl
  show xw C (GX E) 1 (xq C (GX E) (some (.int r)) σ') σ 0 [(0, .ref (E.2.2.1 2))] []
  unfold reader_takeAxis at hf
  refine xr_aload_n (pc' := 1) 0 hC dX8_takeAxis_0 rfl rfl rfl ?_
  refine xr_ldcS (pc' := 3) 4 hC dX8_takeAxis_1 rfl (by decide) rfl ?_
  refine xr_callV (pc' := 6) (rmy := k2_rm 4 85) [.ref (E.2.2.2.2.1 4)] 2 hC dX8_takeAxis_3 rfl kX8_44 rfl rfl rfl rfl rfl ⟨Nat.le_of_ble_eq_true rfl, Nat.le_of_ble_eq_true rfl⟩ rfl (Nat.le_of_ble_eq_true rfl) hf (fun _ _ h => c_reader_takeWord (show 4 < 7 by decide) (xc_ok hC) h) (fun v1 σ2 hf => ?_)
  refine xr_if_eq (pc' := 9) 11 hC dX8_takeAxis_6 rfl (by decide) hf (fun hf => ?_) (fun hf => ?_)
  · refine xr_aload_n (pc' := 12) 0 hC dX8_takeAxis_11 rfl rfl rfl ?_
    refine xr_ldcS (pc' := 14) 5 hC dX8_takeAxis_12 rfl (by decide) rfl ?_
    refine xr_callV (pc' := 17) (rmy := k2_rm 4 85) [.ref (E.2.2.2.2.1 5)] 2 hC dX8_takeAxis_14 rfl kX8_44 rfl rfl rfl rfl rfl ⟨Nat.le_of_ble_eq_true rfl, Nat.le_of_ble_eq_true rfl⟩ rfl (Nat.le_of_ble_eq_true rfl) hf (fun _ _ h => c_reader_takeWord (show 5 < 7 by decide) (xc_ok hC) h) (fun v3 σ4 hf => ?_)
    refine xr_if_eq (pc' := 20) 22 hC dX8_takeAxis_17 rfl (by decide) hf (fun hf => ?_) (fun hf => ?_)
    · refine xr_aload_n (pc' := 23) 0 hC dX8_takeAxis_22 rfl rfl rfl ?_
      refine xr_ldcS (pc' := 25) 6 hC dX8_takeAxis_23 rfl (by decide) rfl ?_
      refine xr_callV (pc' := 28) (rmy := k2_rm 4 85) [.ref (E.2.2.2.2.1 6)] 2 hC dX8_takeAxis_25 rfl kX8_44 rfl rfl rfl rfl rfl ⟨Nat.le_of_ble_eq_true rfl, Nat.le_of_ble_eq_true rfl⟩ rfl (Nat.le_of_ble_eq_true rfl) hf (fun _ _ h => c_reader_takeWord (show 6 < 7 by decide) (xc_ok hC) h) (fun v5 σ6 hf => ?_)
      refine xr_if_eq (pc' := 31) 35 hC dX8_takeAxis_28 rfl (by decide) hf (fun hf => ?_) (fun hf => ?_)
      · refine xr_iconst (pc' := 36) (-1 : Int32) hC dX8_takeAxis_35 rfl (by decide) ?_
        exact xr_ireturn hC dX8_takeAxis_36 hf
      refine xr_iconst (pc' := 32) (2 : Int32) hC dX8_takeAxis_31 rfl (by decide) ?_
      refine xr_goto 36 hC dX8_takeAxis_32 (by decide) ?_
      exact xr_ireturn hC dX8_takeAxis_36 hf
    refine xr_iconst (pc' := 21) (1 : Int32) hC dX8_takeAxis_20 rfl (by decide) ?_
    exact xr_ireturn hC dX8_takeAxis_21 hf
  refine xr_iconst (pc' := 10) (0 : Int32) hC dX8_takeAxis_9 rfl (by decide) ?_
  exact xr_ireturn hC dX8_takeAxis_10 hf

set_option maxRecDepth 100000 in
set_option maxHeartbeats 4000000 in
theorem w_draft_mirrorAcross_b82 {C : xT} {E : xE} {N : Nat} {r : Int32} {σ' : xS} (hC : xc C (GX E) RX0 cX0_mirrorAcross 5 none (k2_rm 2 48)) (K2 : Int32 → Int32 → xS → Option (Int32 × xS)) (hK2 : ∀ (l1 l2 : Int32) (σ : xS), K2 l1 l2 σ = some (r, σ') → xw C (GX E) 5 (xq C (GX E) none σ') σ 2 [(0, .ref (E.2.2.1 4)), (1, .int l1), (2, .int l2)] []) (K12 : Int32 → Int32 → Int32 → xS → Option (Int32 × xS)) (hK12 : ∀ (l1 l2 l3 : Int32) (σ : xS), K12 l1 l2 l3 σ = some (r, σ') → xw C (GX E) 5 (xq C (GX E) none σ') σ 12 [(0, .ref (E.2.2.1 4)), (1, .int l1), (2, .int l2), (3, .int l3)] []) (K23 : Int32 → Int32 → Int32 → Int32 → xS → Option (Int32 × xS)) (hK23 : ∀ (l1 l2 l3 l4 : Int32) (σ : xS), K23 l1 l2 l3 l4 σ = some (r, σ') → xw C (GX E) 5 (xq C (GX E) none σ') σ 23 [(0, .ref (E.2.2.1 4)), (1, .int l1), (2, .int l2), (3, .int l3), (4, .int l4)] []) : ∀ (l1 l2 l3 l4 s1 s2 : Int32) (σ : xS), draft_mirrorAcross_b82 N K2 K12 K23 l1 l2 l3 l4 s1 s2 σ = some (r, σ') → xw C (GX E) 5 (xq C (GX E) none σ') σ 82 [(0, .ref (E.2.2.1 4)), (1, .int l1), (2, .int l2), (3, .int l3), (4, .int l4)] [.int s2, .int s1, .ref (E.2.2.1 4)] := by
  intro l1 l2 l3 l4 s1 s2 σ hf
  unfold draft_mirrorAcross_b82 at hf
  refine xr_iload_n (pc' := 83) 1 hC dX0_mirrorAcross_82 rfl rfl rfl ?_
  refine xr_iconst (pc' := 84) (2 : Int32) hC dX0_mirrorAcross_83 rfl (by decide) ?_
  refine xr_icmp_ne (pc' := 87) 98 hC dX0_mirrorAcross_84 rfl (by decide) hf (fun hf => ?_) (fun hf => ?_)
  · refine xr_iload_n (pc' := 99) 2 hC dX0_mirrorAcross_98 rfl rfl rfl ?_
    refine xr_iconst (pc' := 100) (1 : Int32) hC dX0_mirrorAcross_99 rfl (by decide) ?_
    refine xr_callVv (pc' := 103) (rmy := k2_rm 1 24) [.int s1, .int s2, .int l2, .int (1 : Int32)] 4 hC dX0_mirrorAcross_100 rfl kX0_44 rfl rfl rfl rfl rfl ⟨Nat.le_of_ble_eq_true rfl, Nat.le_of_ble_eq_true rfl⟩ rfl (Nat.le_of_ble_eq_true rfl) hf (fun _ _ h => c_draft_put (xc_ok hC) h) (fun v8 σ9 hf => ?_)
    refine xr_iinc (pc' := 106) hC dX0_mirrorAcross_103 rfl _ rfl hf 4 rfl (by decide) [1, 2, 3, 4, 0] (fun l4_10 => [(0, .ref (E.2.2.1 4)), (1, .int l1), (2, .int l2), (3, .int l3), (4, .int l4_10)]) (fun _ => rfl) (fun l4_10 hf => ?_)
    refine xr_goto 23 hC dX0_mirrorAcross_106 (by decide) ?_
    exact hK23 _ _ _ _ _ hf
  refine xr_aload_n (pc' := 88) 0 hC dX0_mirrorAcross_87 rfl rfl rfl ?_
  refine gX0_draft_deep (pc' := 91) hC dX0_mirrorAcross_88 rfl ?_
  refine xr_iconst (pc' := 92) (1 : Int32) hC dX0_mirrorAcross_91 rfl (by decide) ?_
  refine xr_isub (pc' := 93) hC dX0_mirrorAcross_92 rfl ?_
  refine xr_iload_n (pc' := 94) 2 hC dX0_mirrorAcross_93 rfl rfl rfl ?_
  refine xr_isub (pc' := 95) hC dX0_mirrorAcross_94 rfl ?_
  refine xr_goto 99 hC dX0_mirrorAcross_95 (by decide) ?_
  refine xr_iconst (pc' := 100) (1 : Int32) hC dX0_mirrorAcross_99 rfl (by decide) ?_
  refine xr_callVv (pc' := 103) (rmy := k2_rm 1 24) [.int s1, .int s2, .int (((σ.1 9) - (1 : Int32)) - l2), .int (1 : Int32)] 4 hC dX0_mirrorAcross_100 rfl kX0_44 rfl rfl rfl rfl rfl ⟨Nat.le_of_ble_eq_true rfl, Nat.le_of_ble_eq_true rfl⟩ rfl (Nat.le_of_ble_eq_true rfl) hf (fun _ _ h => c_draft_put (xc_ok hC) h) (fun v11 σ12 hf => ?_)
  refine xr_iinc (pc' := 106) hC dX0_mirrorAcross_103 rfl _ rfl hf 4 rfl (by decide) [1, 2, 3, 4, 0] (fun l4_13 => [(0, .ref (E.2.2.1 4)), (1, .int l1), (2, .int l2), (3, .int l3), (4, .int l4_13)]) (fun _ => rfl) (fun l4_13 hf => ?_)
  refine xr_goto 23 hC dX0_mirrorAcross_106 (by decide) ?_
  exact hK23 _ _ _ _ _ hf

set_option maxRecDepth 100000 in
set_option maxHeartbeats 4000000 in
theorem w_draft_mirrorAcross_b65 {C : xT} {E : xE} {N : Nat} {r : Int32} {σ' : xS} (hC : xc C (GX E) RX0 cX0_mirrorAcross 5 none (k2_rm 2 48)) (K2 : Int32 → Int32 → xS → Option (Int32 × xS)) (hK2 : ∀ (l1 l2 : Int32) (σ : xS), K2 l1 l2 σ = some (r, σ') → xw C (GX E) 5 (xq C (GX E) none σ') σ 2 [(0, .ref (E.2.2.1 4)), (1, .int l1), (2, .int l2)] []) (K12 : Int32 → Int32 → Int32 → xS → Option (Int32 × xS)) (hK12 : ∀ (l1 l2 l3 : Int32) (σ : xS), K12 l1 l2 l3 σ = some (r, σ') → xw C (GX E) 5 (xq C (GX E) none σ') σ 12 [(0, .ref (E.2.2.1 4)), (1, .int l1), (2, .int l2), (3, .int l3)] []) (K23 : Int32 → Int32 → Int32 → Int32 → xS → Option (Int32 × xS)) (hK23 : ∀ (l1 l2 l3 l4 : Int32) (σ : xS), K23 l1 l2 l3 l4 σ = some (r, σ') → xw C (GX E) 5 (xq C (GX E) none σ') σ 23 [(0, .ref (E.2.2.1 4)), (1, .int l1), (2, .int l2), (3, .int l3), (4, .int l4)] []) : ∀ (l1 l2 l3 l4 s1 : Int32) (σ : xS), draft_mirrorAcross_b65 N K2 K12 K23 l1 l2 l3 l4 s1 σ = some (r, σ') → xw C (GX E) 5 (xq C (GX E) none σ') σ 65 [(0, .ref (E.2.2.1 4)), (1, .int l1), (2, .int l2), (3, .int l3), (4, .int l4)] [.int s1, .ref (E.2.2.1 4)] := by
  intro l1 l2 l3 l4 s1 σ hf
  unfold draft_mirrorAcross_b65 at hf
  refine xr_iload_n (pc' := 66) 1 hC dX0_mirrorAcross_65 rfl rfl rfl ?_
  refine xr_iconst (pc' := 67) (1 : Int32) hC dX0_mirrorAcross_66 rfl (by decide) ?_
  refine xr_icmp_ne (pc' := 70) 81 hC dX0_mirrorAcross_67 rfl (by decide) hf (fun hf => ?_) (fun hf => ?_)
  · refine xr_iload_n (pc' := 82) 3 hC dX0_mirrorAcross_81 rfl rfl rfl ?_
    exact w_draft_mirrorAcross_b82 hC (K2) hK2 (K12) hK12 (K23) hK23 _ _ _ _ _ _ _ hf
  refine xr_aload_n (pc' := 71) 0 hC dX0_mirrorAcross_70 rfl rfl rfl ?_
  refine gX0_draft_high (pc' := 74) hC dX0_mirrorAcross_71 rfl ?_
  refine xr_iconst (pc' := 75) (1 : Int32) hC dX0_mirrorAcross_74 rfl (by decide) ?_
  refine xr_isub (pc' := 76) hC dX0_mirrorAcross_75 rfl ?_
  refine xr_iload_n (pc' := 77) 3 hC dX0_mirrorAcross_76 rfl rfl rfl ?_
  refine xr_isub (pc' := 78) hC dX0_mirrorAcross_77 rfl ?_
  refine xr_goto 82 hC dX0_mirrorAcross_78 (by decide) ?_
  exact w_draft_mirrorAcross_b82 hC (K2) hK2 (K12) hK12 (K23) hK23 _ _ _ _ _ _ _ hf

set_option maxRecDepth 100000 in
set_option maxHeartbeats 4000000 in
theorem w_draft_mirrorAcross_b23 {C : xT} {E : xE} {N : Nat} {r : Int32} {σ' : xS} (hC : xc C (GX E) RX0 cX0_mirrorAcross 5 none (k2_rm 2 48)) (K2 : Int32 → Int32 → xS → Option (Int32 × xS)) (hK2 : ∀ (l1 l2 : Int32) (σ : xS), K2 l1 l2 σ = some (r, σ') → xw C (GX E) 5 (xq C (GX E) none σ') σ 2 [(0, .ref (E.2.2.1 4)), (1, .int l1), (2, .int l2)] []) (K12 : Int32 → Int32 → Int32 → xS → Option (Int32 × xS)) (hK12 : ∀ (l1 l2 l3 : Int32) (σ : xS), K12 l1 l2 l3 σ = some (r, σ') → xw C (GX E) 5 (xq C (GX E) none σ') σ 12 [(0, .ref (E.2.2.1 4)), (1, .int l1), (2, .int l2), (3, .int l3)] []) : ∀ (n : Nat) (l1 l2 l3 l4 : Int32) (σ : xS), draft_mirrorAcross_b23 N K2 K12 n l1 l2 l3 l4 σ = some (r, σ') → xw C (GX E) 5 (xq C (GX E) none σ') σ 23 [(0, .ref (E.2.2.1 4)), (1, .int l1), (2, .int l2), (3, .int l3), (4, .int l4)] [] := by
  intro n
  induction n with
  | zero =>
    intro l1 l2 l3 l4 σ hf
    rw [draft_mirrorAcross_b23] at hf
    cases hf
  | succ n ih =>
    intro l1 l2 l3 l4 σ hf
    rw [draft_mirrorAcross_b23] at hf
    refine xr_iload (pc' := 25) 4 hC dX0_mirrorAcross_23 rfl rfl ?_
    refine xr_aload_n (pc' := 26) 0 hC dX0_mirrorAcross_25 rfl rfl rfl ?_
    refine gX0_draft_wide (pc' := 29) hC dX0_mirrorAcross_26 rfl ?_
    refine xr_icmp_ge (pc' := 32) 109 hC dX0_mirrorAcross_29 rfl (by decide) hf (fun hf => ?_) (fun hf => ?_)
    · refine xr_iinc (pc' := 112) hC dX0_mirrorAcross_109 rfl _ rfl hf 3 rfl (by decide) [1, 2, 3, 0, 4] (fun l3_2 => [(0, .ref (E.2.2.1 4)), (1, .int l1), (2, .int l2), (3, .int l3_2), (4, .int l4)]) (fun _ => rfl) (fun l3_2 hf => ?_)
      refine xr_goto 12 hC dX0_mirrorAcross_112 (by decide) ?_
      refine x_lv [0, 1, 2, 3] rfl ?_
      exact hK12 _ _ _ _ hf
    refine xr_aload_n (pc' := 33) 0 hC dX0_mirrorAcross_32 rfl rfl rfl ?_
    refine xr_iload (pc' := 35) 4 hC dX0_mirrorAcross_33 rfl rfl ?_
    refine xr_iload_n (pc' := 36) 3 hC dX0_mirrorAcross_35 rfl rfl rfl ?_
    refine xr_iload_n (pc' := 37) 2 hC dX0_mirrorAcross_36 rfl rfl rfl ?_
    refine xr_callS (pc' := 40) (rmy := k2_rm 0 0) [.int l4, .int l3, .int l2] hC dX0_mirrorAcross_37 rfl kX0_48 rfl rfl rfl ⟨Nat.le_of_ble_eq_true rfl, Nat.le_of_ble_eq_true rfl⟩ rfl (Nat.le_of_ble_eq_true rfl) hf (fun _ _ h => c_cl_indexOf (xc_ok hC) h) (fun v3 σ4 hf => ?_)
    refine xr_callV (pc' := 43) (rmy := k2_rm 0 0) [.int v3] 4 hC dX0_mirrorAcross_40 rfl kX0_52 rfl rfl rfl rfl rfl ⟨Nat.le_of_ble_eq_true rfl, Nat.le_of_ble_eq_true rfl⟩ rfl (Nat.le_of_ble_eq_true rfl) hf (fun _ _ h => c_cl_isSolid_draft (xc_ok hC) h) (fun v5 σ6 hf => ?_)
    refine xr_if_eq (pc' := 46) 103 hC dX0_mirrorAcross_43 rfl (by decide) hf (fun hf => ?_) (fun hf => ?_)
    · refine xr_iinc (pc' := 106) hC dX0_mirrorAcross_103 rfl _ rfl hf 4 rfl (by decide) [1, 2, 3, 4, 0] (fun l4_7 => [(0, .ref (E.2.2.1 4)), (1, .int l1), (2, .int l2), (3, .int l3), (4, .int l4_7)]) (fun _ => rfl) (fun l4_7 hf => ?_)
      refine xr_goto 23 hC dX0_mirrorAcross_106 (by decide) ?_
      exact ih _ _ _ _ _ hf
    refine xr_aload_n (pc' := 47) 0 hC dX0_mirrorAcross_46 rfl rfl rfl ?_
    refine xr_iload_n (pc' := 48) 1 hC dX0_mirrorAcross_47 rfl rfl rfl ?_
    refine xr_if_ne (pc' := 51) 63 hC dX0_mirrorAcross_48 rfl (by decide) hf (fun hf => ?_) (fun hf => ?_)
    · refine xr_iload (pc' := 65) 4 hC dX0_mirrorAcross_63 rfl rfl ?_
      exact w_draft_mirrorAcross_b65 hC (K2) hK2 (K12) hK12 (draft_mirrorAcross_b23 N K2 K12 n) ih _ _ _ _ _ _ hf
    refine xr_aload_n (pc' := 52) 0 hC dX0_mirrorAcross_51 rfl rfl rfl ?_
    refine gX0_draft_wide (pc' := 55) hC dX0_mirrorAcross_52 rfl ?_
    refine xr_iconst (pc' := 56) (1 : Int32) hC dX0_mirrorAcross_55 rfl (by decide) ?_
    refine xr_isub (pc' := 57) hC dX0_mirrorAcross_56 rfl ?_
    refine xr_iload (pc' := 59) 4 hC dX0_mirrorAcross_57 rfl rfl ?_
    refine xr_isub (pc' := 60) hC dX0_mirrorAcross_59 rfl ?_
    refine xr_goto 65 hC dX0_mirrorAcross_60 (by decide) ?_
    exact w_draft_mirrorAcross_b65 hC (K2) hK2 (K12) hK12 (draft_mirrorAcross_b23 N K2 K12 n) ih _ _ _ _ _ _ hf

set_option maxRecDepth 100000 in
set_option maxHeartbeats 4000000 in
theorem w_draft_mirrorAcross_b12 {C : xT} {E : xE} {N : Nat} {r : Int32} {σ' : xS} (hC : xc C (GX E) RX0 cX0_mirrorAcross 5 none (k2_rm 2 48)) (K2 : Int32 → Int32 → xS → Option (Int32 × xS)) (hK2 : ∀ (l1 l2 : Int32) (σ : xS), K2 l1 l2 σ = some (r, σ') → xw C (GX E) 5 (xq C (GX E) none σ') σ 2 [(0, .ref (E.2.2.1 4)), (1, .int l1), (2, .int l2)] []) : ∀ (n : Nat) (l1 l2 l3 : Int32) (σ : xS), draft_mirrorAcross_b12 N K2 n l1 l2 l3 σ = some (r, σ') → xw C (GX E) 5 (xq C (GX E) none σ') σ 12 [(0, .ref (E.2.2.1 4)), (1, .int l1), (2, .int l2), (3, .int l3)] [] := by
  intro n
  induction n with
  | zero =>
    intro l1 l2 l3 σ hf
    rw [draft_mirrorAcross_b12] at hf
    cases hf
  | succ n ih =>
    intro l1 l2 l3 σ hf
    rw [draft_mirrorAcross_b12] at hf
    refine xr_iload_n (pc' := 13) 3 hC dX0_mirrorAcross_12 rfl rfl rfl ?_
    refine xr_aload_n (pc' := 14) 0 hC dX0_mirrorAcross_13 rfl rfl rfl ?_
    refine gX0_draft_high (pc' := 17) hC dX0_mirrorAcross_14 rfl ?_
    refine xr_icmp_ge (pc' := 20) 115 hC dX0_mirrorAcross_17 rfl (by decide) hf (fun hf => ?_) (fun hf => ?_)
    · refine xr_iinc (pc' := 118) hC dX0_mirrorAcross_115 rfl _ rfl hf 2 rfl (by decide) [1, 2, 0, 3] (fun l2_1 => [(0, .ref (E.2.2.1 4)), (1, .int l1), (2, .int l2_1), (3, .int l3)]) (fun _ => rfl) (fun l2_1 hf => ?_)
      refine xr_goto 2 hC dX0_mirrorAcross_118 (by decide) ?_
      refine x_lv [0, 1, 2] rfl ?_
      exact hK2 _ _ _ hf
    refine xr_iconst (pc' := 21) (0 : Int32) hC dX0_mirrorAcross_20 rfl (by decide) ?_
    refine xr_istore (pc' := 23) (lv' := [(0, .ref (E.2.2.1 4)), (1, .int l1), (2, .int l2), (3, .int l3), (4, .int (0 : Int32))]) hC dX0_mirrorAcross_21 rfl (by decide) [1, 2, 3, 4, 0] rfl ?_
    exact w_draft_mirrorAcross_b23 hC (K2) hK2 (draft_mirrorAcross_b12 N K2 n) ih N _ _ _ _ _ hf

set_option maxRecDepth 100000 in
set_option maxHeartbeats 4000000 in
theorem w_draft_mirrorAcross_b2 {C : xT} {E : xE} {N : Nat} {r : Int32} {σ' : xS} (hC : xc C (GX E) RX0 cX0_mirrorAcross 5 none (k2_rm 2 48)) : ∀ (n : Nat) (l1 l2 : Int32) (σ : xS), draft_mirrorAcross_b2 N n l1 l2 σ = some (r, σ') → xw C (GX E) 5 (xq C (GX E) none σ') σ 2 [(0, .ref (E.2.2.1 4)), (1, .int l1), (2, .int l2)] [] := by
  intro n
  induction n with
  | zero =>
    intro l1 l2 σ hf
    rw [draft_mirrorAcross_b2] at hf
    cases hf
  | succ n ih =>
    intro l1 l2 σ hf
    rw [draft_mirrorAcross_b2] at hf
    refine xr_iload_n (pc' := 3) 2 hC dX0_mirrorAcross_2 rfl rfl rfl ?_
    refine xr_aload_n (pc' := 4) 0 hC dX0_mirrorAcross_3 rfl rfl rfl ?_
    refine gX0_draft_deep (pc' := 7) hC dX0_mirrorAcross_4 rfl ?_
    refine xr_icmp_ge (pc' := 10) 121 hC dX0_mirrorAcross_7 rfl (by decide) hf (fun hf => ?_) (fun hf => ?_)
    · exact xr_return hC dX0_mirrorAcross_121 hf
    refine xr_iconst (pc' := 11) (0 : Int32) hC dX0_mirrorAcross_10 rfl (by decide) ?_
    refine xr_istore_n (pc' := 12) (lv' := [(0, .ref (E.2.2.1 4)), (1, .int l1), (2, .int l2), (3, .int (0 : Int32))]) hC dX0_mirrorAcross_11 rfl rfl (by decide) [1, 2, 3, 0] rfl ?_
    exact w_draft_mirrorAcross_b12 hC (draft_mirrorAcross_b2 N n) ih N _ _ _ _ hf

set_option maxRecDepth 100000 in
set_option maxHeartbeats 4000000 in
theorem c_draft_mirrorAcross {l : Launch} {E : xE} {N : Nat} (hG : xOk (GX E)) {l1 : Int32} {σ : xS} {r : Int32} {σ' : xS} (hf : draft_mirrorAcross N l1 σ = some (r, σ')) : xMet l (GX E) yX0_mirrorAcross cX0_mirrorAcross 5 none (k2_rm 2 48) [.ref (E.2.2.1 4), .int l1] σ none σ' := by
  refine x_met (own := RX0) (by decide +kernel) hG rfl (Nat.le_of_ble_eq_true rfl) (fun C hl hC => ?_)
  subst hl
  show xw C (GX E) 5 (xq C (GX E) none σ') σ 0 [(0, .ref (E.2.2.1 4)), (1, .int l1)] []
  unfold draft_mirrorAcross at hf
  refine xr_iconst (pc' := 1) (0 : Int32) hC dX0_mirrorAcross_0 rfl (by decide) ?_
  refine xr_istore_n (pc' := 2) (lv' := [(0, .ref (E.2.2.1 4)), (1, .int l1), (2, .int (0 : Int32))]) hC dX0_mirrorAcross_1 rfl rfl (by decide) [1, 2, 0] rfl ?_
  exact w_draft_mirrorAcross_b2 hC N _ _ _ hf

set_option maxRecDepth 100000 in
set_option maxHeartbeats 4000000 in
theorem c_reader_readMirror {l : Launch} {E : xE} {N : Nat} (hG : xOk (GX E)) {σ : xS} {r : Int32} {σ' : xS} (hf : reader_readMirror N σ = some (r, σ')) : xMet l (GX E) yX8_readMirror cX8_readMirror 4 none (k2_rm 6 128) [.ref (E.2.2.1 2), .ref (E.2.2.1 4)] σ none σ' := by
  refine x_met (own := RX8) (by decide +kernel) hG rfl (Nat.le_of_ble_eq_true rfl) (fun C hl hC => ?_)
  subst hl
  show xw C (GX E) 4 (xq C (GX E) none σ') σ 0 [(0, .ref (E.2.2.1 2)), (1, .ref (E.2.2.1 4))] []
  unfold reader_readMirror at hf
  refine xr_aload_n (pc' := 1) 0 hC dX8_readMirror_0 rfl rfl rfl ?_
  refine xr_callVv (pc' := 4) (rmy := k2_rm 1 21) [] 2 hC dX8_readMirror_1 rfl kX8_29 rfl rfl rfl rfl rfl ⟨Nat.le_of_ble_eq_true rfl, Nat.le_of_ble_eq_true rfl⟩ rfl (Nat.le_of_ble_eq_true rfl) hf (fun _ _ h => c_reader_skipBlanks (xc_ok hC) h) (fun v1 σ2 hf => ?_)
  refine xr_aload_n (pc' := 5) 0 hC dX8_readMirror_4 rfl rfl rfl ?_
  refine gX8_reader_place (pc' := 8) hC dX8_readMirror_5 rfl ?_
  refine xr_istoreb_n (pc' := 9) hC dX8_readMirror_8 rfl hf rfl (by decide) [1, 2, 0] (fun l2_3 => [(0, .ref (E.2.2.1 2)), (1, .ref (E.2.2.1 4)), (2, .int l2_3)]) (fun _ => rfl) (fun l2_3 hf => ?_)
  refine xr_aload_n (pc' := 10) 0 hC dX8_readMirror_9 rfl rfl rfl ?_
  refine xr_callV (pc' := 13) (rmy := k2_rm 5 108) [] 2 hC dX8_readMirror_10 rfl kX8_85 rfl rfl rfl rfl rfl ⟨Nat.le_of_ble_eq_true rfl, Nat.le_of_ble_eq_true rfl⟩ rfl (Nat.le_of_ble_eq_true rfl) hf (fun _ _ h => c_reader_takeAxis (xc_ok hC) h) (fun v4 σ5 hf => ?_)
  refine xr_istore_n (pc' := 14) (lv' := [(0, .ref (E.2.2.1 2)), (1, .ref (E.2.2.1 4)), (2, .int l2_3), (3, .int v4)]) hC dX8_readMirror_13 rfl rfl (by decide) [1, 2, 3, 0] rfl ?_
  refine xr_iload_n (pc' := 15) 3 hC dX8_readMirror_14 rfl rfl rfl ?_
  refine xr_iconst (pc' := 16) (-1 : Int32) hC dX8_readMirror_15 rfl (by decide) ?_
  refine xr_icmp_ne (pc' := 19) 25 hC dX8_readMirror_16 rfl (by decide) hf (fun hf => ?_) (fun hf => ?_)
  · refine xr_aload_n (pc' := 26) 0 hC dX8_readMirror_25 rfl rfl rfl ?_
    refine xr_callVv (pc' := 29) (rmy := k2_rm 2 41) [] 2 hC dX8_readMirror_26 rfl kX8_72 rfl rfl rfl rfl rfl ⟨Nat.le_of_ble_eq_true rfl, Nat.le_of_ble_eq_true rfl⟩ rfl (Nat.le_of_ble_eq_true rfl) hf (fun _ _ h => c_reader_readSemicolon (xc_ok hC) h) (fun v6 σ7 hf => ?_)
    refine xr_aload_n (pc' := 30) 0 hC dX8_readMirror_29 rfl rfl rfl ?_
    refine gX8_reader_kind (pc' := 33) hC dX8_readMirror_30 rfl ?_
    refine xr_if_ne (pc' := 36) 41 hC dX8_readMirror_33 rfl (by decide) hf (fun hf => ?_) (fun hf => ?_)
    · exact xr_return hC dX8_readMirror_41 hf
    refine xr_aload_n (pc' := 37) 1 hC dX8_readMirror_36 rfl rfl rfl ?_
    refine xr_iload_n (pc' := 38) 3 hC dX8_readMirror_37 rfl rfl rfl ?_
    refine xr_callVv (pc' := 41) (rmy := k2_rm 2 48) [.int v4] 4 hC dX8_readMirror_38 rfl kX8_88 rfl rfl rfl rfl rfl ⟨Nat.le_of_ble_eq_true rfl, Nat.le_of_ble_eq_true rfl⟩ rfl (Nat.le_of_ble_eq_true rfl) hf (fun _ _ h => c_draft_mirrorAcross (xc_ok hC) h) (fun v8 σ9 hf => ?_)
    exact xr_return hC dX8_readMirror_41 hf
  refine xr_aload_n (pc' := 20) 0 hC dX8_readMirror_19 rfl rfl rfl ?_
  refine xr_iconst (pc' := 21) (1 : Int32) hC dX8_readMirror_20 rfl (by decide) ?_
  refine xr_iload_n (pc' := 22) 2 hC dX8_readMirror_21 rfl rfl rfl ?_
  refine xr_callVv (pc' := 25) (rmy := k2_rm 0 0) [.int (1 : Int32), .int l2_3] 2 hC dX8_readMirror_22 rfl kX8_64 rfl rfl rfl rfl rfl ⟨Nat.le_of_ble_eq_true rfl, Nat.le_of_ble_eq_true rfl⟩ rfl (Nat.le_of_ble_eq_true rfl) hf (fun _ _ h => c_reader_refuse (xc_ok hC) h) (fun v10 σ11 hf => ?_)
  refine xr_aload_n (pc' := 26) 0 hC dX8_readMirror_25 rfl rfl rfl ?_
  refine xr_callVv (pc' := 29) (rmy := k2_rm 2 41) [] 2 hC dX8_readMirror_26 rfl kX8_72 rfl rfl rfl rfl rfl ⟨Nat.le_of_ble_eq_true rfl, Nat.le_of_ble_eq_true rfl⟩ rfl (Nat.le_of_ble_eq_true rfl) hf (fun _ _ h => c_reader_readSemicolon (xc_ok hC) h) (fun v12 σ13 hf => ?_)
  refine xr_aload_n (pc' := 30) 0 hC dX8_readMirror_29 rfl rfl rfl ?_
  refine gX8_reader_kind (pc' := 33) hC dX8_readMirror_30 rfl ?_
  refine xr_if_ne (pc' := 36) 41 hC dX8_readMirror_33 rfl (by decide) hf (fun hf => ?_) (fun hf => ?_)
  · exact xr_return hC dX8_readMirror_41 hf
  refine xr_aload_n (pc' := 37) 1 hC dX8_readMirror_36 rfl rfl rfl ?_
  refine xr_iload_n (pc' := 38) 3 hC dX8_readMirror_37 rfl rfl rfl ?_
  refine xr_callVv (pc' := 41) (rmy := k2_rm 2 48) [.int v4] 4 hC dX8_readMirror_38 rfl kX8_88 rfl rfl rfl rfl rfl ⟨Nat.le_of_ble_eq_true rfl, Nat.le_of_ble_eq_true rfl⟩ rfl (Nat.le_of_ble_eq_true rfl) hf (fun _ _ h => c_draft_mirrorAcross (xc_ok hC) h) (fun v14 σ15 hf => ?_)
  exact xr_return hC dX8_readMirror_41 hf

set_option maxRecDepth 100000 in
set_option maxHeartbeats 4000000 in
theorem w_draft_fillBlock_b84 {C : xT} {E : xE} {N : Nat} {r : Int32} {σ' : xS} (hC : xc C (GX E) RX0 cX0_fillBlock 9 none (k2_rm 2 48)) (K60 : Int32 → Int32 → Int32 → Int32 → Int32 → xS → Option (Int32 × xS)) (hK60 : ∀ (l2 l3 l4 l5 l6 : Int32) (σ : xS), K60 l2 l3 l4 l5 l6 σ = some (r, σ') → xw C (GX E) 9 (xq C (GX E) none σ') σ 60 [(0, .ref (E.2.2.1 4)), (1, .ref (E.2.2.1 12)), (2, .int l2), (3, .int l3), (4, .int l4), (5, .int l5), (6, .int l6)] []) (K72 : Int32 → Int32 → Int32 → Int32 → Int32 → Int32 → xS → Option (Int32 × xS)) (hK72 : ∀ (l2 l3 l4 l5 l6 l7 : Int32) (σ : xS), K72 l2 l3 l4 l5 l6 l7 σ = some (r, σ') → xw C (GX E) 9 (xq C (GX E) none σ') σ 72 [(0, .ref (E.2.2.1 4)), (1, .ref (E.2.2.1 12)), (2, .int l2), (3, .int l3), (4, .int l4), (5, .int l5), (6, .int l6), (7, .int l7)] []) : ∀ (n : Nat) (l2 l3 l4 l5 l6 l7 l8 : Int32) (σ : xS), draft_fillBlock_b84 N K60 K72 n l2 l3 l4 l5 l6 l7 l8 σ = some (r, σ') → xw C (GX E) 9 (xq C (GX E) none σ') σ 84 [(0, .ref (E.2.2.1 4)), (1, .ref (E.2.2.1 12)), (2, .int l2), (3, .int l3), (4, .int l4), (5, .int l5), (6, .int l6), (7, .int l7), (8, .int l8)] [] := by
  intro n
  induction n with
  | zero =>
    intro l2 l3 l4 l5 l6 l7 l8 σ hf
    rw [draft_fillBlock_b84] at hf
    cases hf
  | succ n ih =>
    intro l2 l3 l4 l5 l6 l7 l8 σ hf
    rw [draft_fillBlock_b84] at hf
    refine xr_iload (pc' := 86) 8 hC dX0_fillBlock_84 rfl rfl ?_
    refine xr_iload_n (pc' := 87) 3 hC dX0_fillBlock_86 rfl rfl rfl ?_
    refine xr_icmp_ge (pc' := 90) 107 hC dX0_fillBlock_87 rfl (by decide) hf (fun hf => ?_) (fun hf => ?_)
    · refine xr_iinc (pc' := 110) hC dX0_fillBlock_107 rfl _ rfl hf 7 rfl (by decide) [1, 2, 3, 4, 5, 6, 7, 0, 8] (fun l7_14 => [(0, .ref (E.2.2.1 4)), (1, .ref (E.2.2.1 12)), (2, .int l2), (3, .int l3), (4, .int l4), (5, .int l5), (6, .int l6), (7, .int l7_14), (8, .int l8)]) (fun _ => rfl) (fun l7_14 hf => ?_)
      refine xr_goto 72 hC dX0_fillBlock_110 (by decide) ?_
      refine x_lv [0, 1, 2, 3, 4, 5, 6, 7] rfl ?_
      exact hK72 _ _ _ _ _ _ _ hf
    refine xr_aload_n (pc' := 91) 0 hC dX0_fillBlock_90 rfl rfl rfl ?_
    refine xr_iload (pc' := 93) 8 hC dX0_fillBlock_91 rfl rfl ?_
    refine xr_iload (pc' := 95) 7 hC dX0_fillBlock_93 rfl rfl ?_
    refine xr_iload (pc' := 97) 6 hC dX0_fillBlock_95 rfl rfl ?_
    refine xr_iload_n (pc' := 98) 2 hC dX0_fillBlock_97 rfl rfl rfl ?_
    refine xr_callVv (pc' := 101) (rmy := k2_rm 1 24) [.int l8, .int l7, .int l6, .int l2] 4 hC dX0_fillBlock_98 rfl kX0_44 rfl rfl rfl rfl rfl ⟨Nat.le_of_ble_eq_true rfl, Nat.le_of_ble_eq_true rfl⟩ rfl (Nat.le_of_ble_eq_true rfl) hf (fun _ _ h => c_draft_put (xc_ok hC) h) (fun v15 σ16 hf => ?_)
    refine xr_iinc (pc' := 104) hC dX0_fillBlock_101 rfl _ rfl hf 8 rfl (by decide) [1, 2, 3, 4, 5, 6, 7, 8, 0] (fun l8_17 => [(0, .ref (E.2.2.1 4)), (1, .ref (E.2.2.1 12)), (2, .int l2), (3, .int l3), (4, .int l4), (5, .int l5), (6, .int l6), (7, .int l7), (8, .int l8_17)]) (fun _ => rfl) (fun l8_17 hf => ?_)
    refine xr_goto 84 hC dX0_fillBlock_104 (by decide) ?_
    exact ih _ _ _ _ _ _ _ _ hf

set_option maxRecDepth 100000 in
set_option maxHeartbeats 4000000 in
theorem w_draft_fillBlock_b72 {C : xT} {E : xE} {N : Nat} {r : Int32} {σ' : xS} (hC : xc C (GX E) RX0 cX0_fillBlock 9 none (k2_rm 2 48)) (K60 : Int32 → Int32 → Int32 → Int32 → Int32 → xS → Option (Int32 × xS)) (hK60 : ∀ (l2 l3 l4 l5 l6 : Int32) (σ : xS), K60 l2 l3 l4 l5 l6 σ = some (r, σ') → xw C (GX E) 9 (xq C (GX E) none σ') σ 60 [(0, .ref (E.2.2.1 4)), (1, .ref (E.2.2.1 12)), (2, .int l2), (3, .int l3), (4, .int l4), (5, .int l5), (6, .int l6)] []) : ∀ (n : Nat) (l2 l3 l4 l5 l6 l7 : Int32) (σ : xS), draft_fillBlock_b72 N K60 n l2 l3 l4 l5 l6 l7 σ = some (r, σ') → xw C (GX E) 9 (xq C (GX E) none σ') σ 72 [(0, .ref (E.2.2.1 4)), (1, .ref (E.2.2.1 12)), (2, .int l2), (3, .int l3), (4, .int l4), (5, .int l5), (6, .int l6), (7, .int l7)] [] := by
  intro n
  induction n with
  | zero =>
    intro l2 l3 l4 l5 l6 l7 σ hf
    rw [draft_fillBlock_b72] at hf
    cases hf
  | succ n ih =>
    intro l2 l3 l4 l5 l6 l7 σ hf
    rw [draft_fillBlock_b72] at hf
    refine xr_iload (pc' := 74) 7 hC dX0_fillBlock_72 rfl rfl ?_
    refine xr_iload (pc' := 76) 4 hC dX0_fillBlock_74 rfl rfl ?_
    refine xr_icmp_ge (pc' := 79) 113 hC dX0_fillBlock_76 rfl (by decide) hf (fun hf => ?_) (fun hf => ?_)
    · refine xr_iinc (pc' := 116) hC dX0_fillBlock_113 rfl _ rfl hf 6 rfl (by decide) [1, 2, 3, 4, 5, 6, 0, 7] (fun l6_12 => [(0, .ref (E.2.2.1 4)), (1, .ref (E.2.2.1 12)), (2, .int l2), (3, .int l3), (4, .int l4), (5, .int l5), (6, .int l6_12), (7, .int l7)]) (fun _ => rfl) (fun l6_12 hf => ?_)
      refine xr_goto 60 hC dX0_fillBlock_116 (by decide) ?_
      refine x_lv [0, 1, 2, 3, 4, 5, 6] rfl ?_
      exact hK60 _ _ _ _ _ _ hf
    refine xr_aload_n (pc' := 80) 1 hC dX0_fillBlock_79 rfl rfl rfl ?_
    refine xr_iconst (pc' := 81) (0 : Int32) hC dX0_fillBlock_80 rfl (by decide) ?_
    refine lX_1 (pc' := 82) hC dX0_fillBlock_81 rfl hf (fun v13 hf => ?_)
    refine xr_istore (pc' := 84) (lv' := [(0, .ref (E.2.2.1 4)), (1, .ref (E.2.2.1 12)), (2, .int l2), (3, .int l3), (4, .int l4), (5, .int l5), (6, .int l6), (7, .int l7), (8, .int v13)]) hC dX0_fillBlock_82 rfl (by decide) [1, 2, 3, 4, 5, 6, 7, 8, 0] rfl ?_
    exact w_draft_fillBlock_b84 hC (K60) hK60 (draft_fillBlock_b72 N K60 n) ih N _ _ _ _ _ _ _ _ hf

set_option maxRecDepth 100000 in
set_option maxHeartbeats 4000000 in
theorem w_draft_fillBlock_b60 {C : xT} {E : xE} {N : Nat} {r : Int32} {σ' : xS} (hC : xc C (GX E) RX0 cX0_fillBlock 9 none (k2_rm 2 48)) : ∀ (n : Nat) (l2 l3 l4 l5 l6 : Int32) (σ : xS), draft_fillBlock_b60 N n l2 l3 l4 l5 l6 σ = some (r, σ') → xw C (GX E) 9 (xq C (GX E) none σ') σ 60 [(0, .ref (E.2.2.1 4)), (1, .ref (E.2.2.1 12)), (2, .int l2), (3, .int l3), (4, .int l4), (5, .int l5), (6, .int l6)] [] := by
  intro n
  induction n with
  | zero =>
    intro l2 l3 l4 l5 l6 σ hf
    rw [draft_fillBlock_b60] at hf
    cases hf
  | succ n ih =>
    intro l2 l3 l4 l5 l6 σ hf
    rw [draft_fillBlock_b60] at hf
    refine xr_iload (pc' := 62) 6 hC dX0_fillBlock_60 rfl rfl ?_
    refine xr_iload (pc' := 64) 5 hC dX0_fillBlock_62 rfl rfl ?_
    refine xr_icmp_ge (pc' := 67) 119 hC dX0_fillBlock_64 rfl (by decide) hf (fun hf => ?_) (fun hf => ?_)
    · exact xr_return hC dX0_fillBlock_119 hf
    refine xr_aload_n (pc' := 68) 1 hC dX0_fillBlock_67 rfl rfl rfl ?_
    refine xr_iconst (pc' := 69) (1 : Int32) hC dX0_fillBlock_68 rfl (by decide) ?_
    refine lX_1 (pc' := 70) hC dX0_fillBlock_69 rfl hf (fun v11 hf => ?_)
    refine xr_istore (pc' := 72) (lv' := [(0, .ref (E.2.2.1 4)), (1, .ref (E.2.2.1 12)), (2, .int l2), (3, .int l3), (4, .int l4), (5, .int l5), (6, .int l6), (7, .int v11)]) hC dX0_fillBlock_70 rfl (by decide) [1, 2, 3, 4, 5, 6, 7, 0] rfl ?_
    exact w_draft_fillBlock_b72 hC (draft_fillBlock_b60 N n) ih N _ _ _ _ _ _ _ hf

set_option maxRecDepth 100000 in
set_option maxHeartbeats 4000000 in
theorem c_draft_fillBlock {l : Launch} {E : xE} {N : Nat} (hG : xOk (GX E)) {l2 : Int32} {σ : xS} {r : Int32} {σ' : xS} (hf : draft_fillBlock N l2 σ = some (r, σ')) : xMet l (GX E) yX0_fillBlock cX0_fillBlock 9 none (k2_rm 2 48) [.ref (E.2.2.1 4), .ref (E.2.2.1 12), .int l2] σ none σ' := by
  refine x_met (own := RX0) (by decide +kernel) hG rfl (Nat.le_of_ble_eq_true rfl) (fun C hl hC => ?_)
  subst hl
  show xw C (GX E) 9 (xq C (GX E) none σ') σ 0 [(0, .ref (E.2.2.1 4)), (1, .ref (E.2.2.1 12)), (2, .int l2)] []
  unfold draft_fillBlock at hf
  refine xr_aload_n (pc' := 1) 1 hC dX0_fillBlock_0 rfl rfl rfl ?_
  refine nX_1 (pc' := 2) hC dX0_fillBlock_1 rfl ?_
  refine xr_bipush (pc' := 4) (6 : Int32) hC dX0_fillBlock_2 rfl (by decide) ?_
  refine xr_icmp_ge (pc' := 7) 8 hC dX0_fillBlock_4 rfl (by decide) hf (fun hf => ?_) (fun hf => ?_)
  · refine xr_aload_n (pc' := 9) 0 hC dX0_fillBlock_8 rfl rfl rfl ?_
    refine gX0_draft_wide (pc' := 12) hC dX0_fillBlock_9 rfl ?_
    refine xr_aload_n (pc' := 13) 1 hC dX0_fillBlock_12 rfl rfl rfl ?_
    refine xr_iconst (pc' := 14) (0 : Int32) hC dX0_fillBlock_13 rfl (by decide) ?_
    refine lX_1 (pc' := 15) hC dX0_fillBlock_14 rfl hf (fun v1 hf => ?_)
    refine xr_aload_n (pc' := 16) 1 hC dX0_fillBlock_15 rfl rfl rfl ?_
    refine xr_iconst (pc' := 17) (3 : Int32) hC dX0_fillBlock_16 rfl (by decide) ?_
    refine lX_1 (pc' := 18) hC dX0_fillBlock_17 rfl hf (fun v2 hf => ?_)
    refine xr_iadd (pc' := 19) hC dX0_fillBlock_18 rfl ?_
    refine xr_mmin (pc' := 22) hC dX0_fillBlock_19 rfl kX0_38 (Nat.le_of_ble_eq_true rfl) (Nat.le_of_ble_eq_true rfl) ?_
    refine xr_top (x := xmin (σ.1 7) (v1 + v2)) hf (fun v3 hf => ?_)
    refine xr_istore_n (pc' := 23) (lv' := [(0, .ref (E.2.2.1 4)), (1, .ref (E.2.2.1 12)), (2, .int l2), (3, .int v3)]) hC dX0_fillBlock_22 rfl rfl (by decide) [1, 2, 3, 0] rfl ?_
    refine xr_aload_n (pc' := 24) 0 hC dX0_fillBlock_23 rfl rfl rfl ?_
    refine gX0_draft_high (pc' := 27) hC dX0_fillBlock_24 rfl ?_
    refine xr_aload_n (pc' := 28) 1 hC dX0_fillBlock_27 rfl rfl rfl ?_
    refine xr_iconst (pc' := 29) (1 : Int32) hC dX0_fillBlock_28 rfl (by decide) ?_
    refine lX_1 (pc' := 30) hC dX0_fillBlock_29 rfl hf (fun v4 hf => ?_)
    refine xr_aload_n (pc' := 31) 1 hC dX0_fillBlock_30 rfl rfl rfl ?_
    refine xr_iconst (pc' := 32) (4 : Int32) hC dX0_fillBlock_31 rfl (by decide) ?_
    refine lX_1 (pc' := 33) hC dX0_fillBlock_32 rfl hf (fun v5 hf => ?_)
    refine xr_iadd (pc' := 34) hC dX0_fillBlock_33 rfl ?_
    refine xr_mmin (pc' := 37) hC dX0_fillBlock_34 rfl kX0_38 (Nat.le_of_ble_eq_true rfl) (Nat.le_of_ble_eq_true rfl) ?_
    refine xr_top (x := xmin (σ.1 8) (v4 + v5)) hf (fun v6 hf => ?_)
    refine xr_istore (pc' := 39) (lv' := [(0, .ref (E.2.2.1 4)), (1, .ref (E.2.2.1 12)), (2, .int l2), (3, .int v3), (4, .int v6)]) hC dX0_fillBlock_37 rfl (by decide) [1, 2, 3, 4, 0] rfl ?_
    refine xr_aload_n (pc' := 40) 0 hC dX0_fillBlock_39 rfl rfl rfl ?_
    refine gX0_draft_deep (pc' := 43) hC dX0_fillBlock_40 rfl ?_
    refine xr_aload_n (pc' := 44) 1 hC dX0_fillBlock_43 rfl rfl rfl ?_
    refine xr_iconst (pc' := 45) (2 : Int32) hC dX0_fillBlock_44 rfl (by decide) ?_
    refine lX_1 (pc' := 46) hC dX0_fillBlock_45 rfl hf (fun v7 hf => ?_)
    refine xr_aload_n (pc' := 47) 1 hC dX0_fillBlock_46 rfl rfl rfl ?_
    refine xr_iconst (pc' := 48) (5 : Int32) hC dX0_fillBlock_47 rfl (by decide) ?_
    refine lX_1 (pc' := 49) hC dX0_fillBlock_48 rfl hf (fun v8 hf => ?_)
    refine xr_iadd (pc' := 50) hC dX0_fillBlock_49 rfl ?_
    refine xr_mmin (pc' := 53) hC dX0_fillBlock_50 rfl kX0_38 (Nat.le_of_ble_eq_true rfl) (Nat.le_of_ble_eq_true rfl) ?_
    refine xr_top (x := xmin (σ.1 9) (v7 + v8)) hf (fun v9 hf => ?_)
    refine xr_istore (pc' := 55) (lv' := [(0, .ref (E.2.2.1 4)), (1, .ref (E.2.2.1 12)), (2, .int l2), (3, .int v3), (4, .int v6), (5, .int v9)]) hC dX0_fillBlock_53 rfl (by decide) [1, 2, 3, 4, 5, 0] rfl ?_
    refine xr_aload_n (pc' := 56) 1 hC dX0_fillBlock_55 rfl rfl rfl ?_
    refine xr_iconst (pc' := 57) (2 : Int32) hC dX0_fillBlock_56 rfl (by decide) ?_
    refine lX_1 (pc' := 58) hC dX0_fillBlock_57 rfl hf (fun v10 hf => ?_)
    refine xr_istore (pc' := 60) (lv' := [(0, .ref (E.2.2.1 4)), (1, .ref (E.2.2.1 12)), (2, .int l2), (3, .int v3), (4, .int v6), (5, .int v9), (6, .int v10)]) hC dX0_fillBlock_58 rfl (by decide) [1, 2, 3, 4, 5, 6, 0] rfl ?_
    exact w_draft_fillBlock_b60 hC N _ _ _ _ _ _ hf
  exact xr_return hC dX0_fillBlock_7 hf

set_option maxRecDepth 100000 in
set_option maxHeartbeats 4000000 in
theorem w_reader_readNumber_b37 {C : xT} {E : xE} {N : Nat} {r : Int32} {σ' : xS} (hC : xc C (GX E) RX8 cX8_readNumber 5 none (k2_rm 2 41)) : ∀ (l1 l3 s0 : Int32) (σ : xS), reader_readNumber_b37 N l1 l3 s0 σ = some (r, σ') → xw C (GX E) 5 (xq C (GX E) none σ') σ 37 [(0, .ref (E.2.2.1 2)), (1, .int l1), (3, .int l3)] [.int s0] := by
  intro l1 l3 s0 σ hf
  unfold reader_readNumber_b37 at hf
  refine xr_istore (pc' := 39) (lv' := [(0, .ref (E.2.2.1 2)), (1, .int l1), (3, .int l3), (4, .int s0)]) hC dX8_readNumber_37 rfl (by decide) [1, 2, 3, 0] rfl ?_
  refine xr_iload (pc' := 41) 3 hC dX8_readNumber_39 rfl rfl ?_
  refine xr_if_eq (pc' := 44) 54 hC dX8_readNumber_41 rfl (by decide) hf (fun hf => ?_) (fun hf => ?_)
  · refine xr_aload_n (pc' := 55) 0 hC dX8_readNumber_54 rfl rfl rfl ?_
    refine xr_iconst (pc' := 56) (1 : Int32) hC dX8_readNumber_55 rfl (by decide) ?_
    refine xr_aload_n (pc' := 57) 0 hC dX8_readNumber_56 rfl rfl rfl ?_
    refine gX8_reader_place (pc' := 60) hC dX8_readNumber_57 rfl ?_
    refine xr_callVv (pc' := 63) (rmy := k2_rm 0 0) [.int (1 : Int32), .int (σ.1 1)] 2 hC dX8_readNumber_60 rfl kX8_64 rfl rfl rfl rfl rfl ⟨Nat.le_of_ble_eq_true rfl, Nat.le_of_ble_eq_true rfl⟩ rfl (Nat.le_of_ble_eq_true rfl) hf (fun _ _ h => c_reader_refuse (xc_ok hC) h) (fun v7 σ8 hf => ?_)
    refine xr_goto 104 hC dX8_readNumber_63 (by decide) ?_
    exact xr_return hC dX8_readNumber_104 hf
  refine xr_iload_n (pc' := 45) 2 hC dX8_readNumber_44 rfl rfl rfl ?_
  refine xr_if_lt (pc' := 48) 54 hC dX8_readNumber_45 rfl (by decide) hf (fun hf => ?_) (fun hf => ?_)
  · refine xr_aload_n (pc' := 55) 0 hC dX8_readNumber_54 rfl rfl rfl ?_
    refine xr_iconst (pc' := 56) (1 : Int32) hC dX8_readNumber_55 rfl (by decide) ?_
    refine xr_aload_n (pc' := 57) 0 hC dX8_readNumber_56 rfl rfl rfl ?_
    refine gX8_reader_place (pc' := 60) hC dX8_readNumber_57 rfl ?_
    refine xr_callVv (pc' := 63) (rmy := k2_rm 0 0) [.int (1 : Int32), .int (σ.1 1)] 2 hC dX8_readNumber_60 rfl kX8_64 rfl rfl rfl rfl rfl ⟨Nat.le_of_ble_eq_true rfl, Nat.le_of_ble_eq_true rfl⟩ rfl (Nat.le_of_ble_eq_true rfl) hf (fun _ _ h => c_reader_refuse (xc_ok hC) h) (fun v9 σ10 hf => ?_)
    refine xr_goto 104 hC dX8_readNumber_63 (by decide) ?_
    exact xr_return hC dX8_readNumber_104 hf
  refine xr_iload_n (pc' := 49) 2 hC dX8_readNumber_48 rfl rfl rfl ?_
  refine xr_bipush (pc' := 51) (9 : Int32) hC dX8_readNumber_49 rfl (by decide) ?_
  refine xr_icmp_le (pc' := 54) 66 hC dX8_readNumber_51 rfl (by decide) hf (fun hf => ?_) (fun hf => ?_)
  · refine xr_iload_n (pc' := 67) 1 hC dX8_readNumber_66 rfl rfl rfl ?_
    refine xr_iconst (pc' := 68) (3 : Int32) hC dX8_readNumber_67 rfl (by decide) ?_
    refine xr_icmp_lt (pc' := 71) 87 hC dX8_readNumber_68 rfl (by decide) hf (fun hf => ?_) (fun hf => ?_)
    · refine xr_aload_n (pc' := 88) 0 hC dX8_readNumber_87 rfl rfl rfl ?_
      refine gX8_reader_numbers (pc' := 91) hC dX8_readNumber_88 rfl ?_
      refine xr_iload_n (pc' := 92) 1 hC dX8_readNumber_91 rfl rfl rfl ?_
      refine xr_iload_n (pc' := 93) 2 hC dX8_readNumber_92 rfl rfl rfl ?_
      refine sX_1 (pc' := 94) hC dX8_readNumber_93 rfl hf (fun σ11 hf => ?_)
      refine xr_aload_n (pc' := 95) 0 hC dX8_readNumber_94 rfl rfl rfl ?_
      refine xr_dup (pc' := 96) hC dX8_readNumber_95 rfl rfl ?_
      refine gX8_reader_place (pc' := 99) hC dX8_readNumber_96 rfl ?_
      refine xr_iconst (pc' := 100) (1 : Int32) hC dX8_readNumber_99 rfl (by decide) ?_
      refine xr_iadd (pc' := 101) hC dX8_readNumber_100 rfl ?_
      refine pX8_reader_place (pc' := 104) hC dX8_readNumber_101 rfl hf (fun σ12 hf => ?_)
      exact xr_return hC dX8_readNumber_104 hf
    refine xr_iload_n (pc' := 72) 2 hC dX8_readNumber_71 rfl rfl rfl ?_
    refine xr_if_ne (pc' := 75) 87 hC dX8_readNumber_72 rfl (by decide) hf (fun hf => ?_) (fun hf => ?_)
    · refine xr_aload_n (pc' := 88) 0 hC dX8_readNumber_87 rfl rfl rfl ?_
      refine gX8_reader_numbers (pc' := 91) hC dX8_readNumber_88 rfl ?_
      refine xr_iload_n (pc' := 92) 1 hC dX8_readNumber_91 rfl rfl rfl ?_
      refine xr_iload_n (pc' := 93) 2 hC dX8_readNumber_92 rfl rfl rfl ?_
      refine sX_1 (pc' := 94) hC dX8_readNumber_93 rfl hf (fun σ13 hf => ?_)
      refine xr_aload_n (pc' := 95) 0 hC dX8_readNumber_94 rfl rfl rfl ?_
      refine xr_dup (pc' := 96) hC dX8_readNumber_95 rfl rfl ?_
      refine gX8_reader_place (pc' := 99) hC dX8_readNumber_96 rfl ?_
      refine xr_iconst (pc' := 100) (1 : Int32) hC dX8_readNumber_99 rfl (by decide) ?_
      refine xr_iadd (pc' := 101) hC dX8_readNumber_100 rfl ?_
      refine pX8_reader_place (pc' := 104) hC dX8_readNumber_101 rfl hf (fun σ14 hf => ?_)
      exact xr_return hC dX8_readNumber_104 hf
    refine xr_aload_n (pc' := 76) 0 hC dX8_readNumber_75 rfl rfl rfl ?_
    refine xr_iconst (pc' := 77) (2 : Int32) hC dX8_readNumber_76 rfl (by decide) ?_
    refine xr_aload_n (pc' := 78) 0 hC dX8_readNumber_77 rfl rfl rfl ?_
    refine gX8_reader_place (pc' := 81) hC dX8_readNumber_78 rfl ?_
    refine xr_callVv (pc' := 84) (rmy := k2_rm 0 0) [.int (2 : Int32), .int (σ.1 1)] 2 hC dX8_readNumber_81 rfl kX8_64 rfl rfl rfl rfl rfl ⟨Nat.le_of_ble_eq_true rfl, Nat.le_of_ble_eq_true rfl⟩ rfl (Nat.le_of_ble_eq_true rfl) hf (fun _ _ h => c_reader_refuse (xc_ok hC) h) (fun v15 σ16 hf => ?_)
    refine xr_goto 104 hC dX8_readNumber_84 (by decide) ?_
    exact xr_return hC dX8_readNumber_104 hf
  refine xr_aload_n (pc' := 55) 0 hC dX8_readNumber_54 rfl rfl rfl ?_
  refine xr_iconst (pc' := 56) (1 : Int32) hC dX8_readNumber_55 rfl (by decide) ?_
  refine xr_aload_n (pc' := 57) 0 hC dX8_readNumber_56 rfl rfl rfl ?_
  refine gX8_reader_place (pc' := 60) hC dX8_readNumber_57 rfl ?_
  refine xr_callVv (pc' := 63) (rmy := k2_rm 0 0) [.int (1 : Int32), .int (σ.1 1)] 2 hC dX8_readNumber_60 rfl kX8_64 rfl rfl rfl rfl rfl ⟨Nat.le_of_ble_eq_true rfl, Nat.le_of_ble_eq_true rfl⟩ rfl (Nat.le_of_ble_eq_true rfl) hf (fun _ _ h => c_reader_refuse (xc_ok hC) h) (fun v17 σ18 hf => ?_)
  refine xr_goto 104 hC dX8_readNumber_63 (by decide) ?_
  exact xr_return hC dX8_readNumber_104 hf

set_option maxRecDepth 100000 in
set_option maxHeartbeats 4000000 in
theorem c_reader_readNumber {l : Launch} {E : xE} {N : Nat} (hG : xOk (GX E)) {l1 : Int32} {σ : xS} {r : Int32} {σ' : xS} (hf : reader_readNumber N l1 σ = some (r, σ')) : xMet l (GX E) yX8_readNumber cX8_readNumber 5 none (k2_rm 2 41) [.ref (E.2.2.1 2), .int l1] σ none σ' := by
  refine x_met (own := RX8) (by decide +kernel) hG rfl (Nat.le_of_ble_eq_true rfl) (fun C hl hC => ?_)
  subst hl
  show xw C (GX E) 5 (xq C (GX E) none σ') σ 0 [(0, .ref (E.2.2.1 2)), (1, .int l1)] []
  unfold reader_readNumber at hf
  refine xr_aload_n (pc' := 1) 0 hC dX8_readNumber_0 rfl rfl rfl ?_
  refine gX8_reader_place (pc' := 4) hC dX8_readNumber_1 rfl ?_
  refine xr_istoreb_n (pc' := 5) hC dX8_readNumber_4 rfl hf rfl (by decide) [1, 2, 0] (fun l2_1 => [(0, .ref (E.2.2.1 2)), (1, .int l1), (2, .int l2_1)]) (fun _ => rfl) (fun l2_1 hf => ?_)
  refine xr_aload_n (pc' := 6) 0 hC dX8_readNumber_5 rfl rfl rfl ?_
  refine xr_callVv (pc' := 9) (rmy := k2_rm 1 21) [] 2 hC dX8_readNumber_6 rfl kX8_29 rfl rfl rfl rfl rfl ⟨Nat.le_of_ble_eq_true rfl, Nat.le_of_ble_eq_true rfl⟩ rfl (Nat.le_of_ble_eq_true rfl) hf (fun _ _ h => c_reader_skipBlanks (xc_ok hC) h) (fun v2 σ3 hf => ?_)
  refine xr_aload_n (pc' := 10) 0 hC dX8_readNumber_9 rfl rfl rfl ?_
  refine gX8_reader_tape (pc' := 13) hC dX8_readNumber_10 rfl ?_
  refine xr_aload_n (pc' := 14) 0 hC dX8_readNumber_13 rfl rfl rfl ?_
  refine gX8_reader_place (pc' := 17) hC dX8_readNumber_14 rfl ?_
  refine xr_callV (pc' := 20) (rmy := k2_rm 0 0) [.int (σ3.1 1)] 1 hC dX8_readNumber_17 rfl kX8_81 rfl rfl rfl rfl rfl ⟨Nat.le_of_ble_eq_true rfl, Nat.le_of_ble_eq_true rfl⟩ rfl (Nat.le_of_ble_eq_true rfl) hf (fun _ _ h => c_tape_byteAt (xc_ok hC) h) (fun v4 σ5 hf => ?_)
  refine xr_bipush (pc' := 22) (48 : Int32) hC dX8_readNumber_20 rfl (by decide) ?_
  refine xr_isub (pc' := 23) hC dX8_readNumber_22 rfl ?_
  refine xr_istoreb_n (pc' := 24) hC dX8_readNumber_23 rfl hf rfl (by decide) [1, 2, 3, 0] (fun l3_6 => [(0, .ref (E.2.2.1 2)), (1, .int l1), (2, .int l2_1), (3, .int l3_6)]) (fun _ => rfl) (fun l3_6 hf => ?_)
  refine xr_aload_n (pc' := 25) 0 hC dX8_readNumber_24 rfl rfl rfl ?_
  refine gX8_reader_place (pc' := 28) hC dX8_readNumber_25 rfl ?_
  refine xr_iload_n (pc' := 29) 2 hC dX8_readNumber_28 rfl rfl rfl ?_
  refine xr_icmp_le (pc' := 32) 36 hC dX8_readNumber_29 rfl (by decide) hf (fun hf => ?_) (fun hf => ?_)
  · refine xr_iconst (pc' := 37) (0 : Int32) hC dX8_readNumber_36 rfl (by decide) ?_
    refine x_lv [0, 1, 3] rfl ?_
    exact w_reader_readNumber_b37 hC _ _ _ _ hf
  refine xr_iconst (pc' := 33) (1 : Int32) hC dX8_readNumber_32 rfl (by decide) ?_
  refine xr_goto 37 hC dX8_readNumber_33 (by decide) ?_
  refine x_lv [0, 1, 3] rfl ?_
  exact w_reader_readNumber_b37 hC _ _ _ _ hf

set_option maxRecDepth 100000 in
set_option maxHeartbeats 4000000 in
theorem w_reader_readBlock_b2 {C : xT} {E : xE} {N : Nat} {r : Int32} {σ' : xS} (hC : xc C (GX E) RX8 cX8_readBlock 4 none (k2_rm 3 76)) : ∀ (n : Nat) (l2 l3 : Int32) (σ : xS), reader_readBlock_b2 N n l2 l3 σ = some (r, σ') → xw C (GX E) 4 (xq C (GX E) none σ') σ 2 [(0, .ref (E.2.2.1 2)), (1, .ref (E.2.2.1 4)), (2, .int l2), (3, .int l3)] [] := by
  intro n
  induction n with
  | zero =>
    intro l2 l3 σ hf
    rw [reader_readBlock_b2] at hf
    cases hf
  | succ n ih =>
    intro l2 l3 σ hf
    rw [reader_readBlock_b2] at hf
    refine xr_iload_n (pc' := 3) 3 hC dX8_readBlock_2 rfl rfl rfl ?_
    refine xr_bipush (pc' := 5) (6 : Int32) hC dX8_readBlock_3 rfl (by decide) ?_
    refine xr_icmp_ge (pc' := 8) 26 hC dX8_readBlock_5 rfl (by decide) hf (fun hf => ?_) (fun hf => ?_)
    · refine xr_aload_n (pc' := 27) 0 hC dX8_readBlock_26 rfl rfl rfl ?_
      refine xr_callVv (pc' := 30) (rmy := k2_rm 2 41) [] 2 hC dX8_readBlock_27 rfl kX8_72 rfl rfl rfl rfl rfl ⟨Nat.le_of_ble_eq_true rfl, Nat.le_of_ble_eq_true rfl⟩ rfl (Nat.le_of_ble_eq_true rfl) hf (fun _ _ h => c_reader_readSemicolon (xc_ok hC) h) (fun v1 σ2 hf => ?_)
      refine xr_aload_n (pc' := 31) 0 hC dX8_readBlock_30 rfl rfl rfl ?_
      refine gX8_reader_kind (pc' := 34) hC dX8_readBlock_31 rfl ?_
      refine xr_if_ne (pc' := 37) 46 hC dX8_readBlock_34 rfl (by decide) hf (fun hf => ?_) (fun hf => ?_)
      · exact xr_return hC dX8_readBlock_46 hf
      refine xr_aload_n (pc' := 38) 1 hC dX8_readBlock_37 rfl rfl rfl ?_
      refine xr_aload_n (pc' := 39) 0 hC dX8_readBlock_38 rfl rfl rfl ?_
      refine gX8_reader_numbers (pc' := 42) hC dX8_readBlock_39 rfl ?_
      refine xr_iload_n (pc' := 43) 2 hC dX8_readBlock_42 rfl rfl rfl ?_
      refine xr_callVv (pc' := 46) (rmy := k2_rm 2 48) [.ref (E.2.2.1 12), .int l2] 4 hC dX8_readBlock_43 rfl kX8_75 rfl rfl rfl rfl rfl ⟨Nat.le_of_ble_eq_true rfl, Nat.le_of_ble_eq_true rfl⟩ rfl (Nat.le_of_ble_eq_true rfl) hf (fun _ _ h => c_draft_fillBlock (xc_ok hC) h) (fun v3 σ4 hf => ?_)
      exact xr_return hC dX8_readBlock_46 hf
    refine xr_aload_n (pc' := 9) 0 hC dX8_readBlock_8 rfl rfl rfl ?_
    refine gX8_reader_kind (pc' := 12) hC dX8_readBlock_9 rfl ?_
    refine xr_if_ne (pc' := 15) 26 hC dX8_readBlock_12 rfl (by decide) hf (fun hf => ?_) (fun hf => ?_)
    · refine xr_aload_n (pc' := 27) 0 hC dX8_readBlock_26 rfl rfl rfl ?_
      refine xr_callVv (pc' := 30) (rmy := k2_rm 2 41) [] 2 hC dX8_readBlock_27 rfl kX8_72 rfl rfl rfl rfl rfl ⟨Nat.le_of_ble_eq_true rfl, Nat.le_of_ble_eq_true rfl⟩ rfl (Nat.le_of_ble_eq_true rfl) hf (fun _ _ h => c_reader_readSemicolon (xc_ok hC) h) (fun v5 σ6 hf => ?_)
      refine xr_aload_n (pc' := 31) 0 hC dX8_readBlock_30 rfl rfl rfl ?_
      refine gX8_reader_kind (pc' := 34) hC dX8_readBlock_31 rfl ?_
      refine xr_if_ne (pc' := 37) 46 hC dX8_readBlock_34 rfl (by decide) hf (fun hf => ?_) (fun hf => ?_)
      · exact xr_return hC dX8_readBlock_46 hf
      refine xr_aload_n (pc' := 38) 1 hC dX8_readBlock_37 rfl rfl rfl ?_
      refine xr_aload_n (pc' := 39) 0 hC dX8_readBlock_38 rfl rfl rfl ?_
      refine gX8_reader_numbers (pc' := 42) hC dX8_readBlock_39 rfl ?_
      refine xr_iload_n (pc' := 43) 2 hC dX8_readBlock_42 rfl rfl rfl ?_
      refine xr_callVv (pc' := 46) (rmy := k2_rm 2 48) [.ref (E.2.2.1 12), .int l2] 4 hC dX8_readBlock_43 rfl kX8_75 rfl rfl rfl rfl rfl ⟨Nat.le_of_ble_eq_true rfl, Nat.le_of_ble_eq_true rfl⟩ rfl (Nat.le_of_ble_eq_true rfl) hf (fun _ _ h => c_draft_fillBlock (xc_ok hC) h) (fun v7 σ8 hf => ?_)
      exact xr_return hC dX8_readBlock_46 hf
    refine xr_aload_n (pc' := 16) 0 hC dX8_readBlock_15 rfl rfl rfl ?_
    refine xr_iload_n (pc' := 17) 3 hC dX8_readBlock_16 rfl rfl rfl ?_
    refine xr_callVv (pc' := 20) (rmy := k2_rm 2 41) [.int l3] 2 hC dX8_readBlock_17 rfl kX8_68 rfl rfl rfl rfl rfl ⟨Nat.le_of_ble_eq_true rfl, Nat.le_of_ble_eq_true rfl⟩ rfl (Nat.le_of_ble_eq_true rfl) hf (fun _ _ h => c_reader_readNumber (xc_ok hC) h) (fun v9 σ10 hf => ?_)
    refine xr_iinc (pc' := 23) hC dX8_readBlock_20 rfl _ rfl hf 3 rfl (by decide) [1, 2, 3, 0] (fun l3_11 => [(0, .ref (E.2.2.1 2)), (1, .ref (E.2.2.1 4)), (2, .int l2), (3, .int l3_11)]) (fun _ => rfl) (fun l3_11 hf => ?_)
    refine xr_goto 2 hC dX8_readBlock_23 (by decide) ?_
    exact ih _ _ _ hf

set_option maxRecDepth 100000 in
set_option maxHeartbeats 4000000 in
theorem c_reader_readBlock {l : Launch} {E : xE} {N : Nat} (hG : xOk (GX E)) {l2 : Int32} {σ : xS} {r : Int32} {σ' : xS} (hf : reader_readBlock N l2 σ = some (r, σ')) : xMet l (GX E) yX8_readBlock cX8_readBlock 4 none (k2_rm 3 76) [.ref (E.2.2.1 2), .ref (E.2.2.1 4), .int l2] σ none σ' := by
  refine x_met (own := RX8) (by decide +kernel) hG rfl (Nat.le_of_ble_eq_true rfl) (fun C hl hC => ?_)
  subst hl
  show xw C (GX E) 4 (xq C (GX E) none σ') σ 0 [(0, .ref (E.2.2.1 2)), (1, .ref (E.2.2.1 4)), (2, .int l2)] []
  unfold reader_readBlock at hf
  refine xr_iconst (pc' := 1) (0 : Int32) hC dX8_readBlock_0 rfl (by decide) ?_
  refine xr_istore_n (pc' := 2) (lv' := [(0, .ref (E.2.2.1 2)), (1, .ref (E.2.2.1 4)), (2, .int l2), (3, .int (0 : Int32))]) hC dX8_readBlock_1 rfl rfl (by decide) [1, 2, 3, 0] rfl ?_
  exact w_reader_readBlock_b2 hC N _ _ _ hf

set_option maxRecDepth 100000 in
set_option maxHeartbeats 4000000 in
theorem c_reader_readStatement {l : Launch} {E : xE} {N : Nat} (hG : xOk (GX E)) {σ : xS} {r : Int32} {σ' : xS} (hf : reader_readStatement N σ = some (r, σ')) : xMet l (GX E) yX8_readStatement cX8_readStatement 3 none (k2_rm 7 151) [.ref (E.2.2.1 2), .ref (E.2.2.1 4)] σ none σ' := by
  refine x_met (own := RX8) (by decide +kernel) hG rfl (Nat.le_of_ble_eq_true rfl) (fun C hl hC => ?_)
  subst hl
  show xw C (GX E) 3 (xq C (GX E) none σ') σ 0 [(0, .ref (E.2.2.1 2)), (1, .ref (E.2.2.1 4))] []
  unfold reader_readStatement at hf
  refine xr_aload_n (pc' := 1) 0 hC dX8_readStatement_0 rfl rfl rfl ?_
  refine gX8_reader_place (pc' := 4) hC dX8_readStatement_1 rfl ?_
  refine xr_istoreb_n (pc' := 5) hC dX8_readStatement_4 rfl hf rfl (by decide) [1, 2, 0] (fun l2_1 => [(0, .ref (E.2.2.1 2)), (1, .ref (E.2.2.1 4)), (2, .int l2_1)]) (fun _ => rfl) (fun l2_1 hf => ?_)
  refine xr_aload_n (pc' := 6) 0 hC dX8_readStatement_5 rfl rfl rfl ?_
  refine xr_ldcS (pc' := 8) 0 hC dX8_readStatement_6 rfl (by decide) rfl ?_
  refine xr_callV (pc' := 11) (rmy := k2_rm 4 85) [.ref (E.2.2.2.2.1 0)] 2 hC dX8_readStatement_8 rfl kX8_44 rfl rfl rfl rfl rfl ⟨Nat.le_of_ble_eq_true rfl, Nat.le_of_ble_eq_true rfl⟩ rfl (Nat.le_of_ble_eq_true rfl) hf (fun _ _ h => c_reader_takeWord (show 0 < 7 by decide) (xc_ok hC) h) (fun v2 σ3 hf => ?_)
  refine xr_if_eq (pc' := 14) 23 hC dX8_readStatement_11 rfl (by decide) hf (fun hf => ?_) (fun hf => ?_)
  · refine xr_aload_n (pc' := 24) 0 hC dX8_readStatement_23 rfl rfl rfl ?_
    refine xr_ldcS (pc' := 26) 1 hC dX8_readStatement_24 rfl (by decide) rfl ?_
    refine xr_callV (pc' := 29) (rmy := k2_rm 4 85) [.ref (E.2.2.2.2.1 1)] 2 hC dX8_readStatement_26 rfl kX8_44 rfl rfl rfl rfl rfl ⟨Nat.le_of_ble_eq_true rfl, Nat.le_of_ble_eq_true rfl⟩ rfl (Nat.le_of_ble_eq_true rfl) hf (fun _ _ h => c_reader_takeWord (show 1 < 7 by decide) (xc_ok hC) h) (fun v4 σ5 hf => ?_)
    refine xr_if_eq (pc' := 32) 41 hC dX8_readStatement_29 rfl (by decide) hf (fun hf => ?_) (fun hf => ?_)
    · refine xr_aload_n (pc' := 42) 0 hC dX8_readStatement_41 rfl rfl rfl ?_
      refine xr_ldcS (pc' := 44) 2 hC dX8_readStatement_42 rfl (by decide) rfl ?_
      refine xr_callV (pc' := 47) (rmy := k2_rm 4 85) [.ref (E.2.2.2.2.1 2)] 2 hC dX8_readStatement_44 rfl kX8_44 rfl rfl rfl rfl rfl ⟨Nat.le_of_ble_eq_true rfl, Nat.le_of_ble_eq_true rfl⟩ rfl (Nat.le_of_ble_eq_true rfl) hf (fun _ _ h => c_reader_takeWord (show 2 < 7 by decide) (xc_ok hC) h) (fun v6 σ7 hf => ?_)
      refine xr_if_eq (pc' := 50) 58 hC dX8_readStatement_47 rfl (by decide) hf (fun hf => ?_) (fun hf => ?_)
      · refine xr_aload_n (pc' := 59) 0 hC dX8_readStatement_58 rfl rfl rfl ?_
        refine xr_ldcS (pc' := 61) 3 hC dX8_readStatement_59 rfl (by decide) rfl ?_
        refine xr_callV (pc' := 64) (rmy := k2_rm 4 85) [.ref (E.2.2.2.2.1 3)] 2 hC dX8_readStatement_61 rfl kX8_44 rfl rfl rfl rfl rfl ⟨Nat.le_of_ble_eq_true rfl, Nat.le_of_ble_eq_true rfl⟩ rfl (Nat.le_of_ble_eq_true rfl) hf (fun _ _ h => c_reader_takeWord (show 3 < 7 by decide) (xc_ok hC) h) (fun v8 σ9 hf => ?_)
        refine xr_if_eq (pc' := 67) 76 hC dX8_readStatement_64 rfl (by decide) hf (fun hf => ?_) (fun hf => ?_)
        · refine xr_aload_n (pc' := 77) 0 hC dX8_readStatement_76 rfl rfl rfl ?_
          refine xr_iconst (pc' := 78) (1 : Int32) hC dX8_readStatement_77 rfl (by decide) ?_
          refine xr_iload_n (pc' := 79) 2 hC dX8_readStatement_78 rfl rfl rfl ?_
          refine xr_callVv (pc' := 82) (rmy := k2_rm 0 0) [.int (1 : Int32), .int l2_1] 2 hC dX8_readStatement_79 rfl kX8_64 rfl rfl rfl rfl rfl ⟨Nat.le_of_ble_eq_true rfl, Nat.le_of_ble_eq_true rfl⟩ rfl (Nat.le_of_ble_eq_true rfl) hf (fun _ _ h => c_reader_refuse (xc_ok hC) h) (fun v10 σ11 hf => ?_)
          exact xr_return hC dX8_readStatement_82 hf
        refine xr_aload_n (pc' := 68) 0 hC dX8_readStatement_67 rfl rfl rfl ?_
        refine xr_aload_n (pc' := 69) 1 hC dX8_readStatement_68 rfl rfl rfl ?_
        refine xr_iload_n (pc' := 70) 2 hC dX8_readStatement_69 rfl rfl rfl ?_
        refine xr_callVv (pc' := 73) (rmy := k2_rm 3 71) [.ref (E.2.2.1 4), .int l2_1] 2 hC dX8_readStatement_70 rfl kX8_61 rfl rfl rfl rfl rfl ⟨Nat.le_of_ble_eq_true rfl, Nat.le_of_ble_eq_true rfl⟩ rfl (Nat.le_of_ble_eq_true rfl) hf (fun _ _ h => c_reader_readTurn (xc_ok hC) h) (fun v12 σ13 hf => ?_)
        refine xr_goto 82 hC dX8_readStatement_73 (by decide) ?_
        exact xr_return hC dX8_readStatement_82 hf
      refine xr_aload_n (pc' := 51) 0 hC dX8_readStatement_50 rfl rfl rfl ?_
      refine xr_aload_n (pc' := 52) 1 hC dX8_readStatement_51 rfl rfl rfl ?_
      refine xr_callVv (pc' := 55) (rmy := k2_rm 6 128) [.ref (E.2.2.1 4)] 2 hC dX8_readStatement_52 rfl kX8_56 rfl rfl rfl rfl rfl ⟨Nat.le_of_ble_eq_true rfl, Nat.le_of_ble_eq_true rfl⟩ rfl (Nat.le_of_ble_eq_true rfl) hf (fun _ _ h => c_reader_readMirror (xc_ok hC) h) (fun v14 σ15 hf => ?_)
      refine xr_goto 82 hC dX8_readStatement_55 (by decide) ?_
      exact xr_return hC dX8_readStatement_82 hf
    refine xr_aload_n (pc' := 33) 0 hC dX8_readStatement_32 rfl rfl rfl ?_
    refine xr_aload_n (pc' := 34) 1 hC dX8_readStatement_33 rfl rfl rfl ?_
    refine xr_iconst (pc' := 35) (0 : Int32) hC dX8_readStatement_34 rfl (by decide) ?_
    refine xr_callVv (pc' := 38) (rmy := k2_rm 3 76) [.ref (E.2.2.1 4), .int (0 : Int32)] 2 hC dX8_readStatement_35 rfl kX8_48 rfl rfl rfl rfl rfl ⟨Nat.le_of_ble_eq_true rfl, Nat.le_of_ble_eq_true rfl⟩ rfl (Nat.le_of_ble_eq_true rfl) hf (fun _ _ h => c_reader_readBlock (xc_ok hC) h) (fun v16 σ17 hf => ?_)
    refine xr_goto 82 hC dX8_readStatement_38 (by decide) ?_
    exact xr_return hC dX8_readStatement_82 hf
  refine xr_aload_n (pc' := 15) 0 hC dX8_readStatement_14 rfl rfl rfl ?_
  refine xr_aload_n (pc' := 16) 1 hC dX8_readStatement_15 rfl rfl rfl ?_
  refine xr_iconst (pc' := 17) (1 : Int32) hC dX8_readStatement_16 rfl (by decide) ?_
  refine xr_callVv (pc' := 20) (rmy := k2_rm 3 76) [.ref (E.2.2.1 4), .int (1 : Int32)] 2 hC dX8_readStatement_17 rfl kX8_48 rfl rfl rfl rfl rfl ⟨Nat.le_of_ble_eq_true rfl, Nat.le_of_ble_eq_true rfl⟩ rfl (Nat.le_of_ble_eq_true rfl) hf (fun _ _ h => c_reader_readBlock (xc_ok hC) h) (fun v18 σ19 hf => ?_)
  refine xr_goto 82 hC dX8_readStatement_20 (by decide) ?_
  exact xr_return hC dX8_readStatement_82 hf

set_option maxRecDepth 100000 in
set_option maxHeartbeats 4000000 in
theorem w_reader_readOnto_b21 {C : xT} {E : xE} {N : Nat} {r : Int32} {σ' : xS} (hC : xc C (GX E) RX8 cX8_readOnto 3 (some .boolean) (k2_rm 8 173)) : ∀ (n : Nat) (l2 : Int32) (σ : xS), reader_readOnto_b21 N n l2 σ = some (r, σ') → xw C (GX E) 3 (xq C (GX E) (some (.int r)) σ') σ 21 [(0, .ref (E.2.2.1 2)), (1, .ref (E.2.2.1 4)), (2, .int l2)] [] := by
  intro n
  induction n with
  | zero =>
    intro l2 σ hf
    rw [reader_readOnto_b21] at hf
    cases hf
  | succ n ih =>
    intro l2 σ hf
    rw [reader_readOnto_b21] at hf
    refine xr_iload_n (pc' := 22) 2 hC dX8_readOnto_21 rfl rfl rfl ?_
    refine xr_sipush (pc' := 25) (400 : Int32) hC dX8_readOnto_22 rfl (by decide) ?_
    refine xr_icmp_ge (pc' := 28) 64 hC dX8_readOnto_25 rfl (by decide) hf (fun hf => ?_) (fun hf => ?_)
    · refine xr_aload_n (pc' := 65) 0 hC dX8_readOnto_64 rfl rfl rfl ?_
      refine gX8_reader_kind (pc' := 68) hC dX8_readOnto_65 rfl ?_
      refine xr_if_ne (pc' := 71) 75 hC dX8_readOnto_68 rfl (by decide) hf (fun hf => ?_) (fun hf => ?_)
      · refine xr_iconst (pc' := 76) (0 : Int32) hC dX8_readOnto_75 rfl (by decide) ?_
        exact xr_zreturn hC dX8_readOnto_76 rfl hf
      refine xr_iconst (pc' := 72) (1 : Int32) hC dX8_readOnto_71 rfl (by decide) ?_
      refine xr_goto 76 hC dX8_readOnto_72 (by decide) ?_
      exact xr_zreturn hC dX8_readOnto_76 rfl hf
    refine xr_aload_n (pc' := 29) 0 hC dX8_readOnto_28 rfl rfl rfl ?_
    refine gX8_reader_kind (pc' := 32) hC dX8_readOnto_29 rfl ?_
    refine xr_if_ne (pc' := 35) 64 hC dX8_readOnto_32 rfl (by decide) hf (fun hf => ?_) (fun hf => ?_)
    · refine xr_aload_n (pc' := 65) 0 hC dX8_readOnto_64 rfl rfl rfl ?_
      refine gX8_reader_kind (pc' := 68) hC dX8_readOnto_65 rfl ?_
      refine xr_if_ne (pc' := 71) 75 hC dX8_readOnto_68 rfl (by decide) hf (fun hf => ?_) (fun hf => ?_)
      · refine xr_iconst (pc' := 76) (0 : Int32) hC dX8_readOnto_75 rfl (by decide) ?_
        exact xr_zreturn hC dX8_readOnto_76 rfl hf
      refine xr_iconst (pc' := 72) (1 : Int32) hC dX8_readOnto_71 rfl (by decide) ?_
      refine xr_goto 76 hC dX8_readOnto_72 (by decide) ?_
      exact xr_zreturn hC dX8_readOnto_76 rfl hf
    refine xr_aload_n (pc' := 36) 0 hC dX8_readOnto_35 rfl rfl rfl ?_
    refine gX8_reader_place (pc' := 39) hC dX8_readOnto_36 rfl ?_
    refine xr_aload_n (pc' := 40) 0 hC dX8_readOnto_39 rfl rfl rfl ?_
    refine gX8_reader_tape (pc' := 43) hC dX8_readOnto_40 rfl ?_
    refine xr_callV (pc' := 46) (rmy := k2_rm 0 0) [] 1 hC dX8_readOnto_43 rfl kX8_34 rfl rfl rfl rfl rfl ⟨Nat.le_of_ble_eq_true rfl, Nat.le_of_ble_eq_true rfl⟩ rfl (Nat.le_of_ble_eq_true rfl) hf (fun _ _ h => c_tape_size (xc_ok hC) h) (fun v6 σ7 hf => ?_)
    refine xr_icmp_ge (pc' := 49) 64 hC dX8_readOnto_46 rfl (by decide) hf (fun hf => ?_) (fun hf => ?_)
    · refine xr_aload_n (pc' := 65) 0 hC dX8_readOnto_64 rfl rfl rfl ?_
      refine gX8_reader_kind (pc' := 68) hC dX8_readOnto_65 rfl ?_
      refine xr_if_ne (pc' := 71) 75 hC dX8_readOnto_68 rfl (by decide) hf (fun hf => ?_) (fun hf => ?_)
      · refine xr_iconst (pc' := 76) (0 : Int32) hC dX8_readOnto_75 rfl (by decide) ?_
        exact xr_zreturn hC dX8_readOnto_76 rfl hf
      refine xr_iconst (pc' := 72) (1 : Int32) hC dX8_readOnto_71 rfl (by decide) ?_
      refine xr_goto 76 hC dX8_readOnto_72 (by decide) ?_
      exact xr_zreturn hC dX8_readOnto_76 rfl hf
    refine xr_aload_n (pc' := 50) 0 hC dX8_readOnto_49 rfl rfl rfl ?_
    refine xr_aload_n (pc' := 51) 1 hC dX8_readOnto_50 rfl rfl rfl ?_
    refine xr_callVv (pc' := 54) (rmy := k2_rm 7 151) [.ref (E.2.2.1 4)] 2 hC dX8_readOnto_51 rfl kX8_38 rfl rfl rfl rfl rfl ⟨Nat.le_of_ble_eq_true rfl, Nat.le_of_ble_eq_true rfl⟩ rfl (Nat.le_of_ble_eq_true rfl) hf (fun _ _ h => c_reader_readStatement (xc_ok hC) h) (fun v8 σ9 hf => ?_)
    refine xr_aload_n (pc' := 55) 0 hC dX8_readOnto_54 rfl rfl rfl ?_
    refine xr_callVv (pc' := 58) (rmy := k2_rm 1 21) [] 2 hC dX8_readOnto_55 rfl kX8_29 rfl rfl rfl rfl rfl ⟨Nat.le_of_ble_eq_true rfl, Nat.le_of_ble_eq_true rfl⟩ rfl (Nat.le_of_ble_eq_true rfl) hf (fun _ _ h => c_reader_skipBlanks (xc_ok hC) h) (fun v10 σ11 hf => ?_)
    refine xr_iinc (pc' := 61) hC dX8_readOnto_58 rfl _ rfl hf 2 rfl (by decide) [1, 2, 0] (fun l2_12 => [(0, .ref (E.2.2.1 2)), (1, .ref (E.2.2.1 4)), (2, .int l2_12)]) (fun _ => rfl) (fun l2_12 hf => ?_)
    refine xr_goto 21 hC dX8_readOnto_61 (by decide) ?_
    exact ih _ _ hf

set_option maxRecDepth 100000 in
set_option maxHeartbeats 4000000 in
theorem c_reader_readOnto {l : Launch} {E : xE} {N : Nat} (hG : xOk (GX E)) {σ : xS} {r : Int32} {σ' : xS} (hf : reader_readOnto N σ = some (r, σ')) : xMet l (GX E) yX8_readOnto cX8_readOnto 3 (some .boolean) (k2_rm 8 173) [.ref (E.2.2.1 2), .ref (E.2.2.1 4)] σ (some (.int r)) σ' := by
  refine x_met (own := RX8) (by decide +kernel) hG rfl (Nat.le_of_ble_eq_true rfl) (fun C hl hC => ?_)
  subst hl
  show xw C (GX E) 3 (xq C (GX E) (some (.int r)) σ') σ 0 [(0, .ref (E.2.2.1 2)), (1, .ref (E.2.2.1 4))] []
  unfold reader_readOnto at hf
  refine xr_aload_n (pc' := 1) 0 hC dX8_readOnto_0 rfl rfl rfl ?_
  refine xr_iconst (pc' := 2) (0 : Int32) hC dX8_readOnto_1 rfl (by decide) ?_
  refine pX8_reader_place (pc' := 5) hC dX8_readOnto_2 rfl hf (fun σ1 hf => ?_)
  refine xr_aload_n (pc' := 6) 0 hC dX8_readOnto_5 rfl rfl rfl ?_
  refine xr_iconst (pc' := 7) (0 : Int32) hC dX8_readOnto_6 rfl (by decide) ?_
  refine pX8_reader_kind (pc' := 10) hC dX8_readOnto_7 rfl hf (fun σ2 hf => ?_)
  refine xr_aload_n (pc' := 11) 0 hC dX8_readOnto_10 rfl rfl rfl ?_
  refine xr_iconst (pc' := 12) (-1 : Int32) hC dX8_readOnto_11 rfl (by decide) ?_
  refine pX8_reader_kindPlace (pc' := 15) hC dX8_readOnto_12 rfl hf (fun σ3 hf => ?_)
  refine xr_aload_n (pc' := 16) 0 hC dX8_readOnto_15 rfl rfl rfl ?_
  refine xr_callVv (pc' := 19) (rmy := k2_rm 1 21) [] 2 hC dX8_readOnto_16 rfl kX8_29 rfl rfl rfl rfl rfl ⟨Nat.le_of_ble_eq_true rfl, Nat.le_of_ble_eq_true rfl⟩ rfl (Nat.le_of_ble_eq_true rfl) hf (fun _ _ h => c_reader_skipBlanks (xc_ok hC) h) (fun v4 σ5 hf => ?_)
  refine xr_iconst (pc' := 20) (0 : Int32) hC dX8_readOnto_19 rfl (by decide) ?_
  refine xr_istore_n (pc' := 21) (lv' := [(0, .ref (E.2.2.1 2)), (1, .ref (E.2.2.1 4)), (2, .int (0 : Int32))]) hC dX8_readOnto_20 rfl rfl (by decide) [1, 2, 0] rfl ?_
  exact w_reader_readOnto_b21 hC N _ _ hf

