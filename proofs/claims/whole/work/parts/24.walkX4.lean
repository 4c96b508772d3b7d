set_option maxRecDepth 100000 in
set_option maxHeartbeats 4000000 in
theorem w_drawing_weighSets_b36 {C : xT} {E : xE} {N : Nat} {r : Int32} {σ' : xS} (hC : xc C (GX E) RX1 cX1_weighSets 4 none (k2_rm 4 98)) (K3 : Int32 → Int32 → xS → Option (Int32 × xS)) (hK3 : ∀ (l1 l2 : Int32) (σ : xS), K3 l1 l2 σ = some (r, σ') → xw C (GX E) 4 (xq C (GX E) none σ') σ 3 [(0, .ref (E.2.2.1 7)), (1, .int l1), (2, .int l2)] []) : ∀ (l1 l2 l3 s1 s2 : Int32) (σ : xS), drawing_weighSets_b36 N K3 l1 l2 l3 s1 s2 σ = some (r, σ') → xw C (GX E) 4 (xq C (GX E) none σ') σ 36 [(0, .ref (E.2.2.1 7)), (1, .int l1), (2, .int l2), (3, .int l3)] [.int s2, .int s1, .ref (E.2.2.1 24)] := by
  intro l1 l2 l3 s1 s2 σ hf
  unfold drawing_weighSets_b36 at hf
  refine sX_13 (pc' := 37) hC dX1_weighSets_36 rfl hf (fun σ3 hf => ?_)
  refine xr_aload_n (pc' := 38) 0 hC dX1_weighSets_37 rfl rfl rfl ?_
  refine gX1_drawing_wayToCome (pc' := 41) hC dX1_weighSets_38 rfl ?_
  refine xr_iload_n (pc' := 42) 2 hC dX1_weighSets_41 rfl rfl rfl ?_
  refine xr_iconst (pc' := 43) (-1 : Int32) hC dX1_weighSets_42 rfl (by decide) ?_
  refine sX_14 (pc' := 44) hC dX1_weighSets_43 rfl hf (fun σ4 hf => ?_)
  refine xr_iload_n (pc' := 45) 3 hC dX1_weighSets_44 rfl rfl rfl ?_
  refine xr_iload_n (pc' := 46) 1 hC dX1_weighSets_45 rfl rfl rfl ?_
  refine xr_icmp_ge (pc' := 49) 54 hC dX1_weighSets_46 rfl (by decide) hf (fun hf => ?_) (fun hf => ?_)
  · refine xr_iinc (pc' := 57) hC dX1_weighSets_54 rfl _ rfl hf 2 rfl (by decide) [1, 2, 0, 3] (fun l2_5 => [(0, .ref (E.2.2.1 7)), (1, .int l1), (2, .int l2_5), (3, .int l3)]) (fun _ => rfl) (fun l2_5 hf => ?_)
    refine xr_goto 3 hC dX1_weighSets_57 (by decide) ?_
    refine x_lv [0, 1, 2] rfl ?_
    exact hK3 _ _ _ hf
  refine xr_aload_n (pc' := 50) 0 hC dX1_weighSets_49 rfl rfl rfl ?_
  refine xr_iload_n (pc' := 51) 2 hC dX1_weighSets_50 rfl rfl rfl ?_
  refine xr_callVv (pc' := 54) (rmy := k2_rm 3 74) [.int l2] 7 hC dX1_weighSets_51 rfl kX1_102 rfl rfl rfl rfl rfl ⟨Nat.le_of_ble_eq_true rfl, Nat.le_of_ble_eq_true rfl⟩ rfl (Nat.le_of_ble_eq_true rfl) hf (fun _ _ h => c_drawing_weighWays (xc_ok hC) h) (fun v6 σ7 hf => ?_)
  refine xr_iinc (pc' := 57) hC dX1_weighSets_54 rfl _ rfl hf 2 rfl (by decide) [1, 2, 0, 3] (fun l2_8 => [(0, .ref (E.2.2.1 7)), (1, .int l1), (2, .int l2_8), (3, .int l3)]) (fun _ => rfl) (fun l2_8 hf => ?_)
  refine xr_goto 3 hC dX1_weighSets_57 (by decide) ?_
  refine x_lv [0, 1, 2] rfl ?_
  exact hK3 _ _ _ hf

set_option maxRecDepth 100000 in
set_option maxHeartbeats 4000000 in
theorem w_drawing_weighSets_b3 {C : xT} {E : xE} {N : Nat} {r : Int32} {σ' : xS} (hC : xc C (GX E) RX1 cX1_weighSets 4 none (k2_rm 4 98)) : ∀ (n : Nat) (l1 l2 : Int32) (σ : xS), drawing_weighSets_b3 N n l1 l2 σ = some (r, σ') → xw C (GX E) 4 (xq C (GX E) none σ') σ 3 [(0, .ref (E.2.2.1 7)), (1, .int l1), (2, .int l2)] [] := by
  intro n
  induction n with
  | zero =>
    intro l1 l2 σ hf
    rw [drawing_weighSets_b3] at hf
    cases hf
  | succ n ih =>
    intro l1 l2 σ hf
    rw [drawing_weighSets_b3] at hf
    refine xr_iload_n (pc' := 4) 2 hC dX1_weighSets_3 rfl rfl rfl ?_
    refine xr_if_lt (pc' := 7) 60 hC dX1_weighSets_4 rfl (by decide) hf (fun hf => ?_) (fun hf => ?_)
    · exact xr_return hC dX1_weighSets_60 hf
    refine xr_iload_n (pc' := 8) 2 hC dX1_weighSets_7 rfl rfl rfl ?_
    refine xr_callS (pc' := 11) (rmy := k2_rm 0 0) [.int l2] hC dX1_weighSets_8 rfl kX1_92 rfl rfl rfl ⟨Nat.le_of_ble_eq_true rfl, Nat.le_of_ble_eq_true rfl⟩ rfl (Nat.le_of_ble_eq_true rfl) hf (fun _ _ h => c_ji_bitCount (xc_ok hC) h) (fun v1 σ2 hf => ?_)
    refine xr_istore_n (pc' := 12) (lv' := [(0, .ref (E.2.2.1 7)), (1, .int l1), (2, .int l2), (3, .int v1)]) hC dX1_weighSets_11 rfl rfl (by decide) [1, 2, 3, 0] rfl ?_
    refine xr_aload_n (pc' := 13) 0 hC dX1_weighSets_12 rfl rfl rfl ?_
    refine gX1_drawing_piecesToCome (pc' := 16) hC dX1_weighSets_13 rfl ?_
    refine xr_iload_n (pc' := 17) 2 hC dX1_weighSets_16 rfl rfl rfl ?_
    refine xr_iload_n (pc' := 18) 3 hC dX1_weighSets_17 rfl rfl rfl ?_
    refine xr_iload_n (pc' := 19) 1 hC dX1_weighSets_18 rfl rfl rfl ?_
    refine xr_icmp_ne (pc' := 22) 34 hC dX1_weighSets_19 rfl (by decide) hf (fun hf => ?_) (fun hf => ?_)
    · refine xr_ldc (pc' := 36) (1000000 : Int32) hC dX1_weighSets_34 rfl qX1_101 ?_
      exact w_drawing_weighSets_b36 hC (drawing_weighSets_b3 N n) ih _ _ _ _ _ _ hf
    refine xr_aload_n (pc' := 23) 0 hC dX1_weighSets_22 rfl rfl rfl ?_
    refine xr_iload_n (pc' := 24) 2 hC dX1_weighSets_23 rfl rfl rfl ?_
    refine xr_callV (pc' := 27) (rmy := k2_rm 0 0) [.int l2] 7 hC dX1_weighSets_24 rfl kX1_97 rfl rfl rfl rfl rfl ⟨Nat.le_of_ble_eq_true rfl, Nat.le_of_ble_eq_true rfl⟩ rfl (Nat.le_of_ble_eq_true rfl) hf (fun _ _ h => c_drawing_frees (xc_ok hC) h) (fun v9 σ10 hf => ?_)
    refine xr_if_eq (pc' := 30) 34 hC dX1_weighSets_27 rfl (by decide) hf (fun hf => ?_) (fun hf => ?_)
    · refine xr_ldc (pc' := 36) (1000000 : Int32) hC dX1_weighSets_34 rfl qX1_101 ?_
      exact w_drawing_weighSets_b36 hC (drawing_weighSets_b3 N n) ih _ _ _ _ _ _ hf
    refine xr_iconst (pc' := 31) (0 : Int32) hC dX1_weighSets_30 rfl (by decide) ?_
    refine xr_goto 36 hC dX1_weighSets_31 (by decide) ?_
    exact w_drawing_weighSets_b36 hC (drawing_weighSets_b3 N n) ih _ _ _ _ _ _ hf

set_option maxRecDepth 100000 in
set_option maxHeartbeats 4000000 in
theorem c_drawing_weighSets {l : Launch} {E : xE} {N : Nat} (hG : xOk (GX E)) {l1 : Int32} {σ : xS} {r : Int32} {σ' : xS} (hf : drawing_weighSets N l1 σ = some (r, σ')) : xMet l (GX E) yX1_weighSets cX1_weighSets 4 none (k2_rm 4 98) [.ref (E.2.2.1 7), .int l1] σ none σ' := by
  refine x_met (own := RX1) (by decide +kernel) hG rfl (Nat.le_of_ble_eq_true rfl) (fun C hl hC => ?_)
  subst hl
  show xw C (GX E) 4 (xq C (GX E) none σ') σ 0 [(0, .ref (E.2.2.1 7)), (1, .int l1)] []
  unfold drawing_weighSets at hf
  refine xr_bipush (pc' := 2) (63 : Int32) hC dX1_weighSets_0 rfl (by decide) ?_
  refine xr_istore_n (pc' := 3) (lv' := [(0, .ref (E.2.2.1 7)), (1, .int l1), (2, .int (63 : Int32))]) hC dX1_weighSets_2 rfl rfl (by decide) [1, 2, 0] rfl ?_
  exact w_drawing_weighSets_b3 hC N _ _ _ hf

set_option maxRecDepth 100000 in
set_option maxHeartbeats 4000000 in
theorem c_pieces_count {l : Launch} {E : xE} {N : Nat} (hG : xOk (GX E)) {σ : xS} {r : Int32} {σ' : xS} (hf : pieces_count N σ = some (r, σ')) : xMet l (GX E) yX6_count cX6_count 1 (some .int) (k2_rm 0 0) [.ref (E.2.2.1 6)] σ (some (.int r)) σ' := by
  refine x_met (own := RX6) (by decide +kernel) hG rfl (Nat.le_of_ble_eq_true rfl) (fun C hl hC => ?_)
  subst hl
  show xw C (GX E) 1 (xq C (GX E) (some (.int r)) σ') σ 0 [(0, .ref (E.2.2.1 6))] []
  unfold pieces_count at hf
  refine xr_aload_n (pc' := 1) 0 hC dX6_count_0 rfl rfl rfl ?_
  refine gX6_pieces_length (pc' := 4) hC dX6_count_1 rfl ?_
  exact xr_ireturn hC dX6_count_4 hf

set_option maxRecDepth 100000 in
set_option maxHeartbeats 4000000 in
theorem w_pieces_add_b2 {C : xT} {E : xE} {N : Nat} {r : Int32} {σ' : xS} (hC : xc C (GX E) RX6 cX6_add 4 none (k2_rm 0 0)) : ∀ (n : Nat) (l1 l2 l3 : Int32) (σ : xS), pieces_add_b2 N n l1 l2 l3 σ = some (r, σ') → xw C (GX E) 4 (xq C (GX E) none σ') σ 2 [(0, .ref (E.2.2.1 6)), (1, .int l1), (2, .int l2), (3, .int l3)] [] := by
  intro n
  induction n with
  | zero =>
    intro l1 l2 l3 σ hf
    rw [pieces_add_b2] at hf
    cases hf
  | succ n ih =>
    intro l1 l2 l3 σ hf
    rw [pieces_add_b2] at hf
    refine xr_iload_n (pc' := 3) 3 hC dX6_add_2 rfl rfl rfl ?_
    refine xr_iload_n (pc' := 4) 2 hC dX6_add_3 rfl rfl rfl ?_
    refine xr_icmp_ge (pc' := 7) 73 hC dX6_add_4 rfl (by decide) hf (fun hf => ?_) (fun hf => ?_)
    · exact xr_return hC dX6_add_73 hf
    refine xr_aload_n (pc' := 8) 0 hC dX6_add_7 rfl rfl rfl ?_
    refine gX6_pieces_length (pc' := 11) hC dX6_add_8 rfl ?_
    refine xr_sipush (pc' := 14) (1000 : Int32) hC dX6_add_11 rfl (by decide) ?_
    refine xr_icmp_ge (pc' := 17) 73 hC dX6_add_14 rfl (by decide) hf (fun hf => ?_) (fun hf => ?_)
    · exact xr_return hC dX6_add_73 hf
    refine xr_aload_n (pc' := 18) 0 hC dX6_add_17 rfl rfl rfl ?_
    refine gX6_pieces_ways (pc' := 21) hC dX6_add_18 rfl ?_
    refine xr_aload_n (pc' := 22) 0 hC dX6_add_21 rfl rfl rfl ?_
    refine gX6_pieces_length (pc' := 25) hC dX6_add_22 rfl ?_
    refine xr_iload_n (pc' := 26) 1 hC dX6_add_25 rfl rfl rfl ?_
    refine sX_8 (pc' := 27) hC dX6_add_26 rfl hf (fun σ1 hf => ?_)
    refine xr_aload_n (pc' := 28) 0 hC dX6_add_27 rfl rfl rfl ?_
    refine gX6_pieces_sizes (pc' := 31) hC dX6_add_28 rfl ?_
    refine xr_aload_n (pc' := 32) 0 hC dX6_add_31 rfl rfl rfl ?_
    refine gX6_pieces_length (pc' := 35) hC dX6_add_32 rfl ?_
    refine xr_iconst (pc' := 36) (0 : Int32) hC dX6_add_35 rfl (by decide) ?_
    refine sX_9 (pc' := 37) hC dX6_add_36 rfl hf (fun σ2 hf => ?_)
    refine xr_aload_n (pc' := 38) 0 hC dX6_add_37 rfl rfl rfl ?_
    refine gX6_pieces_touching (pc' := 41) hC dX6_add_38 rfl ?_
    refine xr_aload_n (pc' := 42) 0 hC dX6_add_41 rfl rfl rfl ?_
    refine gX6_pieces_length (pc' := 45) hC dX6_add_42 rfl ?_
    refine xr_iconst (pc' := 46) (0 : Int32) hC dX6_add_45 rfl (by decide) ?_
    refine sX_10 (pc' := 47) hC dX6_add_46 rfl hf (fun σ3 hf => ?_)
    refine xr_aload_n (pc' := 48) 0 hC dX6_add_47 rfl rfl rfl ?_
    refine gX6_pieces_poured (pc' := 51) hC dX6_add_48 rfl ?_
    refine xr_aload_n (pc' := 52) 0 hC dX6_add_51 rfl rfl rfl ?_
    refine gX6_pieces_length (pc' := 55) hC dX6_add_52 rfl ?_
    refine xr_iconst (pc' := 56) (0 : Int32) hC dX6_add_55 rfl (by decide) ?_
    refine sX_11 (pc' := 57) hC dX6_add_56 rfl hf (fun σ4 hf => ?_)
    refine xr_aload_n (pc' := 58) 0 hC dX6_add_57 rfl rfl rfl ?_
    refine xr_dup (pc' := 59) hC dX6_add_58 rfl rfl ?_
    refine gX6_pieces_length (pc' := 62) hC dX6_add_59 rfl ?_
    refine xr_iconst (pc' := 63) (1 : Int32) hC dX6_add_62 rfl (by decide) ?_
    refine xr_iadd (pc' := 64) hC dX6_add_63 rfl ?_
    refine pX6_pieces_length (pc' := 67) hC dX6_add_64 rfl hf (fun σ5 hf => ?_)
    refine xr_iinc (pc' := 70) hC dX6_add_67 rfl _ rfl hf 3 rfl (by decide) [1, 2, 3, 0] (fun l3_6 => [(0, .ref (E.2.2.1 6)), (1, .int l1), (2, .int l2), (3, .int l3_6)]) (fun _ => rfl) (fun l3_6 hf => ?_)
    refine xr_goto 2 hC dX6_add_70 (by decide) ?_
    exact ih _ _ _ _ hf

set_option maxRecDepth 100000 in
set_option maxHeartbeats 4000000 in
theorem c_pieces_add {l : Launch} {E : xE} {N : Nat} (hG : xOk (GX E)) {l1 l2 : Int32} {σ : xS} {r : Int32} {σ' : xS} (hf : pieces_add N l1 l2 σ = some (r, σ')) : xMet l (GX E) yX6_add cX6_add 4 none (k2_rm 0 0) [.ref (E.2.2.1 6), .int l1, .int l2] σ none σ' := by
  refine x_met (own := RX6) (by decide +kernel) hG rfl (Nat.le_of_ble_eq_true rfl) (fun C hl hC => ?_)
  subst hl
  show xw C (GX E) 4 (xq C (GX E) none σ') σ 0 [(0, .ref (E.2.2.1 6)), (1, .int l1), (2, .int l2)] []
  unfold pieces_add at hf
  refine xr_iconst (pc' := 1) (0 : Int32) hC dX6_add_0 rfl (by decide) ?_
  refine xr_istore_n (pc' := 2) (lv' := [(0, .ref (E.2.2.1 6)), (1, .int l1), (2, .int l2), (3, .int (0 : Int32))]) hC dX6_add_1 rfl rfl (by decide) [1, 2, 3, 0] rfl ?_
  exact w_pieces_add_b2 hC N _ _ _ _ hf

set_option maxRecDepth 100000 in
set_option maxHeartbeats 4000000 in
theorem w_drawing_keepBest_b4 {C : xT} {E : xE} {N : Nat} {r : Int32} {σ' : xS} (hC : xc C (GX E) RX1 cX1_keepBest 5 none (k2_rm 3 74)) : ∀ (n : Nat) (l1 l2 l3 : Int32) (σ : xS), drawing_keepBest_b4 N n l1 l2 l3 σ = some (r, σ') → xw C (GX E) 5 (xq C (GX E) none σ') σ 4 [(0, .ref (E.2.2.1 7)), (1, .int l1), (2, .int l2), (3, .int l3)] [] := by
  intro n
  induction n with
  | zero =>
    intro l1 l2 l3 σ hf
    rw [drawing_keepBest_b4] at hf
    cases hf
  | succ n ih =>
    intro l1 l2 l3 σ hf
    rw [drawing_keepBest_b4] at hf
    refine xr_iload_n (pc' := 5) 3 hC dX1_keepBest_4 rfl rfl rfl ?_
    refine xr_iload_n (pc' := 6) 1 hC dX1_keepBest_5 rfl rfl rfl ?_
    refine xr_icmp_ge (pc' := 9) 87 hC dX1_keepBest_6 rfl (by decide) hf (fun hf => ?_) (fun hf => ?_)
    · exact xr_return hC dX1_keepBest_87 hf
    refine xr_iload_n (pc' := 10) 3 hC dX1_keepBest_9 rfl rfl rfl ?_
    refine xr_bipush (pc' := 12) (6 : Int32) hC dX1_keepBest_10 rfl (by decide) ?_
    refine xr_icmp_ge (pc' := 15) 87 hC dX1_keepBest_12 rfl (by decide) hf (fun hf => ?_) (fun hf => ?_)
    · exact xr_return hC dX1_keepBest_87 hf
    refine xr_aload_n (pc' := 16) 0 hC dX1_keepBest_15 rfl rfl rfl ?_
    refine gX1_drawing_wayToCome (pc' := 19) hC dX1_keepBest_16 rfl ?_
    refine xr_iload_n (pc' := 20) 2 hC dX1_keepBest_19 rfl rfl rfl ?_
    refine lX_14 (pc' := 21) hC dX1_keepBest_20 rfl hf (fun v1 hf => ?_)
    refine xr_iconst (pc' := 22) (-1 : Int32) hC dX1_keepBest_21 rfl (by decide) ?_
    refine xr_icmp_eq (pc' := 25) 87 hC dX1_keepBest_22 rfl (by decide) hf (fun hf => ?_) (fun hf => ?_)
    · exact xr_return hC dX1_keepBest_87 hf
    refine xr_aload_n (pc' := 26) 0 hC dX1_keepBest_25 rfl rfl rfl ?_
    refine gX1_drawing_wayToCome (pc' := 29) hC dX1_keepBest_26 rfl ?_
    refine xr_iload_n (pc' := 30) 2 hC dX1_keepBest_29 rfl rfl rfl ?_
    refine lX_14 (pc' := 31) hC dX1_keepBest_30 rfl hf (fun v2 hf => ?_)
    refine xr_istore (pc' := 33) (lv' := [(0, .ref (E.2.2.1 7)), (1, .int l1), (2, .int l2), (3, .int l3), (4, .int v2)]) hC dX1_keepBest_31 rfl (by decide) [1, 2, 3, 4, 0] rfl ?_
    refine xr_aload_n (pc' := 34) 0 hC dX1_keepBest_33 rfl rfl rfl ?_
    refine gX1_drawing_ways (pc' := 37) hC dX1_keepBest_34 rfl ?_
    refine xr_iload_n (pc' := 38) 3 hC dX1_keepBest_37 rfl rfl rfl ?_
    refine xr_iload (pc' := 40) 4 hC dX1_keepBest_38 rfl rfl ?_
    refine sX_12 (pc' := 41) hC dX1_keepBest_40 rfl hf (fun σ3 hf => ?_)
    refine xr_aload_n (pc' := 42) 0 hC dX1_keepBest_41 rfl rfl rfl ?_
    refine xr_iload_n (pc' := 43) 3 hC dX1_keepBest_42 rfl rfl rfl ?_
    refine xr_iconst (pc' := 44) (1 : Int32) hC dX1_keepBest_43 rfl (by decide) ?_
    refine xr_iadd (pc' := 45) hC dX1_keepBest_44 rfl ?_
    refine pX1_drawing_wayCount (pc' := 48) hC dX1_keepBest_45 rfl hf (fun σ4 hf => ?_)
    refine xr_aload_n (pc' := 49) 0 hC dX1_keepBest_48 rfl rfl rfl ?_
    refine gX1_drawing_pieces (pc' := 52) hC dX1_keepBest_49 rfl ?_
    refine xr_iload (pc' := 54) 4 hC dX1_keepBest_52 rfl rfl ?_
    refine xr_aload_n (pc' := 55) 0 hC dX1_keepBest_54 rfl rfl rfl ?_
    refine gX1_drawing_parting (pc' := 58) hC dX1_keepBest_55 rfl ?_
    refine xr_iload (pc' := 60) 4 hC dX1_keepBest_58 rfl rfl ?_
    refine xr_iload_n (pc' := 61) 2 hC dX1_keepBest_60 rfl rfl rfl ?_
    refine xr_aload_n (pc' := 62) 0 hC dX1_keepBest_61 rfl rfl rfl ?_
    refine gX1_drawing_pieces (pc' := 65) hC dX1_keepBest_62 rfl ?_
    refine xr_callV (pc' := 68) (rmy := k2_rm 0 0) [] 6 hC dX1_keepBest_65 rfl kX1_109 rfl rfl rfl rfl rfl ⟨Nat.le_of_ble_eq_true rfl, Nat.le_of_ble_eq_true rfl⟩ rfl (Nat.le_of_ble_eq_true rfl) hf (fun _ _ h => c_pieces_count (xc_ok hC) h) (fun v5 σ6 hf => ?_)
    refine xr_callV (pc' := 71) (rmy := k2_rm 2 48) [.int v2, .int l2, .int v5] 8 hC dX1_keepBest_68 rfl kX1_105 rfl rfl rfl rfl rfl ⟨Nat.le_of_ble_eq_true rfl, Nat.le_of_ble_eq_true rfl⟩ rfl (Nat.le_of_ble_eq_true rfl) hf (fun _ _ h => c_parting_part (xc_ok hC) h) (fun v7 σ8 hf => ?_)
    refine xr_callVv (pc' := 74) (rmy := k2_rm 0 0) [.int v2, .int v7] 6 hC dX1_keepBest_71 rfl kX1_112 rfl rfl rfl rfl rfl ⟨Nat.le_of_ble_eq_true rfl, Nat.le_of_ble_eq_true rfl⟩ rfl (Nat.le_of_ble_eq_true rfl) hf (fun _ _ h => c_pieces_add (xc_ok hC) h) (fun v9 σ10 hf => ?_)
    refine xr_iload_n (pc' := 75) 2 hC dX1_keepBest_74 rfl rfl rfl ?_
    refine xr_iconst (pc' := 76) (1 : Int32) hC dX1_keepBest_75 rfl (by decide) ?_
    refine xr_iload (pc' := 78) 4 hC dX1_keepBest_76 rfl rfl ?_
    refine xr_ishl (pc' := 79) hC dX1_keepBest_78 rfl ?_
    refine xr_ior (pc' := 80) hC dX1_keepBest_79 rfl ?_
    refine xr_istoreb_n (pc' := 81) hC dX1_keepBest_80 rfl hf rfl (by decide) [1, 2, 0, 3, 4] (fun l2_11 => [(0, .ref (E.2.2.1 7)), (1, .int l1), (2, .int l2_11), (3, .int l3), (4, .int v2)]) (fun _ => rfl) (fun l2_11 hf => ?_)
    refine xr_iinc (pc' := 84) hC dX1_keepBest_81 rfl _ rfl hf 3 rfl (by decide) [1, 2, 3, 0, 4] (fun l3_12 => [(0, .ref (E.2.2.1 7)), (1, .int l1), (2, .int l2_11), (3, .int l3_12), (4, .int v2)]) (fun _ => rfl) (fun l3_12 hf => ?_)
    refine xr_goto 4 hC dX1_keepBest_84 (by decide) ?_
    refine x_lv [0, 1, 2, 3] rfl ?_
    exact ih _ _ _ _ hf

set_option maxRecDepth 100000 in
set_option maxHeartbeats 4000000 in
theorem c_drawing_keepBest {l : Launch} {E : xE} {N : Nat} (hG : xOk (GX E)) {l1 : Int32} {σ : xS} {r : Int32} {σ' : xS} (hf : drawing_keepBest N l1 σ = some (r, σ')) : xMet l (GX E) yX1_keepBest cX1_keepBest 5 none (k2_rm 3 74) [.ref (E.2.2.1 7), .int l1] σ none σ' := by
  refine x_met (own := RX1) (by decide +kernel) hG rfl (Nat.le_of_ble_eq_true rfl) (fun C hl hC => ?_)
  subst hl
  show xw C (GX E) 5 (xq C (GX E) none σ') σ 0 [(0, .ref (E.2.2.1 7)), (1, .int l1)] []
  unfold drawing_keepBest at hf
  refine xr_iconst (pc' := 1) (0 : Int32) hC dX1_keepBest_0 rfl (by decide) ?_
  refine xr_istore_n (pc' := 2) (lv' := [(0, .ref (E.2.2.1 7)), (1, .int l1), (2, .int (0 : Int32))]) hC dX1_keepBest_1 rfl rfl (by decide) [1, 2, 0] rfl ?_
  refine xr_iconst (pc' := 3) (0 : Int32) hC dX1_keepBest_2 rfl (by decide) ?_
  refine xr_istore_n (pc' := 4) (lv' := [(0, .ref (E.2.2.1 7)), (1, .int l1), (2, .int (0 : Int32)), (3, .int (0 : Int32))]) hC dX1_keepBest_3 rfl rfl (by decide) [1, 2, 3, 0] rfl ?_
  exact w_drawing_keepBest_b4 hC N _ _ _ _ hf

set_option maxRecDepth 100000 in
set_option maxHeartbeats 4000000 in
theorem c_pieces_has {l : Launch} {E : xE} {N : Nat} (hG : xOk (GX E)) {l1 : Int32} {σ : xS} {r : Int32} {σ' : xS} (hf : pieces_has N l1 σ = some (r, σ')) : xMet l (GX E) yX6_has cX6_has 2 (some .boolean) (k2_rm 0 0) [.ref (E.2.2.1 6), .int l1] σ (some (.int r)) σ' := by
  refine x_met (own := RX6) (by decide +kernel) hG rfl (Nat.le_of_ble_eq_true rfl) (fun C hl hC => ?_)
  subst hl
  show xw C (GX E) 2 (xq C (GX E) (some (.int r)) σ') σ 0 [(0, .ref (E.2.2.1 6)), (1, .int l1)] []
  unfold pieces_has at hf
  refine xr_iload_n (pc' := 1) 1 hC dX6_has_0 rfl rfl rfl ?_
  refine xr_if_lt (pc' := 4) 16 hC dX6_has_1 rfl (by decide) hf (fun hf => ?_) (fun hf => ?_)
  · refine xr_iconst (pc' := 17) (0 : Int32) hC dX6_has_16 rfl (by decide) ?_
    exact xr_zreturn hC dX6_has_17 rfl hf
  refine xr_iload_n (pc' := 5) 1 hC dX6_has_4 rfl rfl rfl ?_
  refine xr_aload_n (pc' := 6) 0 hC dX6_has_5 rfl rfl rfl ?_
  refine gX6_pieces_length (pc' := 9) hC dX6_has_6 rfl ?_
  refine xr_icmp_ge (pc' := 12) 16 hC dX6_has_9 rfl (by decide) hf (fun hf => ?_) (fun hf => ?_)
  · refine xr_iconst (pc' := 17) (0 : Int32) hC dX6_has_16 rfl (by decide) ?_
    exact xr_zreturn hC dX6_has_17 rfl hf
  refine xr_iconst (pc' := 13) (1 : Int32) hC dX6_has_12 rfl (by decide) ?_
  refine xr_goto 17 hC dX6_has_13 (by decide) ?_
  exact xr_zreturn hC dX6_has_17 rfl hf

set_option maxRecDepth 100000 in
set_option maxHeartbeats 4000000 in
theorem w_mould_touchesSolid_b2 {C : xT} {E : xE} {N : Nat} {r : Int32} {σ' : xS} (hC : xc C (GX E) RX3 cX3_touchesSolid 3 (some .boolean) (k2_rm 1 22)) : ∀ (n : Nat) (l1 l2 : Int32) (σ : xS), mould_touchesSolid_b2 N n l1 l2 σ = some (r, σ') → xw C (GX E) 3 (xq C (GX E) (some (.int r)) σ') σ 2 [(0, .ref (E.2.2.1 5)), (1, .int l1), (2, .int l2)] [] := by
  intro n
  induction n with
  | zero =>
    intro l1 l2 σ hf
    rw [mould_touchesSolid_b2] at hf
    cases hf
  | succ n ih =>
    intro l1 l2 σ hf
    rw [mould_touchesSolid_b2] at hf
    refine xr_iload_n (pc' := 3) 2 hC dX3_touchesSolid_2 rfl rfl rfl ?_
    refine xr_bipush (pc' := 5) (6 : Int32) hC dX3_touchesSolid_3 rfl (by decide) ?_
    refine xr_icmp_ge (pc' := 8) 32 hC dX3_touchesSolid_5 rfl (by decide) hf (fun hf => ?_) (fun hf => ?_)
    · refine xr_iconst (pc' := 33) (0 : Int32) hC dX3_touchesSolid_32 rfl (by decide) ?_
      exact xr_zreturn hC dX3_touchesSolid_33 rfl hf
    refine xr_aload_n (pc' := 9) 0 hC dX3_touchesSolid_8 rfl rfl rfl ?_
    refine gX3_mould_cells (pc' := 12) hC dX3_touchesSolid_9 rfl ?_
    refine xr_aload_n (pc' := 13) 0 hC dX3_touchesSolid_12 rfl rfl rfl ?_
    refine xr_iload_n (pc' := 14) 1 hC dX3_touchesSolid_13 rfl rfl rfl ?_
    refine xr_iload_n (pc' := 15) 2 hC dX3_touchesSolid_14 rfl rfl rfl ?_
    refine xr_callV (pc' := 18) (rmy := k2_rm 0 0) [.int l1, .int l2] 5 hC dX3_touchesSolid_15 rfl kX3_69 rfl rfl rfl rfl rfl ⟨Nat.le_of_ble_eq_true rfl, Nat.le_of_ble_eq_true rfl⟩ rfl (Nat.le_of_ble_eq_true rfl) hf (fun _ _ h => c_mould_beside (xc_ok hC) h) (fun v1 σ2 hf => ?_)
    refine xr_callV (pc' := 21) (rmy := k2_rm 0 0) [.int v1] 3 hC dX3_touchesSolid_18 rfl kX3_61 rfl rfl rfl rfl rfl ⟨Nat.le_of_ble_eq_true rfl, Nat.le_of_ble_eq_true rfl⟩ rfl (Nat.le_of_ble_eq_true rfl) hf (fun _ _ h => c_cl_isSolid_cells (xc_ok hC) h) (fun v3 σ4 hf => ?_)
    refine xr_if_eq (pc' := 24) 26 hC dX3_touchesSolid_21 rfl (by decide) hf (fun hf => ?_) (fun hf => ?_)
    · refine xr_iinc (pc' := 29) hC dX3_touchesSolid_26 rfl _ rfl hf 2 rfl (by decide) [1, 2, 0] (fun l2_5 => [(0, .ref (E.2.2.1 5)), (1, .int l1), (2, .int l2_5)]) (fun _ => rfl) (fun l2_5 hf => ?_)
      refine xr_goto 2 hC dX3_touchesSolid_29 (by decide) ?_
      exact ih _ _ _ hf
    refine xr_iconst (pc' := 25) (1 : Int32) hC dX3_touchesSolid_24 rfl (by decide) ?_
    exact xr_zreturn hC dX3_touchesSolid_25 rfl hf

set_option maxRecDepth 100000 in
set_option maxHeartbeats 4000000 in
theorem c_mould_touchesSolid {l : Launch} {E : xE} {N : Nat} (hG : xOk (GX E)) {l1 : Int32} {σ : xS} {r : Int32} {σ' : xS} (hf : mould_touchesSolid N l1 σ = some (r, σ')) : xMet l (GX E) yX3_touchesSolid cX3_touchesSolid 3 (some .boolean) (k2_rm 1 22) [.ref (E.2.2.1 5), .int l1] σ (some (.int r)) σ' := by
  refine x_met (own := RX3) (by decide +kernel) hG rfl (Nat.le_of_ble_eq_true rfl) (fun C hl hC => ?_)
  subst hl
  show xw C (GX E) 3 (xq C (GX E) (some (.int r)) σ') σ 0 [(0, .ref (E.2.2.1 5)), (1, .int l1)] []
  unfold mould_touchesSolid at hf
  refine xr_iconst (pc' := 1) (0 : Int32) hC dX3_touchesSolid_0 rfl (by decide) ?_
  refine xr_istore_n (pc' := 2) (lv' := [(0, .ref (E.2.2.1 5)), (1, .int l1), (2, .int (0 : Int32))]) hC dX3_touchesSolid_1 rfl rfl (by decide) [1, 2, 0] rfl ?_
  exact w_mould_touchesSolid_b2 hC N _ _ _ hf

set_option maxRecDepth 100000 in
set_option maxHeartbeats 4000000 in
theorem w_pieces_gather_b2 {C : xT} {E : xE} {N : Nat} {r : Int32} {σ' : xS} (hC : xc C (GX E) RX6 cX6_gather 6 none (k2_rm 2 44)) : ∀ (n : Nat) (l3 : Int32) (σ : xS), pieces_gather_b2 N n l3 σ = some (r, σ') → xw C (GX E) 6 (xq C (GX E) none σ') σ 2 [(0, .ref (E.2.2.1 6)), (1, .ref (E.2.2.1 5)), (2, .ref (E.2.2.1 8)), (3, .int l3)] [] := by
  intro n
  induction n with
  | zero =>
    intro l3 σ hf
    rw [pieces_gather_b2] at hf
    cases hf
  | succ n ih =>
    intro l3 σ hf
    rw [pieces_gather_b2] at hf
    refine xr_iload_n (pc' := 3) 3 hC dX6_gather_2 rfl rfl rfl ?_
    refine xr_aload_n (pc' := 4) 1 hC dX6_gather_3 rfl rfl rfl ?_
    refine xr_callV (pc' := 7) (rmy := k2_rm 0 0) [] 5 hC dX6_gather_4 rfl kX6_36 rfl rfl rfl rfl rfl ⟨Nat.le_of_ble_eq_true rfl, Nat.le_of_ble_eq_true rfl⟩ rfl (Nat.le_of_ble_eq_true rfl) hf (fun _ _ h => c_mould_size (xc_ok hC) h) (fun v1 σ2 hf => ?_)
    refine xr_icmp_ge (pc' := 10) 75 hC dX6_gather_7 rfl (by decide) hf (fun hf => ?_) (fun hf => ?_)
    · exact xr_return hC dX6_gather_75 hf
    refine xr_aload_n (pc' := 11) 1 hC dX6_gather_10 rfl rfl rfl ?_
    refine xr_iload_n (pc' := 12) 3 hC dX6_gather_11 rfl rfl rfl ?_
    refine xr_callV (pc' := 15) (rmy := k2_rm 0 0) [.int l3] 5 hC dX6_gather_12 rfl kX6_42 rfl rfl rfl rfl rfl ⟨Nat.le_of_ble_eq_true rfl, Nat.le_of_ble_eq_true rfl⟩ rfl (Nat.le_of_ble_eq_true rfl) hf (fun _ _ h => c_mould_member (xc_ok hC) h) (fun v3 σ4 hf => ?_)
    refine xr_istore (pc' := 17) (lv' := [(0, .ref (E.2.2.1 6)), (1, .ref (E.2.2.1 5)), (2, .ref (E.2.2.1 8)), (3, .int l3), (4, .int v3)]) hC dX6_gather_15 rfl (by decide) [1, 2, 3, 4, 0] rfl ?_
    refine xr_aload_n (pc' := 18) 2 hC dX6_gather_17 rfl rfl rfl ?_
    refine xr_iload (pc' := 20) 4 hC dX6_gather_18 rfl rfl ?_
    refine xr_callV (pc' := 23) (rmy := k2_rm 0 0) [.int v3] 8 hC dX6_gather_20 rfl kX6_46 rfl rfl rfl rfl rfl ⟨Nat.le_of_ble_eq_true rfl, Nat.le_of_ble_eq_true rfl⟩ rfl (Nat.le_of_ble_eq_true rfl) hf (fun _ _ h => c_parting_numberAt (xc_ok hC) h) (fun v5 σ6 hf => ?_)
    refine xr_istore (pc' := 25) (lv' := [(0, .ref (E.2.2.1 6)), (1, .ref (E.2.2.1 5)), (2, .ref (E.2.2.1 8)), (3, .int l3), (4, .int v3), (5, .int v5)]) hC dX6_gather_23 rfl (by decide) [1, 2, 3, 4, 5, 0] rfl ?_
    refine xr_aload_n (pc' := 26) 0 hC dX6_gather_25 rfl rfl rfl ?_
    refine xr_iload (pc' := 28) 5 hC dX6_gather_26 rfl rfl ?_
    refine xr_callV (pc' := 31) (rmy := k2_rm 0 0) [.int v5] 6 hC dX6_gather_28 rfl kX6_51 rfl rfl rfl rfl rfl ⟨Nat.le_of_ble_eq_true rfl, Nat.le_of_ble_eq_true rfl⟩ rfl (Nat.le_of_ble_eq_true rfl) hf (fun _ _ h => c_pieces_has (xc_ok hC) h) (fun v7 σ8 hf => ?_)
    refine xr_if_eq (pc' := 34) 69 hC dX6_gather_31 rfl (by decide) hf (fun hf => ?_) (fun hf => ?_)
    · refine xr_iinc (pc' := 72) hC dX6_gather_69 rfl _ rfl hf 3 rfl (by decide) [1, 2, 3, 0, 4, 5] (fun l3_9 => [(0, .ref (E.2.2.1 6)), (1, .ref (E.2.2.1 5)), (2, .ref (E.2.2.1 8)), (3, .int l3_9), (4, .int v3), (5, .int v5)]) (fun _ => rfl) (fun l3_9 hf => ?_)
      refine xr_goto 2 hC dX6_gather_72 (by decide) ?_
      refine x_lv [0, 1, 2, 3] rfl ?_
      exact ih _ _ hf
    refine xr_aload_n (pc' := 35) 0 hC dX6_gather_34 rfl rfl rfl ?_
    refine gX6_pieces_sizes (pc' := 38) hC dX6_gather_35 rfl ?_
    refine xr_iload (pc' := 40) 5 hC dX6_gather_38 rfl rfl ?_
    refine xr_dup2 (pc' := 41) hC dX6_gather_40 rfl rfl rfl ?_
    refine lX_9 (pc' := 42) hC dX6_gather_41 rfl hf (fun v10 hf => ?_)
    refine xr_iconst (pc' := 43) (1 : Int32) hC dX6_gather_42 rfl (by decide) ?_
    refine xr_iadd (pc' := 44) hC dX6_gather_43 rfl ?_
    refine sX_9 (pc' := 45) hC dX6_gather_44 rfl hf (fun σ11 hf => ?_)
    refine xr_aload_n (pc' := 46) 0 hC dX6_gather_45 rfl rfl rfl ?_
    refine gX6_pieces_touching (pc' := 49) hC dX6_gather_46 rfl ?_
    refine xr_iload (pc' := 51) 5 hC dX6_gather_49 rfl rfl ?_
    refine xr_dup2 (pc' := 52) hC dX6_gather_51 rfl rfl rfl ?_
    refine lX_10 (pc' := 53) hC dX6_gather_52 rfl hf (fun v12 hf => ?_)
    refine xr_aload_n (pc' := 54) 1 hC dX6_gather_53 rfl rfl rfl ?_
    refine xr_iload (pc' := 56) 4 hC dX6_gather_54 rfl rfl ?_
    refine xr_callV (pc' := 59) (rmy := k2_rm 1 22) [.int v3] 5 hC dX6_gather_56 rfl kX6_55 rfl rfl rfl rfl rfl ⟨Nat.le_of_ble_eq_true rfl, Nat.le_of_ble_eq_true rfl⟩ rfl (Nat.le_of_ble_eq_true rfl) hf (fun _ _ h => c_mould_touchesSolid (xc_ok hC) h) (fun v13 σ14 hf => ?_)
    refine xr_if_eq (pc' := 62) 66 hC dX6_gather_59 rfl (by decide) hf (fun hf => ?_) (fun hf => ?_)
    · refine xr_iconst (pc' := 67) (0 : Int32) hC dX6_gather_66 rfl (by decide) ?_
      refine xr_iadd (pc' := 68) hC dX6_gather_67 rfl ?_
      refine sX_10 (pc' := 69) hC dX6_gather_68 rfl hf (fun σ15 hf => ?_)
      refine xr_iinc (pc' := 72) hC dX6_gather_69 rfl _ rfl hf 3 rfl (by decide) [1, 2, 3, 0, 4, 5] (fun l3_16 => [(0, .ref (E.2.2.1 6)), (1, .ref (E.2.2.1 5)), (2, .ref (E.2.2.1 8)), (3, .int l3_16), (4, .int v3), (5, .int v5)]) (fun _ => rfl) (fun l3_16 hf => ?_)
      refine xr_goto 2 hC dX6_gather_72 (by decide) ?_
      refine x_lv [0, 1, 2, 3] rfl ?_
      exact ih _ _ hf
    refine xr_iconst (pc' := 63) (1 : Int32) hC dX6_gather_62 rfl (by decide) ?_
    refine xr_goto 67 hC dX6_gather_63 (by decide) ?_
    refine xr_iadd (pc' := 68) hC dX6_gather_67 rfl ?_
    refine sX_10 (pc' := 69) hC dX6_gather_68 rfl hf (fun σ17 hf => ?_)
    refine xr_iinc (pc' := 72) hC dX6_gather_69 rfl _ rfl hf 3 rfl (by decide) [1, 2, 3, 0, 4, 5] (fun l3_18 => [(0, .ref (E.2.2.1 6)), (1, .ref (E.2.2.1 5)), (2, .ref (E.2.2.1 8)), (3, .int l3_18), (4, .int v3), (5, .int v5)]) (fun _ => rfl) (fun l3_18 hf => ?_)
    refine xr_goto 2 hC dX6_gather_72 (by decide) ?_
    refine x_lv [0, 1, 2, 3] rfl ?_
    exact ih _ _ hf

set_option maxRecDepth 100000 in
set_option maxHeartbeats 4000000 in
theorem c_pieces_gather {l : Launch} {E : xE} {N : Nat} (hG : xOk (GX E)) {σ : xS} {r : Int32} {σ' : xS} (hf : pieces_gather N σ = some (r, σ')) : xMet l (GX E) yX6_gather cX6_gather 6 none (k2_rm 2 44) [.ref (E.2.2.1 6), .ref (E.2.2.1 5), .ref (E.2.2.1 8)] σ none σ' := by
  refine x_met (own := RX6) (by decide +kernel) hG rfl (Nat.le_of_ble_eq_true rfl) (fun C hl hC => ?_)
  subst hl
  show xw C (GX E) 6 (xq C (GX E) none σ') σ 0 [(0, .ref (E.2.2.1 6)), (1, .ref (E.2.2.1 5)), (2, .ref (E.2.2.1 8))] []
  unfold pieces_gather at hf
  refine xr_iconst (pc' := 1) (0 : Int32) hC dX6_gather_0 rfl (by decide) ?_
  refine xr_istore_n (pc' := 2) (lv' := [(0, .ref (E.2.2.1 6)), (1, .ref (E.2.2.1 5)), (2, .ref (E.2.2.1 8)), (3, .int (0 : Int32))]) hC dX6_gather_1 rfl rfl (by decide) [1, 2, 3, 0] rfl ?_
  exact w_pieces_gather_b2 hC N _ _ hf

set_option maxRecDepth 100000 in
set_option maxHeartbeats 4000000 in
theorem w_ju_fill_poured_b5 {C : xT} {E : xE} {N : Nat} {r : Int32} {σ' : xS} (hC : xc C (GX E) RJ7 cJ7_fill_53178 4 none (k2_rm 0 0)) : ∀ (n : Nat) (l1 l2 l3 : Int32) (σ : xS), ju_fill_b5 11 1000 N n l1 l2 l3 σ = some (r, σ') → xw C (GX E) 4 (xq C (GX E) none σ') σ 5 [(0, .ref (E.2.2.1 22)), (1, .int l1), (2, .int l2), (3, .int l3)] [] := by
  intro n
  induction n with
  | zero =>
    intro l1 l2 l3 σ hf
    rw [ju_fill_b5] at hf
    cases hf
  | succ n ih =>
    intro l1 l2 l3 σ hf
    rw [ju_fill_b5] at hf
    refine xr_iload_n (pc' := 6) 2 hC dJ7_fill_53178_5 rfl rfl rfl ?_
    refine xr_iload_n (pc' := 7) 3 hC dJ7_fill_53178_6 rfl rfl rfl ?_
    refine xr_icmp_ge (pc' := 10) 20 hC dJ7_fill_53178_7 rfl (by decide) hf (fun hf => ?_) (fun hf => ?_)
    · exact xr_return hC dJ7_fill_53178_20 hf
    refine xr_aload_n (pc' := 11) 0 hC dJ7_fill_53178_10 rfl rfl rfl ?_
    refine xr_iload_n (pc' := 12) 2 hC dJ7_fill_53178_11 rfl rfl rfl ?_
    refine xr_iload_n (pc' := 13) 1 hC dJ7_fill_53178_12 rfl rfl rfl ?_
    refine sX_11 (pc' := 14) hC dJ7_fill_53178_13 rfl hf (fun σ2 hf => ?_)
    refine xr_iinc (pc' := 17) hC dJ7_fill_53178_14 rfl _ rfl hf 2 rfl (by decide) [1, 2, 0, 3] (fun l2_3 => [(0, .ref (E.2.2.1 22)), (1, .int l1), (2, .int l2_3), (3, .int l3)]) (fun _ => rfl) (fun l2_3 hf => ?_)
    refine xr_goto 5 hC dJ7_fill_53178_17 (by decide) ?_
    exact ih _ _ _ _ hf

set_option maxRecDepth 100000 in
set_option maxHeartbeats 4000000 in
theorem c_ju_fill_poured {l : Launch} {E : xE} {N : Nat} (hG : xOk (GX E)) {l1 : Int32} {σ : xS} {r : Int32} {σ' : xS} (hf : ju_fill 11 1000 N l1 σ = some (r, σ')) : xMet l (GX E) yJ7_fill_53178 cJ7_fill_53178 4 none (k2_rm 0 0) [.ref (E.2.2.1 22), .int l1] σ none σ' := by
  refine x_met (own := RJ7) (by decide +kernel) hG rfl (Nat.le_of_ble_eq_true rfl) (fun C hl hC => ?_)
  subst hl
  show xw C (GX E) 4 (xq C (GX E) none σ') σ 0 [(0, .ref (E.2.2.1 22)), (1, .int l1)] []
  unfold ju_fill at hf
  refine xr_iconst (pc' := 1) (0 : Int32) hC dJ7_fill_53178_0 rfl (by decide) ?_
  refine xr_istore_n (pc' := 2) (lv' := [(0, .ref (E.2.2.1 22)), (1, .int l1), (2, .int (0 : Int32))]) hC dJ7_fill_53178_1 rfl rfl (by decide) [1, 2, 0] rfl ?_
  refine xr_aload_n (pc' := 3) 0 hC dJ7_fill_53178_2 rfl rfl rfl ?_
  refine nX_11 (pc' := 4) hC dJ7_fill_53178_3 rfl ?_
  refine xr_istoreb_n (pc' := 5) hC dJ7_fill_53178_4 rfl hf rfl (by decide) [1, 2, 3, 0] (fun l3_1 => [(0, .ref (E.2.2.1 22)), (1, .int l1), (2, .int (0 : Int32)), (3, .int l3_1)]) (fun _ => rfl) (fun l3_1 hf => ?_)
  exact w_ju_fill_poured_b5 hC N _ _ _ _ hf

set_option maxRecDepth 100000 in
set_option maxHeartbeats 4000000 in
theorem c_pieces_takeBackPours {l : Launch} {E : xE} {N : Nat} (hG : xOk (GX E)) {σ : xS} {r : Int32} {σ' : xS} (hf : pieces_takeBackPours N σ = some (r, σ')) : xMet l (GX E) yX6_takeBackPours cX6_takeBackPours 1 none (k2_rm 1 23) [.ref (E.2.2.1 6)] σ none σ' := by
  refine x_met (own := RX6) (by decide +kernel) hG rfl (Nat.le_of_ble_eq_true rfl) (fun C hl hC => ?_)
  subst hl
  show xw C (GX E) 1 (xq C (GX E) none σ') σ 0 [(0, .ref (E.2.2.1 6))] []
  unfold pieces_takeBackPours at hf
  refine xr_aload_n (pc' := 1) 0 hC dX6_takeBackPours_0 rfl rfl rfl ?_
  refine gX6_pieces_poured (pc' := 4) hC dX6_takeBackPours_1 rfl ?_
  refine xr_iconst (pc' := 5) (0 : Int32) hC dX6_takeBackPours_4 rfl (by decide) ?_
  refine xr_callSv (pc' := 8) (rmy := k2_rm 0 0) [.ref (E.2.2.1 22), .int (0 : Int32)] hC dX6_takeBackPours_5 rfl kX6_58 rfl rfl rfl ⟨Nat.le_of_ble_eq_true rfl, Nat.le_of_ble_eq_true rfl⟩ rfl (Nat.le_of_ble_eq_true rfl) hf (fun _ _ h => c_ju_fill_poured (xc_ok hC) h) (fun v1 σ2 hf => ?_)
  exact xr_return hC dX6_takeBackPours_8 hf

set_option maxRecDepth 100000 in
set_option maxHeartbeats 4000000 in
theorem c_drawing_find {l : Launch} {E : xE} {N : Nat} (hG : xOk (GX E)) {σ : xS} {r : Int32} {σ' : xS} (hf : drawing_find N σ = some (r, σ')) : xMet l (GX E) yX1_find cX1_find 2 (some .boolean) (k2_rm 5 121) [.ref (E.2.2.1 7)] σ (some (.int r)) σ' := by
  refine x_met (own := RX1) (by decide +kernel) hG rfl (Nat.le_of_ble_eq_true rfl) (fun C hl hC => ?_)
  subst hl
  show xw C (GX E) 2 (xq C (GX E) (some (.int r)) σ') σ 0 [(0, .ref (E.2.2.1 7))] []
  unfold drawing_find at hf
  refine xr_aload_n (pc' := 1) 0 hC dX1_find_0 rfl rfl rfl ?_
  refine gX1_drawing_wayCount (pc' := 4) hC dX1_find_1 rfl ?_
  refine xr_if_le (pc' := 7) 16 hC dX1_find_4 rfl (by decide) hf (fun hf => ?_) (fun hf => ?_)
  · refine xr_aload_n (pc' := 17) 0 hC dX1_find_16 rfl rfl rfl ?_
    refine xr_callVv (pc' := 20) (rmy := k2_rm 1 23) [] 7 hC dX1_find_17 rfl kX1_55 rfl rfl rfl rfl rfl ⟨Nat.le_of_ble_eq_true rfl, Nat.le_of_ble_eq_true rfl⟩ rfl (Nat.le_of_ble_eq_true rfl) hf (fun _ _ h => c_drawing_noteFreedoms (xc_ok hC) h) (fun v1 σ2 hf => ?_)
    refine xr_aload_n (pc' := 21) 0 hC dX1_find_20 rfl rfl rfl ?_
    refine xr_callV (pc' := 24) (rmy := k2_rm 1 22) [] 7 hC dX1_find_21 rfl kX1_58 rfl rfl rfl rfl rfl ⟨Nat.le_of_ble_eq_true rfl, Nat.le_of_ble_eq_true rfl⟩ rfl (Nat.le_of_ble_eq_true rfl) hf (fun _ _ h => c_drawing_fewestWays (xc_ok hC) h) (fun v3 σ4 hf => ?_)
    refine xr_istore_n (pc' := 25) (lv' := [(0, .ref (E.2.2.1 7)), (1, .int v3)]) hC dX1_find_24 rfl rfl (by decide) [1, 0] rfl ?_
    refine xr_iload_n (pc' := 26) 1 hC dX1_find_25 rfl rfl rfl ?_
    refine xr_iconst (pc' := 27) (-1 : Int32) hC dX1_find_26 rfl (by decide) ?_
    refine xr_icmp_ne (pc' := 30) 32 hC dX1_find_27 rfl (by decide) hf (fun hf => ?_) (fun hf => ?_)
    · refine xr_aload_n (pc' := 33) 0 hC dX1_find_32 rfl rfl rfl ?_
      refine xr_iload_n (pc' := 34) 1 hC dX1_find_33 rfl rfl rfl ?_
      refine xr_callVv (pc' := 37) (rmy := k2_rm 4 98) [.int v3] 7 hC dX1_find_34 rfl kX1_62 rfl rfl rfl rfl rfl ⟨Nat.le_of_ble_eq_true rfl, Nat.le_of_ble_eq_true rfl⟩ rfl (Nat.le_of_ble_eq_true rfl) hf (fun _ _ h => c_drawing_weighSets (xc_ok hC) h) (fun v5 σ6 hf => ?_)
      refine xr_aload_n (pc' := 38) 0 hC dX1_find_37 rfl rfl rfl ?_
      refine xr_iload_n (pc' := 39) 1 hC dX1_find_38 rfl rfl rfl ?_
      refine xr_callVv (pc' := 42) (rmy := k2_rm 3 74) [.int v3] 7 hC dX1_find_39 rfl kX1_66 rfl rfl rfl rfl rfl ⟨Nat.le_of_ble_eq_true rfl, Nat.le_of_ble_eq_true rfl⟩ rfl (Nat.le_of_ble_eq_true rfl) hf (fun _ _ h => c_drawing_keepBest (xc_ok hC) h) (fun v7 σ8 hf => ?_)
      refine xr_aload_n (pc' := 43) 0 hC dX1_find_42 rfl rfl rfl ?_
      refine gX1_drawing_pieces (pc' := 46) hC dX1_find_43 rfl ?_
      refine xr_aload_n (pc' := 47) 0 hC dX1_find_46 rfl rfl rfl ?_
      refine gX1_drawing_mould (pc' := 50) hC dX1_find_47 rfl ?_
      refine xr_aload_n (pc' := 51) 0 hC dX1_find_50 rfl rfl rfl ?_
      refine gX1_drawing_parting (pc' := 54) hC dX1_find_51 rfl ?_
      refine xr_callVv (pc' := 57) (rmy := k2_rm 2 44) [.ref (E.2.2.1 5), .ref (E.2.2.1 8)] 6 hC dX1_find_54 rfl kX1_69 rfl rfl rfl rfl rfl ⟨Nat.le_of_ble_eq_true rfl, Nat.le_of_ble_eq_true rfl⟩ rfl (Nat.le_of_ble_eq_true rfl) hf (fun _ _ h => c_pieces_gather (xc_ok hC) h) (fun v9 σ10 hf => ?_)
      refine xr_iconst (pc' := 58) (1 : Int32) hC dX1_find_57 rfl (by decide) ?_
      exact xr_zreturn hC dX1_find_58 rfl hf
    refine xr_iconst (pc' := 31) (0 : Int32) hC dX1_find_30 rfl (by decide) ?_
    exact xr_zreturn hC dX1_find_31 rfl hf
  refine xr_aload_n (pc' := 8) 0 hC dX1_find_7 rfl rfl rfl ?_
  refine gX1_drawing_pieces (pc' := 11) hC dX1_find_8 rfl ?_
  refine xr_callVv (pc' := 14) (rmy := k2_rm 1 23) [] 6 hC dX1_find_11 rfl kX1_52 rfl rfl rfl rfl rfl ⟨Nat.le_of_ble_eq_true rfl, Nat.le_of_ble_eq_true rfl⟩ rfl (Nat.le_of_ble_eq_true rfl) hf (fun _ _ h => c_pieces_takeBackPours (xc_ok hC) h) (fun v11 σ12 hf => ?_)
  refine xr_iconst (pc' := 15) (1 : Int32) hC dX1_find_14 rfl (by decide) ?_
  exact xr_zreturn hC dX1_find_15 rfl hf

set_option maxRecDepth 100000 in
set_option maxHeartbeats 4000000 in
theorem c_cw_draw {l : Launch} {E : xE} {N : Nat} (hG : xOk (GX E)) {σ : xS} {r : Int32} {σ' : xS} (hf : cw_draw N σ = some (r, σ')) : xMet l (GX E) yX9_draw cX9_draw 1 (some .int) (k2_rm 6 142) [.ref (E.2.2.1 0)] σ (some (.int r)) σ' := by
  refine x_met (own := RX9) (by decide +kernel) hG rfl (Nat.le_of_ble_eq_true rfl) (fun C hl hC => ?_)
  subst hl
  show xw C (GX E) 1 (xq C (GX E) (some (.int r)) σ') σ 0 [(0, .ref (E.2.2.1 0))] []
  unfold cw_draw at hf
  refine xr_aload_n (pc' := 1) 0 hC dX9_draw_0 rfl rfl rfl ?_
  refine gX9_cw_cells (pc' := 4) hC dX9_draw_1 rfl ?_
  refine xr_callV (pc' := 7) (rmy := k2_rm 0 0) [] 3 hC dX9_draw_4 rfl kX9_137 rfl rfl rfl rfl rfl ⟨Nat.le_of_ble_eq_true rfl, Nat.le_of_ble_eq_true rfl⟩ rfl (Nat.le_of_ble_eq_true rfl) hf (fun _ _ h => c_cells_isThere (xc_ok hC) h) (fun v1 σ2 hf => ?_)
  refine xr_if_ne (pc' := 10) 12 hC dX9_draw_7 rfl (by decide) hf (fun hf => ?_) (fun hf => ?_)
  · refine xr_aload_n (pc' := 13) 0 hC dX9_draw_12 rfl rfl rfl ?_
    refine gX9_cw_drawing (pc' := 16) hC dX9_draw_13 rfl ?_
    refine xr_callV (pc' := 19) (rmy := k2_rm 5 121) [] 7 hC dX9_draw_16 rfl kX9_143 rfl rfl rfl rfl rfl ⟨Nat.le_of_ble_eq_true rfl, Nat.le_of_ble_eq_true rfl⟩ rfl (Nat.le_of_ble_eq_true rfl) hf (fun _ _ h => c_drawing_find (xc_ok hC) h) (fun v3 σ4 hf => ?_)
    refine xr_if_eq (pc' := 22) 32 hC dX9_draw_19 rfl (by decide) hf (fun hf => ?_) (fun hf => ?_)
    · refine xr_bipush (pc' := 34) (-2 : Int32) hC dX9_draw_32 rfl (by decide) ?_
      exact xr_ireturn hC dX9_draw_34 hf
    refine xr_aload_n (pc' := 23) 0 hC dX9_draw_22 rfl rfl rfl ?_
    refine gX9_cw_pieces (pc' := 26) hC dX9_draw_23 rfl ?_
    refine xr_callV (pc' := 29) (rmy := k2_rm 0 0) [] 6 hC dX9_draw_26 rfl kX9_146 rfl rfl rfl rfl rfl ⟨Nat.le_of_ble_eq_true rfl, Nat.le_of_ble_eq_true rfl⟩ rfl (Nat.le_of_ble_eq_true rfl) hf (fun _ _ h => c_pieces_count (xc_ok hC) h) (fun v5 σ6 hf => ?_)
    refine xr_goto 34 hC dX9_draw_29 (by decide) ?_
    exact xr_ireturn hC dX9_draw_34 hf
  refine xr_iconst (pc' := 11) (-1 : Int32) hC dX9_draw_10 rfl (by decide) ?_
  exact xr_ireturn hC dX9_draw_11 hf

set_option maxRecDepth 100000 in
set_option maxHeartbeats 4000000 in
theorem c_drawing_wayNumber {l : Launch} {E : xE} {N : Nat} (hG : xOk (GX E)) {l1 : Int32} {σ : xS} {r : Int32} {σ' : xS} (hf : drawing_wayNumber N l1 σ = some (r, σ')) : xMet l (GX E) yX1_wayNumber cX1_wayNumber 2 (some .int) (k2_rm 0 0) [.ref (E.2.2.1 7), .int l1] σ (some (.int r)) σ' := by
  refine x_met (own := RX1) (by decide +kernel) hG rfl (Nat.le_of_ble_eq_true rfl) (fun C hl hC => ?_)
  subst hl
  show xw C (GX E) 2 (xq C (GX E) (some (.int r)) σ') σ 0 [(0, .ref (E.2.2.1 7)), (1, .int l1)] []
  unfold drawing_wayNumber at hf
  refine xr_iload_n (pc' := 1) 1 hC dX1_wayNumber_0 rfl rfl rfl ?_
  refine xr_if_lt (pc' := 4) 21 hC dX1_wayNumber_1 rfl (by decide) hf (fun hf => ?_) (fun hf => ?_)
  · refine xr_iconst (pc' := 22) (-1 : Int32) hC dX1_wayNumber_21 rfl (by decide) ?_
    exact xr_ireturn hC dX1_wayNumber_22 hf
  refine xr_iload_n (pc' := 5) 1 hC dX1_wayNumber_4 rfl rfl rfl ?_
  refine xr_aload_n (pc' := 6) 0 hC dX1_wayNumber_5 rfl rfl rfl ?_
  refine gX1_drawing_wayCount (pc' := 9) hC dX1_wayNumber_6 rfl ?_
  refine xr_icmp_ge (pc' := 12) 21 hC dX1_wayNumber_9 rfl (by decide) hf (fun hf => ?_) (fun hf => ?_)
  · refine xr_iconst (pc' := 22) (-1 : Int32) hC dX1_wayNumber_21 rfl (by decide) ?_
    exact xr_ireturn hC dX1_wayNumber_22 hf
  refine xr_aload_n (pc' := 13) 0 hC dX1_wayNumber_12 rfl rfl rfl ?_
  refine gX1_drawing_ways (pc' := 16) hC dX1_wayNumber_13 rfl ?_
  refine xr_iload_n (pc' := 17) 1 hC dX1_wayNumber_16 rfl rfl rfl ?_
  refine lX_12 (pc' := 18) hC dX1_wayNumber_17 rfl hf (fun v1 hf => ?_)
  refine xr_goto 22 hC dX1_wayNumber_18 (by decide) ?_
  exact xr_ireturn hC dX1_wayNumber_22 hf

set_option maxRecDepth 100000 in
set_option maxHeartbeats 4000000 in
theorem c_cw_way {l : Launch} {E : xE} {N : Nat} (hG : xOk (GX E)) {l1 : Int32} {σ : xS} {r : Int32} {σ' : xS} (hf : cw_way N l1 σ = some (r, σ')) : xMet l (GX E) yX9_way cX9_way 2 (some .int) (k2_rm 1 21) [.ref (E.2.2.1 0), .int l1] σ (some (.int r)) σ' := by
  refine x_met (own := RX9) (by decide +kernel) hG rfl (Nat.le_of_ble_eq_true rfl) (fun C hl hC => ?_)
  subst hl
  show xw C (GX E) 2 (xq C (GX E) (some (.int r)) σ') σ 0 [(0, .ref (E.2.2.1 0)), (1, .int l1)] []
  unfold cw_way at hf
  refine xr_aload_n (pc' := 1) 0 hC dX9_way_0 rfl rfl rfl ?_
  refine gX9_cw_drawing (pc' := 4) hC dX9_way_1 rfl ?_
  refine xr_iload_n (pc' := 5) 1 hC dX9_way_4 rfl rfl rfl ?_
  refine xr_callV (pc' := 8) (rmy := k2_rm 0 0) [.int l1] 7 hC dX9_way_5 rfl kX9_149 rfl rfl rfl rfl rfl ⟨Nat.le_of_ble_eq_true rfl, Nat.le_of_ble_eq_true rfl⟩ rfl (Nat.le_of_ble_eq_true rfl) hf (fun _ _ h => c_drawing_wayNumber (xc_ok hC) h) (fun v1 σ2 hf => ?_)
  exact xr_ireturn hC dX9_way_8 hf

set_option maxRecDepth 100000 in
set_option maxHeartbeats 4000000 in
theorem c_drawing_pieceOfCell {l : Launch} {E : xE} {N : Nat} (hG : xOk (GX E)) {l1 : Int32} {σ : xS} {r : Int32} {σ' : xS} (hf : drawing_pieceOfCell N l1 σ = some (r, σ')) : xMet l (GX E) yX1_pieceOfCell cX1_pieceOfCell 2 (some .int) (k2_rm 1 21) [.ref (E.2.2.1 7), .int l1] σ (some (.int r)) σ' := by
  refine x_met (own := RX1) (by decide +kernel) hG rfl (Nat.le_of_ble_eq_true rfl) (fun C hl hC => ?_)
  subst hl
  show xw C (GX E) 2 (xq C (GX E) (some (.int r)) σ') σ 0 [(0, .ref (E.2.2.1 7)), (1, .int l1)] []
  unfold drawing_pieceOfCell at hf
  refine xr_aload_n (pc' := 1) 0 hC dX1_pieceOfCell_0 rfl rfl rfl ?_
  refine gX1_drawing_wayCount (pc' := 4) hC dX1_pieceOfCell_1 rfl ?_
  refine xr_if_le (pc' := 7) 18 hC dX1_pieceOfCell_4 rfl (by decide) hf (fun hf => ?_) (fun hf => ?_)
  · refine xr_iconst (pc' := 19) (-1 : Int32) hC dX1_pieceOfCell_18 rfl (by decide) ?_
    exact xr_ireturn hC dX1_pieceOfCell_19 hf
  refine xr_aload_n (pc' := 8) 0 hC dX1_pieceOfCell_7 rfl rfl rfl ?_
  refine gX1_drawing_parting (pc' := 11) hC dX1_pieceOfCell_8 rfl ?_
  refine xr_iload_n (pc' := 12) 1 hC dX1_pieceOfCell_11 rfl rfl rfl ?_
  refine xr_callV (pc' := 15) (rmy := k2_rm 0 0) [.int l1] 8 hC dX1_pieceOfCell_12 rfl kX1_73 rfl rfl rfl rfl rfl ⟨Nat.le_of_ble_eq_true rfl, Nat.le_of_ble_eq_true rfl⟩ rfl (Nat.le_of_ble_eq_true rfl) hf (fun _ _ h => c_parting_numberAt (xc_ok hC) h) (fun v1 σ2 hf => ?_)
  refine xr_goto 19 hC dX1_pieceOfCell_15 (by decide) ?_
  exact xr_ireturn hC dX1_pieceOfCell_19 hf

set_option maxRecDepth 100000 in
set_option maxHeartbeats 4000000 in
theorem c_cw_pieceAt {l : Launch} {E : xE} {N : Nat} (hG : xOk (GX E)) {l1 l2 l3 : Int32} {σ : xS} {r : Int32} {σ' : xS} (hf : cw_pieceAt N l1 l2 l3 σ = some (r, σ')) : xMet l (GX E) yX9_pieceAt cX9_pieceAt 5 (some .int) (k2_rm 2 48) [.ref (E.2.2.1 0), .int l1, .int l2, .int l3] σ (some (.int r)) σ' := by
  refine x_met (own := RX9) (by decide +kernel) hG rfl (Nat.le_of_ble_eq_true rfl) (fun C hl hC => ?_)
  subst hl
  show xw C (GX E) 5 (xq C (GX E) (some (.int r)) σ') σ 0 [(0, .ref (E.2.2.1 0)), (1, .int l1), (2, .int l2), (3, .int l3)] []
  unfold cw_pieceAt at hf
  refine xr_aload_n (pc' := 1) 0 hC dX9_pieceAt_0 rfl rfl rfl ?_
  refine gX9_cw_mould (pc' := 4) hC dX9_pieceAt_1 rfl ?_
  refine xr_iload_n (pc' := 5) 1 hC dX9_pieceAt_4 rfl rfl rfl ?_
  refine xr_iload_n (pc' := 6) 2 hC dX9_pieceAt_5 rfl rfl rfl ?_
  refine xr_iload_n (pc' := 7) 3 hC dX9_pieceAt_6 rfl rfl rfl ?_
  refine xr_callV (pc' := 10) (rmy := k2_rm 1 24) [.int l1, .int l2, .int l3] 5 hC dX9_pieceAt_7 rfl kX9_130 rfl rfl rfl rfl rfl ⟨Nat.le_of_ble_eq_true rfl, Nat.le_of_ble_eq_true rfl⟩ rfl (Nat.le_of_ble_eq_true rfl) hf (fun _ _ h => c_mould_cellAt (xc_ok hC) h) (fun v1 σ2 hf => ?_)
  refine xr_istore (pc' := 12) (lv' := [(0, .ref (E.2.2.1 0)), (1, .int l1), (2, .int l2), (3, .int l3), (4, .int v1)]) hC dX9_pieceAt_10 rfl (by decide) [1, 2, 3, 4, 0] rfl ?_
  refine xr_iload (pc' := 14) 4 hC dX9_pieceAt_12 rfl rfl ?_
  refine xr_iconst (pc' := 15) (-1 : Int32) hC dX9_pieceAt_14 rfl (by decide) ?_
  refine xr_icmp_ne (pc' := 18) 22 hC dX9_pieceAt_15 rfl (by decide) hf (fun hf => ?_) (fun hf => ?_)
  · refine xr_aload_n (pc' := 23) 0 hC dX9_pieceAt_22 rfl rfl rfl ?_
    refine gX9_cw_drawing (pc' := 26) hC dX9_pieceAt_23 rfl ?_
    refine xr_iload (pc' := 28) 4 hC dX9_pieceAt_26 rfl rfl ?_
    refine xr_callV (pc' := 31) (rmy := k2_rm 1 21) [.int v1] 7 hC dX9_pieceAt_28 rfl kX9_152 rfl rfl rfl rfl rfl ⟨Nat.le_of_ble_eq_true rfl, Nat.le_of_ble_eq_true rfl⟩ rfl (Nat.le_of_ble_eq_true rfl) hf (fun _ _ h => c_drawing_pieceOfCell (xc_ok hC) h) (fun v3 σ4 hf => ?_)
    exact xr_ireturn hC dX9_pieceAt_31 hf
  refine xr_iconst (pc' := 19) (-1 : Int32) hC dX9_pieceAt_18 rfl (by decide) ?_
  refine xr_goto 31 hC dX9_pieceAt_19 (by decide) ?_
  exact xr_ireturn hC dX9_pieceAt_31 hf

set_option maxRecDepth 100000 in
set_option maxHeartbeats 4000000 in
theorem c_pieces_borneBy {l : Launch} {E : xE} {N : Nat} (hG : xOk (GX E)) {l1 : Int32} {σ : xS} {r : Int32} {σ' : xS} (hf : pieces_borneBy N l1 σ = some (r, σ')) : xMet l (GX E) yX6_borneBy cX6_borneBy 2 (some .int) (k2_rm 1 13) [.ref (E.2.2.1 6), .int l1] σ (some (.int r)) σ' := by
  refine x_met (own := RX6) (by decide +kernel) hG rfl (Nat.le_of_ble_eq_true rfl) (fun C hl hC => ?_)
  subst hl
  show xw C (GX E) 2 (xq C (GX E) (some (.int r)) σ') σ 0 [(0, .ref (E.2.2.1 6)), (1, .int l1)] []
  unfold pieces_borneBy at hf
  refine xr_iconst (pc' := 1) (1 : Int32) hC dX6_borneBy_0 rfl (by decide) ?_
  refine xr_aload_n (pc' := 2) 0 hC dX6_borneBy_1 rfl rfl rfl ?_
  refine gX6_pieces_life (pc' := 5) hC dX6_borneBy_2 rfl ?_
  refine xr_aload_n (pc' := 6) 0 hC dX6_borneBy_5 rfl rfl rfl ?_
  refine gX6_pieces_touching (pc' := 9) hC dX6_borneBy_6 rfl ?_
  refine xr_iload_n (pc' := 10) 1 hC dX6_borneBy_9 rfl rfl rfl ?_
  refine lX_10 (pc' := 11) hC dX6_borneBy_10 rfl hf (fun v1 hf => ?_)
  refine xr_isub (pc' := 12) hC dX6_borneBy_11 rfl ?_
  refine xr_mmax (pc' := 15) hC dX6_borneBy_12 rfl kX6_79 (Nat.le_of_ble_eq_true rfl) (Nat.le_of_ble_eq_true rfl) ?_
  refine xr_top (x := xmax (1 : Int32) ((σ.1 12) - v1)) hf (fun v2 hf => ?_)
  exact xr_ireturn hC dX6_borneBy_15 hf

set_option maxRecDepth 100000 in
set_option maxHeartbeats 4000000 in
theorem c_pieces_tell {l : Launch} {E : xE} {N : Nat} (hG : xOk (GX E)) {l1 l2 : Int32} {σ : xS} {r : Int32} {σ' : xS} (hf : pieces_tell N l1 l2 σ = some (r, σ')) : xMet l (GX E) yX6_tell cX6_tell 3 (some .int) (k2_rm 2 34) [.ref (E.2.2.1 6), .int l1, .int l2] σ (some (.int r)) σ' := by
  refine x_met (own := RX6) (by decide +kernel) hG rfl (Nat.le_of_ble_eq_true rfl) (fun C hl hC => ?_)
  subst hl
  show xw C (GX E) 3 (xq C (GX E) (some (.int r)) σ') σ 0 [(0, .ref (E.2.2.1 6)), (1, .int l1), (2, .int l2)] []
  unfold pieces_tell at hf
  refine xr_aload_n (pc' := 1) 0 hC dX6_tell_0 rfl rfl rfl ?_
  refine xr_iload_n (pc' := 2) 1 hC dX6_tell_1 rfl rfl rfl ?_
  refine xr_callV (pc' := 5) (rmy := k2_rm 0 0) [.int l1] 6 hC dX6_tell_2 rfl kX6_51 rfl rfl rfl rfl rfl ⟨Nat.le_of_ble_eq_true rfl, Nat.le_of_ble_eq_true rfl⟩ rfl (Nat.le_of_ble_eq_true rfl) hf (fun _ _ h => c_pieces_has (xc_ok hC) h) (fun v1 σ2 hf => ?_)
  refine xr_if_ne (pc' := 8) 10 hC dX6_tell_5 rfl (by decide) hf (fun hf => ?_) (fun hf => ?_)
  · refine xr_iload_n (pc' := 11) 2 hC dX6_tell_10 rfl rfl rfl ?_
    by_cases e0 : l2 = (0 : Int32)
    · rw [if_pos e0] at hf
      refine xr_tableIn (off := 33) 44 hC dX6_tell_11 (by rw [e0]; decide) (by rw [e0]; decide) (by rw [e0]; rfl) (by decide) ?_
      refine xr_aload_n (pc' := 45) 0 hC dX6_tell_44 rfl rfl rfl ?_
      refine gX6_pieces_ways (pc' := 48) hC dX6_tell_45 rfl ?_
      refine xr_iload_n (pc' := 49) 1 hC dX6_tell_48 rfl rfl rfl ?_
      refine lX_8 (pc' := 50) hC dX6_tell_49 rfl hf (fun v3 hf => ?_)
      exact xr_ireturn hC dX6_tell_50 hf
    rw [if_neg e0] at hf
    by_cases e1 : l2 = (1 : Int32)
    · rw [if_pos e1] at hf
      refine xr_tableIn (off := 40) 51 hC dX6_tell_11 (by rw [e1]; decide) (by rw [e1]; decide) (by rw [e1]; rfl) (by decide) ?_
      refine xr_aload_n (pc' := 52) 0 hC dX6_tell_51 rfl rfl rfl ?_
      refine gX6_pieces_sizes (pc' := 55) hC dX6_tell_52 rfl ?_
      refine xr_iload_n (pc' := 56) 1 hC dX6_tell_55 rfl rfl rfl ?_
      refine lX_9 (pc' := 57) hC dX6_tell_56 rfl hf (fun v4 hf => ?_)
      exact xr_ireturn hC dX6_tell_57 hf
    rw [if_neg e1] at hf
    by_cases e2 : l2 = (2 : Int32)
    · rw [if_pos e2] at hf
      refine xr_tableIn (off := 47) 58 hC dX6_tell_11 (by rw [e2]; decide) (by rw [e2]; decide) (by rw [e2]; rfl) (by decide) ?_
      refine xr_aload_n (pc' := 59) 0 hC dX6_tell_58 rfl rfl rfl ?_
      refine gX6_pieces_touching (pc' := 62) hC dX6_tell_59 rfl ?_
      refine xr_iload_n (pc' := 63) 1 hC dX6_tell_62 rfl rfl rfl ?_
      refine lX_10 (pc' := 64) hC dX6_tell_63 rfl hf (fun v5 hf => ?_)
      exact xr_ireturn hC dX6_tell_64 hf
    rw [if_neg e2] at hf
    by_cases e3 : l2 = (3 : Int32)
    · rw [if_pos e3] at hf
      refine xr_tableIn (off := 54) 65 hC dX6_tell_11 (by rw [e3]; decide) (by rw [e3]; decide) (by rw [e3]; rfl) (by decide) ?_
      refine xr_aload_n (pc' := 66) 0 hC dX6_tell_65 rfl rfl rfl ?_
      refine xr_iload_n (pc' := 67) 1 hC dX6_tell_66 rfl rfl rfl ?_
      refine xr_callV (pc' := 70) (rmy := k2_rm 1 13) [.int l1] 6 hC dX6_tell_67 rfl kX6_64 rfl rfl rfl rfl rfl ⟨Nat.le_of_ble_eq_true rfl, Nat.le_of_ble_eq_true rfl⟩ rfl (Nat.le_of_ble_eq_true rfl) hf (fun _ _ h => c_pieces_borneBy (xc_ok hC) h) (fun v6 σ7 hf => ?_)
      exact xr_ireturn hC dX6_tell_70 hf
    rw [if_neg e3] at hf
    by_cases e4 : l2 = (4 : Int32)
    · rw [if_pos e4] at hf
      refine xr_tableIn (off := 60) 71 hC dX6_tell_11 (by rw [e4]; decide) (by rw [e4]; decide) (by rw [e4]; rfl) (by decide) ?_
      refine xr_aload_n (pc' := 72) 0 hC dX6_tell_71 rfl rfl rfl ?_
      refine gX6_pieces_poured (pc' := 75) hC dX6_tell_72 rfl ?_
      refine xr_iload_n (pc' := 76) 1 hC dX6_tell_75 rfl rfl rfl ?_
      refine lX_11 (pc' := 77) hC dX6_tell_76 rfl hf (fun v8 hf => ?_)
      exact xr_ireturn hC dX6_tell_77 hf
    rw [if_neg e4] at hf
    refine xr_tableOut 78 hC dX6_tell_11 (by have f0 := i32_ne e0 (show ((0 : Int32)).toInt = 0 by decide); have f1 := i32_ne e1 (show ((1 : Int32)).toInt = 1 by decide); have f2 := i32_ne e2 (show ((2 : Int32)).toInt = 2 by decide); have f3 := i32_ne e3 (show ((3 : Int32)).toInt = 3 by decide); have f4 := i32_ne e4 (show ((4 : Int32)).toInt = 4 by decide); omega) (by decide) ?_
    refine xr_iconst (pc' := 79) (-1 : Int32) hC dX6_tell_78 rfl (by decide) ?_
    exact xr_ireturn hC dX6_tell_79 hf
  refine xr_iconst (pc' := 9) (-1 : Int32) hC dX6_tell_8 rfl (by decide) ?_
  exact xr_ireturn hC dX6_tell_9 hf

set_option maxRecDepth 100000 in
set_option maxHeartbeats 4000000 in
theorem c_cw_piece {l : Launch} {E : xE} {N : Nat} (hG : xOk (GX E)) {l1 l2 : Int32} {σ : xS} {r : Int32} {σ' : xS} (hf : cw_piece N l1 l2 σ = some (r, σ')) : xMet l (GX E) yX9_piece cX9_piece 3 (some .int) (k2_rm 3 56) [.ref (E.2.2.1 0), .int l1, .int l2] σ (some (.int r)) σ' := by
  refine x_met (own := RX9) (by decide +kernel) hG rfl (Nat.le_of_ble_eq_true rfl) (fun C hl hC => ?_)
  subst hl
  show xw C (GX E) 3 (xq C (GX E) (some (.int r)) σ') σ 0 [(0, .ref (E.2.2.1 0)), (1, .int l1), (2, .int l2)] []
  unfold cw_piece at hf
  refine xr_aload_n (pc' := 1) 0 hC dX9_piece_0 rfl rfl rfl ?_
  refine gX9_cw_pieces (pc' := 4) hC dX9_piece_1 rfl ?_
  refine xr_iload_n (pc' := 5) 1 hC dX9_piece_4 rfl rfl rfl ?_
  refine xr_iload_n (pc' := 6) 2 hC dX9_piece_5 rfl rfl rfl ?_
  refine xr_callV (pc' := 9) (rmy := k2_rm 2 34) [.int l1, .int l2] 6 hC dX9_piece_6 rfl kX9_155 rfl rfl rfl rfl rfl ⟨Nat.le_of_ble_eq_true rfl, Nat.le_of_ble_eq_true rfl⟩ rfl (Nat.le_of_ble_eq_true rfl) hf (fun _ _ h => c_pieces_tell (xc_ok hC) h) (fun v1 σ2 hf => ?_)
  exact xr_ireturn hC dX9_piece_9 hf

set_option maxRecDepth 100000 in
set_option maxHeartbeats 4000000 in
theorem c_pieces_setWear {l : Launch} {E : xE} {N : Nat} (hG : xOk (GX E)) {l1 l2 : Int32} {σ : xS} {r : Int32} {σ' : xS} (hf : pieces_setWear N l1 l2 σ = some (r, σ')) : xMet l (GX E) yX6_setWear cX6_setWear 3 (some .boolean) (k2_rm 0 0) [.ref (E.2.2.1 6), .int l1, .int l2] σ (some (.int r)) σ' := by
  refine x_met (own := RX6) (by decide +kernel) hG rfl (Nat.le_of_ble_eq_true rfl) (fun C hl hC => ?_)
  subst hl
  show xw C (GX E) 3 (xq C (GX E) (some (.int r)) σ') σ 0 [(0, .ref (E.2.2.1 6)), (1, .int l1), (2, .int l2)] []
  unfold pieces_setWear at hf
  refine xr_iload_n (pc' := 1) 1 hC dX6_setWear_0 rfl rfl rfl ?_
  refine xr_iconst (pc' := 2) (1 : Int32) hC dX6_setWear_1 rfl (by decide) ?_
  refine xr_icmp_lt (pc' := 5) 22 hC dX6_setWear_2 rfl (by decide) hf (fun hf => ?_) (fun hf => ?_)
  · refine xr_iconst (pc' := 23) (0 : Int32) hC dX6_setWear_22 rfl (by decide) ?_
    exact xr_zreturn hC dX6_setWear_23 rfl hf
  refine xr_iload_n (pc' := 6) 1 hC dX6_setWear_5 rfl rfl rfl ?_
  refine xr_sipush (pc' := 9) (1000 : Int32) hC dX6_setWear_6 rfl (by decide) ?_
  refine xr_icmp_gt (pc' := 12) 22 hC dX6_setWear_9 rfl (by decide) hf (fun hf => ?_) (fun hf => ?_)
  · refine xr_iconst (pc' := 23) (0 : Int32) hC dX6_setWear_22 rfl (by decide) ?_
    exact xr_zreturn hC dX6_setWear_23 rfl hf
  refine xr_iload_n (pc' := 13) 2 hC dX6_setWear_12 rfl rfl rfl ?_
  refine xr_if_lt (pc' := 16) 22 hC dX6_setWear_13 rfl (by decide) hf (fun hf => ?_) (fun hf => ?_)
  · refine xr_iconst (pc' := 23) (0 : Int32) hC dX6_setWear_22 rfl (by decide) ?_
    exact xr_zreturn hC dX6_setWear_23 rfl hf
  refine xr_iload_n (pc' := 17) 2 hC dX6_setWear_16 rfl rfl rfl ?_
  refine xr_bipush (pc' := 19) (100 : Int32) hC dX6_setWear_17 rfl (by decide) ?_
  refine xr_icmp_le (pc' := 22) 24 hC dX6_setWear_19 rfl (by decide) hf (fun hf => ?_) (fun hf => ?_)
  · refine xr_aload_n (pc' := 25) 0 hC dX6_setWear_24 rfl rfl rfl ?_
    refine xr_iload_n (pc' := 26) 1 hC dX6_setWear_25 rfl rfl rfl ?_
    refine pX6_pieces_life (pc' := 29) hC dX6_setWear_26 rfl hf (fun σ1 hf => ?_)
    refine xr_aload_n (pc' := 30) 0 hC dX6_setWear_29 rfl rfl rfl ?_
    refine xr_iload_n (pc' := 31) 2 hC dX6_setWear_30 rfl rfl rfl ?_
    refine pX6_pieces_price (pc' := 34) hC dX6_setWear_31 rfl hf (fun σ2 hf => ?_)
    refine xr_iconst (pc' := 35) (1 : Int32) hC dX6_setWear_34 rfl (by decide) ?_
    exact xr_zreturn hC dX6_setWear_35 rfl hf
  refine xr_iconst (pc' := 23) (0 : Int32) hC dX6_setWear_22 rfl (by decide) ?_
  exact xr_zreturn hC dX6_setWear_23 rfl hf

set_option maxRecDepth 100000 in
set_option maxHeartbeats 4000000 in
theorem c_cw_wear {l : Launch} {E : xE} {N : Nat} (hG : xOk (GX E)) {l1 l2 : Int32} {σ : xS} {r : Int32} {σ' : xS} (hf : cw_wear N l1 l2 σ = some (r, σ')) : xMet l (GX E) yX9_wear cX9_wear 3 (some .boolean) (k2_rm 1 22) [.ref (E.2.2.1 0), .int l1, .int l2] σ (some (.int r)) σ' := by
  refine x_met (own := RX9) (by decide +kernel) hG rfl (Nat.le_of_ble_eq_true rfl) (fun C hl hC => ?_)
  subst hl
  show xw C (GX E) 3 (xq C (GX E) (some (.int r)) σ') σ 0 [(0, .ref (E.2.2.1 0)), (1, .int l1), (2, .int l2)] []
  unfold cw_wear at hf
  refine xr_aload_n (pc' := 1) 0 hC dX9_wear_0 rfl rfl rfl ?_
  refine gX9_cw_pieces (pc' := 4) hC dX9_wear_1 rfl ?_
  refine xr_iload_n (pc' := 5) 1 hC dX9_wear_4 rfl rfl rfl ?_
  refine xr_iload_n (pc' := 6) 2 hC dX9_wear_5 rfl rfl rfl ?_
  refine xr_callV (pc' := 9) (rmy := k2_rm 0 0) [.int l1, .int l2] 6 hC dX9_wear_6 rfl kX9_159 rfl rfl rfl rfl rfl ⟨Nat.le_of_ble_eq_true rfl, Nat.le_of_ble_eq_true rfl⟩ rfl (Nat.le_of_ble_eq_true rfl) hf (fun _ _ h => c_pieces_setWear (xc_ok hC) h) (fun v1 σ2 hf => ?_)
  exact xr_breturn hC dX9_wear_9 hf

set_option maxRecDepth 100000 in
set_option maxHeartbeats 4000000 in
theorem c_pieces_canPour {l : Launch} {E : xE} {N : Nat} (hG : xOk (GX E)) {l1 : Int32} {σ : xS} {r : Int32} {σ' : xS} (hf : pieces_canPour N l1 σ = some (r, σ')) : xMet l (GX E) yX6_canPour cX6_canPour 2 (some .boolean) (k2_rm 0 0) [.ref (E.2.2.1 6), .int l1] σ (some (.int r)) σ' := by
  refine x_met (own := RX6) (by decide +kernel) hG rfl (Nat.le_of_ble_eq_true rfl) (fun C hl hC => ?_)
  subst hl
  show xw C (GX E) 2 (xq C (GX E) (some (.int r)) σ') σ 0 [(0, .ref (E.2.2.1 6)), (1, .int l1)] []
  unfold pieces_canPour at hf
  refine xr_aload_n (pc' := 1) 0 hC dX6_canPour_0 rfl rfl rfl ?_
  refine gX6_pieces_length (pc' := 4) hC dX6_canPour_1 rfl ?_
  refine xr_if_le (pc' := 7) 23 hC dX6_canPour_4 rfl (by decide) hf (fun hf => ?_) (fun hf => ?_)
  · refine xr_iconst (pc' := 24) (0 : Int32) hC dX6_canPour_23 rfl (by decide) ?_
    exact xr_zreturn hC dX6_canPour_24 rfl hf
  refine xr_iload_n (pc' := 8) 1 hC dX6_canPour_7 rfl rfl rfl ?_
  refine xr_iconst (pc' := 9) (1 : Int32) hC dX6_canPour_8 rfl (by decide) ?_
  refine xr_icmp_lt (pc' := 12) 23 hC dX6_canPour_9 rfl (by decide) hf (fun hf => ?_) (fun hf => ?_)
  · refine xr_iconst (pc' := 24) (0 : Int32) hC dX6_canPour_23 rfl (by decide) ?_
    exact xr_zreturn hC dX6_canPour_24 rfl hf
  refine xr_iload_n (pc' := 13) 1 hC dX6_canPour_12 rfl rfl rfl ?_
  refine xr_sipush (pc' := 16) (1000 : Int32) hC dX6_canPour_13 rfl (by decide) ?_
  refine xr_icmp_gt (pc' := 19) 23 hC dX6_canPour_16 rfl (by decide) hf (fun hf => ?_) (fun hf => ?_)
  · refine xr_iconst (pc' := 24) (0 : Int32) hC dX6_canPour_23 rfl (by decide) ?_
    exact xr_zreturn hC dX6_canPour_24 rfl hf
  refine xr_iconst (pc' := 20) (1 : Int32) hC dX6_canPour_19 rfl (by decide) ?_
  refine xr_goto 24 hC dX6_canPour_20 (by decide) ?_
  exact xr_zreturn hC dX6_canPour_24 rfl hf

set_option maxRecDepth 100000 in
set_option maxHeartbeats 4000000 in
theorem c_pieces_leftOn {l : Launch} {E : xE} {N : Nat} (hG : xOk (GX E)) {l1 : Int32} {σ : xS} {r : Int32} {σ' : xS} (hf : pieces_leftOn N l1 σ = some (r, σ')) : xMet l (GX E) yX6_leftOn cX6_leftOn 2 (some .int) (k2_rm 2 34) [.ref (E.2.2.1 6), .int l1] σ (some (.int r)) σ' := by
  refine x_met (own := RX6) (by decide +kernel) hG rfl (Nat.le_of_ble_eq_true rfl) (fun C hl hC => ?_)
  subst hl
  show xw C (GX E) 2 (xq C (GX E) (some (.int r)) σ') σ 0 [(0, .ref (E.2.2.1 6)), (1, .int l1)] []
  unfold pieces_leftOn at hf
  refine xr_iconst (pc' := 1) (0 : Int32) hC dX6_leftOn_0 rfl (by decide) ?_
  refine xr_aload_n (pc' := 2) 0 hC dX6_leftOn_1 rfl rfl rfl ?_
  refine xr_iload_n (pc' := 3) 1 hC dX6_leftOn_2 rfl rfl rfl ?_
  refine xr_callV (pc' := 6) (rmy := k2_rm 1 13) [.int l1] 6 hC dX6_leftOn_3 rfl kX6_64 rfl rfl rfl rfl rfl ⟨Nat.le_of_ble_eq_true rfl, Nat.le_of_ble_eq_true rfl⟩ rfl (Nat.le_of_ble_eq_true rfl) hf (fun _ _ h => c_pieces_borneBy (xc_ok hC) h) (fun v1 σ2 hf => ?_)
  refine xr_aload_n (pc' := 7) 0 hC dX6_leftOn_6 rfl rfl rfl ?_
  refine gX6_pieces_poured (pc' := 10) hC dX6_leftOn_7 rfl ?_
  refine xr_iload_n (pc' := 11) 1 hC dX6_leftOn_10 rfl rfl rfl ?_
  refine lX_11 (pc' := 12) hC dX6_leftOn_11 rfl hf (fun v3 hf => ?_)
  refine xr_isub (pc' := 13) hC dX6_leftOn_12 rfl ?_
  refine xr_mmax (pc' := 16) hC dX6_leftOn_13 rfl kX6_79 (Nat.le_of_ble_eq_true rfl) (Nat.le_of_ble_eq_true rfl) ?_
  refine xr_top (x := xmax (0 : Int32) (v1 - v3)) hf (fun v4 hf => ?_)
  exact xr_ireturn hC dX6_leftOn_16 hf

