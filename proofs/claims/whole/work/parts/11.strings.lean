theorem xin_lt {i : Int32} {n : Nat} (hn : n < 2 ^ 31) (h : xin i n = true) : ¬ i < 0 ∧ i < Int32.ofNat n := by
  obtain ⟨j, hj, rfl⟩ := vp_in_of (xin_in h) hn
  exact ⟨nI_pos (Nat.lt_trans hj hn), nI_lt hj hn⟩
theorem xtl_lt {w : Nat} (hw : w < 7) : xtl.getD w 0 < 2 ^ 31 := by
  rcases (show w = 0 ∨ w = 1 ∨ w = 2 ∨ w = 3 ∨ w = 4 ∨ w = 5 ∨ w = 6 by omega) with rfl | rfl | rfl | rfl | rfl | rfl | rfl <;> decide
theorem xtb_ok {w j : Nat} (hw : w < 7) (hj : j < xtl.getD w 0) : (((xtb.getD w []).getD j 0 &&& 255).toUInt32 % 65536).toInt32 = (xtb.getD w []).getD j 0 := by
  have hj : j < 6 := by
    rcases (show w = 0 ∨ w = 1 ∨ w = 2 ∨ w = 3 ∨ w = 4 ∨ w = 5 ∨ w = 6 by omega) with rfl | rfl | rfl | rfl | rfl | rfl | rfl <;> simp [xtl] at hj <;> omega
  rcases (show w = 0 ∨ w = 1 ∨ w = 2 ∨ w = 3 ∨ w = 4 ∨ w = 5 ∨ w = 6 by omega) with rfl | rfl | rfl | rfl | rfl | rfl | rfl <;> rcases (show j = 0 ∨ j = 1 ∨ j = 2 ∨ j = 3 ∨ j = 4 ∨ j = 5 by omega) with rfl | rfl | rfl | rfl | rfl | rfl <;> decide
section XST
variable {C : xT} {E : xE} {own : String} {cc : ByteArray} {nL : Nat} {ret : Option FieldType} {rm : Room} {Q : State → Prop} {σ : xS} {pc pc' : Nat} {lv : List (Nat × Value)} {st stk : List Value} {α : Type} {res : α} {w : Nat}
theorem xs_val (hC : xc C (GX E) RJ0 cc nL ret rm) (hd : decode cc pc = .ok (.getfield 9, 3)) (hn : pc + 3 = pc') (hw : w < 7) (k : xw C (GX E) nL Q σ pc' lv (.ref (E.2.2.2.2.2 w) :: st)) : xw C (GX E) nL Q σ pc lv (.ref (E.2.2.2.2.1 w) :: st) := by
  obtain ⟨p, l, e, R, s, m, args, below, meth, c⟩ := C
  obtain ⟨hx, hb, hml, hown, hts, hK, hZ, hlk, hr, hR, hG⟩ := hC
  subst hn
  intro H locs ls h1 h2 h3
  exact vk_getf hx hb (hZ.2.2.1.1 w hw).2.2.1 h2 hown (hts _ (TB_of (i := 1316) (by decide +kernel) rfl)) (fun _ h9 => h9) hd (k H locs ls h1 h2 h3)
theorem xs_cod (hC : xc C (GX E) RJ0 cc nL ret rm) (hd : decode cc pc = .ok (.getfield 15, 3)) (hn : pc + 3 = pc') (hw : w < 7) (k : xw C (GX E) nL Q σ pc' lv (.int 0 :: st)) : xw C (GX E) nL Q σ pc lv (.ref (E.2.2.2.2.1 w) :: st) := by
  obtain ⟨p, l, e, R, s, m, args, below, meth, c⟩ := C
  obtain ⟨hx, hb, hml, hown, hts, hK, hZ, hlk, hr, hR, hG⟩ := hC
  subst hn
  intro H locs ls h1 h2 h3
  exact vk_getf hx hb (hZ.2.2.1.1 w hw).2.1 h2 hown (hts _ (TB_of (i := 1317) (by decide +kernel) rfl)) (fun _ h9 => h9) hd (k H locs ls h1 h2 h3)
theorem xs_com (hC : xc C (GX E) RJ0 cc nL ret rm) (hd : decode cc pc = .ok (.getstatic 38, 3)) (hn : pc + 3 = pc') (k : xw C (GX E) nL Q σ pc' lv (.int 1 :: st)) : xw C (GX E) nL Q σ pc lv st := by
  obtain ⟨p, l, e, R, s, m, args, below, meth, c⟩ := C
  obtain ⟨hx, hb, hml, hown, hts, hK, hZ, hlk, hr, hR, hG⟩ := hC
  subst hn
  intro H locs ls h1 h2 h3
  exact va_gets hx hb hZ.2.1 h2 hown (hts _ (TB_of (i := 396) (by decide +kernel) rfl)) (fun _ h9 => h9) hd (k H locs ls h1 h2 h3)
theorem xs_fmt (hC : xc C (GX E) RJ0 cc nL ret rm) (hd : decode cc pc = .ok (.getstatic 1053, 3)) (hn : pc + 3 = pc') (k : ∀ v : Value, (v = .null ∨ ∃ t : Nat, v = .ref t) → xw C (GX E) nL Q σ pc' lv (v :: st)) : xw C (GX E) nL Q σ pc lv st := by
  obtain ⟨p, l, e, R, s, m, args, below, meth, c⟩ := C
  obtain ⟨hx, hb, hml, hown, hts, hK, hZ, hlk, hr, hR, hG⟩ := hC
  subst hn
  intro H locs ls h1 h2 h3
  rcases hZ.2.2.2.2 with h | ⟨t, h⟩
  · exact va_gets hx hb h h2 hown (hts _ (TB_of (i := 412) (by decide +kernel) rfl)) (fun _ h9 => h9) hd (k _ (Or.inl rfl) H locs ls h1 h2 h3)
  · exact va_gets hx hb h h2 hown (hts _ (TB_of (i := 412) (by decide +kernel) rfl)) (fun _ h9 => h9) hd (k _ (Or.inr ⟨t, rfl⟩) H locs ls h1 h2 h3)
theorem xs_len (hC : xc C (GX E) own cc nL ret rm) (hd : decode cc pc = .ok (.arraylength, 1)) (hn : pc + 1 = pc') (hw : w < 7) (k : xw C (GX E) nL Q σ pc' lv (.int (Int32.ofNat (xtl.getD w 0)) :: st)) : xw C (GX E) nL Q σ pc lv (.ref (E.2.2.2.2.2 w) :: st) := by
  obtain ⟨p, l, e, R, s, m, args, below, meth, c⟩ := C
  obtain ⟨hx, hb, hml, hown, hts, hK, hZ, hlk, hr, hR, hG⟩ := hC
  subst hn
  intro H locs ls h1 h2 h3
  exact va_tlen hx hb (hZ.2.2.1.1 w hw).2.2.2 h2 rfl hd (k H locs ls h1 h2 h3)
theorem xs_bal {i : Int32} (hC : xc C (GX E) own cc nL ret rm) (hd : decode cc pc = .ok (.baload, 1)) (hn : pc + 1 = pc') (hw : w < 7) (hi : xin i (xtl.getD w 0) = true) (k : xw C (GX E) nL Q σ pc' lv (.int ((xtb.getD w []).getD i.toNatClampNeg 0) :: st)) : xw C (GX E) nL Q σ pc lv (.int i :: .ref (E.2.2.2.2.2 w) :: st) := by
  obtain ⟨p, l, e, R, s, m, args, below, meth, c⟩ := C
  obtain ⟨hx, hb, hml, hown, hts, hK, hZ, hlk, hr, hR, hG⟩ := hC
  subst hn
  intro H locs ls h1 h2 h3
  exact va_tb hx hb (hZ.2.2.1.1 w hw).2.2.2 h2 (xin_in hi) rfl hd (k H locs ls h1 h2 h3)
/-- a call on a word of the text -/
theorem xs_callV {idx : Nat} {y : MethodName} {bytes : ByteArray} {maxL n : Nat} {rety : Option FieldType} {rmy : Room} {o : Option Value} {σ' : xS} (As : List Value) (hC : xc C (GX E) own cc nL ret rm) (hd : decode cc pc = .ok (.invokevirtual idx, 3)) (hn : pc + 3 = pc') (hL : xLk own idx "java/lang/String" y bytes maxL rety n) (hw : w < 7) (hlen : As.length = n) (hrc : rmy.cells = 0) (hrs : rmy.slots = 0) (hroom : rmy.frames + 1 ≤ rm.frames ∧ 8 + (maxL + 11) + rmy.locals ≤ rm.locals) (hst : stk = As.reverse ++ .ref (E.2.2.2.2.1 w) :: st) (hcat : (st.map fun v => v.category).sum ≤ 8)
    (hM : xMet C.2.1 (GX E) y bytes maxL rety rmy (.ref (E.2.2.2.2.1 w) :: As) σ o σ') (k : xw C (GX E) nL Q σ' pc' lv (o.toList ++ st)) : xw C (GX E) nL Q σ pc lv stk := by
  obtain ⟨p, l, e, R, s, m, args, below, meth, c⟩ := C
  obtain ⟨hx, hb, hml, hown, hts, hK, hZ, hlk, hr, hR, hG⟩ := hC
  obtain ⟨hy, w1, w2, w3, w4, w5⟩ := hL
  dsimp only at hR
  subst hn; subst hR; subst hst
  intro H locs ls h1 h2 h3
  exact x_run (va_runV (As := As) (rest := st) (cc := cc) (nL := nL) ⟨hx, hb, hml, hown, hts⟩ hM ⟨callB_of n hts (TB_in w1) rfl hrc hrs (by rw [hy.1]; exact hts _ w5) (hts _ w2) hy.2 hroom, hts _ w3, hts _ w4⟩ ⟨x_blind hG, vk_recv hZ.2.2.1 hw h2, x_pre hG hK hZ h1 h2⟩ rfl hlen h3.1 rfl (lv_room hcat) hd ⟨Nat.zero_le _, Nat.zero_le _⟩) h2 (fun H1 locs1 g1 g2 => k H1 locs1 ls g1 g2 h3)
end XST

theorem c_coder {l : Launch} {E : xE} (hG : xOk (GX E)) {σ : xS} {w : Nat} (hw : w < 7) : xMet l (GX E) yJ0_coder_7d493 cJ0_coder_7d493 1 (some .byte) (k2_rm 0 0) [.ref (E.2.2.2.2.1 w)] σ (some (.int 0)) σ := by
  refine x_met (own := RJ0) (by decide +kernel) hG rfl (Nat.le_of_ble_eq_true rfl) (fun C hl hC => ?_)
  subst hl
  refine xs_com (pc' := 3) hC dJ0_coder_7d493_0 rfl ?_
  refine xr_if_eq (pc' := 6) (α := Unit) (inst := inferInstance) (X := none) (Y := some ()) (res := ()) 13 hC dJ0_coder_7d493_3 rfl (by decide) (if_neg (by decide)) (fun hf => by cases hf) (fun _ => ?_)
  refine xr_aload_n (pc' := 7) 0 hC dJ0_coder_7d493_6 rfl rfl rfl ?_
  refine xs_cod (pc' := 10) hC dJ0_coder_7d493_7 rfl hw ?_
  refine xr_goto 14 hC dJ0_coder_7d493_10 (by decide) ?_
  exact xr_zreturn hC dJ0_coder_7d493_14 rfl rfl
theorem c_isLatin1 {l : Launch} {E : xE} (hG : xOk (GX E)) {σ : xS} {w : Nat} (hw : w < 7) : xMet l (GX E) yJ0_isLatin1_aae02 cJ0_isLatin1_aae02 1 (some .boolean) (k2_rm 0 0) [.ref (E.2.2.2.2.1 w)] σ (some (.int 1)) σ := by
  refine x_met (own := RJ0) (by decide +kernel) hG rfl (Nat.le_of_ble_eq_true rfl) (fun C hl hC => ?_)
  subst hl
  refine xs_com (pc' := 3) hC dJ0_isLatin1_aae02_0 rfl ?_
  refine xr_if_eq (pc' := 6) (α := Unit) (inst := inferInstance) (X := none) (Y := some ()) (res := ()) 17 hC dJ0_isLatin1_aae02_3 rfl (by decide) (if_neg (by decide)) (fun hf => by cases hf) (fun _ => ?_)
  refine xr_aload_n (pc' := 7) 0 hC dJ0_isLatin1_aae02_6 rfl rfl rfl ?_
  refine xs_cod (pc' := 10) hC dJ0_isLatin1_aae02_7 rfl hw ?_
  refine xr_if_ne (pc' := 13) (α := Unit) (inst := inferInstance) (X := some ()) (Y := none) (res := ()) 17 hC dJ0_isLatin1_aae02_10 rfl (by decide) (if_pos rfl) (fun hf => by cases hf) (fun _ => ?_)
  refine xr_iconst (pc' := 14) 1 hC dJ0_isLatin1_aae02_13 rfl (by decide) ?_
  refine xr_goto 18 hC dJ0_isLatin1_aae02_14 (by decide) ?_
  exact xr_zreturn hC dJ0_isLatin1_aae02_18 rfl rfl
theorem c_slen {l : Launch} {E : xE} (hG : xOk (GX E)) {σ : xS} {w : Nat} (hw : w < 7) : xMet l (GX E) yJ0_length_8abf5 cJ0_length_8abf5 1 (some .int) (k2_rm 1 20) [.ref (E.2.2.2.2.1 w)] σ (some (.int (Int32.ofNat (xtl.getD w 0)))) σ := by
  refine x_met (own := RJ0) (by decide +kernel) hG rfl (Nat.le_of_ble_eq_true rfl) (fun C hl hC => ?_)
  subst hl
  refine xr_aload_n (pc' := 1) 0 hC dJ0_length_8abf5_0 rfl rfl rfl ?_
  refine xs_val (pc' := 4) hC dJ0_length_8abf5_1 rfl hw ?_
  refine xs_len (pc' := 5) hC dJ0_length_8abf5_4 rfl hw ?_
  refine xr_aload_n (pc' := 6) 0 hC dJ0_length_8abf5_5 rfl rfl rfl ?_
  refine xs_callV (pc' := 9) (rmy := k2_rm 0 0) [] hC dJ0_length_8abf5_6 rfl kJ0_335 hw rfl rfl rfl ⟨Nat.le_of_ble_eq_true rfl, Nat.le_of_ble_eq_true rfl⟩ rfl (Nat.le_of_ble_eq_true rfl) (c_coder (xc_ok hC) hw) ?_
  refine xr_ishr (pc' := 10) hC dJ0_length_8abf5_9 rfl ?_
  exact xr_ireturn hC dJ0_length_8abf5_10 (by rw [show Int32.ofNat (xtl.getD w 0) >>> ((0 : Int32) &&& 31) = Int32.ofNat (xtl.getD w 0) from sc_shr0 (xtl_lt hw)])
theorem c_pchk {l : Launch} {E : xE} (hG : xOk (GX E)) {σ : xS} {i n : Int32} {v : Value} (hv : v = .null ∨ ∃ t : Nat, v = .ref t) (h0 : ¬ i < 0) (h1 : i < n) : xMet l (GX E) yJ3_checkIndex_8e157 cJ3_checkIndex_8e157 3 (some .int) (k2_rm 0 0) [.int i, .int n, v] σ (some (.int i)) σ := by
  refine x_met (own := RJ3) (by decide +kernel) hG rfl (by rcases hv with rfl | ⟨t, rfl⟩ <;> exact Nat.le_of_ble_eq_true rfl) (fun C hl hC => ?_)
  subst hl
  have hl : xw C (GX E) 3 (xq C (GX E) (some (.int i)) σ) σ 0 [(0, .int i), (1, .int n)] [] → xw C (GX E) 3 (xq C (GX E) (some (.int i)) σ) σ 0 (lv_args 0 [.int i, .int n, v]) [] := fun h => x_lv [0, 1] (by rcases hv with rfl | ⟨t, rfl⟩ <;> rfl) h
  refine hl ?_
  refine xr_iload_n (pc' := 1) 0 hC dJ3_checkIndex_8e157_0 rfl rfl rfl ?_
  refine xr_if_lt (pc' := 4) (α := Unit) (inst := inferInstance) (X := none) (Y := some ()) (res := ()) 9 hC dJ3_checkIndex_8e157_1 rfl (by decide) (if_neg h0) (fun hf => by cases hf) (fun _ => ?_)
  refine xr_iload_n (pc' := 5) 0 hC dJ3_checkIndex_8e157_4 rfl rfl rfl ?_
  refine xr_iload_n (pc' := 6) 1 hC dJ3_checkIndex_8e157_5 rfl rfl rfl ?_
  refine xr_icmp_lt (pc' := 9) (α := Unit) (inst := inferInstance) (X := some ()) (Y := none) (res := ()) 16 hC dJ3_checkIndex_8e157_6 rfl (by decide) (if_pos h1) (fun _ => ?_) (fun hf => by cases hf)
  refine xr_iload_n (pc' := 17) 0 hC dJ3_checkIndex_8e157_16 rfl rfl rfl ?_
  exact xr_ireturn hC dJ3_checkIndex_8e157_17 rfl
theorem c_schk {l : Launch} {E : xE} (hG : xOk (GX E)) {σ : xS} {i n : Int32} (h0 : ¬ i < 0) (h1 : i < n) : xMet l (GX E) yJ0_checkIndex_df160 cJ0_checkIndex_df160 2 none (k2_rm 1 22) [.int i, .int n] σ none σ := by
  refine x_met (own := RJ0) (by decide +kernel) hG rfl (Nat.le_of_ble_eq_true rfl) (fun C hl hC => ?_)
  subst hl
  refine xr_iload_n (pc' := 1) 0 hC dJ0_checkIndex_df160_0 rfl rfl rfl ?_
  refine xr_iload_n (pc' := 2) 1 hC dJ0_checkIndex_df160_1 rfl rfl rfl ?_
  refine xs_fmt (pc' := 5) hC dJ0_checkIndex_df160_2 rfl (fun v hv => ?_)
  refine x_callS (pc' := 8) (rmy := k2_rm 0 0) [.int i, .int n, v] hC dJ0_checkIndex_df160_5 rfl kJ0_1059 rfl rfl rfl ⟨Nat.le_of_ble_eq_true rfl, Nat.le_of_ble_eq_true rfl⟩ (st := []) rfl (Nat.le_of_ble_eq_true rfl) (c_pchk (xc_ok hC) hv h0 h1) ?_
  refine xr_pop (pc' := 9) hC dJ0_checkIndex_df160_8 rfl rfl ?_
  exact xr_return (v := 0) (r := 0) hC dJ0_checkIndex_df160_9 rfl
theorem c_lchar {l : Launch} {E : xE} (hG : xOk (GX E)) {σ : xS} {w : Nat} {i : Int32} (hw : w < 7) (hi : xin i (xtl.getD w 0) = true) : xMet l (GX E) yJ1_charAt_3b067 cJ1_charAt_3b067 2 (some .char) (k2_rm 2 43) [.ref (E.2.2.2.2.2 w), .int i] σ (some (.int ((xtb.getD w []).getD i.toNatClampNeg 0))) σ := by
  refine x_met (own := RJ1) (by decide +kernel) hG rfl (Nat.le_of_ble_eq_true rfl) (fun C hl hC => ?_)
  subst hl
  obtain ⟨g0, g1⟩ := xin_lt (xtl_lt hw) hi
  have hj : i.toNatClampNeg < xtl.getD w 0 := by
    have h := hi
    simp only [xin, Bool.and_eq_true, decide_eq_true_eq] at h
    exact h.2
  refine xr_iload_n (pc' := 1) 1 hC dJ1_charAt_3b067_0 rfl rfl rfl ?_
  refine xr_aload_n (pc' := 2) 0 hC dJ1_charAt_3b067_1 rfl rfl rfl ?_
  refine xs_len (pc' := 3) hC dJ1_charAt_3b067_2 rfl hw ?_
  refine x_callS (pc' := 6) (rmy := (k2_rm 1 22)) [.int i, .int (Int32.ofNat (xtl.getD w 0))] hC dJ1_charAt_3b067_3 rfl kJ1_9 rfl rfl rfl ⟨Nat.le_of_ble_eq_true rfl, Nat.le_of_ble_eq_true rfl⟩ (st := []) rfl (Nat.le_of_ble_eq_true rfl) (c_schk (xc_ok hC) g0 g1) ?_
  refine xr_aload_n (pc' := 7) 0 hC dJ1_charAt_3b067_6 rfl rfl rfl ?_
  refine xr_iload_n (pc' := 8) 1 hC dJ1_charAt_3b067_7 rfl rfl rfl ?_
  refine xs_bal (pc' := 9) hC dJ1_charAt_3b067_8 rfl hw hi ?_
  refine xr_sipush (pc' := 12) 255 hC dJ1_charAt_3b067_9 rfl (by decide) ?_
  refine xr_iand (pc' := 13) hC dJ1_charAt_3b067_12 rfl ?_
  refine xr_i2c (pc' := 14) hC dJ1_charAt_3b067_13 rfl ?_
  exact xr_zreturn hC dJ1_charAt_3b067_14 (pk_nc _) (by rw [xtb_ok hw hj])
theorem c_schar {l : Launch} {E : xE} (hG : xOk (GX E)) {σ : xS} {w : Nat} {i : Int32} (hw : w < 7) (hi : xin i (xtl.getD w 0) = true) : xMet l (GX E) yJ0_charAt_5068e cJ0_charAt_5068e 2 (some .char) (k2_rm 3 64) [.ref (E.2.2.2.2.1 w), .int i] σ (some (.int ((xtb.getD w []).getD i.toNatClampNeg 0))) σ := by
  refine x_met (own := RJ0) (by decide +kernel) hG rfl (Nat.le_of_ble_eq_true rfl) (fun C hl hC => ?_)
  subst hl
  have hj : i.toNatClampNeg < xtl.getD w 0 := by
    have h := hi
    simp only [xin, Bool.and_eq_true, decide_eq_true_eq] at h
    exact h.2
  refine xr_aload_n (pc' := 1) 0 hC dJ0_charAt_5068e_0 rfl rfl rfl ?_
  refine xs_callV (pc' := 4) (rmy := k2_rm 0 0) [] hC dJ0_charAt_5068e_1 rfl kJ0_492 hw rfl rfl rfl ⟨Nat.le_of_ble_eq_true rfl, Nat.le_of_ble_eq_true rfl⟩ rfl (Nat.le_of_ble_eq_true rfl) (c_isLatin1 (xc_ok hC) hw) ?_
  refine xr_if_eq (pc' := 7) (α := Unit) (inst := inferInstance) (X := none) (Y := some ()) (res := ()) 16 hC dJ0_charAt_5068e_4 rfl (by decide) (if_neg (by decide)) (fun hf => by cases hf) (fun _ => ?_)
  refine xr_aload_n (pc' := 8) 0 hC dJ0_charAt_5068e_7 rfl rfl rfl ?_
  refine xs_val (pc' := 11) hC dJ0_charAt_5068e_8 rfl hw ?_
  refine xr_iload_n (pc' := 12) 1 hC dJ0_charAt_5068e_11 rfl rfl rfl ?_
  refine x_callS (pc' := 15) (rmy := (k2_rm 2 43)) [.ref (E.2.2.2.2.2 w), .int i] hC dJ0_charAt_5068e_12 rfl kJ0_495 rfl rfl rfl ⟨Nat.le_of_ble_eq_true rfl, Nat.le_of_ble_eq_true rfl⟩ (st := []) rfl (Nat.le_of_ble_eq_true rfl) (c_lchar (xc_ok hC) hw hi) ?_
  exact xr_zreturn hC dJ0_charAt_5068e_15 (by rw [← xtb_ok hw hj]; exact pk_nc _) rfl
section XSU
variable {C : xT} {E : xE} {cc : ByteArray} {nL : Nat} {ret : Option FieldType} {rm : Room} {Q : State → Prop} {σ : xS} {pc pc' : Nat} {lv : List (Nat × Value)} {st : List Value} {α : Type} {res : α} {w : Nat}
theorem xr_slen (hC : xc C (GX E) RX8 cc nL ret rm) (hd : decode cc pc = .ok (.invokevirtual 104, 3)) (hn : pc + 3 = pc') (hw : w < 7) (g1 : 2 ≤ rm.frames) (g2 : 40 ≤ rm.locals) (hcat : (st.map fun v => v.category).sum ≤ 8) (k : xw C (GX E) nL Q σ pc' lv (.int (Int32.ofNat (xtl.getD w 0)) :: st)) : xw C (GX E) nL Q σ pc lv (.ref (E.2.2.2.2.1 w) :: st) :=
  xs_callV (rmy := (k2_rm 1 20)) [] hC hd hn kX8_104 hw rfl rfl rfl ⟨g1, g2⟩ rfl hcat (c_slen (xc_ok hC) hw) k
theorem xr_schar {i : Int32} {X : Int32 → Option α} (hC : xc C (GX E) RX8 cc nL ret rm) (hd : decode cc pc = .ok (.invokevirtual 109, 3)) (hn : pc + 3 = pc') (hw : w < 7) (g1 : 4 ≤ rm.frames) (g2 : 85 ≤ rm.locals) (hcat : (st.map fun v => v.category).sum ≤ 8) (hf : sch w i X = some res) (k : ∀ x : Int32, X x = some res → xw C (GX E) nL Q σ pc' lv (.int x :: st)) : xw C (GX E) nL Q σ pc lv (.int i :: .ref (E.2.2.2.2.1 w) :: st) := by
  by_cases hi : xin i (xtl.getD w 0) = true
  · rw [sch, if_pos hi] at hf
    exact xs_callV (rmy := (k2_rm 3 64)) [.int i] hC hd hn kX8_109 hw rfl rfl rfl ⟨g1, g2⟩ rfl hcat (c_schar (xc_ok hC) hw hi) (k _ hf)
  · rw [sch, if_neg hi] at hf; cases hf
end XSU
