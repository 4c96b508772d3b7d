/-! the drawing: alike -/
def dXs (N w h d : Nat) (f : Nat → Bool) (σ : xS) : Prop := σ.1 14 = iI (fw w h d f 64 : Nat) ∧ σ.1 11 = iI (vQ N w h d f (bq N w h d f) (fw w h d f 64) : Nat) ∧ (∀ j : Nat, j < fw w h d f 64 → σ.2 12 j = iI (bq N w h d f j : Nat)) ∧ (∀ e : Nat, mem w h d f e = true → σ.2 16 e = nQ N w h d f (bq N w h d f) (fun _ => iI (-1)) (fw w h d f 64) e) ∧ (∀ v : Nat, v < vQ N w h d f (bq N w h d f) (fw w h d f 64) → σ.2 9 v = iI (szN w h d f (nQ N w h d f (bq N w h d f) (fun _ => iI (-1)) (fw w h d f 64)) v) ∧ σ.2 10 v = iI (tcN w h d f (nQ N w h d f (bq N w h d f) (fun _ => iI (-1)) (fw w h d f 64)) v)) ∧ ∀ v j : Nat, j < fw w h d f 64 → vQ N w h d f (bq N w h d f) j ≤ v → v < vQ N w h d f (bq N w h d f) (j + 1) → σ.2 8 v = iI (bq N w h d f j : Nat)
theorem fw_1 {w h d : Nat} {f : Nat → Bool} : 1 ≤ fw w h d f 64 := by
  rcases (fw_sp (w := w) (h := h) (d := d) (f := f) 64 (Nat.le_refl 64)).1 with z | ⟨T, t1, t2, t3, t4⟩
  · omega
  · have := on_pos T t2 t1; omega
theorem fnd_x {N w h d : Nat} {f : Nat → Bool} (hN : 1100 < N) (hd : dOk w h d) (hin : ∀ i : Nat, f i = true → inn w h d i) (h7 : fw w h d f 64 ≠ 7) {σ : xS} (hx : fX w h d f σ) (hn : no2 σ) (h14 : σ.1 14 = iI 0) (h11 : σ.1 11 = iI 0) : ∃ σ' : xS, drawing_find N σ = some (1, σ') ∧ dXs N w h d f σ' ∧ no2 σ' ∧ ∀ v : Nat, v < vQ N w h d f (bq N w h d f) (fw w h d f 64) → σ'.2 11 v = iI 0 := by
  have t := fw_T (N := N) hd hin h7
  have hy := dHy_ok (N := N) hd hin
  have gd := g_dig hy t.1 t.2
  have cvq := bq_cv (N := N) hd hin h7
  have f1 := fw_1 (w := w) (h := h) (d := d) (f := f)
  obtain ⟨σ2, a1, a2, a3⟩ := note_x (N := N) hN hd hx
  have hx2 := fX_fr hx a3 (by decide) (by decide)
  have n2 := no2_fr hn a3 (by decide)
  obtain ⟨σ6, b1, b2, b3, b4⟩ := ws_x (N := N) (f := f) hN hd t.1 N 64 σ2 (Nat.le_refl 64) (by omega) hx2 n2 a2 (fun t t1 t2 => by omega)
  have b1 : drawing_weighSets N (iI (fw w h d f 64 : Nat)) σ2 = some (0, σ6) := b1
  have hx6 := fX_fr hx2 b4 (by decide) (by decide)
  have e11 : σ6.1 11 = iI 0 := by rw [b4.1 11 (by decide), a3.1 11 (by decide)]; exact h11
  have e14 : σ6.1 14 = iI 0 := by rw [b4.1 14 (by decide), a3.1 14 (by decide)]; exact h14
  have q6 : ∀ i : Nat, bq N w h d f i < 6 := fun i => dq_lt _ _ _
  obtain ⟨σ8, c1, c2, c3⟩ := kb_x (N := N) (f := f) hN hd t.1 (q := bq N w h d f) q6 (num := σ6.2 16) (fun i hi => by
    have g := gd i (by omega)
    have g1 : on (sq (bq N w h d f) i) = i := g.2.2.1
    have g2 : (dF (pP N w h d f) (cv w h d f) (fw w h d f 64 - i) (sq (bq N w h d f) i)).2 = (bq N w h d f i : Int) := (g.2.2.2 hi).1
    unfold tF
    rw [g1, if_pos (by omega)]; exact g2) N 0 σ6 (by omega) (by omega) hx6 (fun t ht => (b2 t ht).2) ⟨e11, e14, fun j hj => absurd hj (Nat.not_lt_zero j), fun e he => rfl, b3, fun v j hj => absurd hj (Nat.not_lt_zero j), fun v hv => absurd hv (Nat.not_lt_zero v)⟩
  have c1 : drawing_keepBest N (iI (fw w h d f 64 : Nat)) σ6 = some (0, σ8) := c1
  have hx8 := fX_fr hx6 c3 (by decide) (by decide)
  have num : ∀ e : Nat, mem w h d f e = true → ∃ u : Nat, u < vQ N w h d f (bq N w h d f) (fw w h d f 64) ∧ σ8.2 16 e = iI (u : Nat) ∧ nQ N w h d f (bq N w h d f) (fun _ => iI (-1)) (fw w h d f 64) e = iI (u : Nat) := fun e me => by
    obtain ⟨u, u1, u2⟩ := nQ_all (N := N) hd cvq me
    exact ⟨u, u1, by rw [c2.2.2.2.1 e (bx_lt hd (mem_iff.mp me).1), u2], u2 _⟩
  obtain ⟨σ9, d1, d2, d3⟩ := gat_x (N := N) hN hd (vQ_bd hd _) hx8 c2.1 (fun e me => by
    obtain ⟨u, u1, u2, _⟩ := num e me
    exact ⟨u, u1, u2⟩) (fun v hv => ⟨(c2.2.2.2.2.2.2 v hv).1, (c2.2.2.2.2.2.2 v hv).2.1⟩)
  have key : ∀ (e v : Nat), (mem w h d f e && decide (σ8.2 16 e = iI (v : Nat))) = (mem w h d f e && decide (nQ N w h d f (bq N w h d f) (fun _ => iI (-1)) (fw w h d f 64) e = iI (v : Nat))) := fun e v => by
    cases me : mem w h d f e with
    | false => rw [Bool.false_and, Bool.false_and]
    | true =>
      obtain ⟨u, _, u2, u3⟩ := num e me
      rw [u2, u3]
  have E : drawing_find N σ = some (1, σ9) := by
    unfold drawing_find
    rw [h14, if_pos (by decide), a1, cal_at, few_x hN hd a2, if_neg h7, cal_at, if_neg (by rw [show (-1 : Int32) = iI (-1) from rfl, iI_eq (by omega) (by omega) (by omega) (by omega)]; omega), b1, cal_at, c1, cal_at, d1, cal_at]
  refine ⟨σ9, E, ⟨?_, ?_, fun j hj => ?_, fun e me => ?_, fun v hv => ?_, fun v j hj v1 v2 => ?_⟩, no2_fr c2.2.2.2.2.1 d3 (by decide), fun v hv => ?_⟩
  · rw [d3.1 14 (by decide)]; exact c2.2.1
  · rw [d3.1 11 (by decide)]; exact c2.1
  · rw [d3.2 12 (by decide)]; exact c2.2.2.1 j hj
  · obtain ⟨u, _, u2, u3⟩ := num e me
    rw [d3.2 16 (by decide), u2, u3]
  · rw [(d2 v hv).1, (d2 v hv).2]
    refine ⟨congrArg iI (sumP_cong (fun e _ => ?_)), congrArg iI (sumP_cong (fun e _ => ?_))⟩
    · rw [key e v]
    · rw [key e v]
  · rw [d3.2 8 (by decide)]; exact c2.2.2.2.2.2.1 v j hj v1 v2
  · rw [d3.2 11 (by decide)]; exact (c2.2.2.2.2.2.2 v hv).2.2
def Rdraw (N : Nat) (σ τ : xS) : Prop := (σ.1 14 = iI 0 ∧ σ.1 11 = iI 0 ∧ τ.1 16 = iI 0) ∨ ∃ (w h d : Nat) (f : Nat → Bool), dOk w h d ∧ fX w h d f σ ∧ fM w h d f τ ∧ (∀ i : Nat, f i = true → inn w h d i) ∧ fw w h d f 64 ≠ 7 ∧ dXs N w h d f σ ∧ dMs N w h d f τ
theorem dXs_fr {N w h d : Nat} {f : Nat → Bool} {S T : List Nat} {σ σ' : xS} (hg : dXs N w h d f σ) (r : fr S T σ σ') (h1 : 11 ∉ S ∧ 14 ∉ S) (h2 : 8 ∉ T ∧ 9 ∉ T ∧ 10 ∉ T ∧ 12 ∉ T ∧ 16 ∉ T) : dXs N w h d f σ' := by
  unfold dXs
  rw [r.1 11 h1.1, r.1 14 h1.2, r.2 8 h2.1, r.2 9 h2.2.1, r.2 10 h2.2.2.1, r.2 12 h2.2.2.2.1, r.2 16 h2.2.2.2.2]
  exact hg
theorem dMs_fr {N w h d : Nat} {f : Nat → Bool} {S T : List Nat} {σ σ' : xS} (hg : dMs N w h d f σ) (r : fr S T σ σ') (h1 : 16 ∉ S ∧ 17 ∉ S ∧ 18 ∉ S) (h2 : 10 ∉ T ∧ 12 ∉ T ∧ 14 ∉ T ∧ 15 ∉ T ∧ 16 ∉ T) : dMs N w h d f σ' := by
  unfold dMs
  rw [r.1 16 h1.1, r.1 17 h1.2.1, r.1 18 h1.2.2, r.2 10 h2.1, r.2 12 h2.2.1, r.2 14 h2.2.2.1, r.2 15 h2.2.2.2.1, r.2 16 h2.2.2.2.2]
  exact hg
theorem Rdraw_fr {N : Nat} {S T S' T' : List Nat} {σ σ' τ τ' : xS} (hr : Rdraw N σ τ) (r : fr S T σ σ') (r' : fr S' T' τ τ') (h1 : 4 ∉ S ∧ 5 ∉ S ∧ 6 ∉ S ∧ 10 ∉ S ∧ 11 ∉ S ∧ 14 ∉ S) (h2 : 2 ∉ T ∧ 6 ∉ T ∧ 7 ∉ T ∧ 8 ∉ T ∧ 9 ∉ T ∧ 10 ∉ T ∧ 12 ∉ T ∧ 16 ∉ T) (h3 : 12 ∉ S' ∧ 13 ∉ S' ∧ 14 ∉ S' ∧ 15 ∉ S' ∧ 16 ∉ S' ∧ 17 ∉ S' ∧ 18 ∉ S') (h4 : 8 ∉ T' ∧ 9 ∉ T' ∧ 10 ∉ T' ∧ 12 ∉ T' ∧ 14 ∉ T' ∧ 15 ∉ T' ∧ 16 ∉ T') : Rdraw N σ' τ' := by
  rcases hr with ⟨a, b, c⟩ | ⟨w, h, d, f, hd, hx, hm, hin, h7, dx, dm⟩
  · exact Or.inl ⟨by rw [r.1 14 h1.2.2.2.2.2]; exact a, by rw [r.1 11 h1.2.2.2.2.1]; exact b, by rw [r'.1 16 h3.2.2.2.2.1]; exact c⟩
  · exact Or.inr ⟨w, h, d, f, hd, fX_fr hx r ⟨h1.1, h1.2.1, h1.2.2.1, h1.2.2.2.1⟩ ⟨h2.1, h2.2.1, h2.2.2.1⟩, fM_fr hm r' ⟨h3.1, h3.2.1, h3.2.2.1, h3.2.2.2.1⟩ ⟨h4.1, h4.2.1⟩, hin, h7, dXs_fr dx r ⟨h1.2.2.2.2.1, h1.2.2.2.2.2⟩ ⟨h2.2.2.2.1, h2.2.2.2.2.1, h2.2.2.2.2.2.1, h2.2.2.2.2.2.2.1, h2.2.2.2.2.2.2.2⟩, dMs_fr dm r' ⟨h3.2.2.2.2.1, h3.2.2.2.2.2.1, h3.2.2.2.2.2.2⟩ ⟨h4.2.2.1, h4.2.2.2.1, h4.2.2.2.2.1, h4.2.2.2.2.2.1, h4.2.2.2.2.2.2⟩⟩
theorem s01 {g : Nat → Int} (hg : ∀ c : Nat, 0 ≤ g c ∧ g c ≤ 1) : ∀ k : Nat, 0 ≤ sumP g k ∧ sumP g k ≤ k
  | 0 => ⟨Int.le_refl 0, Int.le_refl 0⟩
  | k + 1 => by
    have := s01 hg k
    have := hg k
    rw [sumP]; omega
theorem sz_bd (w h d : Nat) (f : Nat → Bool) (num : Nat → Int32) (v : Nat) : (0 ≤ szN w h d f num v ∧ szN w h d f num v ≤ 1000) ∧ 0 ≤ tcN w h d f num v ∧ tcN w h d f num v ≤ 1000 :=
  ⟨s01 (fun c => by split <;> omega) 1000, s01 (fun c => by
    split
    · cases tch w h d f c 6 <;> decide
    · omega) 1000⟩
/-- a drawing that stands: how its pieces wear -/
theorem dr_wear {N w h d : Nat} {f : Nat → Bool} (hd : dOk w h d) (hin : ∀ i : Nat, f i = true → inn w h d i) (h7 : fw w h d f 64 ≠ 7) {σ τ σ' τ' : xS} (hw : Rwear σ τ) (e12 : σ'.1 12 = σ.1 12) (e13 : σ'.1 13 = σ.1 13) (e19 : τ'.1 19 = τ.1 19) (e20 : τ'.1 20 = τ.1 20) (dx : dXs N w h d f σ') (dm : dMs N w h d f τ') (z1 : ∀ v : Nat, v < vQ N w h d f (bq N w h d f) (fw w h d f 64) → σ'.2 11 v = iI 0) (z2 : ∀ v : Nat, v < vQ N w h d f (bq N w h d f) (fw w h d f 64) → τ'.2 17 v = iI 0) : Rwear σ' τ' := by
  obtain ⟨n0, sz, tc, po, life, price, ok, hx, hm, hp⟩ := hw
  obtain ⟨u, u1, _⟩ := nQ_all (N := N) hd (bq_cv (N := N) hd hin h7) (mem_0 hin)
  refine ⟨vQ N w h d f (bq N w h d f) (fw w h d f 64), szN w h d f (nQ N w h d f (bq N w h d f) (fun _ => iI (-1)) (fw w h d f 64)), tcN w h d f (nQ N w h d f (bq N w h d f) (fun _ => iI (-1)) (fw w h d f 64)), fun _ => 0, life, price, ⟨vQ_bd hd _, fun p hp => ?_, ok.2.2⟩, ⟨dx.2.1, by rw [e12]; exact hx.2.1, by rw [e13]; exact hx.2.2.1, fun p hp => ⟨(dx.2.2.2.2.1 p hp).1, (dx.2.2.2.2.1 p hp).2, z1 p hp⟩⟩, ⟨?_, fun _ => dm.2.2.1, by rw [e19]; exact hm.2.2.1, by rw [e20]; exact hm.2.2.2.1, fun p hp => ⟨(dm.2.2.2.2.2.1 p hp).1, (dm.2.2.2.2.2.1 p hp).2, z2 p hp⟩⟩, fun p hp => ?_⟩
  · have b := sz_bd w h d f (nQ N w h d f (bq N w h d f) (fun _ => iI (-1)) (fw w h d f 64)) p
    exact ⟨b.1.1, b.1.2, b.2.1, b.2.2, by show (0 : Int) ≤ 0; omega, by show (0 : Int) ≤ 1000; omega⟩
  · rw [if_neg (by omega)]; exact dm.1
  · obtain ⟨j, j1, j2, j3⟩ := vQ_at _ hp
    rw [dx.2.2.2.2.2 p j j1 j2 j3, dm.2.2.2.2.2.2 p j j1 j2 j3]
theorem sim_draw {N : Nat} (hN : 100000 < N) {σ τ : xS} (hf : Rform σ τ) (hr : Rdraw N σ τ) (hw : Rwear σ τ) (hn : no2 σ) : ∃ (r : Int32) (σ' τ' : xS), cw_draw N σ = some (r, σ') ∧ m_draw N τ = some (r, τ') ∧ Rdraw N σ' τ' ∧ Rwear σ' τ' ∧ no2 σ' := by
  rcases hr with ⟨x14, x11, t16⟩ | ⟨w, h, d, f, hd, hx, hm, hin, h7, dx, dm⟩
  · rcases hf with ⟨e1, e2⟩ | ⟨w, h, d, f, hd, hx, hm, hin⟩
    · have X : cw_draw N σ = some (-1, σ) := by
        unfold cw_draw cells_isThere
        rw [e1, if_pos (by decide), cal_at, if_pos rfl]
      have M : m_draw N τ = some (-1, τ) := by
        unfold m_draw
        rw [e2, if_pos (by decide)]
      exact ⟨_, _, _, X, M, Or.inl ⟨x14, x11, t16⟩, hw, hn⟩
    · have IT : cells_isThere N σ = some (1, σ) := by
        unfold cells_isThere
        rw [hx.1.1, if_neg (by rw [show (0 : Int32) = iI 0 from rfl, iI_le (by omega) (by omega) (by omega) (by omega)]; omega)]
      by_cases h7 : fw w h d f 64 = 7
      · obtain ⟨σ2, a1, a2, a3⟩ := note_x (N := N) (by omega) hd hx
        have X : cw_draw N σ = some (-2, σ2) := by
          unfold cw_draw drawing_find
          rw [IT, cal_at, if_neg (by decide), x14, if_pos (by decide), a1, cal_at, few_x (by omega) hd a2, if_pos h7, cal_at, if_pos (by decide), cal_at, if_pos rfl]
        have M : m_draw N τ = some (-2, τ) := by
          unfold m_draw
          rw [hm.1.1, if_neg (by decide), few_m (by omega) hd hm, cal_at, h7, if_pos (by decide)]
        refine ⟨_, _, _, X, M, Or.inl ⟨by rw [a3.1 14 (by decide)]; exact x14, by rw [a3.1 11 (by decide)]; exact x11, t16⟩, Rwear_fr hw a3 (fr_refl (S := []) (T := [])) (by decide) (by decide) (by decide) (by decide), no2_fr hn a3 (by decide)⟩
      · obtain ⟨σ', a1, a2, a3, a4⟩ := fnd_x (N := N) (by omega) hd hin h7 hx hn x14 x11
        obtain ⟨τ', b1, b2, b3⟩ := draw_m (N := N) hN hd hin h7 hm
        have X : cw_draw N σ = some (iI (vQ N w h d f (bq N w h d f) (fw w h d f 64) : Nat), σ') := by
          unfold cw_draw pieces_count
          rw [IT, cal_at, if_neg (by decide), a1, cal_at, if_neg (by decide), cal_at, a2.2.1]
        have fx := f_cw_draw X
        have fm := f_m_draw b1
        exact ⟨_, _, _, X, b1, Or.inr ⟨w, h, d, f, hd, fX_fr hx fx (by decide) (by decide), fM_fr hm fm (by decide) (by decide), hin, h7, a2, b2⟩, dr_wear hd hin h7 hw (fx.1 12 (by decide)) (fx.1 13 (by decide)) (fm.1 19 (by decide)) (fm.1 20 (by decide)) a2 b2 a4 b3, a3⟩
  · have IT : cells_isThere N σ = some (1, σ) := by
      unfold cells_isThere
      rw [hx.1.1, if_neg (by rw [show (0 : Int32) = iI 0 from rfl, iI_le (by omega) (by omega) (by omega) (by omega)]; omega)]
    have f1 := fw_1 (w := w) (h := h) (d := d) (f := f)
    have f7 := fw_le (w := w) (h := h) (d := d) (f := f) 64
    have vb := vQ_bd (N := N) (f := f) (q := bq N w h d f) hd (fw w h d f 64)
    obtain ⟨σ', a1, a2, a3⟩ := fill_z (N := N) (a := 11) (n := 1000) (by omega) (by omega) 0 σ
    obtain ⟨τ', b1, b2, b3⟩ := draw_m (N := N) hN hd hin h7 hm
    have dx' := dXs_fr dx a3 (by decide) (by decide)
    have X : cw_draw N σ = some (iI (vQ N w h d f (bq N w h d f) (fw w h d f 64) : Nat), σ') := by
      unfold cw_draw pieces_count drawing_find pieces_takeBackPours
      rw [IT, cal_at, if_neg (by decide), dx.1, if_neg (by rw [show (0 : Int32) = iI 0 from rfl, iI_le (by omega) (by omega) (by omega) (by omega)]; omega), a1, cal_at, cal_at, cal_at, if_neg (by decide), cal_at, dx'.2.1]
    have fm := f_m_draw b1
    exact ⟨_, _, _, X, b1, Or.inr ⟨w, h, d, f, hd, fX_fr hx a3 (by decide) (by decide), fM_fr hm fm (by decide) (by decide), hin, h7, dx', b2⟩, dr_wear hd hin h7 hw (a3.1 12 (by decide)) (a3.1 13 (by decide)) (fm.1 19 (by decide)) (fm.1 20 (by decide)) dx' b2 (fun v hv => by rw [a2 v (by omega)]; rfl) b3, no2_fr hn a3 (by decide)⟩
theorem sim_way {N : Nat} (a : Int32) {σ τ : xS} (hr : Rdraw N σ τ) : ∃ (r : Int32), cw_way N a σ = some (r, σ) ∧ m_way N a τ = some (r, τ) := by
  obtain ⟨x, rfl, x1, x2⟩ := iI_ex a
  unfold cw_way drawing_wayNumber m_way
  rcases hr with ⟨x14, x11, t16⟩ | ⟨w, h, d, f, hd, hx, hm, hin, h7, dx, dm⟩
  · rw [x14, t16, if_pos (show iI 0 = (0 : Int32) by decide), show (0 : Int32) = iI 0 from rfl]
    simp only [iI_lt x1 x2 (show (-2147483648 : Int) ≤ 0 by omega) (show (0 : Int) < 2147483648 by omega), iI_le (show (-2147483648 : Int) ≤ 0 by omega) (show (0 : Int) < 2147483648 by omega) x1 x2]
    by_cases z : x < 0
    · rw [if_pos z, cal_at]; exact ⟨_, rfl, rfl⟩
    · rw [if_neg z, if_pos (by omega), cal_at]; exact ⟨_, rfl, rfl⟩
  · have f7 := fw_le (w := w) (h := h) (d := d) (f := f) 64
    rw [dx.1, dm.1, dm.2.1, if_neg (show ¬ iI 1 = (0 : Int32) by decide), show (0 : Int32) = iI 0 from rfl]
    simp only [iI_lt x1 x2 (show (-2147483648 : Int) ≤ 0 by omega) (show (0 : Int) < 2147483648 by omega), iI_le (show (-2147483648 : Int) ≤ ((fw w h d f 64 : Nat) : Int) by omega) (show ((fw w h d f 64 : Nat) : Int) < 2147483648 by omega) x1 x2]
    by_cases z : x < 0
    · rw [if_pos z, if_pos z, cal_at]; exact ⟨_, rfl, rfl⟩
    · rw [if_neg z, if_neg z]
      by_cases y : ((fw w h d f 64 : Nat) : Int) ≤ x
      · rw [if_pos y, if_pos y, cal_at]; exact ⟨_, rfl, rfl⟩
      · rw [if_neg y, if_neg y, ald_at (by omega) (by omega) (by omega), ald_at (by omega) (by omega) (by omega), dx.2.2.1 x.toNat (by omega), dm.2.2.2.1 x.toNat (by omega), cal_at]
        exact ⟨_, rfl, rfl⟩
theorem sim_pieceAt {N : Nat} (a b c : Int32) {σ τ : xS} (hf : Rform σ τ) (hr : Rdraw N σ τ) : ∃ (r : Int32), cw_pieceAt N a b c σ = some (r, σ) ∧ m_pieceAt N a b c τ = some (r, τ) := by
  obtain ⟨x, rfl, x1, x2⟩ := iI_ex a
  obtain ⟨y, rfl, y1, y2⟩ := iI_ex b
  obtain ⟨z, rfl, z1, z2⟩ := iI_ex c
  rcases hr with ⟨x14, x11, t16⟩ | ⟨w, h, d, f, hd, hx, hm, hin, h7, dx, dm⟩
  · have M : m_pieceAt N (iI x) (iI y) (iI z) τ = some (-1, τ) := by
      unfold m_pieceAt
      rw [t16, if_pos (by decide)]
    have PC : ∀ v : Int32, drawing_pieceOfCell N v σ = some (-1, σ) := fun v => by
      unfold drawing_pieceOfCell
      rw [x14, if_pos (by decide)]
    have CA : ∃ v : Int32, mould_cellAt N (iI x) (iI y) (iI z) σ = some (v, σ) := by
      rcases hf with ⟨e1, e2⟩ | ⟨w, h, d, f, hd, hx, hm, hin⟩
      · unfold mould_cellAt cl_areWithin
        rw [e1, if_pos (by decide), cal_at, if_pos rfl]
        exact ⟨_, rfl⟩
      · exact ⟨_, cell_x hd hx.1 x1 x2 y1 y2 z1 z2⟩
    obtain ⟨v, CA⟩ := CA
    refine ⟨-1, ?_, M⟩
    unfold cw_pieceAt
    rw [CA, cal_at, PC, cal_at]
    by_cases e : v = (-1 : Int32)
    · rw [if_pos e]
    · rw [if_neg e]
  · unfold cw_pieceAt m_pieceAt
    rw [cell_x hd hx.1 x1 x2 y1 y2 z1 z2, cal_at, dm.1, if_neg (show ¬ iI 1 = (0 : Int32) by decide), mou_m hd hm.1 x1 x2 y1 y2 z1 z2, cal_at]
    by_cases q : -1 ≤ x ∧ x ≤ w ∧ -1 ≤ y ∧ y ≤ h ∧ -1 ≤ z ∧ z ≤ d
    · obtain ⟨c, hc⟩ : ∃ c : Nat, (c : Int) = ((z + 1) * 100 + (y + 1) * 10 + x + 1) := ⟨(((z + 1) * 100 + (y + 1) * 10 + x + 1)).toNat, by omega⟩
      have bc := bx_P hd q
      have c1 : (((z + 1) * 100 + (y + 1) * 10 + x + 1)).toNat = c := by omega
      rw [c1] at bc
      have cl := bx_lt hd bc
      have f1 := fw_1 (w := w) (h := h) (d := d) (f := f)
      have f7 := fw_le (w := w) (h := h) (d := d) (f := f) 64
      rw [if_pos q, if_pos q, c1, if_neg (show ¬ iI 1 = (0 : Int32) by decide), idx_m, cal_at, ald_at (by omega) (by omega) (by omega), c1, hm.2.1 c cl, idx_m, cal_at, ald_at (by omega) (by omega) (by omega), c1]
      cases e : f c
      · have me := mem_iff.mpr ⟨bc, e⟩
        have PC : drawing_pieceOfCell N (iI c) σ = some (σ.2 16 c, σ) := by
          unfold drawing_pieceOfCell parting_numberAt
          rw [dx.1, if_neg (by rw [show (0 : Int32) = iI 0 from rfl, iI_le (by omega) (by omega) (by omega) (by omega)]; omega), if_neg (by rw [show (0 : Int32) = iI 0 from rfl, iI_lt (by omega) (by omega) (by omega) (by omega)]; omega), if_neg (by rw [show (1000 : Int32) = iI 1000 from rfl, iI_le (by omega) (by omega) (by omega) (by omega)]; omega), ald_at (by omega) (by omega) (by omega), Int.toNat_natCast, cal_at]
        rw [if_neg (show ¬ (false = true) by decide), ← hc, if_neg (by rw [show (-1 : Int32) = iI (-1) from rfl, iI_eq (by omega) (by omega) (by omega) (by omega)]; omega), PC, cal_at, if_pos (by decide), dx.2.2.2.1 c me, dm.2.2.2.2.1 c me]
        exact ⟨_, rfl, rfl⟩
      · rw [if_pos rfl, if_pos (by decide), if_neg (by decide)]
        exact ⟨_, rfl, rfl⟩
    · rw [if_neg q, if_neg q, if_pos (by decide), if_pos (by decide)]
      exact ⟨_, rfl, rfl⟩
