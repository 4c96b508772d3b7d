/-! the class keeps the best row, and gathers its pieces -/
theorem add_x {N c V : Nat} (hN : 1100 < N) (hV : V + c ≤ 1000) (a : Int32) {σ : xS} (h11 : σ.1 11 = iI V) : ∃ σ' : xS, pieces_add N a (iI c) σ = some (0, σ') ∧ σ'.1 11 = iI (V + c : Nat) ∧ (∀ v : Nat, V ≤ v → v < V + c → σ'.2 8 v = a ∧ σ'.2 9 v = iI 0 ∧ σ'.2 10 v = iI 0 ∧ σ'.2 11 v = iI 0) ∧ (∀ v : Nat, v < V → σ'.2 8 v = σ.2 8 v ∧ σ'.2 9 v = σ.2 9 v ∧ σ'.2 10 v = σ.2 10 v ∧ σ'.2 11 v = σ.2 11 v) ∧ fr [11] [8, 9, 10, 11] σ σ' := by
  have go : ∀ (n k : Nat) (s : xS), k ≤ c → c < k + n → s.1 11 = iI (V + k : Nat) → ∃ σ' : xS, pieces_add_b2 N n a (iI c) (iI k) s = some (0, σ') ∧ σ'.1 11 = iI (V + c : Nat) ∧ (∀ v : Nat, V + k ≤ v → v < V + c → σ'.2 8 v = a ∧ σ'.2 9 v = iI 0 ∧ σ'.2 10 v = iI 0 ∧ σ'.2 11 v = iI 0) ∧ (∀ v : Nat, v < V + k → σ'.2 8 v = s.2 8 v ∧ σ'.2 9 v = s.2 9 v ∧ σ'.2 10 v = s.2 10 v ∧ σ'.2 11 v = s.2 11 v) ∧ fr [11] [8, 9, 10, 11] s σ' := by
    intro n
    induction n with
    | zero => intro k s h1 h2; omega
    | succ n ih =>
      intro k s h1 h2 h3
      rw [pieces_add_b2]
      by_cases z : k = c
      · subst z
        rw [if_pos (by rw [iI_le (by omega) (by omega) (by omega) (by omega)]; omega)]
        exact ⟨s, rfl, h3, fun v v1 v2 => by omega, fun _ _ => ⟨rfl, rfl, rfl, rfl⟩, fr_refl⟩
      · obtain ⟨s1, q1⟩ : ∃ s1 : xS, s1 = (va_up s.1 11 (iI (V + (k + 1) : Nat)), va_up (va_up (va_up (va_up s.2 8 (upd (s.2 8) (V + k) a)) 9 (upd (s.2 9) (V + k) 0)) 10 (upd (s.2 10) (V + k) 0)) 11 (upd (s.2 11) (V + k) 0)) := ⟨_, rfl⟩
        have r8 : s1.2 8 = upd (s.2 8) (V + k) a := by rw [q1]; rfl
        have r9 : s1.2 9 = upd (s.2 9) (V + k) 0 := by rw [q1]; rfl
        have r10 : s1.2 10 = upd (s.2 10) (V + k) 0 := by rw [q1]; rfl
        have r11 : s1.2 11 = upd (s.2 11) (V + k) 0 := by rw [q1]; rfl
        have f1 : fr [11] [8, 9, 10, 11] s s1 := by
          rw [q1]
          refine ⟨fun b hb => va_up_n _ _ (fun z => hb (by rw [z]; decide)), fun b hb => ?_⟩
          dsimp only
          rw [va_up_n _ _ (fun z => hb (by rw [z]; decide)), va_up_n _ _ (fun z => hb (by rw [z]; decide)), va_up_n _ _ (fun z => hb (by rw [z]; decide)), va_up_n _ _ (fun z => hb (by rw [z]; decide))]
        have E : (ast s 8 1000 (s.1 11) a fun σ1 => ast σ1 9 1000 (σ1.1 11) (0 : Int32) fun σ2 => ast σ2 10 1000 (σ2.1 11) (0 : Int32) fun σ3 => ast σ3 11 1000 (σ3.1 11) (0 : Int32) fun σ4 => put σ4 11 ((σ4.1 11) + (1 : Int32)) fun σ5 => bnd (iI (k : Int) + (1 : Int32)) fun l3_6 => pieces_add_b2 N n a (iI c) l3_6 σ5) = pieces_add_b2 N n a (iI c) (iI (k + 1 : Nat)) s1 := by
          rw [h3, ast_at (by omega) (by omega) (by omega)]
          dsimp only
          rw [h3, ast_at (by omega) (by omega) (by omega)]
          dsimp only
          rw [h3, ast_at (by omega) (by omega) (by omega)]
          dsimp only
          rw [h3, ast_at (by omega) (by omega) (by omega), put_at]
          dsimp only
          rw [h3, i_suc, bnd_at, i_suc, q1]
          rfl
        rw [if_neg (by rw [iI_le (by omega) (by omega) (by omega) (by omega)]; omega), if_neg (by rw [h3, show (1000 : Int32) = iI 1000 from rfl, iI_le (by omega) (by omega) (by omega) (by omega)]; omega), E]
        obtain ⟨σ', a1, a2, a3, a4, a5⟩ := ih (k + 1) s1 (by omega) (by omega) (by rw [q1]; rfl)
        refine ⟨σ', a1, a2, fun v v1 v2 => ?_, fun v hv => ?_, fr_trans f1 a5⟩
        · by_cases y : v = V + k
          · have g := a4 v (by omega)
            rw [g.1, g.2.1, g.2.2.1, g.2.2.2, r8, r9, r10, r11, upd_e, upd_e, upd_e, upd_e, if_pos y, if_pos y, if_pos y, if_pos y]
            exact ⟨rfl, rfl, rfl, rfl⟩
          · exact a3 v (by omega) v2
        · have g := a4 v (by omega)
          rw [g.1, g.2.1, g.2.2.1, g.2.2.2, r8, r9, r10, r11, upd_e, upd_e, upd_e, upd_e, if_neg (by omega), if_neg (by omega), if_neg (by omega), if_neg (by omega)]
          exact ⟨rfl, rfl, rfl, rfl⟩
  obtain ⟨σ', a1, a2, a3, a4, a5⟩ := go N 0 σ (by omega) (by omega) h11
  exact ⟨σ', a1, a2, a3, a4, a5⟩
def kX (N w h d : Nat) (f : Nat → Bool) (q : Nat → Nat) (num : Nat → Int32) (i : Nat) (σ : xS) : Prop := σ.1 11 = iI (vQ N w h d f q i : Nat) ∧ σ.1 14 = iI (i : Nat) ∧ (∀ j : Nat, j < i → σ.2 12 j = iI (q j : Nat)) ∧ (∀ e : Nat, e < 1000 → σ.2 16 e = nQ N w h d f q num i e) ∧ no2 σ ∧ (∀ v j : Nat, j < i → vQ N w h d f q j ≤ v → v < vQ N w h d f q (j + 1) → σ.2 8 v = iI (q j : Nat)) ∧ ∀ v : Nat, v < vQ N w h d f q i → σ.2 9 v = iI 0 ∧ σ.2 10 v = iI 0 ∧ σ.2 11 v = iI 0
theorem kb_x {N w h d : Nat} {f : Nat → Bool} (hN : 1100 < N) (hd : dOk w h d) {n : Nat} (hn6 : n ≤ 6) {q : Nat → Nat} (q6 : ∀ i : Nat, q i < 6) {num : Nat → Int32} (hq : ∀ i : Nat, i < n → (tF N w h d f n (sq q i)).2 = (q i : Int)) : ∀ (n' i : Nat) (σ : xS), i ≤ n → n < i + n' → fX w h d f σ → (∀ t : Nat, t < 64 → σ.2 14 t = iI (tF N w h d f n t).2) → kX N w h d f q num i σ → ∃ σ' : xS, drawing_keepBest_b4 N n' (iI n) (iI (sq q i : Nat)) (iI i) σ = some (0, σ') ∧ kX N w h d f q num n σ' ∧ fr [11, 14] [8, 9, 10, 11, 12, 16, 17] σ σ' := by
  intro n'
  induction n' with
  | zero => intro i σ h1 h2; omega
  | succ n' ih =>
    intro i σ h1 h2 hx h14 hk
    rw [drawing_keepBest_b4]
    by_cases z : i = n
    · subst z
      rw [if_pos (by rw [iI_le (by omega) (by omega) (by omega) (by omega)]; omega)]
      exact ⟨σ, rfl, hk, fr_refl⟩
    · have sl := sq_lt q6 i
      have qi := q6 i
      have vb := vQ_bd (N := N) (f := f) (q := q) hd i
      have vb1 := vQ_bd (N := N) (f := f) (q := q) hd (i + 1)
      have ev : vQ N w h d f q (i + 1) = vQ N w h d f q i + (pO N w h d (oW w h d f (q i) (sq q i)) 1000).2 := by rw [vQ]
      obtain ⟨σ4, q4⟩ : ∃ σ4 : xS, σ4 = (va_up σ.1 14 (iI (i + 1 : Nat)), va_up σ.2 12 (upd (σ.2 12) i (iI (q i : Nat)))) := ⟨_, rfl⟩
      have f4 : fr [11, 14] [8, 9, 10, 11, 12, 16, 17] σ σ4 := by
        rw [q4]
        exact ⟨fun b hb => va_up_n _ _ (fun z => hb (by rw [z]; decide)), fun b hb => va_up_n _ _ (fun z => hb (by rw [z]; decide))⟩
      have g11 : σ4.1 11 = iI (vQ N w h d f q i : Nat) := by rw [q4]; exact hk.1
      have g14 : σ4.1 14 = iI (i + 1 : Nat) := by rw [q4]; rfl
      have g12 : σ4.2 12 = upd (σ.2 12) i (iI (q i : Nat)) := by rw [q4]; rfl
      have gr : ∀ b : Nat, b ≠ 12 → σ4.2 b = σ.2 b := fun b hb => by rw [q4]; exact va_up_n _ _ hb
      have hx4 := fX_fr hx f4 (by decide) (by decide)
      have n4 : no2 σ4 := by unfold no2; rw [gr 16 (by decide)]; exact hk.2.2.2.2.1
      obtain ⟨σ8, a1, a2, a3, a4⟩ := part_x (N := N) (k := q i) (s := sq q i) (v := vQ N w h d f q i) hN hd qi sl vb hx4 n4
      have e11 : σ8.1 11 = iI (vQ N w h d f q i : Nat) := by rw [a4.1 11 (by decide)]; exact g11
      obtain ⟨σ9, b1, b2, b3, b4, b5⟩ := add_x (N := N) (c := (pO N w h d (oW w h d f (q i) (sq q i)) 1000).2) (V := vQ N w h d f q i) hN (by omega) (iI (q i : Nat)) e11
      have E : (ald σ 14 64 (iI (sq q i : Nat)) fun v1 => if v1 = (-1 : Int32) then some ((0 : Int32), σ) else ald σ 14 64 (iI (sq q i : Nat)) fun v2 => ast σ 12 6 (iI (i : Nat)) v2 fun σ3 => put σ3 14 (iI (i : Int) + (1 : Int32)) fun σ4 => cal (pieces_count N σ4) fun v5 σ6 => cal (parting_part N v2 (iI (sq q i : Nat)) v5 σ6) fun v7 σ8 => cal (pieces_add N v2 v7 σ8) fun _ σ10 => bnd ((iI (sq q i : Nat)) ||| ((1 : Int32) <<< (v2 &&& 31))) fun l2_11 => bnd (iI (i : Int) + (1 : Int32)) fun l3_12 => drawing_keepBest_b4 N n' (iI n) l2_11 l3_12 σ10) = drawing_keepBest_b4 N n' (iI n) (iI (sq q (i + 1) : Nat)) (iI (i + 1 : Nat)) σ9 := by
        rw [ald_at (by omega) (by omega) (by omega), Int.toNat_natCast, h14 _ sl, hq i (by omega), if_neg (show ¬ iI (q i : Int) = (-1 : Int32) from i_m1 (by omega)), ald_at (by omega) (by omega) (by omega), Int.toNat_natCast, h14 _ sl, hq i (by omega), ast_at (by omega) (by omega) (by omega), put_at, i_suc, Int.toNat_natCast]
        have es : ((va_up (σ.1, va_up σ.2 12 (upd (σ.2 12) i (iI (q i : Nat)))).1 14 (iI (i + 1 : Nat))), (σ.1, va_up σ.2 12 (upd (σ.2 12) i (iI (q i : Nat)))).2) = σ4 := by rw [q4]
        rw [es]
        have pc : pieces_count N σ4 = some (iI (vQ N w h d f q i : Nat), σ4) := by unfold pieces_count; rw [g11]
        rw [pc, cal_at, a1, cal_at, b1, cal_at, bnd_at, bnd_at, j_shl1 (by omega), j_or, sq]
      rw [if_neg (by rw [iI_le (by omega) (by omega) (by omega) (by omega)]; omega), if_neg (by rw [show (6 : Int32) = iI 6 from rfl, iI_le (by omega) (by omega) (by omega) (by omega)]; omega), E]
      have F9 : fr [11, 14] [8, 9, 10, 11, 12, 16, 17] σ σ9 := fr_trans f4 (fr_trans (fr_mono a4 (by simp) (by simp)) (fr_mono b5 (by simp) (by simp)))
      have kx : kX N w h d f q num (i + 1) σ9 := by
        refine ⟨by rw [b2, ev], by rw [b5.1 14 (by decide), a4.1 14 (by decide)]; exact g14, fun j hj => ?_, fun e he => ?_, ?_, fun v j hj v1 v2 => ?_, fun v hv => ?_⟩
        · rw [b5.2 12 (by decide), a4.2 12 (by decide), g12, upd_e]
          by_cases y : j = i
          · rw [if_pos y, y]
          · rw [if_neg y]; exact hk.2.2.1 j (by omega)
        · rw [b5.2 16 (by decide), a2 e he, nQ]
          exact pN_same (oQ_lt hd) 1000 e (Or.inr (by rw [gr 16 (by decide)]; exact hk.2.2.2.1 e he))
        · unfold no2; rw [b5.2 16 (by decide)]; exact a3
        · by_cases y : j = i
          · rw [y] at v1 v2 ⊢
            exact (b3 v v1 (by omega)).1
          · have := vQ_mono (N := N) (w := w) (h := h) (d := d) (f := f) (q := q) (i := j + 1) (j := i) (by omega)
            rw [(b4 v (by omega)).1, a4.2 8 (by decide), gr 8 (by decide)]
            exact hk.2.2.2.2.2.1 v j (by omega) v1 v2
        · by_cases y : v < vQ N w h d f q i
          · have g := b4 v y
            rw [g.2.1, g.2.2.1, g.2.2.2, a4.2 9 (by decide), a4.2 10 (by decide), a4.2 11 (by decide), gr 9 (by decide), gr 10 (by decide), gr 11 (by decide)]
            exact hk.2.2.2.2.2.2 v y
          · exact (b3 v (by omega) (by omega)).2
      have h14' : ∀ t : Nat, t < 64 → σ9.2 14 t = iI (tF N w h d f n t).2 := fun t ht => by
        rw [F9.2 14 (by decide)]; exact h14 t ht
      obtain ⟨σ', c1, c2, c3⟩ := ih (i + 1) σ9 (by omega) (by omega) (fX_fr hx F9 (by decide) (by decide)) h14' kx
      exact ⟨σ', c1, c2, fr_trans F9 c3⟩
theorem tch_x {N w h d c : Nat} {f : Nat → Bool} (hN : 100 < N) (hd : dOk w h d) (hc : bx w h d c) {σ : xS} (hx : dX w h d f σ) : mould_touchesSolid N (iI c) σ = some (iI (bI (tch w h d f c 6)), σ) := by
  have go : ∀ n k : Nat, k ≤ 6 → 6 < k + n → tch w h d f c k = false → mould_touchesSolid_b2 N n (iI c) (iI k) σ = some (iI (bI (tch w h d f c 6)), σ) := by
    intro n
    induction n with
    | zero => intro k h1 h2; omega
    | succ n ih =>
      intro k h1 h2 h3
      rw [mould_touchesSolid_b2]
      by_cases z : k = 6
      · subst z
        rw [if_pos (by decide), h3]; rfl
      · have hk : k < 6 := by omega
        rw [if_neg (by rw [show (6 : Int32) = iI 6 from rfl, iI_le (by omega) (by omega) (by omega) (by omega)]; omega), bes_x hd hk hc hx.1 hx.2.1 hx.2.2.1, cal_at]
        have t1 : tch w h d f c (k + 1) = (tch w h d f c k || (!decide (ed w h d k c = 0) && f (nx k c))) := rfl
        rw [h3, Bool.false_or] at t1
        by_cases y : ed w h d k c = 0
        · have S : cl_isSolid 2 N (iI (-1)) σ = some (0, σ) := by
            unfold cl_isSolid; rw [if_pos (by decide)]
          rw [decide_eq_true y] at t1
          rw [if_pos y, S, cal_at, if_pos rfl, bnd_at, i_suc]
          exact ih (k + 1) (by omega) (by omega) t1
        · rw [decide_eq_false y] at t1
          have bn := bx_lt hd (geo2 hd hk hc (by omega)).1
          rw [if_neg y, sol_x (b := f (nx k c)) (by omega) (by omega) (by rw [Int.toNat_natCast]; exact hx.2.2.2 _ bn), cal_at]
          cases e : f (nx k c) with
          | false =>
            rw [if_pos (by decide), bnd_at, i_suc]
            exact ih (k + 1) (by omega) (by omega) (by rw [t1, e]; rfl)
          | true =>
            rw [if_neg (by decide)]
            have := tch_up (k := k + 1) (by rw [t1, e]; rfl) (6 - (k + 1))
            rw [show k + 1 + (6 - (k + 1)) = 6 by omega] at this
            rw [this]; rfl
  exact go N 0 (by omega) (by omega) rfl
theorem sumP_gap {g : Nat → Int} {a : Nat} : ∀ {b : Nat}, a ≤ b → (∀ e : Nat, a ≤ e → e < b → g e = 0) → sumP g b = sumP g a
  | 0, hab, _ => by rw [show a = 0 by omega]
  | b + 1, hab, hno => by
    by_cases q : a = b + 1
    · rw [q]
    · rw [sumP, hno b (by omega) (by omega), sumP_gap (a := a) (b := b) (by omega) (fun e h1 h2 => hno e h1 (by omega))]
      omega
/-- every cell that the ways free has its number -/
theorem nQ_all {N w h d n : Nat} {f : Nat → Bool} {q : Nat → Nat} (hd : dOk w h d) (hcv : cv w h d f (sq q n) = true) {e : Nat} (hm : mem w h d f e = true) : ∃ u : Nat, u < vQ N w h d f q n ∧ ∀ num : Nat → Int32, nQ N w h d f q num n e = iI (u : Nat) := by
  rcases dup_ex (b := fun j => (wy w h d f e).testBit (q j)) n with z | ⟨j, j1, j2, j3⟩
  · exact absurd ((and_sq n).mpr z) ((cv_iff hd).mp hcv e hm)
  · have o : oQ w h d f q j e = true := by
      show oW w h d f (q j) (sq q j) e = true
      unfold oW
      rw [hm, show (wy w h d f e).testBit (q j) = true from j2, decide_eq_true ((and_sq j).mpr j3)]; rfl
    have sp := pO_sp (N := N) (w := w) (h := h) (d := d) (O := oQ w h d f q j) (oQ_lt hd) 1000
    have cl := sp.2.1 e (oQ_lt hd e o)
    obtain ⟨u, a, b, c⟩ := pN_new (N := N) (oQ_lt hd) (num := fun _ => 0) (v := vQ N w h d f q j) 1000 e o cl
    have vm := vQ_mono (N := N) (w := w) (h := h) (d := d) (f := f) (q := q) (i := j + 1) (j := n) (by omega)
    have ev : vQ N w h d f q (j + 1) = vQ N w h d f q j + (pO N w h d (oQ w h d f q j) 1000).2 := by rw [vQ]
    refine ⟨u, by omega, fun num => ?_⟩
    have go : ∀ t : Nat, nQ N w h d f q num (j + 1 + t) e = iI (u : Nat) := by
      intro t
      induction t with
      | zero =>
        rw [Nat.add_zero, nQ, ← c]
        exact pN_same (oQ_lt hd) 1000 e (Or.inl ⟨o, cl⟩)
      | succ t ih =>
        rw [show j + 1 + (t + 1) = j + 1 + t + 1 by omega, nQ, pN_old (oQ_lt hd) 1000 e (Or.inr (oQ_dis (i := j) (j := j + 1 + t) (by omega) o))]
        exact ih
    have g := go (n - (j + 1))
    rw [show j + 1 + (n - (j + 1)) = n by omega] at g
    exact g
theorem gat_x {N w h d V : Nat} {f : Nat → Bool} (hN : 1100 < N) (hd : dOk w h d) (hV : V ≤ 1000) {σ : xS} (hx : fX w h d f σ) (h11 : σ.1 11 = iI V) (hn : ∀ e : Nat, mem w h d f e = true → ∃ u : Nat, u < V ∧ σ.2 16 e = iI (u : Nat)) (hz : ∀ v : Nat, v < V → σ.2 9 v = iI 0 ∧ σ.2 10 v = iI 0) : ∃ σ' : xS, pieces_gather N σ = some (0, σ') ∧ (∀ v : Nat, v < V → σ'.2 9 v = iI (szN w h d f (σ.2 16) v) ∧ σ'.2 10 v = iI (tcN w h d f (σ.2 16) v)) ∧ fr [] [9, 10] σ σ' := by
  have r2 := rk_le (mem w h d f) 1000
  obtain ⟨u, k1, k2, k3⟩ := lpM (S := xS) (mem w h d f) (fun n i u => pieces_gather_b2 N n i u) (fun u => some ((0 : Int32), u))
    (fun c u => fr [] [9, 10] σ u ∧ ∀ v : Nat, v < V → u.2 9 v = iI (sumP (fun e => if (mem w h d f e && decide (σ.2 16 e = iI (v : Nat))) = true then 1 else 0) c) ∧ u.2 10 v = iI (sumP (fun e => if (mem w h d f e && decide (σ.2 16 e = iI (v : Nat))) = true then bI (tch w h d f e 6) else 0) c))
    (fun a b u hab hno hi => ⟨hi.1, fun v hv => by
      rw [(hi.2 v hv).1, (hi.2 v hv).2]
      rw [sumP_gap (g := fun e => if (mem w h d f e && decide (σ.2 16 e = iI (v : Nat))) = true then 1 else 0) hab (fun e h1 h2 => by rw [hno e h1 h2]; rfl), sumP_gap (g := fun e => if (mem w h d f e && decide (σ.2 16 e = iI (v : Nat))) = true then bI (tch w h d f e 6) else 0) hab (fun e h1 h2 => by rw [hno e h1 h2]; rfl)]
      exact ⟨rfl, rfl⟩⟩)
    (fun n u hi => by
      have hxu := fX_fr hx hi.1 (by decide) (by decide)
      rw [pieces_gather_b2, msz_x hxu, cal_at, if_pos (by rw [iI_le (by omega) (by omega) (by omega) (by omega)]; omega)])
    (fun n c u hc hm hi => by
      have hxu := fX_fr hx hi.1 (by decide) (by decide)
      have r1 := rk_lt hc hm
      have bc := (mem_iff.mp hm).1
      obtain ⟨p, p1, p2⟩ := hn c hm
      have u16 : u.2 16 = σ.2 16 := hi.1.2 16 (by decide)
      have u11 : u.1 11 = iI V := by rw [hi.1.1 11 (by decide)]; exact h11
      have NA : parting_numberAt N (iI c) u = some (iI (p : Nat), u) := by
        unfold parting_numberAt
        rw [if_neg (by rw [show (0 : Int32) = iI 0 from rfl, iI_lt (by omega) (by omega) (by omega) (by omega)]; omega), if_neg (by rw [show (1000 : Int32) = iI 1000 from rfl, iI_le (by omega) (by omega) (by omega) (by omega)]; omega), ald_at (by omega) (by omega) (by omega), Int.toNat_natCast, u16, p2]
      have HX : pieces_has N (iI (p : Nat)) u = some (iI 1, u) := by rw [has_x hV u11 (by omega) (by omega), if_pos (by omega)]
      have g := hi.2 p p1
      obtain ⟨u1, q1⟩ : ∃ u1 : xS, u1 = (u.1, va_up u.2 9 (upd (u.2 9) p (iI (sumP (fun e => if (mem w h d f e && decide (σ.2 16 e = iI (p : Nat))) = true then 1 else 0) c + 1)))) := ⟨_, rfl⟩
      have f1 : fr [] [9, 10] u u1 := by
        rw [q1]; exact ⟨fun _ _ => rfl, fun a ha => va_up_n _ _ (fun z => ha (by rw [z]; decide))⟩
      have s9 : u1.2 9 = upd (u.2 9) p (iI (sumP (fun e => if (mem w h d f e && decide (σ.2 16 e = iI (p : Nat))) = true then 1 else 0) c + 1)) := by rw [q1]; rfl
      have s10 : u1.2 10 = u.2 10 := by rw [q1]; rfl
      have hx1 := fX_fr hxu f1 (by decide) (by decide)
      rw [pieces_gather_b2, msz_x hxu, cal_at, if_neg (by rw [iI_le (by omega) (by omega) (by omega) (by omega)]; omega), mbr_x hxu hc hm, cal_at, NA, cal_at, HX, cal_at, if_neg (by decide), ald_at (by omega) (by omega) (by omega), ast_at (by omega) (by omega) (by omega), Int.toNat_natCast, g.1, i_sucI, ← q1, ald_at (by omega) (by omega) (by omega), Int.toNat_natCast, s10, g.2, tch_x (by omega) hd bc hx1.1, cal_at]
      have fin : ∀ t : Int, t = sumP (fun e => if (mem w h d f e && decide (σ.2 16 e = iI (p : Nat))) = true then bI (tch w h d f e 6) else 0) c + bI (tch w h d f c 6) → (fr [] [9, 10] σ (u1.1, va_up u1.2 10 (upd (u1.2 10) p (iI t))) ∧ ∀ v : Nat, v < V → va_up u1.2 10 (upd (u1.2 10) p (iI t)) 9 v = iI (sumP (fun e => if (mem w h d f e && decide (σ.2 16 e = iI (v : Nat))) = true then 1 else 0) (c + 1)) ∧ va_up u1.2 10 (upd (u1.2 10) p (iI t)) 10 v = iI (sumP (fun e => if (mem w h d f e && decide (σ.2 16 e = iI (v : Nat))) = true then bI (tch w h d f e 6) else 0) (c + 1))) := fun t ht => by
        refine ⟨fr_trans hi.1 (fr_trans f1 ⟨fun _ _ => rfl, fun a ha => va_up_n _ _ (fun z => ha (by rw [z]; decide))⟩), fun v hv => ?_⟩
        have e9 : va_up u1.2 10 (upd (u1.2 10) p (iI t)) 9 = u1.2 9 := va_up_n _ _ (by decide)
        have e10 : va_up u1.2 10 (upd (u1.2 10) p (iI t)) 10 = upd (u1.2 10) p (iI t) := va_up_s _ _ _
        rw [e9, e10, s9, s10, upd_e, upd_e, sumP, sumP, hm, p2]
        by_cases y : v = p
        · rw [if_pos y, if_pos y, y, ht]; simp
        · have ne : ¬ iI (p : Int) = iI (v : Int) := fun q => y (i_inj (by omega) (by omega) q).symm
          rw [if_neg y, if_neg y, (hi.2 v hv).1, (hi.2 v hv).2, decide_eq_false ne]
          simp
      cases e : tch w h d f c 6 with
      | false =>
        rw [if_pos (by decide), ast_at (by omega) (by omega) (by omega), bnd_at, i_suc, Int.toNat_natCast, show (0 : Int32) = iI 0 from rfl, iI_add]
        rw [e] at fin
        exact ⟨_, rfl, fin _ rfl⟩
      | true =>
        rw [if_neg (by decide), ast_at (by omega) (by omega) (by omega), bnd_at, i_suc, Int.toNat_natCast, show (1 : Int32) = iI 1 from rfl, iI_add]
        rw [e] at fin
        exact ⟨_, rfl, fin _ rfl⟩)
    N 0 σ (by omega) (by omega) ⟨fr_refl, hz⟩
  exact ⟨u, k1, k3, k2⟩
