/-- pours behind it, times mended: after r pours -/
def rS (b po : Int) : Nat → Int × Int
  | 0 => (po, 0)
  | r + 1 => if (rS b po r).1 < b then ((rS b po r).1 + 1, (rS b po r).2) else (1, (rS b po r).2 + 1)
theorem rS_cl {b po : Int} (hb : 1 ≤ b) (hp : 0 ≤ po) : ∀ r : Nat, ((r : Int) ≤ (if 0 < b - po then b - po else 0) → rS b po r = (po + r, 0)) ∧ ((if 0 < b - po then b - po else 0) < (r : Int) → 1 ≤ (rS b po r).1 ∧ (rS b po r).1 ≤ b ∧ 1 ≤ (rS b po r).2 ∧ (r : Int) = (if 0 < b - po then b - po else 0) + ((rS b po r).2 - 1) * b + (rS b po r).1)
  | 0 => ⟨fun _ => by rw [rS]; simp, fun h => by split at h <;> omega⟩
  | r + 1 => by
    have ih := rS_cl hb hp r
    obtain ⟨L, hL⟩ : ∃ L : Int, L = (if 0 < b - po then b - po else 0) := ⟨_, rfl⟩
    rw [← hL] at ih ⊢
    have L1 : (0 < b - po ∧ L = b - po) ∨ (b - po ≤ 0 ∧ L = 0) := by
      by_cases q : 0 < b - po
      · rw [if_pos q] at hL; exact Or.inl ⟨q, hL⟩
      · rw [if_neg q] at hL; exact Or.inr ⟨by omega, hL⟩
    refine ⟨fun h => ?_, fun h => ?_⟩
    · have e := ih.1 (by omega)
      rw [rS, e, if_pos (by show po + (r : Int) < b; omega)]
      show (po + (r : Int) + 1, (0 : Int)) = _
      congr 1; omega
    · by_cases q : (r : Int) ≤ L
      · have e := ih.1 q
        rw [rS, e, if_neg (by show ¬ po + (r : Int) < b; omega)]
        refine ⟨Int.le_refl 1, hb, by show (1 : Int) ≤ 0 + 1; omega, ?_⟩
        show ((r + 1 : Nat) : Int) = L + (0 + 1 - 1) * b + 1
        rw [show (0 + 1 - 1 : Int) = 0 from rfl, Int.zero_mul]; omega
      · have e := ih.2 (by omega)
        rw [rS]
        by_cases c : (rS b po r).1 < b
        · rw [if_pos c]
          refine ⟨by show 1 ≤ (rS b po r).1 + 1; omega, by show (rS b po r).1 + 1 ≤ b; omega, e.2.2.1, ?_⟩
          show ((r + 1 : Nat) : Int) = L + ((rS b po r).2 - 1) * b + ((rS b po r).1 + 1)
          have := e.2.2.2; omega
        · rw [if_neg c]
          refine ⟨Int.le_refl 1, hb, by show 1 ≤ (rS b po r).2 + 1; omega, ?_⟩
          show ((r + 1 : Nat) : Int) = L + ((rS b po r).2 + 1 - 1) * b + 1
          have e1 := e.2.2.2
          rw [Int.sub_mul] at e1
          rw [show (rS b po r).2 + 1 - 1 = (rS b po r).2 by omega]
          omega
theorem rS_bd {b po : Int} (hb : 1 ≤ b) (hb2 : b ≤ 1000) (hp : 0 ≤ po) (hp2 : po ≤ 1000) (r : Nat) : 0 ≤ (rS b po r).1 ∧ (rS b po r).1 ≤ 1000 := by
  have c := rS_cl hb hp r
  by_cases q : (r : Int) ≤ (if 0 < b - po then b - po else 0)
  · rw [c.1 q]
    show 0 ≤ po + (r : Int) ∧ po + (r : Int) ≤ 1000
    split at q <;> omega
  · have := c.2 (by omega); omega
def sumP (f : Nat → Int) : Nat → Int
  | 0 => 0
  | k + 1 => sumP f k + f k
theorem sumP_cong {f g : Nat → Int} : ∀ {k : Nat}, (∀ p : Nat, p < k → f p = g p) → sumP f k = sumP g k
  | 0, _ => rfl
  | k + 1, h => by rw [sumP, sumP, sumP_cong (k := k) (fun p hp => h p (by omega)), h k (by omega)]
theorem sumP_add (f g : Nat → Int) : ∀ k : Nat, sumP (fun p => f p + g p) k = sumP f k + sumP g k
  | 0 => rfl
  | k + 1 => by rw [sumP, sumP, sumP, sumP_add f g k]; omega
theorem one_x {N : Nat} {σ : xS} {n p : Nat} {sz tc po : Nat → Int} {life price : Int} {a : Nat} (ok : pcOk n sz tc po life price) (hX : σ.1 12 = iI life ∧ σ.1 13 = iI price) (x1 : σ.2 9 p = iI (sz p) ∧ σ.2 10 p = iI (tc p) ∧ σ.2 11 p = iI (po p)) (hp : p < n) (ha : a ≤ 1000) : pieces_pourAndMendOne N (iI p) (iI a) σ = some (iI ((rS (pcB life (tc p)) (po p) a).2 * sz p * price), (σ.1, va_up σ.2 11 (upd (σ.2 11) p (iI (rS (pcB life (tc p)) (po p) a).1)))) := by
  have o := ok.2.1 p hp
  have k := ok.1
  have l := ok.2.2
  have b := pcB_bd (t := tc p) l.2.1 o.2.2.1 o.2.2.2.1 l.1
  have B : pieces_borneBy N (iI p) σ = some (iI (pcB life (tc p)), σ) := by
    unfold pieces_borneBy pcB
    rw [ald_at (by omega) (by omega) (by omega), Int.toNat_natCast, x1.2.1, hX.1, bnd_at]
    simp (disch := omega) only [iI_lit, iI_sub, iI_max]
    by_cases q : 1 < life - tc p
    · rw [if_pos q, if_pos (by omega)]
    · rw [if_neg q]
      by_cases q2 : 1 ≤ life - tc p
      · rw [if_pos q2]; congr 3; omega
      · rw [if_neg q2]
  have L : pieces_leftOn N (iI p) σ = some (iI (pcL life (tc p) (po p)), σ) := by
    unfold pieces_leftOn pcL
    rw [B, cal_at, ald_at (by omega) (by omega) (by omega), Int.toNat_natCast, x1.2.2]
    simp (disch := omega) only [iI_lit, iI_sub, iI_max, bnd_at]
  have c := rS_cl b.1 o.2.2.2.2.1 a
  have lb : 0 ≤ pcL life (tc p) (po p) ∧ pcL life (tc p) (po p) ≤ 1000 := by unfold pcL; split <;> omega
  change ((a : Int) ≤ pcL life (tc p) (po p) → _) ∧ (pcL life (tc p) (po p) < (a : Int) → _ ∧ _ ∧ _ ∧ (a : Int) = pcL life (tc p) (po p) + _ + _) at c
  unfold pieces_pourAndMendOne
  rw [L, cal_at]
  by_cases q : pcL life (tc p) (po p) < (a : Int)
  · have c := c.2 q
    obtain ⟨m, hm⟩ : ∃ m, m = (rS (pcB life (tc p)) (po p) a).2 := ⟨_, rfl⟩
    obtain ⟨q2, hq⟩ : ∃ m, m = (rS (pcB life (tc p)) (po p) a).1 := ⟨_, rfl⟩
    rw [← hm, ← hq] at c ⊢
    rw [if_pos (by rw [iI_lt (by omega) (by omega) (by omega) (by omega)]; exact q), B, cal_at, show (1 : Int32) = iI 1 from rfl, iI_max (by omega) (by omega) (by omega) (by omega), bnd_at, iI_sub, bnd_at]
    have e1 : (if 1 < pcB life (tc p) then pcB life (tc p) else 1) = pcB life (tc p) := by split <;> omega
    rw [e1, gdz_at _ (by omega) (by omega) (by omega), iI_add, iI_sub, iI_div (by omega) (by omega) (by omega) (by omega), bnd_at]
    have e2 : ((a : Int) - pcL life (tc p) (po p) + pcB life (tc p) - 1) / pcB life (tc p) = m := by
      rw [show (a : Int) - pcL life (tc p) (po p) + pcB life (tc p) - 1 = (q2 - 1) + m * pcB life (tc p) by
        have := c.2.2.2
        rw [Int.sub_mul] at this
        omega, Int.add_mul_ediv_right _ _ (by omega), Int.ediv_eq_zero_of_lt (by omega) (by omega)]
      omega
    rw [e2, iI_sub, iI_mul, iI_sub, ast_at (by omega) (by omega) (by omega), ald_at (by omega) (by omega) (by omega), Int.toNat_natCast]
    have e3 : (a : Int) - pcL life (tc p) (po p) - (m - 1) * pcB life (tc p) = q2 := by have := c.2.2.2; omega
    have z : (va_up σ.2 11 (upd (σ.2 11) p (iI q2))) 9 p = iI (sz p) := x1.1
    rw [e3]
    dsimp only
    rw [z, hX.2, iI_mul, iI_mul]
  · have c := c.1 (by omega)
    rw [if_neg (by rw [iI_lt (by omega) (by omega) (by omega) (by omega)]; exact q), ald_at (by omega) (by omega) (by omega), ast_at (by omega) (by omega) (by omega), Int.toNat_natCast, x1.2.2, iI_add, c]
    simp only [Int.zero_mul]
    rfl
theorem run_x {N : Nat} {n : Nat} {sz tc po : Nat → Int} {life price : Int} {a : Nat} (ok : pcOk n sz tc po life price) (ha : a ≤ 1000) : ∀ (f k : Nat) (σ : xS), k ≤ n → n < k + f → pcX σ n sz tc (fun p => if p < k then (rS (pcB life (tc p)) (po p) a).1 else po p) life price → ∃ σ' : xS, pieces_pourAndMend_b4 N f (iI a) (iI (sumP (fun p => (rS (pcB life (tc p)) (po p) a).2 * sz p * price) k)) (iI k) σ = some (iI (sumP (fun p => (rS (pcB life (tc p)) (po p) a).2 * sz p * price) n), σ') ∧ pcX σ' n sz tc (fun p => (rS (pcB life (tc p)) (po p) a).1) life price := by
  intro f
  induction f with
  | zero => intro k σ h1 h2; omega
  | succ f ih =>
    intro k σ h1 h2 h
    have hn := ok.1
    rw [pieces_pourAndMend_b4, h.1]
    by_cases q : n ≤ k
    · have e : k = n := by omega
      subst e
      rw [if_pos (by rw [iI_le (by omega) (by omega) (by omega) (by omega)]; omega)]
      refine ⟨σ, rfl, h.1, h.2.1, h.2.2.1, fun p hp => ?_⟩
      have := h.2.2.2 p hp
      simp only [if_pos hp] at this
      exact this
    · have x1 := h.2.2.2 k (by omega)
      simp only [if_neg (show ¬ k < k by omega)] at x1
      rw [if_neg (by rw [iI_le (by omega) (by omega) (by omega) (by omega)]; omega), one_x ok ⟨h.2.1, h.2.2.1⟩ x1 (by omega) ha, cal_at, bnd_at, bnd_at, iI_add, i_suc]
      refine ih (k + 1) _ (by omega) (by omega) ⟨h.1, h.2.1, h.2.2.1, fun p hp => ?_⟩
      have x2 := h.2.2.2 p hp
      dsimp only at x2
      refine ⟨x2.1, x2.2.1, ?_⟩
      show upd (σ.2 11) k _ p = _
      simp only [upd_e]
      by_cases g : p = k
      · rw [if_pos g, if_pos (by omega), g]
      · rw [if_neg g, x2.2.2]
        by_cases g2 : p < k
        · rw [if_pos g2, if_pos (by omega)]
        · rw [if_neg g2, if_neg (by omega)]
theorem mend_m {N : Nat} {τ : xS} {n p : Nat} {sz tc po : Nat → Int} {life price : Int} (hn : n ≤ 1000) (h : pcM τ n sz tc po life price) (hp : p < n) : m_mend N (iI p) τ = some (iI (sz p * price), (τ.1, va_up τ.2 17 (upd (τ.2 17) p (iI 0)))) := by
  unfold m_mend
  have z : (va_up τ.2 17 (upd (τ.2 17) p (iI 0))) 15 p = iI (sz p) := (h.2.2.2.2 p hp).1
  rw [has_m hn h.1 h.2.1 (by omega) (by omega), if_pos (by omega), cal_at, if_neg (by decide), show (0 : Int32) = iI 0 from rfl, ast_at (by omega) (by omega) (by omega), ald_at (by omega) (by omega) (by omega), Int.toNat_natCast]
  dsimp only
  rw [z, h.2.2.2.1, iI_mul]
theorem ri_m {N : Nat} (hN : 1000 < N) {n : Nat} {sz tc po : Nat → Int} {life price c : Int} {j : Nat} {a : Int32} (ok : pcOk n sz tc po life price) (h0 : 0 < n) (K : Int32 → Int32 → Int32 → xS → Option (Int32 × xS)) : ∀ (f k : Nat) (τ : xS), k ≤ n → n < k + f → pcM τ n sz tc (fun p => if p < k then (if po p < pcB life (tc p) then po p else 0) else po p) life price → ∃ τ' : xS, m_run_b32 N K f a (iI (c + sumP (fun p => if po p < pcB life (tc p) then 0 else sz p * price) k)) (iI j) (iI k) τ = K a (iI (c + sumP (fun p => if po p < pcB life (tc p) then 0 else sz p * price) n)) (iI (j + 1 : Nat)) τ' ∧ pcM τ' n sz tc (fun p => if po p < pcB life (tc p) then po p + 1 else 1) life price := by
  intro f
  induction f with
  | zero => intro k τ h1 h2; omega
  | succ f ih =>
    intro k τ h1 h2 h
    have hn := ok.1
    rw [m_run_b32, h.2.1 h0]
    by_cases q : n ≤ k
    · have e : k = n := by omega
      subst e
      rw [if_pos (by rw [iI_le (by omega) (by omega) (by omega) (by omega)]; omega)]
      have h' : pcM τ k sz tc (fun p => if po p < pcB life (tc p) then po p else 0) life price := by
        refine ⟨h.1, h.2.1, h.2.2.1, h.2.2.2.1, fun p hp => ?_⟩
        have := h.2.2.2.2 p hp
        simp only [if_pos hp] at this
        exact this
      obtain ⟨τ1, r1, r2⟩ := po_m' (N := N) hN hn h0 h'
      rw [r1, cal_at, bnd_at, i_suc]
      refine ⟨τ1, rfl, r2.1, r2.2.1, r2.2.2.1, r2.2.2.2.1, fun p hp => ?_⟩
      have := r2.2.2.2.2 p hp
      dsimp only at this ⊢
      refine ⟨this.1, this.2.1, this.2.2.trans ?_⟩
      split <;> rfl
    · have o := ok.2.1 k (by omega)
      have l := ok.2.2
      have b := pcB_bd (t := tc k) l.2.1 o.2.2.1 o.2.2.2.1 l.1
      have ok' : pcOk n sz tc (fun p => if p < k then (if po p < pcB life (tc p) then po p else 0) else po p) life price := by
        refine ⟨ok.1, fun p hp => ?_, ok.2.2⟩
        have o := ok.2.1 p hp
        refine ⟨o.1, o.2.1, o.2.2.1, o.2.2.2.1, ?_⟩
        dsimp only
        by_cases g : p < k
        · rw [if_pos g]
          by_cases g2 : po p < pcB life (tc p)
          · rw [if_pos g2]; exact o.2.2.2.2
          · rw [if_neg g2]; omega
        · rw [if_neg g]; exact o.2.2.2.2
      have x1 := h.2.2.2.2 k (by omega)
      simp only [if_neg (show ¬ k < k by omega)] at x1
      rw [if_neg (by rw [iI_le (by omega) (by omega) (by omega) (by omega)]; omega), ald_at (by omega) (by omega) (by omega), Int.toNat_natCast, bear_m ok' h (by omega), cal_at, x1.2.2, mend_m hn h (by omega), cal_at, iI_add]
      by_cases g : po k < pcB life (tc k)
      · rw [if_pos (by rw [iI_lt (by omega) (by omega) (by omega) (by omega)]; exact g), bnd_at, i_suc]
        have e : sumP (fun p => if po p < pcB life (tc p) then 0 else sz p * price) (k + 1) = sumP (fun p => if po p < pcB life (tc p) then 0 else sz p * price) k := by
          rw [sumP, if_pos g, Int.add_zero]
        have := ih (k + 1) τ (by omega) (by omega) ⟨h.1, h.2.1, h.2.2.1, h.2.2.2.1, fun p hp => by
          have x2 := h.2.2.2.2 p hp
          dsimp only at x2 ⊢
          refine ⟨x2.1, x2.2.1, x2.2.2.trans ?_⟩
          by_cases g2 : p < k
          · rw [if_pos g2, if_pos (show p < k + 1 by omega)]
          · rw [if_neg g2]
            by_cases g3 : p = k
            · rw [if_pos (by omega), g3, if_pos g]
            · rw [if_neg (by omega)]⟩
        rw [e] at this
        exact this
      · rw [if_neg (by rw [iI_lt (by omega) (by omega) (by omega) (by omega)]; exact g), bnd_at, bnd_at, i_suc]
        have e : sumP (fun p => if po p < pcB life (tc p) then 0 else sz p * price) (k + 1) = sumP (fun p => if po p < pcB life (tc p) then 0 else sz p * price) k + sz k * price := by
          rw [sumP, if_neg g]
        have := ih (k + 1) (τ.1, va_up τ.2 17 (upd (τ.2 17) k (iI 0))) (by omega) (by omega) ⟨h.1, h.2.1, h.2.2.1, h.2.2.2.1, fun p hp => by
          have x2 := h.2.2.2.2 p hp
          dsimp only at x2 ⊢
          refine ⟨x2.1, x2.2.1, ?_⟩
          show upd (τ.2 17) k (iI 0) p = _
          simp only [upd_e]
          by_cases g3 : p = k
          · rw [if_pos g3, if_pos (by omega), g3, if_neg g]
          · rw [if_neg g3, x2.2.2]
            by_cases g2 : p < k
            · rw [if_pos g2, if_pos (show p < k + 1 by omega)]
            · rw [if_neg g2, if_neg (by omega)]⟩
        rw [e, ← Int.add_assoc] at this
        exact this
theorem run_m {N : Nat} (hN : 1001 < N) {n : Nat} {sz tc po : Nat → Int} {life price : Int} {a : Nat} (ok : pcOk n sz tc po life price) (h0 : 0 < n) (ha : a ≤ 1000) : ∀ (f r : Nat) (τ : xS), r ≤ a → a < r + f → pcM τ n sz tc (fun p => (rS (pcB life (tc p)) (po p) r).1) life price → ∃ τ' : xS, m_run_b24 N f (iI a) (iI (sumP (fun p => (rS (pcB life (tc p)) (po p) r).2 * sz p * price) n)) (iI r) τ = some (iI (sumP (fun p => (rS (pcB life (tc p)) (po p) a).2 * sz p * price) n), τ') ∧ pcM τ' n sz tc (fun p => (rS (pcB life (tc p)) (po p) a).1) life price := by
  intro f
  induction f with
  | zero => intro r τ h1 h2; omega
  | succ f ih =>
    intro r τ h1 h2 h
    have hn := ok.1
    rw [m_run_b24]
    by_cases q : a ≤ r
    · have e : r = a := by omega
      subst e
      rw [if_pos (by rw [iI_le (by omega) (by omega) (by omega) (by omega)]; omega)]
      exact ⟨τ, rfl, h⟩
    · rw [if_neg (by rw [iI_le (by omega) (by omega) (by omega) (by omega)]; omega)]
      have okr : pcOk n sz tc (fun p => (rS (pcB life (tc p)) (po p) r).1) life price := by
        refine ⟨ok.1, fun p hp => ?_, ok.2.2⟩
        have o := ok.2.1 p hp
        have l := ok.2.2
        have b := pcB_bd (t := tc p) l.2.1 o.2.2.1 o.2.2.2.1 l.1
        exact ⟨o.1, o.2.1, o.2.2.1, o.2.2.2.1, rS_bd b.1 b.2 o.2.2.2.2.1 o.2.2.2.2.2 r⟩
      obtain ⟨τ1, r1, r2⟩ := ri_m (N := N) (c := sumP (fun p => (rS (pcB life (tc p)) (po p) r).2 * sz p * price) n) (j := r) (a := iI a) (by omega) okr h0 (m_run_b24 N f) N 0 τ (by omega) (by omega) (by simp only [if_neg (Nat.not_lt_zero _)]; exact h)
      rw [sumP, Int.add_zero] at r1
      have r1 : m_run_b32 N (m_run_b24 N f) N (iI a) (iI (sumP (fun p => (rS (pcB life (tc p)) (po p) r).2 * sz p * price) n)) (iI r) 0 τ = _ := r1
      rw [r1, ← sumP_add]
      have e1 : sumP (fun p => (rS (pcB life (tc p)) (po p) r).2 * sz p * price + if (rS (pcB life (tc p)) (po p) r).1 < pcB life (tc p) then 0 else sz p * price) n = sumP (fun p => (rS (pcB life (tc p)) (po p) (r + 1)).2 * sz p * price) n := by
        apply sumP_cong
        intro p _
        rw [rS]
        by_cases g : (rS (pcB life (tc p)) (po p) r).1 < pcB life (tc p)
        · rw [if_pos g, if_pos g, Int.add_zero]
        · rw [if_neg g, if_neg g]
          show _ = ((rS (pcB life (tc p)) (po p) r).2 + 1) * sz p * price
          rw [Int.add_mul, Int.one_mul, Int.add_mul]
      rw [e1]
      refine ih (r + 1) τ1 (by omega) (by omega) ⟨r2.1, r2.2.1, r2.2.2.1, r2.2.2.2.1, fun p hp => ?_⟩
      have x2 := r2.2.2.2.2 p hp
      dsimp only at x2 ⊢
      refine ⟨x2.1, x2.2.1, x2.2.2.trans ?_⟩
      rw [rS]
      by_cases g : (rS (pcB life (tc p)) (po p) r).1 < pcB life (tc p)
      · rw [if_pos g, if_pos g]
      · rw [if_neg g, if_neg g]
theorem sim_run {N : Nat} (hN : 1001 < N) (a : Int32) {σ τ : xS} (h : Rwear σ τ) : ∃ (r : Int32) (σ' τ' : xS), cw_run N a σ = some (r, σ') ∧ m_run N a τ = some (r, τ') ∧ Rwear σ' τ' := by
  obtain ⟨a, rfl, a1, a2⟩ := iI_ex a
  obtain ⟨n, sz, tc, po, life, price, ok, hx, hm, hw⟩ := id h
  have k := ok.1
  have C := can_m (N := N) ok hx hm a1 a2
  by_cases q : 0 < n ∧ 1 ≤ a ∧ a ≤ 1000
  · have C := C.1 q
    obtain ⟨a, rfl⟩ : ∃ p : Nat, a = p := ⟨a.toNat, by omega⟩
    obtain ⟨σ1, X1, X2⟩ := run_x (N := N) (a := a) ok (by omega) N 0 σ (by omega) (by omega) (by simp only [if_neg (Nat.not_lt_zero _)]; exact hx)
    have X1 : pieces_pourAndMend N (iI a) σ = _ := X1
    obtain ⟨τ1, M1, M2⟩ := run_m (N := N) (a := a) hN ok q.1 (by omega) N 0 τ (by omega) (by omega) hm
    have s0 : sumP (fun p => (rS (pcB life (tc p)) (po p) 0).2 * sz p * price) n = 0 := by
      have : ∀ m, sumP (fun p => (rS (pcB life (tc p)) (po p) 0).2 * sz p * price) m = 0 := by
        intro m
        induction m with
        | zero => rfl
        | succ m ih => rw [sumP, ih, rS]; simp
      exact this n
    rw [s0] at M1
    have M1 : m_run_b24 N N (iI a) 0 0 τ = _ := M1
    have X : cw_run N (iI a) σ = some (iI (sumP (fun p => (rS (pcB life (tc p)) (po p) a).2 * sz p * price) n), σ1) := by
      unfold cw_run
      rw [C.1, cal_at, if_neg (by decide), X1, cal_at]
    have M : m_run N (iI a) τ = some (iI (sumP (fun p => (rS (pcB life (tc p)) (po p) a).2 * sz p * price) n), τ1) := by
      unfold m_run
      rw [C.2.1, if_neg (by decide), C.2.2, cal_at, if_neg (by decide), M1]
    have D2 := f_cw_run X
    have E2 := f_m_run M
    refine ⟨_, _, _, X, M, n, sz, tc, _, life, price, ⟨ok.1, fun p hp => ?_, ok.2.2⟩, X2, M2, ?_⟩
    · have o := ok.2.1 p hp
      have l := ok.2.2
      have b := pcB_bd (t := tc p) l.2.1 o.2.2.1 o.2.2.2.1 l.1
      exact ⟨o.1, o.2.1, o.2.2.1, o.2.2.2.1, rS_bd b.1 b.2 o.2.2.2.2.1 o.2.2.2.2.2 a⟩
    · rw [D2.2 8 (by decide), E2.2 14 (by decide)]; exact hw
  · have C := C.2 q
    refine ⟨-1, σ, τ, ?_, ?_, h⟩
    · unfold cw_run
      rw [C.1, cal_at, if_pos (by decide)]
    · unfold m_run
      rcases C.2 with e | ⟨e, e2⟩
      · rw [e, if_pos (by decide)]
      · rw [e, if_neg (by decide), e2, cal_at, if_pos (by decide)]
/-! the fault that is told -/
def Rfault (σ τ : xS) : Prop := σ.1 2 = τ.1 7 ∧ σ.1 3 = τ.1 8
theorem Rfault_fr {S T S' T' : List Nat} {σ σ' τ τ' : xS} (h : Rfault σ τ) (f : fr S T σ σ') (g : fr S' T' τ τ') (h1 : 2 ∉ S ∧ 3 ∉ S) (h3 : 7 ∉ S' ∧ 8 ∉ S') : Rfault σ' τ' := by
  unfold Rfault
  rw [f.1 2 h1.1, f.1 3 h1.2, g.1 7 h3.1, g.1 8 h3.2]; exact h
theorem sim_fault {N : Nat} (a : Int32) {σ τ : xS} (h : Rfault σ τ) : ∃ (r : Int32) (σ' τ' : xS), cw_fault N a σ = some (r, σ') ∧ m_fault N a τ = some (r, τ') ∧ Rfault σ' τ' := by
  unfold cw_fault m_fault reader_faultKind reader_faultPlace
  by_cases c0 : a = 0
  · rw [if_pos c0, if_pos c0, cal_at, h.1]; exact ⟨_, _, _, rfl, rfl, h⟩
  · by_cases c1 : a = 1
    · rw [if_neg c0, if_neg c0, if_pos c1, if_pos c1, cal_at, h.2]; exact ⟨_, _, _, rfl, rfl, h⟩
    · rw [if_neg c0, if_neg c0, if_neg c1, if_neg c1]; exact ⟨_, _, _, rfl, rfl, h⟩
