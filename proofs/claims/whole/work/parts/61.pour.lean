def pcL (life t po : Int) : Int := if 0 < pcB life t - po then pcB life t - po else 0
theorem left_x {N : Nat} {σ : xS} {n p : Nat} {sz tc po : Nat → Int} {life price : Int} (ok : pcOk n sz tc po life price) (h : pcX σ n sz tc po life price) (hp : p < n) : pieces_leftOn N (iI p) σ = some (iI (pcL life (tc p) (po p)), σ) := by
  have o := ok.2.1 p hp
  have k := ok.1
  have l := ok.2.2
  have b := pcB_bd (t := tc p) l.2.1 o.2.2.1 o.2.2.2.1 l.1
  unfold pieces_leftOn pcL
  rw [bear_x ok h hp, cal_at, ald_at (by omega) (by omega) (by omega), Int.toNat_natCast, (h.2.2.2 p hp).2.2]
  simp (disch := omega) only [iI_lit, iI_sub, iI_max, bnd_at]
/-- how many of a pours all pieces below k bear -/
def mnP (life : Int) (tc po : Nat → Int) (a : Int) : Nat → Int
  | 0 => a
  | k + 1 => if pcL life (tc k) (po k) < mnP life tc po a k then pcL life (tc k) (po k) else mnP life tc po a k
theorem mnP_sp {life : Int} {tc po : Nat → Int} {a : Int} (ha : 0 ≤ a) : ∀ k : Nat, 0 ≤ mnP life tc po a k ∧ mnP life tc po a k ≤ a ∧ (∀ p : Nat, p < k → mnP life tc po a k ≤ pcL life (tc p) (po p)) ∧ (mnP life tc po a k = a ∨ ∃ p : Nat, p < k ∧ mnP life tc po a k = pcL life (tc p) (po p))
  | 0 => ⟨ha, Int.le_refl a, fun p hp => by omega, Or.inl rfl⟩
  | k + 1 => by
    have ih := mnP_sp (life := life) (tc := tc) (po := po) ha k
    have l0 : 0 ≤ pcL life (tc k) (po k) := by unfold pcL; split <;> omega
    rw [mnP]
    by_cases q : pcL life (tc k) (po k) < mnP life tc po a k
    · rw [if_pos q]
      refine ⟨l0, by omega, fun p hp => ?_, Or.inr ⟨k, by omega, rfl⟩⟩
      by_cases e : p = k
      · subst e; omega
      · have := ih.2.2.1 p (by omega); omega
    · rw [if_neg q]
      refine ⟨ih.1, ih.2.1, fun p hp => ?_, ?_⟩
      · by_cases e : p = k
        · subst e; omega
        · exact ih.2.2.1 p (by omega)
      · rcases ih.2.2.2 with h | ⟨p, hp, h⟩
        · exact Or.inl h
        · exact Or.inr ⟨p, by omega, h⟩
theorem can_x {N : Nat} {σ : xS} {n : Nat} {a : Int} (hn : n ≤ 1000) (h : σ.1 11 = iI n) (a1 : -2147483648 ≤ a) (a2 : a < 2147483648) : pieces_canPour N (iI a) σ = some (iI (if 0 < n ∧ 1 ≤ a ∧ a ≤ 1000 then 1 else 0), σ) := by
  unfold pieces_canPour
  rw [h]
  simp (disch := omega) only [iI_lit, iI_lt, iI_le]
  by_cases q : (n : Int) ≤ 0
  · rw [if_pos q, if_neg (by omega)]
  · by_cases q2 : a < 1
    · rw [if_neg q, if_pos q2, if_neg (by omega)]
    · by_cases q3 : 1000 < a
      · rw [if_neg q, if_neg q2, if_pos q3, if_neg (by omega)]
      · rw [if_neg q, if_neg q2, if_neg q3, if_pos (by omega)]
theorem pw_x {N : Nat} {σ : xS} {n : Nat} {sz tc po : Nat → Int} {life price a : Int} (ok : pcOk n sz tc po life price) (h : pcX σ n sz tc po life price) (ha : 0 ≤ a) (ha2 : a ≤ 1000) : ∀ (f k : Nat), k ≤ n → n < k + f → pieces_pourWhileBorne_b4 N f (iI (mnP life tc po a k)) (iI k) σ = pieces_pourWhileBorne_b30 N N (iI (mnP life tc po a n)) (iI 0) σ := by
  intro f
  induction f with
  | zero => intro k h1 h2; omega
  | succ f ih =>
    intro k h1 h2
    have hn := ok.1
    have m := mnP_sp (life := life) (tc := tc) (po := po) ha k
    rw [pieces_pourWhileBorne_b4, h.1]
    by_cases q : n ≤ k
    · have e : k = n := by omega
      subst e
      rw [if_pos (by rw [iI_le (by omega) (by omega) (by omega) (by omega)]; omega)]; rfl
    · rw [if_neg (by rw [iI_le (by omega) (by omega) (by omega) (by omega)]; omega), left_x ok h (by omega), cal_at]
      have m2 := mnP_sp (life := life) (tc := tc) (po := po) ha (k + 1)
      have o := ok.2.1 k (by omega)
      have l := ok.2.2
      have b := pcB_bd (t := tc k) l.2.1 o.2.2.1 o.2.2.2.1 l.1
      have lb : 0 ≤ pcL life (tc k) (po k) ∧ pcL life (tc k) (po k) ≤ 1000 := by unfold pcL; split <;> omega
      rw [iI_min (by omega) (by omega) (by omega) (by omega), bnd_at, bnd_at, i_suc]
      exact ih (k + 1) (by omega) (by omega)
theorem pa_x {N : Nat} {n : Nat} {sz tc po : Nat → Int} {life price m : Int} (hn : n ≤ 1000) : ∀ (f k : Nat) (σ : xS), k ≤ n → n < k + f → pcX σ n sz tc (fun p => if p < k then po p + m else po p) life price → ∃ σ' : xS, pieces_pourWhileBorne_b30 N f (iI m) (iI k) σ = some (iI m, σ') ∧ pcX σ' n sz tc (fun p => po p + m) life price := by
  intro f
  induction f with
  | zero => intro k σ h1 h2; omega
  | succ f ih =>
    intro k σ h1 h2 h
    rw [pieces_pourWhileBorne_b30, h.1]
    by_cases q : n ≤ k
    · rw [if_pos (by rw [iI_le (by omega) (by omega) (by omega) (by omega)]; omega)]
      refine ⟨σ, rfl, h.1, h.2.1, h.2.2.1, fun p hp => ?_⟩
      have := h.2.2.2 p hp
      simp only [if_pos (show p < k by omega)] at this
      exact this
    · have x1 := h.2.2.2 k (by omega)
      simp only [if_neg (show ¬ k < k by omega)] at x1
      rw [if_neg (by rw [iI_le (by omega) (by omega) (by omega) (by omega)]; omega), ald_at (by omega) (by omega) (by omega), ast_at (by omega) (by omega) (by omega), Int.toNat_natCast, x1.2.2, iI_add, bnd_at, i_suc]
      refine ih (k + 1) _ (by omega) (by omega) ⟨h.1, h.2.1, h.2.2.1, fun p hp => ?_⟩
      have x2 := h.2.2.2 p hp
      dsimp only at x2
      refine ⟨x2.1, x2.2.1, ?_⟩
      show upd (σ.2 11) k (iI (po k + m)) p = _
      simp only [upd_e]
      by_cases g : p = k
      · rw [if_pos g, if_pos (by omega), g]
      · rw [if_neg g, x2.2.2]
        by_cases g2 : p < k
        · rw [if_pos g2, if_pos (by omega)]
        · rw [if_neg g2, if_neg (by omega)]
theorem bo_m {N : Nat} {τ : xS} {n : Nat} {sz tc po : Nat → Int} {life price : Int} (ok : pcOk n sz tc po life price) (h : pcM τ n sz tc po life price) (h0 : 0 < n) : ∀ (f k : Nat), k ≤ n → n < k + f → ((∀ p : Nat, k ≤ p → p < n → po p < pcB life (tc p)) → m_isBorne_b2 N f (iI k) τ = some (iI 1, τ)) ∧ ((∃ p : Nat, k ≤ p ∧ p < n ∧ ¬ po p < pcB life (tc p)) → m_isBorne_b2 N f (iI k) τ = some (iI 0, τ)) := by
  intro f
  induction f with
  | zero => intro k h1 h2; omega
  | succ f ih =>
    intro k h1 h2
    have hn := ok.1
    rw [m_isBorne_b2, h.2.1 h0]
    by_cases q : n ≤ k
    · rw [if_pos (by rw [iI_le (by omega) (by omega) (by omega) (by omega)]; omega)]
      exact ⟨fun _ => rfl, fun ⟨p, a, b, _⟩ => by omega⟩
    · have o := ok.2.1 k (by omega)
      have l := ok.2.2
      have b := pcB_bd (t := tc k) l.2.1 o.2.2.1 o.2.2.2.1 l.1
      rw [if_neg (by rw [iI_le (by omega) (by omega) (by omega) (by omega)]; omega), ald_at (by omega) (by omega) (by omega), Int.toNat_natCast, bear_m ok h (by omega), cal_at, (h.2.2.2.2 k (by omega)).2.2]
      have g := ih (k + 1) (by omega) (by omega)
      by_cases c : po k < pcB life (tc k)
      · rw [if_pos (by rw [iI_lt (by omega) (by omega) (by omega) (by omega)]; exact c), bnd_at, i_suc]
        refine ⟨fun z => g.1 (fun p a b => z p (by omega) b), fun ⟨p, a, b, d⟩ => g.2 ⟨p, ?_, b, d⟩⟩
        by_cases e : p = k
        · subst e; exact absurd c d
        · omega
      · rw [if_neg (by rw [iI_lt (by omega) (by omega) (by omega) (by omega)]; exact c)]
        exact ⟨fun z => absurd (z k (by omega) (by omega)) c, fun _ => rfl⟩
theorem po_m {N : Nat} {n : Nat} {sz tc po : Nat → Int} {life price : Int} (hn : n ≤ 1000) (h0 : 0 < n) : ∀ (f k : Nat) (τ : xS), k ≤ n → n < k + f → pcM τ n sz tc (fun p => if p < k then po p + 1 else po p) life price → ∃ τ' : xS, m_pours_b2 N f (iI k) τ = some (0, τ') ∧ pcM τ' n sz tc (fun p => po p + 1) life price := by
  intro f
  induction f with
  | zero => intro k σ h1 h2; omega
  | succ f ih =>
    intro k σ h1 h2 h
    rw [m_pours_b2, h.2.1 h0]
    by_cases q : n ≤ k
    · rw [if_pos (by rw [iI_le (by omega) (by omega) (by omega) (by omega)]; omega)]
      refine ⟨σ, rfl, h.1, h.2.1, h.2.2.1, h.2.2.2.1, fun p hp => ?_⟩
      have := h.2.2.2.2 p hp
      simp only [if_pos (show p < k by omega)] at this
      exact this
    · have x1 := h.2.2.2.2 k (by omega)
      simp only [if_neg (show ¬ k < k by omega)] at x1
      rw [if_neg (by rw [iI_le (by omega) (by omega) (by omega) (by omega)]; omega), ald_at (by omega) (by omega) (by omega), ast_at (by omega) (by omega) (by omega), Int.toNat_natCast, x1.2.2, bnd_at, i_suc, i_sucI]
      refine ih (k + 1) _ (by omega) (by omega) ⟨h.1, h.2.1, h.2.2.1, h.2.2.2.1, fun p hp => ?_⟩
      have x2 := h.2.2.2.2 p hp
      dsimp only at x2
      refine ⟨x2.1, x2.2.1, ?_⟩
      show upd (σ.2 17) k (iI (po k + 1)) p = _
      simp only [upd_e]
      by_cases g : p = k
      · rw [if_pos g, if_pos (by omega), g]
      · rw [if_neg g, x2.2.2]
        by_cases g2 : p < k
        · rw [if_pos g2, if_pos (by omega)]
        · rw [if_neg g2, if_neg (by omega)]
theorem po_m' {N : Nat} (hN : 1000 < N) {τ : xS} {n : Nat} {sz tc po : Nat → Int} {life price : Int} (hn : n ≤ 1000) (h0 : 0 < n) (h : pcM τ n sz tc po life price) : ∃ τ' : xS, m_pours N τ = some (0, τ') ∧ pcM τ' n sz tc (fun p => po p + 1) life price :=
  po_m (N := N) hn h0 N 0 τ (by omega) (by omega) (by simp only [if_neg (Nat.not_lt_zero _)]; exact h)
theorem pour_m {N : Nat} (hN : 1001 < N) {n : Nat} {sz tc po : Nat → Int} {life price a : Int} (ok : pcOk n sz tc po life price) (h0 : 0 < n) (ha : 0 ≤ a) (ha2 : a ≤ 1000) : ∀ (f : Nat) (j : Int) (τ : xS), 0 ≤ j → j ≤ mnP life tc po a n → mnP life tc po a n < j + f → pcM τ n sz tc (fun p => po p + j) life price → ∃ τ' : xS, m_pour_b22 N f (iI a) (iI j) τ = some (iI (mnP life tc po a n), τ') ∧ pcM τ' n sz tc (fun p => po p + mnP life tc po a n) life price := by
  intro f
  induction f with
  | zero => intro j τ h1 h2 h3; omega
  | succ f ih =>
    intro j τ h1 h2 h3 h
    have hn := ok.1
    have m := mnP_sp (life := life) (tc := tc) (po := po) ha n
    rw [m_pour_b22]
    have okj : pcOk n sz tc (fun p => po p + j) life price := by
      refine ⟨ok.1, fun p hp => ?_, ok.2.2⟩
      have o := ok.2.1 p hp
      have l := ok.2.2
      have b := pcB_bd (t := tc p) l.2.1 o.2.2.1 o.2.2.2.1 l.1
      have := m.2.2.1 p hp
      refine ⟨o.1, o.2.1, o.2.2.1, o.2.2.2.1, by show 0 ≤ po p + j; omega, ?_⟩
      show po p + j ≤ 1000
      unfold pcL at this
      split at this <;> omega
    by_cases q : a ≤ j
    · have e : j = mnP life tc po a n := by omega
      rw [if_pos (by rw [iI_le (by omega) (by omega) (by omega) (by omega)]; exact q)]
      exact ⟨τ, by rw [← e], by rw [← e]; exact h⟩
    · rw [if_neg (by rw [iI_le (by omega) (by omega) (by omega) (by omega)]; exact q)]
      have B := bo_m (N := N) okj h h0 N 0 (by omega) (by omega)
      by_cases g : j = mnP life tc po a n
      · have w : ∃ p : Nat, 0 ≤ p ∧ p < n ∧ ¬ po p + j < pcB life (tc p) := by
          rcases m.2.2.2 with e | ⟨p, hp, e⟩
          · omega
          · refine ⟨p, by omega, hp, ?_⟩
            unfold pcL at e
            split at e <;> omega
        have B2 : m_isBorne N τ = _ := B.2 w
        rw [B2, cal_at, if_pos (by decide)]
        exact ⟨τ, by rw [← g], by rw [← g]; exact h⟩
      · have w : ∀ p : Nat, 0 ≤ p → p < n → po p + j < pcB life (tc p) := by
          intro p _ hp
          have := m.2.2.1 p hp
          unfold pcL at this
          split at this <;> omega
        have B2 : m_isBorne N τ = _ := B.1 w
        obtain ⟨τ1, r1, r2⟩ := po_m' (N := N) (by omega) hn h0 h
        rw [B2, cal_at, if_neg (by decide), r1, cal_at, bnd_at, i_sucI]
        refine ih (j + 1) τ1 (by omega) (by omega) (by omega) ?_
        have e : (fun p => po p + (j + 1)) = (fun p => po p + j + 1) := by funext p; omega
        rw [e]; exact r2
theorem can_m {N : Nat} {σ τ : xS} {n : Nat} {sz tc po : Nat → Int} {life price : Int} (ok : pcOk n sz tc po life price) (hx : pcX σ n sz tc po life price) (hm : pcM τ n sz tc po life price) {a : Int} (a1 : -2147483648 ≤ a) (a2 : a < 2147483648) : (0 < n ∧ 1 ≤ a ∧ a ≤ 1000 → pieces_canPour N (iI a) σ = some (iI 1, σ) ∧ τ.1 16 = iI 1 ∧ m_isIn N (iI a) 1 1000 τ = some (iI 1, τ)) ∧ (¬ (0 < n ∧ 1 ≤ a ∧ a ≤ 1000) → pieces_canPour N (iI a) σ = some (iI 0, σ) ∧ (τ.1 16 = iI 0 ∨ (τ.1 16 = iI 1 ∧ m_isIn N (iI a) 1 1000 τ = some (iI 0, τ)))) := by
  have cx := can_x (N := N) ok.1 hx.1 a1 a2
  have cm : m_isIn N (iI a) 1 1000 τ = _ := isIn_m (N := N) (τ := τ) (a := a) (b := 1) (c := 1000) (by omega) (by omega) (by omega) (by omega) (by omega) (by omega)
  have c16 := hm.1
  refine ⟨fun q => ?_, fun q => ?_⟩
  · rw [if_pos q] at cx
    rw [if_pos q.2] at cm
    rw [if_neg (by omega)] at c16
    exact ⟨cx, c16, cm⟩
  · rw [if_neg q] at cx
    refine ⟨cx, ?_⟩
    by_cases q0 : n = 0
    · rw [if_pos q0] at c16; exact Or.inl c16
    · rw [if_neg q0] at c16
      rw [if_neg (by omega)] at cm
      exact Or.inr ⟨c16, cm⟩
theorem sim_pour {N : Nat} (hN : 1001 < N) (a : Int32) {σ τ : xS} (h : Rwear σ τ) : ∃ (r : Int32) (σ' τ' : xS), cw_pour N a σ = some (r, σ') ∧ m_pour N a τ = some (r, τ') ∧ Rwear σ' τ' := by
  obtain ⟨a, rfl, a1, a2⟩ := iI_ex a
  obtain ⟨n, sz, tc, po, life, price, ok, hx, hm, hw⟩ := id h
  have k := ok.1
  have C := can_m (N := N) ok hx hm a1 a2
  by_cases q : 0 < n ∧ 1 ≤ a ∧ a ≤ 1000
  · have C := C.1 q
    have X1 : pieces_pourWhileBorne N (iI a) σ = _ := pw_x (N := N) (a := a) ok hx (by omega) (by omega) N 0 (by omega) (by omega)
    obtain ⟨σ1, X2, X3⟩ := pa_x (N := N) (sz := sz) (tc := tc) (po := po) (life := life) (price := price) (m := mnP life tc po a n) ok.1 N 0 σ (by omega) (by omega) (by simp only [if_neg (Nat.not_lt_zero _)]; exact hx)
    have X2 : pieces_pourWhileBorne_b30 N N (iI (mnP life tc po a n)) (iI 0) σ = _ := X2
    obtain ⟨τ1, M1, M2⟩ := pour_m (N := N) hN ok q.1 (by omega) q.2.2 N 0 τ (by omega) (mnP_sp (by omega) n).1 (by have := (mnP_sp (life := life) (tc := tc) (po := po) (show 0 ≤ a by omega) n).2.1; omega) (by simp only [Int.add_zero]; exact hm)
    have M1 : m_pour_b22 N N (iI a) 0 τ = _ := M1
    have X : cw_pour N (iI a) σ = some (iI (mnP life tc po a n), σ1) := by
      unfold cw_pour
      rw [C.1, cal_at, if_neg (by decide), X1, X2, cal_at]
    have M : m_pour N (iI a) τ = some (iI (mnP life tc po a n), τ1) := by
      unfold m_pour
      rw [C.2.1, if_neg (by decide), C.2.2, cal_at, if_neg (by decide), M1]
    have D2 := f_cw_pour X
    have E2 := f_m_pour M
    refine ⟨_, _, _, X, M, n, sz, tc, _, life, price, ⟨ok.1, fun p hp => ?_, ok.2.2⟩, X3, M2, ?_⟩
    · have o := ok.2.1 p hp
      have l := ok.2.2
      have b := pcB_bd (t := tc p) l.2.1 o.2.2.1 o.2.2.2.1 l.1
      have m := mnP_sp (life := life) (tc := tc) (po := po) (show 0 ≤ a by omega) n
      have := m.2.2.1 p hp
      refine ⟨o.1, o.2.1, o.2.2.1, o.2.2.2.1, by show 0 ≤ po p + mnP life tc po a n; omega, ?_⟩
      show po p + mnP life tc po a n ≤ 1000
      unfold pcL at this
      split at this <;> omega
    · rw [D2.2 8 (by decide), E2.2 14 (by decide)]; exact hw
  · have C := C.2 q
    refine ⟨-1, σ, τ, ?_, ?_, h⟩
    · unfold cw_pour
      rw [C.1, cal_at, if_pos (by decide)]
    · unfold m_pour
      rcases C.2 with e | ⟨e, e2⟩
      · rw [e, if_pos (by decide)]
      · rw [e, if_neg (by decide), e2, cal_at, if_pos (by decide)]
