/-! the pieces: how they wear -/
def pcB (life t : Int) : Int := if 1 ≤ life - t then life - t else 1
def pcOk (n : Nat) (sz tc po : Nat → Int) (life price : Int) : Prop := n ≤ 1000 ∧ (∀ p : Nat, p < n → 0 ≤ sz p ∧ sz p ≤ 1000 ∧ 0 ≤ tc p ∧ tc p ≤ 1000 ∧ 0 ≤ po p ∧ po p ≤ 1000) ∧ 1 ≤ life ∧ life ≤ 1000 ∧ 0 ≤ price ∧ price ≤ 100
def pcX (σ : xS) (n : Nat) (sz tc po : Nat → Int) (life price : Int) : Prop := σ.1 11 = iI n ∧ σ.1 12 = iI life ∧ σ.1 13 = iI price ∧ ∀ p : Nat, p < n → σ.2 9 p = iI (sz p) ∧ σ.2 10 p = iI (tc p) ∧ σ.2 11 p = iI (po p)
def pcM (τ : xS) (n : Nat) (sz tc po : Nat → Int) (life price : Int) : Prop := τ.1 16 = iI (if n = 0 then 0 else 1) ∧ (0 < n → τ.1 18 = iI n) ∧ τ.1 19 = iI life ∧ τ.1 20 = iI price ∧ ∀ p : Nat, p < n → τ.2 15 p = iI (sz p) ∧ τ.2 16 p = iI (tc p) ∧ τ.2 17 p = iI (po p)
def Rwear (σ τ : xS) : Prop := ∃ (n : Nat) (sz tc po : Nat → Int) (life price : Int), pcOk n sz tc po life price ∧ pcX σ n sz tc po life price ∧ pcM τ n sz tc po life price ∧ ∀ p : Nat, p < n → σ.2 8 p = τ.2 14 p
theorem Rwear_fr {S T S' T' : List Nat} {σ σ' τ τ' : xS} (h : Rwear σ τ) (f : fr S T σ σ') (g : fr S' T' τ τ') (h1 : 11 ∉ S ∧ 12 ∉ S ∧ 13 ∉ S) (h2 : 8 ∉ T ∧ 9 ∉ T ∧ 10 ∉ T ∧ 11 ∉ T) (h3 : 16 ∉ S' ∧ 18 ∉ S' ∧ 19 ∉ S' ∧ 20 ∉ S') (h4 : 14 ∉ T' ∧ 15 ∉ T' ∧ 16 ∉ T' ∧ 17 ∉ T') : Rwear σ' τ' := by
  obtain ⟨n, sz, tc, po, life, price, ok, a, b, c⟩ := h
  refine ⟨n, sz, tc, po, life, price, ok, ?_, ?_, ?_⟩
  · unfold pcX; rw [f.1 11 h1.1, f.1 12 h1.2.1, f.1 13 h1.2.2, f.2 9 h2.2.1, f.2 10 h2.2.2.1, f.2 11 h2.2.2.2]; exact a
  · unfold pcM; rw [g.1 16 h3.1, g.1 18 h3.2.1, g.1 19 h3.2.2.1, g.1 20 h3.2.2.2, g.2 15 h4.2.1, g.2 16 h4.2.2.1, g.2 17 h4.2.2.2]; exact b
  · rw [f.2 8 h2.1, g.2 14 h4.1]; exact c
theorem pcB_bd {life t : Int} (h1 : life ≤ 1000) (h2 : 0 ≤ t) (h3 : t ≤ 1000) (h4 : 1 ≤ life) : 1 ≤ pcB life t ∧ pcB life t ≤ 1000 := by
  unfold pcB; split <;> omega
theorem has_x {N : Nat} {σ : xS} {n : Nat} {a : Int} (hn : n ≤ 1000) (h : σ.1 11 = iI n) (a1 : -2147483648 ≤ a) (a2 : a < 2147483648) : pieces_has N (iI a) σ = some (iI (if 0 ≤ a ∧ a < n then 1 else 0), σ) := by
  unfold pieces_has
  rw [h]
  simp (disch := omega) only [iI_lit, iI_lt, iI_le]
  by_cases q : a < 0
  · rw [if_pos q, if_neg (by omega)]
  · by_cases q2 : (n : Int) ≤ a
    · rw [if_neg q, if_pos q2, if_neg (by omega)]
    · rw [if_neg q, if_neg q2, if_pos (by omega)]
theorem has_m {N : Nat} {τ : xS} {n : Nat} {a : Int} (hn : n ≤ 1000) (h : τ.1 16 = iI (if n = 0 then 0 else 1)) (h' : 0 < n → τ.1 18 = iI n) (a1 : -2147483648 ≤ a) (a2 : a < 2147483648) : m_isPiece N (iI a) τ = some (iI (if 0 ≤ a ∧ a < n then 1 else 0), τ) := by
  unfold m_isPiece
  rw [h]
  by_cases q0 : n = 0
  · rw [if_pos q0, if_pos (by decide), if_neg (by omega)]; rfl
  · rw [if_neg q0, if_neg (by decide), h' (by omega)]
    simp (disch := omega) only [iI_lit, iI_lt, iI_le]
    by_cases q : a < 0
    · rw [if_pos q, if_neg (by omega)]
    · by_cases q2 : (n : Int) ≤ a
      · rw [if_neg q, if_pos q2, if_neg (by omega)]
      · rw [if_neg q, if_neg q2, if_pos (by omega)]
theorem bear_x {N : Nat} {σ : xS} {n p : Nat} {sz tc po : Nat → Int} {life price : Int} (ok : pcOk n sz tc po life price) (h : pcX σ n sz tc po life price) (hp : p < n) : pieces_borneBy N (iI p) σ = some (iI (pcB life (tc p)), σ) := by
  have o := ok.2.1 p hp
  have k := ok.1
  have l := ok.2.2
  unfold pieces_borneBy pcB
  rw [ald_at (by omega) (by omega) (by omega), Int.toNat_natCast, (h.2.2.2 p hp).2.1, h.2.1, bnd_at]
  simp (disch := omega) only [iI_lit, iI_sub, iI_max]
  by_cases q : 1 < life - tc p
  · rw [if_pos q, if_pos (by omega)]
  · rw [if_neg q]
    by_cases q2 : 1 ≤ life - tc p
    · rw [if_pos q2]; congr 3; omega
    · rw [if_neg q2]
theorem bear_m {N : Nat} {τ : xS} {n p : Nat} {sz tc po : Nat → Int} {life price : Int} (ok : pcOk n sz tc po life price) (h : pcM τ n sz tc po life price) (hp : p < n) : m_bears N (iI p) τ = some (iI (pcB life (tc p)), τ) := by
  have o := ok.2.1 p hp
  have k := ok.1
  have l := ok.2.2
  unfold m_bears pcB
  rw [ald_at (by omega) (by omega) (by omega), ald_at (by omega) (by omega) (by omega), Int.toNat_natCast, (h.2.2.2.2 p hp).2.1, h.2.2.1]
  simp (disch := omega) only [iI_lit, iI_sub, iI_le]
  split <;> rfl
theorem sim_wear {N : Nat} (a b : Int32) {σ τ : xS} (h : Rwear σ τ) : ∃ (r : Int32) (σ' τ' : xS), cw_wear N a b σ = some (r, σ') ∧ m_wear N a b τ = some (r, τ') ∧ Rwear σ' τ' := by
  obtain ⟨a, rfl, a1, a2⟩ := iI_ex a
  obtain ⟨b, rfl, b1, b2⟩ := iI_ex b
  obtain ⟨n, sz, tc, po, life, price, ok, hx, hm, hw⟩ := id h
  unfold cw_wear pieces_setWear m_wear
  simp (disch := omega) only [iI_lit, iI_lt, iI_le, isIn_m, cal_at, put_at]
  by_cases q1 : 1 ≤ a ∧ a ≤ 1000
  · by_cases q2 : 0 ≤ b ∧ b ≤ 100
    · rw [if_neg (by omega), if_neg (by omega), if_neg (by omega), if_pos q2.2, if_pos q1, if_neg n10, if_pos q2, if_neg n10, cal_at, gdb_1]
      exact ⟨_, _, _, rfl, rfl, n, sz, tc, po, a, b, ⟨ok.1, ok.2.1, q1.1, q1.2, q2.1, q2.2⟩, ⟨hx.1, rfl, rfl, hx.2.2.2⟩, ⟨hm.1, hm.2.1, rfl, rfl, hm.2.2.2.2⟩, hw⟩
    · rw [if_neg (by omega), if_neg (by omega), if_pos q1, if_neg n10, if_neg q2, if_pos rfl]
      by_cases q : b < 0
      · rw [if_pos q, cal_at, gdb_0]; exact ⟨_, _, _, rfl, rfl, h⟩
      · rw [if_neg q, if_neg (by omega), cal_at, gdb_0]; exact ⟨_, _, _, rfl, rfl, h⟩
  · rw [if_neg q1, if_pos rfl]
    by_cases q : a < 1
    · rw [if_pos q, cal_at, gdb_0]; exact ⟨_, _, _, rfl, rfl, h⟩
    · rw [if_neg q, if_pos (by omega), cal_at, gdb_0]; exact ⟨_, _, _, rfl, rfl, h⟩
theorem sim_piece {N : Nat} (a b : Int32) {σ τ : xS} (h : Rwear σ τ) : ∃ (r : Int32) (σ' τ' : xS), cw_piece N a b σ = some (r, σ') ∧ m_piece N a b τ = some (r, τ') ∧ Rwear σ' τ' := by
  obtain ⟨a, rfl, a1, a2⟩ := iI_ex a
  obtain ⟨n, sz, tc, po, life, price, ok, hx, hm, hw⟩ := id h
  have k := ok.1
  unfold cw_piece pieces_tell m_piece
  rw [has_x ok.1 hx.1 a1 a2, has_m ok.1 hm.1 hm.2.1 a1 a2, cal_at, cal_at]
  by_cases q : 0 ≤ a ∧ a < n
  · obtain ⟨p, rfl⟩ : ∃ p : Nat, a = p := ⟨a.toNat, by omega⟩
    have hp : p < n := by omega
    have x1 := hx.2.2.2 p hp
    have m1 := hm.2.2.2.2 p hp
    rw [if_pos q, if_neg (show ¬ iI 1 = 0 by decide), if_neg (show ¬ iI 1 = 0 by decide), bear_x ok hx hp, bear_m ok hm hp]
    simp (disch := omega) only [ald_at, Int.toNat_natCast, x1.1, x1.2.1, x1.2.2, m1.1, m1.2.1, m1.2.2, cal_at, hw p hp]
    by_cases c0 : b = 0
    · simp only [if_pos c0, cal_at]; exact ⟨_, _, _, rfl, rfl, h⟩
    · by_cases c1 : b = 1
      · simp only [if_neg c0, if_pos c1, cal_at]; exact ⟨_, _, _, rfl, rfl, h⟩
      · by_cases c2 : b = 2
        · simp only [if_neg c0, if_neg c1, if_pos c2, cal_at]; exact ⟨_, _, _, rfl, rfl, h⟩
        · by_cases c3 : b = 3
          · simp only [if_neg c0, if_neg c1, if_neg c2, if_pos c3, cal_at]; exact ⟨_, _, _, rfl, rfl, h⟩
          · by_cases c4 : b = 4
            · simp only [if_neg c0, if_neg c1, if_neg c2, if_neg c3, if_pos c4, cal_at]; exact ⟨_, _, _, rfl, rfl, h⟩
            · simp only [if_neg c0, if_neg c1, if_neg c2, if_neg c3, if_neg c4, cal_at]; exact ⟨_, _, _, rfl, rfl, h⟩
  · rw [if_neg q, if_pos (by decide), if_pos (by decide), cal_at]; exact ⟨_, _, _, rfl, rfl, h⟩
theorem sim_mend {N : Nat} (a : Int32) {σ τ : xS} (h : Rwear σ τ) : ∃ (r : Int32) (σ' τ' : xS), cw_mend N a σ = some (r, σ') ∧ m_mend N a τ = some (r, τ') ∧ Rwear σ' τ' := by
  obtain ⟨a, rfl, a1, a2⟩ := iI_ex a
  obtain ⟨n, sz, tc, po, life, price, ok, hx, hm, hw⟩ := id h
  have k := ok.1
  unfold cw_mend pieces_mendOne m_mend
  rw [has_x ok.1 hx.1 a1 a2, has_m ok.1 hm.1 hm.2.1 a1 a2, cal_at, cal_at, has_x ok.1 hx.1 a1 a2, cal_at]
  by_cases q : 0 ≤ a ∧ a < n
  · obtain ⟨p, rfl⟩ : ∃ p : Nat, a = p := ⟨a.toNat, by omega⟩
    have hp : p < n := by omega
    have x1 := hx.2.2.2 p hp
    have m1 := hm.2.2.2.2 p hp
    have z1 : (va_up σ.2 11 (upd (σ.2 11) p (iI 0))) 9 p = iI (sz p) := x1.1
    have z2 : (va_up τ.2 17 (upd (τ.2 17) p (iI 0))) 15 p = iI (sz p) := m1.1
    have ee : ∀ f : Nat → Int32, upd f p (0 : Int32) = upd f p (iI 0) := fun _ => rfl
    rw [if_pos q, if_neg (show ¬ iI 1 = 0 by decide), if_neg (show ¬ iI 1 = 0 by decide), if_neg (show ¬ iI 1 = 0 by decide), ast_at (by omega) (by omega) (by omega), ast_at (by omega) (by omega) (by omega), ald_at (by omega) (by omega) (by omega), ald_at (by omega) (by omega) (by omega), Int.toNat_natCast, cal_at, ee, ee]
    dsimp only
    rw [z1, z2, hx.2.2.1, hm.2.2.2.1]
    refine ⟨_, _, _, rfl, rfl, n, sz, tc, (fun j => if j = p then 0 else po j), life, price, ⟨ok.1, fun j hj => ?_, ok.2.2⟩, ⟨hx.1, hx.2.1, hx.2.2.1, fun j hj => ?_⟩, ⟨hm.1, hm.2.1, hm.2.2.1, hm.2.2.2.1, fun j hj => ?_⟩, hw⟩
    · have := ok.2.1 j hj
      refine ⟨this.1, this.2.1, this.2.2.1, this.2.2.2.1, ?_⟩
      by_cases g : j = p
      · simp only [if_pos g]; omega
      · simp only [if_neg g]; exact this.2.2.2.2
    · have := hx.2.2.2 j hj
      refine ⟨this.1, this.2.1, ?_⟩
      show upd (σ.2 11) p (iI 0) j = _
      rw [upd_e]
      by_cases g : j = p
      · simp only [if_pos g]
      · simp only [if_neg g]; exact this.2.2
    · have := hm.2.2.2.2 j hj
      refine ⟨this.1, this.2.1, ?_⟩
      show upd (τ.2 17) p (iI 0) j = _
      rw [upd_e]
      by_cases g : j = p
      · simp only [if_pos g]
      · simp only [if_neg g]; exact this.2.2
  · rw [if_neg q, if_pos (by decide), if_pos (by decide)]; exact ⟨_, _, _, rfl, rfl, h⟩
