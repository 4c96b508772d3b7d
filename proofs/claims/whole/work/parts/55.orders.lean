/-- the orders: pours (0: none), due, weight, dry -/
abbrev oS : Type := (Nat → Int) × (Nat → Int) × (Nat → Int) × Int
def oOk (s : oS) : Prop := (∀ o : Nat, o < 10 → 0 ≤ s.1 o ∧ s.1 o ≤ 50 ∧ (0 < s.1 o → 0 ≤ s.2.1 o ∧ s.2.1 o ≤ 1000 ∧ 1 ≤ s.2.2.1 o ∧ s.2.2.1 o ≤ 100)) ∧ 0 ≤ s.2.2.2 ∧ s.2.2.2 ≤ 100
def oX (σ : xS) (s : oS) : Prop := (∀ o : Nat, o < 10 → σ.2 18 o = iI (s.1 o) ∧ (0 < s.1 o → σ.2 19 o = iI (s.2.1 o) ∧ σ.2 20 o = iI (s.2.2.1 o))) ∧ σ.1 15 = iI s.2.2.2
def oM (τ : xS) (s : oS) : Prop := (∀ o : Nat, o < 10 → τ.2 18 o = iI (if 0 < s.1 o then 1 else 0) ∧ (0 < s.1 o → τ.2 19 o = iI (s.1 o) ∧ τ.2 20 o = iI (s.2.1 o) ∧ τ.2 21 o = iI (s.2.2.1 o))) ∧ τ.1 21 = iI s.2.2.2
def Rord (σ τ : xS) : Prop := ∃ s : oS, oOk s ∧ oX σ s ∧ oM τ s
def Rrow (σ τ : xS) : Prop := ∃ n : Nat, n ≤ 10 ∧ σ.1 16 = iI n ∧ τ.1 22 = iI n ∧ ∀ i : Nat, i < n → σ.2 23 i = τ.2 23 i ∧ σ.2 24 i = τ.2 24 i
theorem Rord_fr {S T S' T' : List Nat} {σ σ' τ τ' : xS} (h : Rord σ τ) (f : fr S T σ σ') (g : fr S' T' τ τ') (h1 : 15 ∉ S) (h2 : 18 ∉ T ∧ 19 ∉ T ∧ 20 ∉ T) (h3 : 21 ∉ S') (h4 : 18 ∉ T' ∧ 19 ∉ T' ∧ 20 ∉ T' ∧ 21 ∉ T') : Rord σ' τ' := by
  obtain ⟨s, ok, a, b⟩ := h
  refine ⟨s, ok, ⟨fun o ho => ?_, ?_⟩, ⟨fun o ho => ?_, ?_⟩⟩
  · rw [f.2 18 h2.1, f.2 19 h2.2.1, f.2 20 h2.2.2]; exact a.1 o ho
  · rw [f.1 15 h1]; exact a.2
  · rw [g.2 18 h4.1, g.2 19 h4.2.1, g.2 20 h4.2.2.1, g.2 21 h4.2.2.2]; exact b.1 o ho
  · rw [g.1 21 h3]; exact b.2
theorem Rrow_fr {S T S' T' : List Nat} {σ σ' τ τ' : xS} (h : Rrow σ τ) (f : fr S T σ σ') (g : fr S' T' τ τ') (h1 : 16 ∉ S) (h2 : 23 ∉ T ∧ 24 ∉ T) (h3 : 22 ∉ S') (h4 : 23 ∉ T' ∧ 24 ∉ T') : Rrow σ' τ' := by
  obtain ⟨n, a, b, c, d⟩ := h
  exact ⟨n, a, by rw [f.1 16 h1]; exact b, by rw [g.1 22 h3]; exact c, fun i hi => by rw [f.2 23 h2.1, f.2 24 h2.2, g.2 23 h4.1, g.2 24 h4.2]; exact d i hi⟩
theorem sim_dry {N : Nat} (a : Int32) {σ τ : xS} (h : Rord σ τ) : ∃ (r : Int32) (σ' τ' : xS), cw_dry N a σ = some (r, σ') ∧ m_dry N a τ = some (r, τ') ∧ Rord σ' τ' := by
  obtain ⟨a, rfl, a1, a2⟩ := iI_ex a
  obtain ⟨s, ok, hx, hm⟩ := id h
  unfold cw_dry orders_setDry m_dry
  rw [hx.2]
  simp (disch := omega) only [iI_lit, iI_lt, iI_le, isIn_m, cal_at, put_at, bnd_at, hm.2]
  by_cases q : 0 ≤ a ∧ a ≤ 100
  · rw [if_neg (by omega), if_pos q.2, if_pos q, if_neg n10, cal_at]
    exact ⟨_, _, _, rfl, rfl, (s.1, s.2.1, s.2.2.1, a), ⟨ok.1, q⟩, ⟨hx.1, rfl⟩, ⟨hm.1, rfl⟩⟩
  · rw [if_neg q, if_pos rfl]
    by_cases q2 : a < 0
    · rw [if_pos q2, cal_at]; exact ⟨_, _, _, rfl, rfl, h⟩
    · rw [if_neg q2, if_neg (by omega), cal_at]; exact ⟨_, _, _, rfl, rfl, h⟩
theorem order_x0 {N : Nat} (hN : 0 < N) (a b c : Int32) {σ : xS} : orders_add_b43 N N a b c 0 0 σ = some (-1, σ) := by
  obtain ⟨n, rfl⟩ : ∃ n, N = n + 1 := ⟨N - 1, by omega⟩
  rw [orders_add_b43, if_neg (by decide), if_pos rfl]
theorem order_xm {N : Nat} {a b c : Int} (ha : 1 ≤ a ∧ a ≤ 50) (hb : 0 ≤ b ∧ b ≤ 1000) (hc : 1 ≤ c ∧ c ≤ 100) {σ τ : xS} {s : oS} (ok : oOk s) (hx : oX σ s) (hm : oM τ s) : ∀ (n k : Nat), k ≤ 10 → 10 < k + n → ∃ (r : Int32) (σ' τ' : xS), orders_add_b43 N n (iI a) (iI b) (iI c) (iI 1) (iI k) σ = some (r, σ') ∧ m_order_b36 N n (iI a) (iI b) (iI c) (iI k) τ = some (r, τ') ∧ Rord σ' τ' := by
  intro n
  induction n with
  | zero => intro k h1 h2; omega
  | succ n ih =>
    intro k h1 h2
    rw [orders_add_b43, m_order_b36]
    unfold m_order_b59
    simp (disch := omega) only [iI_lit, iI_le, iI_eq, bnd_at, iI_add]
    by_cases q : (10 : Int) ≤ k
    · rw [if_pos q, if_pos q, if_pos (by omega)]
      exact ⟨_, _, _, rfl, rfl, s, ok, hx, hm⟩
    · rw [if_neg q, if_neg q, if_neg (by decide)]
      have o1 := ok.1 (k : Int).toNat (by omega)
      have x1 := hx.1 (k : Int).toNat (by omega)
      have m1 := hm.1 (k : Int).toNat (by omega)
      simp (disch := omega) only [ald_at, x1.1, m1.1, iI_eq, ast_at]
      by_cases e : s.1 (k : Int).toNat = 0
      · rw [if_pos e, if_neg (show ¬ 0 < s.1 (k : Int).toNat by omega), if_pos rfl, if_neg (show ¬ (k : Int) = 10 by omega)]
        refine ⟨_, _, _, rfl, rfl, ((fun j => if j = k then a else s.1 j), (fun j => if j = k then b else s.2.1 j), (fun j => if j = k then c else s.2.2.1 j), s.2.2.2), ⟨fun o ho => ?_, ok.2⟩, ⟨fun o ho => ?_, hx.2⟩, ⟨fun o ho => ?_, hm.2⟩⟩
        · by_cases g : o = k
          · simp only [if_pos g]; exact ⟨by omega, by omega, fun _ => ⟨hb.1, hb.2, hc.1, hc.2⟩⟩
          · simp only [if_neg g]; exact ok.1 o ho
        · have x2 := hx.1 o ho
          simp only [va_up, upd_e, Int.toNat_natCast, nb_0, nb_1]
          by_cases g : o = k
          · simp [upd_e, g]
          · simp [upd_e, g]; exact x2
        · have m2 := hm.1 o ho
          simp only [va_up, upd_e, Int.toNat_natCast, nb_0, nb_1]
          by_cases g : o = k
          · simp [upd_e, g, show 0 < a by omega]
          · simp [upd_e, g]; exact m2
      · rw [if_neg e, if_pos (show 0 < s.1 (k : Int).toNat by omega), if_neg (by decide)]
        exact ih (k + 1) (by omega) (by omega)
theorem sim_order {N : Nat} (hN : 11 < N) (a b c : Int32) {σ τ : xS} (h : Rord σ τ) : ∃ (r : Int32) (σ' τ' : xS), cw_order N a b c σ = some (r, σ') ∧ m_order N a b c τ = some (r, τ') ∧ Rord σ' τ' := by
  obtain ⟨s, ok, hx, hm⟩ := id h
  unfold cw_order orders_add m_order
  simp only [order_x0 (show 0 < N by omega)]
  obtain ⟨a, rfl, a1, a2⟩ := iI_ex a
  obtain ⟨b, rfl, b1, b2⟩ := iI_ex b
  obtain ⟨c, rfl, c1, c2⟩ := iI_ex c
  simp (disch := omega) only [iI_lit, iI_lt, isIn_m, cal_at]
  have fin : ∀ τ1 : xS, τ1 = τ → ∃ (r : Int32) (σ' τ' : xS), cal (some (iI (-1), σ)) (fun v1 σ2 => some (v1, σ2)) = some (r, σ') ∧ some (iI (-1), τ1) = some (r, τ') ∧ Rord σ' τ' := fun τ1 e => ⟨_, _, _, rfl, rfl, by rw [e]; exact h⟩
  by_cases q1 : 1 ≤ a ∧ a ≤ 50
  · rw [if_neg (by omega), if_neg (by omega), if_pos q1, if_neg n10]
    by_cases q2 : 0 ≤ b ∧ b ≤ 1000
    · rw [if_neg (by omega), if_neg (by omega), if_pos q2, if_neg n10]
      by_cases q3 : 1 ≤ c ∧ c ≤ 100
      · rw [if_neg (by omega), if_neg (by omega), if_pos q3, if_neg n10]
        obtain ⟨r, σ', τ', g1, g2, g3⟩ := order_xm (N := N) q1 q2 q3 ok hx hm N 0 (by omega) (by omega)
        have g1 : orders_add_b43 N N (iI a) (iI b) (iI c) (iI 1) (iI 0) σ = some (r, σ') := g1
        have g2 : m_order_b36 N N (iI a) (iI b) (iI c) (iI 0) τ = some (r, τ') := g2
        rw [g1, g2]
        exact ⟨_, _, _, rfl, rfl, g3⟩
      · rw [if_neg q3, if_pos rfl]
        by_cases q : c < 1
        · rw [if_pos q]; exact fin τ rfl
        · rw [if_neg q, if_pos (by omega)]; exact fin τ rfl
    · rw [if_neg q2, if_pos rfl]
      by_cases q : b < 0
      · rw [if_pos q]; exact fin τ rfl
      · rw [if_neg q, if_pos (by omega)]; exact fin τ rfl
  · rw [if_neg q1, if_pos rfl]
    by_cases q : a < 1
    · rw [if_pos q]; exact fin τ rfl
    · rw [if_neg q, if_pos (by omega)]; exact fin τ rfl
theorem sim_cancel {N : Nat} (a : Int32) {σ τ : xS} (h : Rord σ τ) : ∃ (r : Int32) (σ' τ' : xS), cw_cancel N a σ = some (r, σ') ∧ m_cancel N a τ = some (r, τ') ∧ Rord σ' τ' := by
  obtain ⟨a, rfl, a1, a2⟩ := iI_ex a
  obtain ⟨s, ok, hx, hm⟩ := id h
  unfold cw_cancel orders_remove m_cancel
  simp (disch := omega) only [iI_lit, iI_lt, iI_le]
  by_cases q : a < 0
  · rw [if_pos q, if_pos q, cal_at, gdb_0]; exact ⟨_, _, _, rfl, rfl, h⟩
  · rw [if_neg q, if_neg q]
    by_cases q2 : 10 ≤ a
    · rw [if_pos q2, if_pos (by omega), cal_at, gdb_0]; exact ⟨_, _, _, rfl, rfl, h⟩
    · rw [if_neg q2, if_neg (by omega)]
      have o1 := ok.1 a.toNat (by omega)
      have x1 := hx.1 a.toNat (by omega)
      have m1 := hm.1 a.toNat (by omega)
      simp (disch := omega) only [ald_at, x1.1, m1.1, iI_eq, ast_at]
      by_cases e : s.1 a.toNat = 0
      · rw [if_pos e, if_neg (show ¬ 0 < s.1 a.toNat by omega), if_pos rfl, cal_at, gdb_0]; exact ⟨_, _, _, rfl, rfl, h⟩
      · rw [if_neg e, if_pos (show 0 < s.1 a.toNat by omega), if_neg (by decide), cal_at, gdb_1]
        refine ⟨_, _, _, rfl, rfl, ((fun j => if j = a.toNat then 0 else s.1 j), s.2), ⟨fun o ho => ?_, ok.2⟩, ⟨fun o ho => ?_, hx.2⟩, ⟨fun o ho => ?_, hm.2⟩⟩
        · by_cases g : o = a.toNat
          · simp only [if_pos g]; exact ⟨by omega, by omega, fun z => by omega⟩
          · simp only [if_neg g]; exact ok.1 o ho
        · have x2 := hx.1 o ho
          simp only [va_up, upd_e, nb_0, nb_1]
          by_cases g : o = a.toNat
          · simp [upd_e, g]
          · simp [upd_e, g]; exact x2
        · have m2 := hm.1 o ho
          simp only [va_up, upd_e, nb_0, nb_1]
          by_cases g : o = a.toNat
          · simp [upd_e, g]
          · simp [upd_e, g]; exact m2
theorem sim_next {N : Nat} (a : Int32) {σ τ : xS} (h : Rrow σ τ) : ∃ (r : Int32) (σ' τ' : xS), cw_next N a σ = some (r, σ') ∧ m_next_ N a τ = some (r, τ') ∧ Rrow σ' τ' := by
  obtain ⟨a, rfl, a1, a2⟩ := iI_ex a
  obtain ⟨n, hn, h1, h2, h3⟩ := id h
  unfold cw_next orders_rowNumber m_next_
  rw [h1, h2]
  simp (disch := omega) only [iI_lit, iI_lt, iI_le]
  by_cases q : a < 0
  · rw [if_pos q, if_pos q]; exact ⟨_, _, _, rfl, rfl, h⟩
  · rw [if_neg q, if_neg q]
    by_cases q2 : (n : Int) ≤ a
    · rw [if_pos q2, if_pos q2]; exact ⟨_, _, _, rfl, rfl, h⟩
    · rw [if_neg q2, if_neg q2]
      simp (disch := omega) only [ald_at, (h3 a.toNat (by omega)).1, cal_at]
      exact ⟨_, _, _, rfl, rfl, h⟩
theorem sim_late {N : Nat} (a : Int32) {σ τ : xS} (h : Rrow σ τ) : ∃ (r : Int32) (σ' τ' : xS), cw_late N a σ = some (r, σ') ∧ m_late N a τ = some (r, τ') ∧ Rrow σ' τ' := by
  obtain ⟨a, rfl, a1, a2⟩ := iI_ex a
  obtain ⟨n, hn, h1, h2, h3⟩ := id h
  unfold cw_late orders_rowLateness m_late
  rw [h1, h2]
  simp (disch := omega) only [iI_lit, iI_lt, iI_le]
  by_cases q : a < 0
  · rw [if_pos q, if_pos q]; exact ⟨_, _, _, rfl, rfl, h⟩
  · rw [if_neg q, if_neg q]
    by_cases q2 : (n : Int) ≤ a
    · rw [if_pos q2, if_pos q2]; exact ⟨_, _, _, rfl, rfl, h⟩
    · rw [if_neg q2, if_neg q2]
      simp (disch := omega) only [ald_at, (h3 a.toNat (by omega)).2, cal_at]
      exact ⟨_, _, _, rfl, rfl, h⟩
