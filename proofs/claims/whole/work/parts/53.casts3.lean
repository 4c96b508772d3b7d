def Rcast (σ τ : xS) : Prop := ∃ s : cS, cOk s ∧ cX σ s ∧ cM τ s
theorem Rcast_fr {S T S' T' : List Nat} {σ σ' τ τ' : xS} (h : Rcast σ τ) (f : fr S T σ σ') (g : fr S' T' τ τ') (h1 : 17 ∉ S ∧ 18 ∉ S ∧ 19 ∉ S) (h2 : 25 ∉ T ∧ 26 ∉ T) (h3 : 23 ∉ S' ∧ 24 ∉ S' ∧ 25 ∉ S') (h4 : 25 ∉ T' ∧ 26 ∉ T') : Rcast σ' τ' := by
  obtain ⟨s, ok, a, b⟩ := h
  refine ⟨s, ok, ⟨fun c hc => ?_, ?_, ?_, ?_⟩, ⟨fun c hc => ?_, ?_, ?_, ?_⟩⟩
  · rw [f.2 25 h2.1, f.2 26 h2.2]; exact a.1 c hc
  · rw [f.1 17 h1.1]; exact a.2.1
  · rw [f.1 18 h1.2.1]; exact a.2.2.1
  · rw [f.1 19 h1.2.2]; exact a.2.2.2
  · rw [g.2 25 h4.1, g.2 26 h4.2]; exact b.1 c hc
  · rw [g.1 23 h3.1]; exact b.2.1
  · rw [g.1 24 h3.2.1]; exact b.2.2.1
  · rw [g.1 25 h3.2.2]; exact b.2.2.2
theorem cS_set {σ : xS} {s : cS} {c : Int} {z d : Int} (c1 : 0 ≤ c) (c2 : c < 12) {e : Int32} (he : 0 < z → e = iI d) (h : ∀ k : Nat, k < 12 → σ.2 25 k = iI (s.1 k) ∧ (0 < s.1 k → σ.2 26 k = iI (s.2.1 k))) :
    ∀ k : Nat, k < 12 → (va_up (va_up σ.2 25 (upd (σ.2 25) c.toNat (iI z))) 26 (upd (va_up σ.2 25 (upd (σ.2 25) c.toNat (iI z)) 26) c.toNat e)) 25 k = iI ((fun j => if j = c.toNat then z else s.1 j) k) ∧ (0 < (fun j => if j = c.toNat then z else s.1 j) k → (va_up (va_up σ.2 25 (upd (σ.2 25) c.toNat (iI z))) 26 (upd (va_up σ.2 25 (upd (σ.2 25) c.toNat (iI z)) 26) c.toNat e)) 26 k = iI ((fun j => if j = c.toNat then d else s.2.1 j) k)) := by
  intro k hk
  have h0 := h k hk
  rw [va_up_n _ _ (by decide : (25 : Nat) ≠ 26), va_up_s, va_up_s, va_up_n _ _ (by decide : (26 : Nat) ≠ 25)]
  by_cases e1 : k = c.toNat
  · simp only [upd, if_pos e1]
    exact ⟨trivial, fun q => he q⟩
  · simp only [upd, if_neg e1]
    exact h0
theorem cOk_set {s : cS} {c : Int} {z d : Int} (ok : cOk s) (z1 : 0 ≤ z) (z2 : z ≤ 100000) (hd : 0 < z → 0 ≤ d ∧ d ≤ 1000) : cOk ((fun j => if j = c.toNat then z else s.1 j), (fun j => if j = c.toNat then d else s.2.1 j), s.2.2) := by
  refine ⟨fun k hk => ?_, ok.2⟩
  have h0 := ok.1 k hk
  by_cases e1 : k = c.toNat
  · simp only [if_pos e1]; exact ⟨z1, z2, hd⟩
  · simp only [if_neg e1]; exact h0
theorem isIn_m {N : Nat} {τ : xS} {a b c : Int} (h1 : -2147483648 ≤ a) (h2 : a < 2147483648) (h3 : -2147483648 ≤ b) (h4 : b < 2147483648) (h5 : -2147483648 ≤ c) (h6 : c < 2147483648) : m_isIn N (iI a) (iI b) (iI c) τ = some (iI (if b ≤ a ∧ a ≤ c then 1 else 0), τ) := by
  unfold m_isIn
  simp (disch := omega) only [iI_lit, iI_lt]
  by_cases e : a < b
  · rw [if_pos e, if_neg (by omega)]
  · rw [if_neg e]
    by_cases f : c < a
    · rw [if_pos f, if_neg (by omega)]
    · rw [if_neg f, if_pos (by omega)]
theorem n10 : ¬ iI 1 = iI 0 := by decide
theorem sim_cast {N : Nat} (a b d : Int32) {σ τ : xS} (h : Rcast σ τ) : ∃ (r : Int32) (σ' τ' : xS), cw_cast N a b d σ = some (r, σ') ∧ m_cast N a b d τ = some (r, τ') ∧ Rcast σ' τ' := by
  obtain ⟨a, rfl, a1, a2⟩ := iI_ex a
  obtain ⟨b, rfl, b1, b2⟩ := iI_ex b
  obtain ⟨d, rfl, d1, d2⟩ := iI_ex d
  obtain ⟨s, ok, hx, hm⟩ := id h
  unfold cw_cast finds_set m_cast finds_set_b39
  simp (disch := omega) only [iI_lit, iI_lt, iI_le, isIn_m, cal_at]
  by_cases q1 : a < 0
  · simp only [if_pos q1, cal_at, gdb_0]; exact ⟨_, _, _, rfl, rfl, h⟩
  · simp only [if_neg q1]
    by_cases q2 : 12 ≤ a
    · simp only [if_pos q2, cal_at, gdb_0]; exact ⟨_, _, _, rfl, rfl, h⟩
    · simp only [if_neg q2]
      by_cases q3 : b < 0
      · rw [if_pos q3, if_neg (show ¬ (0 ≤ b ∧ b ≤ 100000) by omega), if_pos rfl]
        simp only [cal_at, gdb_0]; exact ⟨_, _, _, rfl, rfl, h⟩
      · simp only [if_neg q3]
        by_cases q4 : b ≤ 100000
        · rw [if_pos (show 0 ≤ b ∧ b ≤ 100000 by omega), if_neg n10]
          simp only [if_pos q4]
          simp (disch := omega) only [ast_at]
          by_cases q5 : b ≤ 0
          · simp only [if_pos q5, cal_at, gdb_1]
            exact ⟨_, _, _, rfl, rfl, _, cOk_set (c := a) (d := 0) ok (by omega) q4 (fun q => by omega), ⟨cS_set (by omega) (by omega) (fun q => by omega) hx.1, hx.2⟩, ⟨cS_set (by omega) (by omega) (fun q => by omega) hm.1, hm.2⟩⟩
          · simp only [if_neg q5]
            by_cases q6 : d < 0
            · rw [if_pos q6, if_neg (show ¬ (0 ≤ d ∧ d ≤ 1000) by omega), if_pos rfl]
              simp only [cal_at, gdb_0]; exact ⟨_, _, _, rfl, rfl, h⟩
            · simp only [if_neg q6]
              by_cases q7 : d ≤ 1000
              · rw [if_pos q7, if_pos (show 0 ≤ d ∧ d ≤ 1000 by omega), if_neg n10]
                simp only [cal_at, gdb_1]
                exact ⟨_, _, _, rfl, rfl, _, cOk_set (c := a) (d := d) ok (by omega) q4 (fun q => by omega), ⟨cS_set (by omega) (by omega) (fun q => rfl) hx.1, hx.2⟩, ⟨cS_set (by omega) (by omega) (fun q => rfl) hm.1, hm.2⟩⟩
              · rw [if_neg q7, if_neg (show ¬ (0 ≤ d ∧ d ≤ 1000) by omega), if_pos rfl]
                simp only [cal_at, gdb_0]; exact ⟨_, _, _, rfl, rfl, h⟩
        · rw [if_neg q4, if_neg (show ¬ (0 ≤ b ∧ b ≤ 100000) by omega), if_pos rfl]
          simp only [cal_at, gdb_0]; exact ⟨_, _, _, rfl, rfl, h⟩
theorem sim_copies {N : Nat} (a b d : Int32) {σ τ : xS} (h : Rcast σ τ) : ∃ (r : Int32) (σ' τ' : xS), cw_copies N a b d σ = some (r, σ') ∧ m_copies N a b d τ = some (r, τ') ∧ Rcast σ' τ' := by
  obtain ⟨a, rfl, a1, a2⟩ := iI_ex a
  obtain ⟨b, rfl, b1, b2⟩ := iI_ex b
  obtain ⟨d, rfl, d1, d2⟩ := iI_ex d
  obtain ⟨s, ok, hx, hm⟩ := id h
  unfold cw_copies finds_setCopying m_copies
  simp (disch := omega) only [iI_lit, iI_lt, iI_le, isIn_m, cal_at, put_at]
  by_cases q1 : 900 ≤ a ∧ a ≤ 1000
  · simp only [if_neg (show ¬ a < 900 by omega), if_neg (show ¬ 1000 < a by omega), if_pos q1, if_neg n10]
    by_cases q2 : 0 ≤ b ∧ b ≤ 1000
    · simp only [if_neg (show ¬ b < 0 by omega), if_neg (show ¬ 1000 < b by omega), if_pos q2, if_neg n10]
      by_cases q3 : 0 ≤ d ∧ d ≤ 100000
      · simp only [if_neg (show ¬ d < 0 by omega), if_pos (show d ≤ 100000 by omega), if_pos q3, if_neg n10, cal_at, gdb_1]
        exact ⟨_, _, _, rfl, rfl, (s.1, s.2.1, a, b, d), ⟨ok.1, q1.1, q1.2, q2.1, q2.2, q3.1, q3.2⟩, ⟨hx.1, rfl, rfl, rfl⟩, ⟨hm.1, rfl, rfl, rfl⟩⟩
      · rw [if_neg q3, if_pos rfl]
        by_cases q4 : d < 0
        · simp only [if_pos q4, cal_at, gdb_0]; exact ⟨_, _, _, rfl, rfl, h⟩
        · simp only [if_neg q4, if_neg (show ¬ d ≤ 100000 by omega), cal_at, gdb_0]; exact ⟨_, _, _, rfl, rfl, h⟩
    · rw [if_neg q2, if_pos rfl]
      by_cases q4 : b < 0
      · simp only [if_pos q4, cal_at, gdb_0]; exact ⟨_, _, _, rfl, rfl, h⟩
      · simp only [if_neg q4, if_pos (show 1000 < b by omega), cal_at, gdb_0]; exact ⟨_, _, _, rfl, rfl, h⟩
  · rw [if_neg q1, if_pos rfl]
    by_cases q4 : a < 900
    · simp only [if_pos q4, cal_at, gdb_0]; exact ⟨_, _, _, rfl, rfl, h⟩
    · simp only [if_neg q4, if_pos (show 1000 < a by omega), cal_at, gdb_0]; exact ⟨_, _, _, rfl, rfl, h⟩
theorem sim_mother {N : Nat} (hN : 12 < N) (a : Int32) {σ τ : xS} (h : Rcast σ τ) : ∃ (r : Int32) (σ' τ' : xS), cw_mother N a σ = some (r, σ') ∧ m_mother N a τ = some (r, τ') ∧ Rcast σ' τ' := by
  obtain ⟨a, rfl, a1, a2⟩ := iI_ex a
  obtain ⟨s, ok, hx, hm⟩ := id h
  have b := cMt_bd ok a
  unfold cw_mother
  simp (disch := omega) only [iI_lit, iI_neg, cHas_x ok hx, cMt_x hN ok hx, cMt_m hN ok hm, cal_at, iI_eq]
  by_cases q : cHas s a
  · rw [if_pos q, if_neg (by decide), if_pos q]
    by_cases e : cMt s a = -1
    · rw [if_pos e, if_pos e]; exact ⟨_, _, _, rfl, rfl, h⟩
    · rw [if_neg e, if_neg e]; exact ⟨_, _, _, rfl, rfl, h⟩
  · rw [if_neg q, if_pos rfl, if_neg q]; exact ⟨_, _, _, rfl, rfl, h⟩
theorem sim_steps {N : Nat} (hN : 100 < N) (hN2 : N < 1000000000) (a : Int32) {σ τ : xS} (h : Rcast σ τ) : ∃ (r : Int32) (σ' τ' : xS), cw_steps N a σ = some (r, σ') ∧ m_steps N a τ = some (r, τ') ∧ Rcast σ' τ' := by
  obtain ⟨a, rfl, a1, a2⟩ := iI_ex a
  obtain ⟨s, ok, hx, hm⟩ := id h
  have b := cMt_bd ok a
  unfold cw_steps finds_stepsFrom m_steps
  simp (disch := omega) only [iI_lit, iI_neg, cHas_x ok hx, cHas_m ok hm, cMt_x (show 12 < N by omega) ok hx, cMt_m (show 12 < N by omega) ok hm, cal_at]
  by_cases q : cHas s a
  · rw [if_pos q, if_neg n10, if_neg n10, if_pos q]
    have e1 := cSt_x (N := N) (by omega) ok hx N 0 (cMt s a) 0 (by omega) (by omega) (by omega) (by omega) b.1 b.2.1
    have e2 := cSt_m (N := N) (by omega) ok hm N 0 (cMt s a) (by omega) (by
      by_cases e : cMt s a = -1
      · exact Or.inl e
      · have := cRk_le s (cMt s a) 12
        exact Or.inr ⟨(b.2.2 e).1, by omega⟩) (by omega) (by omega)
    have e1 : finds_stepsFrom_b11 N N (iI 0) (iI (cMt s a)) (iI 0) σ = some (iI (0 + cSp s 12 (cMt s a)), σ) := e1
    rw [e1, e2, cal_at]
    have e3 : cSp s 12 (cMt s a) = cSp s N (cMt s a) := by
      refine cSp_eq ok 12 N (cMt s a) ?_ ?_ (by omega) (by omega)
      · by_cases e : cMt s a = -1
        · exact Or.inl e
        · have f := b.2.2 e
          have r := cRk_lt f.1 f.2.2 12
          have := cRk_le s a 12
          rw [if_pos (by omega)] at r
          exact Or.inr (by omega)
      · by_cases e : cMt s a = -1
        · exact Or.inl e
        · have := cRk_le s (cMt s a) 12
          exact Or.inr (by omega)
    rw [e3]
    exact ⟨_, _, _, rfl, rfl, h⟩
  · rw [if_neg q, if_pos rfl, if_pos rfl]; exact ⟨_, _, _, rfl, rfl, h⟩
def cN0 (s : cS) : Nat → Int
  | 0 => 0
  | k + 1 => cN0 s k + if cHas s k ∧ cMt s k = -1 then 1 else 0
def cN1 (s : cS) : Nat → Int
  | 0 => 0
  | k + 1 => cN1 s k + if cMt s k = -1 then 0 else cQ s k (cMt s k)
theorem cN0_x {N : Nat} {σ : xS} {s : cS} (hN : 12 < N) (ok : cOk s) (h : cX σ s) : ∀ (n k : Nat), k ≤ 12 → 12 < k + n → finds_countMotherless_b4 N n (iI (cN0 s k)) (iI k) σ = some (iI (cN0 s 12), σ) := by
  intro n
  induction n with
  | zero => intro k h1 h2; omega
  | succ n ih =>
    intro k h1 h2
    rw [finds_countMotherless_b4]
    have b := cMt_bd ok k
    simp (disch := omega) only [iI_lit, iI_neg, iI_le, cHas_x ok h, cMt_x hN ok h, cal_at, bnd_at, iI_add, iI_eq]
    by_cases a : (12 : Int) ≤ k
    · rw [if_pos a, show k = 12 by omega]
    · rw [if_neg a]
      have g := ih (k + 1) (by omega) (by omega)
      rw [cN0] at g
      by_cases d : cHas s k
      · rw [if_pos d, if_neg (by decide)]
        by_cases e : cMt s k = -1
        · rw [if_pos e]; rw [if_pos ⟨d, e⟩] at g; exact g
        · rw [if_neg e]; rw [if_neg (fun z => e z.2)] at g; exact g
      · rw [if_neg d, if_pos rfl]; rw [if_neg (fun z => d z.1)] at g; exact g
theorem cN0_m {N : Nat} {τ : xS} {s : cS} (hN : 12 < N) (ok : cOk s) (h : cM τ s) : ∀ (n k : Nat), k ≤ 12 → 12 < k + n → m_told_b15 N n (iI 0) (iI (cN0 s k)) (iI k) τ = some (iI (cN0 s 12), τ) := by
  intro n
  induction n with
  | zero => intro k h1 h2; omega
  | succ n ih =>
    intro k h1 h2
    rw [m_told_b15]
    have b := cMt_bd ok k
    unfold m_told_b51
    simp (disch := omega) only [iI_lit, iI_le, cHas_m ok h, cMt_m hN ok h, cal_at, bnd_at, iI_add]
    simp only [if_true, if_neg (show ¬ iI 0 = iI 1 by decide)]
    by_cases a : (12 : Int) ≤ k
    · rw [if_pos a, show k = 12 by omega]
    · rw [if_neg a]
      have g := ih (k + 1) (by omega) (by omega)
      rw [cN0] at g
      by_cases d : cHas s k
      · rw [if_pos d, if_neg n10]
        by_cases e : cMt s k = -1
        · rw [if_pos d, if_pos e, if_neg (show ¬ (0 : Int) ≤ -2 by decide)]; rw [if_pos ⟨d, e⟩] at g; exact g
        · rw [if_pos d, if_neg e, if_pos (show 0 ≤ cMt s k by omega)]; rw [if_neg (fun z => e z.2), Int.add_zero] at g; exact g
      · rw [if_neg d, if_pos rfl]; rw [if_neg (fun z => d z.1), Int.add_zero] at g; exact g
theorem cN1_x {N : Nat} {σ : xS} {s : cS} (hN : 12 < N) (ok : cOk s) (h : cX σ s) : ∀ (n k : Nat), k ≤ 12 → 12 < k + n → finds_sumQuarrels_b4 N n (iI (cN1 s k)) (iI k) σ = some (iI (cN1 s 12), σ) := by
  intro n
  induction n with
  | zero => intro k h1 h2; omega
  | succ n ih =>
    intro k h1 h2
    rw [finds_sumQuarrels_b4]
    have b := cMt_bd ok k
    simp (disch := omega) only [iI_lit, iI_neg, iI_le, cMt_x hN ok h, cal_at, bnd_at, iI_add, iI_eq]
    by_cases a : (12 : Int) ≤ k
    · rw [if_pos a, show k = 12 by omega]
    · rw [if_neg a]
      have g := ih (k + 1) (by omega) (by omega)
      rw [cN1] at g
      by_cases e : cMt s k = -1
      · rw [if_pos e]; rw [if_pos e] at g; exact g
      · have f := b.2.2 e
        rw [if_neg e, cQ_x ok h f.2.1 f.1]; rw [if_neg e] at g
        simp only [cal_at, iI_add]
        exact g
theorem cN1_m {N : Nat} {τ : xS} {s : cS} (hN : 12 < N) (ok : cOk s) (h : cM τ s) : ∀ (n k : Nat), k ≤ 12 → 12 < k + n → m_told_b15 N n (iI 1) (iI (cN1 s k)) (iI k) τ = some (iI (cN1 s 12), τ) := by
  intro n
  induction n with
  | zero => intro k h1 h2; omega
  | succ n ih =>
    intro k h1 h2
    rw [m_told_b15]
    have b := cMt_bd ok k
    unfold m_told_b51
    simp (disch := omega) only [iI_lit, iI_le, cHas_m ok h, cMt_m hN ok h, cal_at, bnd_at, iI_add]
    simp only [if_true, if_neg (show ¬ iI 1 = iI 0 by decide)]
    by_cases a : (12 : Int) ≤ k
    · rw [if_pos a, show k = 12 by omega]
    · rw [if_neg a]
      have g := ih (k + 1) (by omega) (by omega)
      rw [cN1] at g
      by_cases d : cHas s k
      · rw [if_pos d, if_neg n10]
        by_cases e : cMt s k = -1
        · rw [if_pos d, if_pos e, if_pos (show iI (-2) < iI 0 by decide)]; rw [if_pos e, Int.add_zero] at g; exact g
        · have f := b.2.2 e
          rw [if_pos d, if_neg e, if_neg (show ¬ iI (cMt s k) < iI 0 by rw [iI_lt (by omega) (by omega) (by omega) (by omega)]; omega), cQ_m ok h f.2.1 f.1]
          rw [if_neg e] at g
          simp only [cal_at, iI_add]
          exact g
      · rw [if_neg d, if_pos rfl]; rw [if_pos (cMt_no d), Int.add_zero] at g; exact g
theorem sim_told {N : Nat} (hN : 12 < N) (a : Int32) {σ τ : xS} (h : Rcast σ τ) : ∃ (r : Int32) (σ' τ' : xS), cw_told N a σ = some (r, σ') ∧ m_told N a τ = some (r, τ') ∧ Rcast σ' τ' := by
  obtain ⟨s, ok, hx, hm⟩ := id h
  unfold cw_told finds_countMotherless finds_sumQuarrels m_told
  by_cases q : a = 0
  · subst q
    have e1 : finds_countMotherless_b4 N N 0 0 σ = some (iI (cN0 s 12), σ) := cN0_x hN ok hx N 0 (by omega) (by omega)
    have e2 : m_told_b15 N N 0 0 0 τ = some (iI (cN0 s 12), τ) := cN0_m hN ok hm N 0 (by omega) (by omega)
    rw [if_pos rfl, if_pos rfl, e1, e2]
    exact ⟨_, _, _, rfl, rfl, h⟩
  · rw [if_neg q, if_neg q]
    by_cases q2 : a = 1
    · subst q2
      have e1 : finds_sumQuarrels_b4 N N 0 0 σ = some (iI (cN1 s 12), σ) := cN1_x hN ok hx N 0 (by omega) (by omega)
      have e2 : m_told_b15 N N 1 0 0 τ = some (iI (cN1 s 12), τ) := cN1_m hN ok hm N 0 (by omega) (by omega)
      rw [if_pos rfl, if_pos rfl, e1, e2]
      exact ⟨_, _, _, rfl, rfl, h⟩
    · rw [if_neg q2, if_neg q2]
      exact ⟨_, _, _, rfl, rfl, h⟩
