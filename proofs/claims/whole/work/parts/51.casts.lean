theorem iI_ex (x : Int32) : ∃ z : Int, x = iI z ∧ -2147483648 ≤ z ∧ z < 2147483648 := ⟨x.toInt, iI_of x, iI_rng x⟩
theorem mul_bd {a b A B : Int} (h1 : 0 ≤ a) (h2 : a ≤ A) (h3 : 0 ≤ b) (h4 : b ≤ B) : 0 ≤ a * b ∧ a * b ≤ A * B := ⟨Int.mul_nonneg h1 h3, Int.mul_le_mul h2 h4 h3 (by omega)⟩
/-- the found casts: sizes, details, the three numbers -/
abbrev cS : Type := (Nat → Int) × (Nat → Int) × Int × Int × Int
def cOk (s : cS) : Prop := (∀ c : Nat, c < 12 → 0 ≤ s.1 c ∧ s.1 c ≤ 100000 ∧ (0 < s.1 c → 0 ≤ s.2.1 c ∧ s.2.1 c ≤ 1000)) ∧ 900 ≤ s.2.2.1 ∧ s.2.2.1 ≤ 1000 ∧ 0 ≤ s.2.2.2.1 ∧ s.2.2.2.1 ≤ 1000 ∧ 0 ≤ s.2.2.2.2 ∧ s.2.2.2.2 ≤ 100000
def cX (σ : xS) (s : cS) : Prop := (∀ c : Nat, c < 12 → σ.2 25 c = iI (s.1 c) ∧ (0 < s.1 c → σ.2 26 c = iI (s.2.1 c))) ∧ σ.1 17 = iI s.2.2.1 ∧ σ.1 18 = iI s.2.2.2.1 ∧ σ.1 19 = iI s.2.2.2.2
def cM (τ : xS) (s : cS) : Prop := (∀ c : Nat, c < 12 → τ.2 25 c = iI (s.1 c) ∧ (0 < s.1 c → τ.2 26 c = iI (s.2.1 c))) ∧ τ.1 23 = iI s.2.2.1 ∧ τ.1 24 = iI s.2.2.2.1 ∧ τ.1 25 = iI s.2.2.2.2
abbrev cHas (s : cS) (c : Int) : Prop := 0 ≤ c ∧ c < 12 ∧ 0 < s.1 c.toNat
def ab (z : Int) : Int := if 0 ≤ z then z else 0 - z
def cQ (s : cS) (c m : Int) : Int := ab (s.1 c.toNat - s.1 m.toNat * s.2.2.1 / 1000) + ab (s.2.1 c.toNat - s.2.1 m.toNat * s.2.2.2.1 / 1000)
abbrev cUp (s : cS) (m c : Int) : Prop := s.1 c.toNat < s.1 m.toNat ∨ s.1 m.toNat = s.1 c.toNat ∧ s.2.1 c.toNat < s.2.1 m.toNat
def cMo (s : cS) (c : Int) : Nat → Int × Int
  | 0 => (-1, s.2.2.2.2 + 1)
  | k + 1 => if cHas s k ∧ cHas s c ∧ cUp s k c ∧ cQ s c k < (cMo s c k).2 then ((k : Int), cQ s c k) else cMo s c k
theorem cHas_x {N : Nat} {σ : xS} {s : cS} (ok : cOk s) (h : cX σ s) (c : Int) (h1 : -2147483648 ≤ c) (h2 : c < 2147483648) : finds_has N (iI c) σ = some (iI (if cHas s c then 1 else 0), σ) := by
  unfold finds_has
  simp (disch := omega) only [iI_lit, iI_lt, iI_le]
  by_cases a : c < 0
  · rw [if_pos a, if_neg (by omega)]
  · rw [if_neg a]
    by_cases b : 12 ≤ c
    · rw [if_pos b, if_neg (by omega)]
    · rw [if_neg b]
      have e1 := (h.1 c.toNat (by omega)).1
      have e2 := ok.1 c.toNat (by omega)
      simp (disch := omega) only [ald_at, e1, iI_le]
      by_cases d : s.1 c.toNat ≤ 0
      · rw [if_pos d, if_neg (by omega)]
      · rw [if_neg d, if_pos (by omega)]
theorem cHas_m {N : Nat} {τ : xS} {s : cS} (ok : cOk s) (h : cM τ s) (c : Int) (h1 : -2147483648 ≤ c) (h2 : c < 2147483648) : m_isCast N (iI c) τ = some (iI (if cHas s c then 1 else 0), τ) := by
  unfold m_isCast
  simp (disch := omega) only [iI_lit, iI_lt, iI_le]
  by_cases a : c < 0
  · rw [if_pos a, if_neg (by omega)]
  · rw [if_neg a]
    by_cases b : 12 ≤ c
    · rw [if_pos b, if_neg (by omega)]
    · rw [if_neg b]
      have e1 := (h.1 c.toNat (by omega)).1
      have e2 := ok.1 c.toNat (by omega)
      simp (disch := omega) only [ald_at, e1, iI_le]
      by_cases d : s.1 c.toNat ≤ 0
      · rw [if_pos d, if_neg (by omega)]
      · rw [if_neg d, if_pos (by omega)]
theorem cQ_bd {s : cS} (ok : cOk s) {c m : Int} (hc : cHas s c) (hm : cHas s m) : 0 ≤ s.1 m.toNat * s.2.2.1 / 1000 ∧ s.1 m.toNat * s.2.2.1 / 1000 ≤ 100000 ∧ 0 ≤ s.1 m.toNat * s.2.2.1 ∧ s.1 m.toNat * s.2.2.1 ≤ 100000000 ∧ 0 ≤ s.2.1 m.toNat * s.2.2.2.1 / 1000 ∧ s.2.1 m.toNat * s.2.2.2.1 / 1000 ≤ 1000 ∧ 0 ≤ s.2.1 m.toNat * s.2.2.2.1 ∧ s.2.1 m.toNat * s.2.2.2.1 ≤ 1000000 ∧ 0 ≤ cQ s c m ∧ cQ s c m ≤ 201000 := by
  have e1 := ok.1 c.toNat (by omega)
  have e2 := ok.1 m.toNat (by omega)
  have e3 := e1.2.2 hc.2.2
  have e4 := e2.2.2 hm.2.2
  have b1 := mul_bd e2.1 e2.2.1 (show 0 ≤ s.2.2.1 by have := ok.2; omega) ok.2.2.1
  have b2 := mul_bd e4.1 e4.2 ok.2.2.2.1 ok.2.2.2.2.1
  unfold cQ ab
  generalize s.1 m.toNat * s.2.2.1 = A at *
  generalize s.2.1 m.toNat * s.2.2.2.1 = B at *
  refine ⟨by omega, by omega, by omega, by omega, by omega, by omega, by omega, by omega, ?_, ?_⟩ <;> split <;> split <;> omega
theorem cQ_x {N : Nat} {σ : xS} {s : cS} (ok : cOk s) (h : cX σ s) {c m : Int} (hc : cHas s c) (hm : cHas s m) : finds_quarrelOf N (iI c) (iI m) σ = some (iI (cQ s c m), σ) := by
  have bd := cQ_bd ok hc hm
  have e1 := ok.1 c.toNat (by omega)
  have e2 := ok.1 m.toNat (by omega)
  have e3 := e1.2.2 hc.2.2
  have f1 := h.1 c.toNat (by omega)
  have f2 := h.1 m.toNat (by omega)
  unfold finds_quarrelOf
  simp (disch := omega) only [cHas_x ok h, cal_at, hc, hm, if_true, iI_lit, iI_eq, ald_at, f1.1, f2.1, f1.2 hc.2.2, f2.2 hm.2.2, h.2.1, h.2.2.1, iI_mul, gdz_at, iI_div, iI_sub, iI_abs, bnd_at, iI_add]
  rw [if_neg (by rw [if_pos hc]; decide), if_neg (by rw [if_pos hm]; decide)]
  rfl
theorem cQ_m {N : Nat} {τ : xS} {s : cS} (ok : cOk s) (h : cM τ s) {c m : Int} (hc : cHas s c) (hm : cHas s m) : m_quarrel N (iI c) (iI m) τ = some (iI (cQ s c m), τ) := by
  have bd := cQ_bd ok hc hm
  have e1 := ok.1 c.toNat (by omega)
  have e2 := ok.1 m.toNat (by omega)
  have e3 := e1.2.2 hc.2.2
  have f1 := h.1 c.toNat (by omega)
  have f2 := h.1 m.toNat (by omega)
  have far : ∀ (a b : Int), 0 ≤ a → a ≤ 100000 → 0 ≤ b → b ≤ 100000 → m_far N (iI a) (iI b) τ = some (iI (ab (a - b)), τ) := by
    intro a b h1 h2 h3 h4
    unfold m_far ab
    simp (disch := omega) only [iI_le, iI_sub]
    by_cases q : b ≤ a
    · rw [if_pos q, if_pos (by omega)]
    · rw [if_neg q, if_neg (by omega)]
      congr 3; omega
  unfold m_quarrel
  simp (disch := omega) only [iI_lit, iI_eq, ald_at, f1.1, f2.1, f1.2 hc.2.2, f2.2 hm.2.2, h.2.1, h.2.2.1, iI_mul, gdz_at, iI_div, far, cal_at, bnd_at, iI_add]
  rfl
theorem cCan_x {N : Nat} {σ : xS} {s : cS} (ok : cOk s) (h : cX σ s) {c m : Int} (c1 : -2147483648 ≤ c) (c2 : c < 2147483648) (m1 : -2147483648 ≤ m) (m2 : m < 2147483648) : finds_canBeMother N (iI m) (iI c) σ = some (iI (if cHas s m ∧ cHas s c ∧ cUp s m c then 1 else 0), σ) := by
  unfold finds_canBeMother
  simp (disch := omega) only [cHas_x ok h, cal_at, iI_lit]
  by_cases hm : cHas s m
  · rw [if_pos hm, if_neg (show ¬ iI 1 = iI 0 by decide)]
    by_cases hc : cHas s c
    · rw [if_pos hc, if_neg (show ¬ iI 1 = iI 0 by decide)]
      have e1 := ok.1 c.toNat (by omega)
      have e2 := ok.1 m.toNat (by omega)
      have e3 := e1.2.2 hc.2.2
      have e4 := e2.2.2 hm.2.2
      have f1 := h.1 c.toNat (by omega)
      have f2 := h.1 m.toNat (by omega)
      simp (disch := omega) only [ald_at, f1.1, f2.1, f1.2 hc.2.2, f2.2 hm.2.2, iI_lt, iI_eq, iI_le]
      by_cases a : s.1 c.toNat < s.1 m.toNat
      · rw [if_pos a, if_pos ⟨hm, hc, Or.inl a⟩]
      · rw [if_neg a]
        by_cases b : s.1 m.toNat = s.1 c.toNat
        · rw [if_pos b]
          by_cases d : s.2.1 m.toNat ≤ s.2.1 c.toNat
          · rw [if_pos d, if_neg (fun z => by rcases z.2.2 with q | q <;> omega)]
          · rw [if_neg d, if_pos ⟨hm, hc, Or.inr ⟨b, by omega⟩⟩]
        · rw [if_neg b, if_neg (fun z => by rcases z.2.2 with q | q <;> omega)]
    · rw [if_neg hc, if_pos rfl, if_neg (fun z => hc z.2.1)]
  · rw [if_neg hm, if_pos rfl, if_neg (fun z => hm z.1)]
theorem cMo_bd {s : cS} (ok : cOk s) (c : Int) : ∀ k : Nat, k ≤ 12 → (cMo s c k).2 ≤ s.2.2.2.2 + 1 ∧ 0 ≤ (cMo s c k).2 ∧ -1 ≤ (cMo s c k).1 ∧ (cMo s c k).1 < k ∧ ((cMo s c k).1 = -1 → (cMo s c k).2 = s.2.2.2.2 + 1) ∧ ((cMo s c k).1 ≠ -1 → cHas s (cMo s c k).1 ∧ cHas s c ∧ cUp s (cMo s c k).1 c ∧ (cMo s c k).2 = cQ s c (cMo s c k).1 ∧ (cMo s c k).2 ≤ s.2.2.2.2) := by
  have o2 := ok.2
  intro k
  induction k with
  | zero =>
    intro _
    rw [cMo]
    exact ⟨by show s.2.2.2.2 + 1 ≤ s.2.2.2.2 + 1; omega, by show 0 ≤ s.2.2.2.2 + 1; omega, by show (-1 : Int) ≤ -1; omega, by show (-1 : Int) < ((0 : Nat) : Int); omega, fun _ => rfl, fun z => absurd rfl z⟩
  | succ k ih =>
    intro hk
    have ih := ih (by omega)
    rw [cMo]
    by_cases a : cHas s k ∧ cHas s c ∧ cUp s k c ∧ cQ s c k < (cMo s c k).2
    · rw [if_pos a]
      have b := cQ_bd ok a.2.1 a.1
      refine ⟨by omega, by omega, by omega, by omega, fun z => by omega, fun _ => ⟨a.1, a.2.1, a.2.2.1, rfl, by omega⟩⟩
    · rw [if_neg a]
      exact ⟨ih.1, ih.2.1, ih.2.2.1, by omega, ih.2.2.2.2⟩
theorem cMo_x {N : Nat} {σ : xS} {s : cS} (ok : cOk s) (h : cX σ s) {c : Int} (c1 : -2147483648 ≤ c) (c2 : c < 2147483648) : ∀ (n k : Nat), k ≤ 12 → 12 < k + n → finds_motherOf_b12 N n (iI c) (iI (cMo s c k).1) (iI (cMo s c k).2) (iI k) σ = some (iI (cMo s c 12).1, σ) := by
  have o2 := ok.2
  intro n
  induction n with
  | zero => intro k h1 h2; omega
  | succ n ih =>
    intro k h1 h2
    have bd := cMo_bd ok c k h1
    rw [finds_motherOf_b12]
    simp (disch := omega) only [iI_lit, iI_le, cCan_x ok h, cal_at, bnd_at, iI_add]
    by_cases a : (12 : Int) ≤ k
    · rw [if_pos a, show k = 12 by omega]
    · rw [if_neg a]
      by_cases b : cHas s k ∧ cHas s c ∧ cUp s k c
      · rw [if_pos b, if_neg (show ¬ iI 1 = iI 0 by decide), cQ_x ok h b.2.1 b.1]
        have q := cQ_bd ok b.2.1 b.1
        simp (disch := omega) only [cal_at, iI_le]
        by_cases d : (cMo s c k).2 ≤ cQ s c k
        · rw [if_pos d]
          have g := ih (k + 1) (by omega) (by omega)
          rw [cMo, if_neg (fun z => by have := z.2.2.2; omega)] at g
          exact g
        · rw [if_neg d]
          have g := ih (k + 1) (by omega) (by omega)
          rw [cMo, if_pos ⟨b.1, b.2.1, b.2.2, by omega⟩] at g
          exact g
      · rw [if_neg b, if_pos rfl]
        have g := ih (k + 1) (by omega) (by omega)
        rw [cMo, if_neg (fun z => b ⟨z.1, z.2.1, z.2.2.1⟩)] at g
        exact g
def cMt (s : cS) (c : Int) : Int := (cMo s c 12).1
theorem cMt_x {N : Nat} {σ : xS} {s : cS} (hN : 12 < N) (ok : cOk s) (h : cX σ s) {c : Int} (c1 : -2147483648 ≤ c) (c2 : c < 2147483648) : finds_motherOf N (iI c) σ = some (iI (cMt s c), σ) := by
  have o2 := ok.2
  unfold finds_motherOf
  simp only [iI_lit, h.2.2.2, iI_add, bnd_at]
  exact cMo_x ok h c1 c2 N 0 (by omega) (by omega)
