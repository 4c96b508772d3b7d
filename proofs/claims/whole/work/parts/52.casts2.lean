theorem cMo_s {s : cS} {c : Int} {k : Nat} (h : ¬ (cHas s k ∧ cHas s c ∧ cUp s k c ∧ cQ s c k < (cMo s c k).2)) : cMo s c (k + 1) = cMo s c k := by rw [cMo, if_neg h]
theorem cMo_t {s : cS} {c : Int} {k : Nat} (h : cHas s k ∧ cHas s c ∧ cUp s k c ∧ cQ s c k < (cMo s c k).2) : cMo s c (k + 1) = ((k : Int), cQ s c k) := by rw [cMo, if_pos h]
/-- the reference's mother, in step with the class's -/
theorem cMo_m {N : Nat} {τ : xS} {s : cS} (ok : cOk s) (h : cM τ s) {c : Int} (hc : cHas s c) : ∀ (n k : Nat), k ≤ 12 → 12 < k + n → m_mother_b15 N n (iI c) (iI (if (cMo s c k).1 = -1 then -2 else (cMo s c k).1)) (iI k) τ = some (iI (if cMt s c = -1 then -2 else cMt s c), τ) := by
  have o2 := ok.2
  intro n
  induction n with
  | zero => intro k h1 h2; omega
  | succ n ih =>
    intro k h1 h2
    have bd := cMo_bd ok c k h1
    have bdn : -2 ≤ (if (cMo s c k).1 = -1 then (-2 : Int) else (cMo s c k).1) ∧ (if (cMo s c k).1 = -1 then (-2 : Int) else (cMo s c k).1) < 12 := by split <;> omega
    have step := ih (k + 1)
    rw [m_mother_b15]
    simp (disch := omega) only [iI_lit, iI_le, cHas_m ok h, cal_at, bnd_at, iI_add]
    by_cases a : (12 : Int) ≤ k
    · rw [if_pos a, cMt, show k = 12 by omega]
    · rw [if_neg a]
      by_cases b : cHas s k
      · rw [if_pos b, if_neg (show ¬ iI 1 = iI 0 by decide)]
        have e1 := ok.1 c.toNat (by omega)
        have e2 := ok.1 (k : Int).toNat (by omega)
        have e3 := e1.2.2 hc.2.2
        have e4 := e2.2.2 b.2.2
        have f1 := h.1 c.toNat (by omega)
        have f2 := h.1 (k : Int).toNat (by omega)
        have q := cQ_bd ok hc b
        have b77 : cUp s k c → m_mother_b77 N (m_mother_b15 N n) (iI c) (iI (if (cMo s c k).1 = -1 then -2 else (cMo s c k).1)) (iI k) τ = some (iI (if cMt s c = -1 then -2 else cMt s c), τ) := by
          intro up
          unfold m_mother_b77
          rw [cQ_m ok h hc b]
          simp (disch := omega) only [cal_at, iI_lit, iI_neg, h.2.2.2, iI_lt, iI_eq, bnd_at, iI_add]
          have g := step (by omega) (by omega)
          by_cases d : s.2.2.2.2 < cQ s c k
          · rw [if_pos d]
            rw [cMo_s (fun z => by have := z.2.2.2; omega)] at g
            exact g
          · rw [if_neg d]
            by_cases e : (cMo s c k).1 = -1
            · rw [if_pos (by rw [if_pos e])]
              have e' := bd.2.2.2.2.1 e
              rw [cMo_t ⟨b, hc, up, by omega⟩] at g
              rw [if_neg (show ¬ ((k : Int), cQ s c k).1 = -1 by show ¬ (k : Int) = -1; omega)] at g
              exact g
            · have e' := bd.2.2.2.2.2 e
              rw [if_neg (by rw [if_neg e]; omega), if_neg e, cQ_m ok h hc b, cal_at, cQ_m ok h hc e'.1]
              have q2 := cQ_bd ok hc e'.1
              simp (disch := omega) only [cal_at, iI_le]
              by_cases u : cQ s c (cMo s c k).1 ≤ cQ s c k
              · rw [if_pos u]
                rw [cMo_s (fun z => by have := z.2.2.2; omega), if_neg e] at g
                exact g
              · rw [if_neg u]
                rw [cMo_t ⟨b, hc, up, by omega⟩] at g
                rw [if_neg (show ¬ ((k : Int), cQ s c k).1 = -1 by show ¬ (k : Int) = -1; omega)] at g
                exact g
        have skip : ¬ cUp s k c → m_mother_b15 N n (iI c) (iI (if (cMo s c k).1 = -1 then -2 else (cMo s c k).1)) (iI ((k : Int) + 1)) τ = some (iI (if cMt s c = -1 then -2 else cMt s c), τ) := by
          intro up
          have g := step (by omega) (by omega)
          rw [cMo_s (fun z => up z.2.2.1)] at g
          exact g
        simp (disch := omega) only [ald_at, f1.1, f2.1, f1.2 hc.2.2, f2.2 b.2.2, iI_lt, iI_eq]
        by_cases d : s.1 (k : Int).toNat < s.1 c.toNat
        · rw [if_pos d]
          exact skip (fun z => by rcases z with q | q <;> omega)
        · rw [if_neg d]
          by_cases e : s.1 (k : Int).toNat = s.1 c.toNat
          · rw [if_pos e]
            by_cases u : s.2.1 c.toNat < s.2.1 (k : Int).toNat
            · rw [if_pos u]
              exact b77 (Or.inr ⟨e, u⟩)
            · rw [if_neg u]
              exact skip (fun z => by rcases z with q | q <;> omega)
          · rw [if_neg e]
            exact b77 (Or.inl (by omega))
      · rw [if_neg b, if_pos rfl]
        have g := step (by omega) (by omega)
        rw [cMo_s (fun z => b z.1)] at g
        exact g
theorem cMt_m {N : Nat} {τ : xS} {s : cS} (hN : 12 < N) (ok : cOk s) (h : cM τ s) {c : Int} (c1 : -2147483648 ≤ c) (c2 : c < 2147483648) : m_mother N (iI c) τ = some (iI (if cHas s c then (if cMt s c = -1 then -2 else cMt s c) else -1), τ) := by
  unfold m_mother
  simp (disch := omega) only [iI_lit, iI_neg, cHas_m ok h, cal_at]
  by_cases b : cHas s c
  · rw [if_pos b, if_neg (show ¬ iI 1 = iI 0 by decide), if_pos b]
    have g := cMo_m (N := N) ok h b N 0 (by omega) (by omega)
    rw [cMo, if_pos rfl] at g
    exact g
  · rw [if_neg b, if_pos rfl, if_neg b]
theorem cMt_no {s : cS} {c : Int} (h : ¬ cHas s c) : cMt s c = -1 := by
  have : ∀ k : Nat, (cMo s c k).1 = -1 := by
    intro k
    induction k with
    | zero => rfl
    | succ k ih => rw [cMo, if_neg (fun z => h z.2.1)]; exact ih
  exact this 12
theorem cMt_bd {s : cS} (ok : cOk s) (c : Int) : -1 ≤ cMt s c ∧ cMt s c < 12 ∧ (cMt s c ≠ -1 → cHas s (cMt s c) ∧ cHas s c ∧ cUp s (cMt s c) c) := by
  have b := cMo_bd ok c 12 (by omega)
  exact ⟨b.2.2.1, b.2.2.2.1, fun z => ⟨(b.2.2.2.2.2 z).1, (b.2.2.2.2.2 z).2.1, (b.2.2.2.2.2 z).2.2.1⟩⟩
/-- how many stand above -/
def cRk (s : cS) (c : Int) : Nat → Nat
  | 0 => 0
  | k + 1 => cRk s c k + if cHas s k ∧ cUp s k c then 1 else 0
theorem cRk_le (s : cS) (c : Int) : ∀ k : Nat, cRk s c k ≤ k
  | 0 => Nat.le_refl 0
  | k + 1 => by
    have := cRk_le s c k
    rw [cRk]
    split <;> omega
theorem cRk_lt {s : cS} {c m : Int} (hm : cHas s m) (up : cUp s m c) : ∀ k : Nat, cRk s m k + (if m < k then 1 else 0) ≤ cRk s c k
  | 0 => by rw [cRk, cRk, if_neg (by omega)]; exact Nat.le_refl 0
  | k + 1 => by
    have ih := cRk_lt hm up k
    rw [cRk, cRk]
    by_cases a : cHas s k ∧ cUp s k m
    · have b : cHas s k ∧ cUp s k c := ⟨a.1, by rcases a.2 with q | q <;> rcases up with r | r <;> (first | exact Or.inl (by omega) | exact Or.inr ⟨by omega, by omega⟩)⟩
      rw [if_pos a, if_pos b]
      have : m ≠ k := fun e => by
        have z := a.2
        rw [e] at z
        rcases z with q | q <;> omega
      by_cases d : m < ((k : Nat) : Int)
      · rw [if_pos d] at ih
        rw [if_pos (by omega)]
        omega
      · rw [if_neg (by omega)]
        rw [if_neg d] at ih
        omega
    · rw [if_neg a]
      by_cases e : m = k
      · rw [if_pos (by omega)]
        rw [if_neg (by omega)] at ih
        rw [if_pos (by rw [← e]; exact ⟨hm, up⟩)]
        omega
      · by_cases d : m < ((k : Nat) : Int)
        · rw [if_pos d] at ih
          rw [if_pos (by omega)]
          split <;> omega
        · rw [if_neg d] at ih
          rw [if_neg (by omega)]
          split <;> omega
/-- the steps upward, with so many looked at most -/
def cSp (s : cS) : Nat → Int → Int
  | 0, _ => 0
  | n + 1, m => if m = -1 then 0 else 1 + cSp s n (cMt s m)
theorem cSp_bd (s : cS) : ∀ (n : Nat) (m : Int), 0 ≤ cSp s n m ∧ cSp s n m ≤ n
  | 0, _ => ⟨Int.le_refl 0, Int.le_refl 0⟩
  | n + 1, m => by
    have := cSp_bd s n (cMt s m)
    rw [cSp]
    split <;> omega
theorem cSp_eq {s : cS} (ok : cOk s) : ∀ (n n' : Nat) (m : Int), (m = -1 ∨ cRk s m 12 < n) → (m = -1 ∨ cRk s m 12 < n') → 0 < n → 0 < n' → cSp s n m = cSp s n' m
  | 0, _, _, _, _, h, _ => absurd h (by omega)
  | _, 0, _, _, _, _, h => absurd h (by omega)
  | n + 1, n' + 1, m, h1, h2, _, _ => by
    rw [cSp, cSp]
    by_cases a : m = -1
    · rw [if_pos a, if_pos a]
    · rw [if_neg a, if_neg a]
      have b := cMt_bd ok m
      by_cases d : cMt s m = -1
      · rw [d]
        have z : ∀ k : Nat, cSp s k (-1) = 0 := fun k => by cases k with
          | zero => rfl
          | succ k => rw [cSp, if_pos rfl]
        rw [z, z]
      · have e := b.2.2 d
        have f := cRk_lt e.1 e.2.2 12
        rw [if_pos (by omega)] at f
        have g1 : cRk s m 12 < n + 1 := by rcases h1 with q | q; exact absurd q a; exact q
        have g2 : cRk s m 12 < n' + 1 := by rcases h2 with q | q; exact absurd q a; exact q
        rw [cSp_eq ok n n' (cMt s m) (Or.inr (by omega)) (Or.inr (by omega)) (by omega) (by omega)]
theorem cSt_x {N : Nat} {σ : xS} {s : cS} (hN : 12 < N) (ok : cOk s) (h : cX σ s) : ∀ (n : Nat) (a m : Int) (i : Nat), i ≤ 12 → 12 < i + n → 0 ≤ a → a ≤ i → -1 ≤ m → m < 12 → finds_stepsFrom_b11 N n (iI a) (iI m) (iI i) σ = some (iI (a + cSp s (12 - i) m), σ) := by
  intro n
  induction n with
  | zero => intro a m i h1 h2; omega
  | succ n ih =>
    intro a m i h1 h2 a1 a2 m1 m2
    rw [finds_stepsFrom_b11]
    simp (disch := omega) only [iI_lit, iI_neg, iI_le, iI_eq, bnd_at, iI_add, cMt_x hN ok h, cal_at]
    by_cases e : (12 : Int) ≤ i
    · rw [if_pos e, show 12 - i = 0 by omega, cSp]
      congr 3; omega
    · rw [if_neg e, show 12 - i = (12 - (i + 1)) + 1 by omega, cSp]
      by_cases d : m = -1
      · rw [if_pos d, if_pos d]
        congr 3; omega
      · rw [if_neg d, if_neg d]
        have b := cMt_bd ok m
        have g := ih (a + 1) (cMt s m) (i + 1) (by omega) (by omega) (by omega) (by omega) (by omega) (by omega)
        rw [show ((i + 1 : Nat) : Int) = (i : Int) + 1 by omega] at g
        rw [g]
        congr 3; omega
theorem cSt_m {N : Nat} {τ : xS} {s : cS} (hN : 12 < N) (ok : cOk s) (h : cM τ s) : ∀ (n : Nat) (a m : Int), 0 < n → (m = -1 ∨ cHas s m ∧ cRk s m 12 + 1 < n) → 0 ≤ a → a + (n : Int) ≤ 2000000000 → m_steps_b18 N n (iI a) (iI (if m = -1 then -2 else m)) τ = some (iI (a + cSp s n m), τ) := by
  intro n
  induction n with
  | zero => intro a m h1; omega
  | succ n ih =>
    intro a m h1 h2 a1 a2
    rw [m_steps_b18, cSp]
    by_cases d : m = -1
    · rw [if_pos d, if_pos d, if_pos (show iI (-2) < 0 by decide)]
      congr 3; omega
    · rw [if_neg d, if_neg d]
      have h3 : cHas s m ∧ cRk s m 12 + 1 < n + 1 := by rcases h2 with q | q; exact absurd q d; exact q
      simp (disch := omega) only [iI_lit, iI_lt, bnd_at, iI_add, cMt_m hN ok h, cal_at]
      rw [if_neg (by omega), if_pos h3.1]
      have b := cMt_bd ok m
      have g := ih (a + 1) (cMt s m) (by omega) (by
        by_cases e : cMt s m = -1
        · exact Or.inl e
        · have f := b.2.2 e
          have r := cRk_lt f.1 f.2.2 12
          rw [if_pos (by omega)] at r
          exact Or.inr ⟨f.1, by omega⟩) (by omega) (by omega)
      rw [g]
      congr 3; omega
