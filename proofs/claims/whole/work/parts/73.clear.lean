/-- nothing solid from i on, n cells further -/
def clr (f : Nat → Bool) (k : Nat) : Nat → Nat → Bool
  | 0, i => !f i
  | n + 1, i => !f i && clr f k n (nx k i)
def clw (w h d : Nat) (f : Nat → Bool) (k i : Nat) : Bool := clr f k (ed w h d k i) i
/-- the ways by which a cell is free -/
def wy (w h d : Nat) (f : Nat → Bool) (i : Nat) : Nat := mk (fun k => clw w h d f k i) 6
theorem clw_s {w h d k i : Nat} {f : Nat → Bool} (hd : dOk w h d) (hk : k < 6) (hi : bx w h d i) : (0 < ed w h d k i → clw w h d f k i = (!f i && clw w h d f k (nx k i))) ∧ (ed w h d k i = 0 → clw w h d f k i = !f i) := by
  refine ⟨fun hp => ?_, fun hp => ?_⟩
  · have g := geo2 hd hk hi hp
    unfold clw
    rw [← g.2.1, clr]
  · unfold clw
    rw [hp, clr]
theorem clw_f {w h d k i : Nat} {f : Nat → Bool} (hd : dOk w h d) (hk : k < 6) (hi : bx w h d i) (hc : clw w h d f k i = true) : f i = false := by
  have c := clw_s (f := f) hd hk hi
  by_cases q : 0 < ed w h d k i
  · rw [c.1 q, Bool.and_eq_true] at hc
    have := hc.1
    cases h : f i <;> simp_all
  · rw [c.2 (by omega)] at hc
    cases h : f i <;> simp_all
/-- a free cell: every cell of its ray nearer to the edge is free too -/
theorem clw_ray {w h d k : Nat} {f : Nat → Bool} (hd : dOk w h d) (hk : k < 6) {j : Nat} (hj : bx w h d j) : ∀ (n i : Nat), bx w h d i → eg w h d k i = eg w h d k j → ed w h d k i = ed w h d k j + n → clw w h d f k i = true → clw w h d f k j = true := by
  intro n
  induction n with
  | zero =>
    intro i hi he hl hc
    rw [← geo4 hd hk hi hj he hl]; exact hc
  | succ n ih =>
    intro i hi he hl hc
    have g := geo2 hd hk hi (by omega)
    have c := (clw_s (f := f) hd hk hi).1 (by omega)
    rw [c, Bool.and_eq_true] at hc
    exact ih (nx k i) g.1 (g.2.2.trans he) (by omega) hc.2
theorem wy_lt (w h d : Nat) (f : Nat → Bool) (i : Nat) : wy w h d f i < 64 := mk_lt _ 6
theorem wy_bit {w h d k i : Nat} {f : Nat → Bool} (hk : k < 6) : (wy w h d f i).testBit k = clw w h d f k i := by
  unfold wy; rw [mk_bit, decide_eq_true hk, Bool.true_and]
/-! members, counted -/
def mem (w h d : Nat) (f : Nat → Bool) (c : Nat) : Bool := decide (bx w h d c) && !f c
theorem mem_iff {w h d c : Nat} {f : Nat → Bool} : mem w h d f c = true ↔ bx w h d c ∧ f c = false := by
  unfold mem; rw [Bool.and_eq_true, decide_eq_true_eq]; cases f c <;> simp
def rk (m : Nat → Bool) : Nat → Nat
  | 0 => 0
  | k + 1 => rk m k + if m k then 1 else 0
theorem rk_le (m : Nat → Bool) : ∀ k : Nat, rk m k ≤ k
  | 0 => Nat.le_refl 0
  | k + 1 => by have := rk_le m k; rw [rk]; split <;> omega
theorem rk_mono (m : Nat → Bool) {a : Nat} : ∀ {b : Nat}, a ≤ b → rk m a ≤ rk m b
  | 0, h => by rw [show a = 0 by omega]; exact Nat.le_refl _
  | b + 1, h => by
    by_cases q : a = b + 1
    · rw [q]; exact Nat.le_refl _
    · have := rk_mono m (a := a) (b := b) (by omega)
      rw [rk]; omega
theorem rk_lt {m : Nat → Bool} {a b : Nat} (h : a < b) (hm : m a = true) : rk m a < rk m b := by
  have := rk_mono m (a := a + 1) (b := b) (by omega)
  rw [rk, if_pos hm] at this; omega
theorem rk_gap {m : Nat → Bool} {a : Nat} : ∀ {b : Nat}, a ≤ b → (∀ c : Nat, a ≤ c → c < b → m c = false) → rk m b = rk m a
  | 0, h, _ => by rw [show a = 0 by omega]
  | b + 1, h, hm => by
    by_cases q : a = b + 1
    · rw [q]
    · rw [rk, rk_gap (a := a) (b := b) (by omega) (fun c h1 h2 => hm c h1 (by omega)), hm b (by omega) (by omega)]; simp
/-- the next member from k on -/
theorem rk_nx {m : Nat → Bool} : ∀ (n k B : Nat), B ≤ k + n → rk m k < rk m B → ∃ c : Nat, k ≤ c ∧ c < B ∧ m c = true ∧ rk m c = rk m k ∧ ∀ j : Nat, k ≤ j → j < c → m j = false
  | 0, k, B, h1, h2 => by have := rk_mono m (show B ≤ k by omega); omega
  | n + 1, k, B, h1, h2 => by
    by_cases q : m k = true
    · refine ⟨k, by omega, ?_, q, rfl, fun j _ _ => by omega⟩
      by_cases z : k < B
      · exact z
      · have := rk_mono m (show B ≤ k by omega); omega
    · have e : rk m (k + 1) = rk m k := by rw [rk, if_neg q]; rfl
      obtain ⟨c, h3, h4, h5, h6, h7⟩ := rk_nx (m := m) n (k + 1) B (by omega) (by omega)
      refine ⟨c, by omega, h4, h5, by omega, fun j hj hj2 => ?_⟩
      by_cases z : j = k
      · rw [z]; cases h : m k <;> simp_all
      · exact h7 j (by omega) hj2
/-! neighbours -/
theorem bes_x {N w h d k c : Nat} (hd : dOk w h d) (hk : k < 6) (hc : bx w h d c) {σ : xS} (e4 : σ.1 4 = iI w) (e5 : σ.1 5 = iI h) (e6 : σ.1 6 = iI d) : mould_beside N (iI c) (iI k) σ = some (iI (if ed w h d k c = 0 then -1 else (nx k c : Nat)), σ) := by
  have cl := bx_lt hd hc
  obtain ⟨a, b, c', ha, hb, hcc, f1, f2, f3⟩ := dex c
  unfold mould_beside
  rw [e4, e5, e6]
  simp (disch := omega) only [iI_lit, iI_le, gdz_at, iI_div, iI_mul, iI_sub, iI_add, iI_lt, iI_eq]
  rw [if_pos (by omega)]
  rcases k6 hk with rfl | rfl | rfl | rfl | rfl | rfl
  · rw [if_pos (by decide), ed_0, nx_0]
    by_cases q : w + 1 - c % 10 = 0
    · rw [if_pos (by omega), if_pos q]; rfl
    · rw [if_neg (by omega), if_neg q]; rfl
  · rw [if_neg (by decide), if_pos (by decide), ed_1, nx_1]
    by_cases q : c % 10 = 0
    · rw [if_pos (by omega), if_pos q]; rfl
    · rw [if_neg (by omega), if_neg q]; congr 3; omega
  · rw [if_neg (by decide), if_neg (by decide), if_pos (by decide), ed_2, nx_2]
    by_cases q : h + 1 - c / 10 % 10 = 0
    · rw [if_pos (by omega), if_pos q]; rfl
    · rw [if_neg (by omega), if_neg q]; rfl
  · rw [if_neg (by decide), if_neg (by decide), if_neg (by decide), if_pos (by decide), ed_3, nx_3]
    by_cases q : c / 10 % 10 = 0
    · rw [if_pos (by omega), if_pos q]; rfl
    · rw [if_neg (by omega), if_neg q]; congr 3; omega
  · rw [if_neg (by decide), if_neg (by decide), if_neg (by decide), if_neg (by decide), if_pos (by decide), ed_4, nx_4]
    by_cases q : d + 1 - c / 100 = 0
    · rw [if_pos (by omega), if_pos q]; rfl
    · rw [if_neg (by omega), if_neg q]; rfl
  · rw [if_neg (by decide), if_neg (by decide), if_neg (by decide), if_neg (by decide), if_neg (by decide), if_pos (by decide), ed_5, nx_5]
    by_cases q : c / 100 = 0
    · rw [if_pos (by omega), if_pos q]; rfl
    · rw [if_neg (by omega), if_neg q]; congr 3; omega
theorem stX {N k : Nat} (hk : k < 6) {τ : xS} : m_stepX N (iI k) τ = some (iI (sx_ k), τ) ∧ m_stepY N (iI k) τ = some (iI (sy_ k), τ) ∧ m_stepZ N (iI k) τ = some (iI (sz_ k), τ) := by
  rcases k6 hk with rfl | rfl | rfl | rfl | rfl | rfl <;> exact ⟨rfl, rfl, rfl⟩
/-- the form as the reference holds it: box -/
def dM (w h d : Nat) (τ : xS) : Prop := τ.1 12 = iI 1 ∧ τ.1 13 = iI w ∧ τ.1 14 = iI h ∧ τ.1 15 = iI d
theorem mou_m {N w h d : Nat} (hd : dOk w h d) {τ : xS} (hm : dM w h d τ) {x y z : Int} (x1 : -2147483648 ≤ x) (x2 : x < 2147483648) (y1 : -2147483648 ≤ y) (y2 : y < 2147483648) (z1 : -2147483648 ≤ z) (z2 : z < 2147483648) : m_isMould N (iI x) (iI y) (iI z) τ = some (iI (if -1 ≤ x ∧ x ≤ w ∧ -1 ≤ y ∧ y ≤ h ∧ -1 ≤ z ∧ z ≤ d then 1 else 0), τ) := by
  unfold m_isMould
  rw [hm.1, hm.2.1, hm.2.2.1, hm.2.2.2, if_neg (by decide), show (-1 : Int32) = iI (-1) from rfl]
  simp (disch := omega) only [iI_lt]
  by_cases q1 : x < -1
  · rw [if_pos q1, if_neg (by omega)]; rfl
  · rw [if_neg q1]
    by_cases q2 : (w : Int) < x
    · rw [if_pos q2, if_neg (by omega)]; rfl
    · rw [if_neg q2]
      by_cases q3 : y < -1
      · rw [if_pos q3, if_neg (by omega)]; rfl
      · rw [if_neg q3]
        by_cases q4 : (h : Int) < y
        · rw [if_pos q4, if_neg (by omega)]; rfl
        · rw [if_neg q4]
          by_cases q5 : z < -1
          · rw [if_pos q5, if_neg (by omega)]; rfl
          · rw [if_neg q5]
            by_cases q6 : (d : Int) < z
            · rw [if_pos q6, if_neg (by omega)]; rfl
            · rw [if_neg q6, if_pos (by omega)]; rfl
