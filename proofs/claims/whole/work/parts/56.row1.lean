/-! sets of orders as masks -/
theorem bt_iI (a i : Nat) (hi : i < 32) : bt (iI (a : Int)) i = a.testBit i := by
  rw [← iI_nI]
  show (BitVec.ofNat 32 a).getLsbD i = _
  rw [BitVec.getLsbD_ofNat, decide_eq_true hi, Bool.true_and]
theorem j_sub {a b : Nat} (ha : a < 2147483648) (hb : b < 2147483648) : (iI (a : Int) &&& (iI (b : Int) ^^^ (-1 : Int32)) = iI 0) = (a &&& b = a) := by
  apply propext
  constructor
  · intro h
    apply Nat.eq_of_testBit_eq
    intro i
    rw [Nat.testBit_and]
    by_cases hi : i < 32
    · have h1 : bt (iI (a : Int) &&& (iI (b : Int) ^^^ (-1 : Int32))) i = bt (iI 0) i := by rw [h]
      rw [b_and, b_xor, bt_iI a i hi, bt_iI b i hi, b_m1 i hi, show bt (iI 0) i = false from b_0 i] at h1
      revert h1
      cases a.testBit i <;> cases b.testBit i <;> simp
    · have : a.testBit i = false := Nat.testBit_lt_two_pow (Nat.lt_of_lt_of_le ha (Nat.le_trans (show 2147483648 ≤ 2 ^ 31 by decide) (Nat.pow_le_pow_right (by omega) (by omega))))
      rw [this]; rfl
  · intro h
    apply b_ext
    intro i hi
    rw [b_and, b_xor, bt_iI a i hi, bt_iI b i hi, b_m1 i hi, show bt (iI 0) i = false from b_0 i]
    have h1 : (a &&& b).testBit i = a.testBit i := by rw [h]
    rw [Nat.testBit_and] at h1
    revert h1
    cases a.testBit i <;> cases b.testBit i <;> simp
theorem j_bp {o x : Nat} (hb : x.testBit o = true) : 2 ^ o ≤ x := by
  rcases Nat.lt_or_ge x (2 ^ o) with h | h
  · rw [Nat.testBit_lt_two_pow h] at hb; cases hb
  · exact h
theorem j_pw : ∀ o : Nat, o < 10 → 2 ^ o < 1024 ∧ 0 < 2 ^ o := by decide
/-- a mask out of its bits -/
def mk (f : Nat → Bool) : Nat → Nat
  | 0 => 0
  | k + 1 => mk f k + if f k then 2 ^ k else 0
theorem mk_lt (f : Nat → Bool) : ∀ k : Nat, mk f k < 2 ^ k
  | 0 => by rw [mk]; decide
  | k + 1 => by
    have := mk_lt f k
    rw [mk, Nat.pow_succ]
    split <;> omega
theorem mk_bit (f : Nat → Bool) : ∀ k o : Nat, (mk f k).testBit o = (decide (o < k) && f o)
  | 0, o => by rw [mk, Nat.zero_testBit]; simp
  | k + 1, o => by
    have ih := mk_bit f k o
    have hl := mk_lt f k
    rw [mk]
    by_cases hf : f k = true
    · rw [if_pos hf, Nat.add_comm]
      by_cases ho : o = k
      · subst ho
        rw [Nat.testBit_two_pow_add_eq, Nat.testBit_lt_two_pow hl]
        simp [hf]
      · by_cases h2 : o < k
        · rw [Nat.testBit_two_pow_add_gt h2, ih]
          simp [h2, show o < k + 1 by omega]
        · have h3 : (2 ^ k + mk f k) < 2 ^ o := Nat.lt_of_lt_of_le (show 2 ^ k + mk f k < 2 ^ (k + 1) by rw [Nat.pow_succ]; omega) (Nat.pow_le_pow_right (by omega) (by omega))
          rw [Nat.testBit_lt_two_pow h3]
          simp [show ¬ o < k + 1 by omega]
    · rw [if_neg hf, Nat.add_zero, ih]
      by_cases ho : o = k
      · subst ho; simp [hf]
      · by_cases h2 : o < k
        · simp [h2, show o < k + 1 by omega]
        · simp [h2, show ¬ o < k + 1 by omega]
theorem mk_of {x : Nat} (hx : x < 1024) : mk x.testBit 10 = x := by
  apply Nat.eq_of_testBit_eq
  intro i
  rw [mk_bit]
  by_cases hi : i < 10
  · simp [hi]
  · rw [Nat.testBit_lt_two_pow (Nat.lt_of_lt_of_le hx (Nat.le_trans (show 1024 ≤ 2 ^ 10 by decide) (Nat.pow_le_pow_right (by omega) (by omega))))]
    simp [hi]
def sub_ (x y : Nat) : Prop := ∀ o : Nat, o < 10 → x.testBit o = true → y.testBit o = true
theorem sub_and {x y : Nat} (hx : x < 1024) : (x &&& y = x) = sub_ x y := by
  apply propext
  constructor
  · intro h o ho hb
    have : (x &&& y).testBit o = x.testBit o := by rw [h]
    rw [Nat.testBit_and, hb, Bool.true_and] at this
    exact this
  · intro h
    apply Nat.eq_of_testBit_eq
    intro i
    rw [Nat.testBit_and]
    by_cases hi : i < 10
    · have := h i hi
      revert this
      cases x.testBit i <;> simp
    · rw [Nat.testBit_lt_two_pow (Nat.lt_of_lt_of_le hx (Nat.le_trans (show 1024 ≤ 2 ^ 10 by decide) (Nat.pow_le_pow_right (by omega) (by omega))))]
      rfl
theorem mk_sub {f g : Nat → Bool} : ∀ {k : Nat}, (∀ o : Nat, o < k → f o = true → g o = true) → mk f k + mk (fun o => g o && !f o) k = mk g k
  | 0, _ => rfl
  | k + 1, h => by
    have ih := mk_sub (k := k) (fun o ho => h o (by omega))
    have hk := h k (by omega)
    rw [mk, mk, mk]
    revert hk
    cases f k <;> cases g k <;> simp <;> omega
theorem sub_co {x y : Nat} (hx : x < 1024) (hy : y < 1024) (h : sub_ x y) : x ≤ y ∧ y - x < 1024 ∧ (∀ o : Nat, o < 10 → (y - x).testBit o = (y.testBit o && !x.testBit o)) ∧ sub_ (y - x) y := by
  have e := mk_sub (k := 10) h
  rw [mk_of hx, mk_of hy] at e
  have e2 : y - x = mk (fun o => y.testBit o && !x.testBit o) 10 := by omega
  have b : ∀ o : Nat, o < 10 → (y - x).testBit o = (y.testBit o && !x.testBit o) := by
    intro o ho
    rw [e2, mk_bit, decide_eq_true ho, Bool.true_and]
  refine ⟨by omega, by omega, b, fun o ho hb => ?_⟩
  rw [b o ho] at hb
  revert hb
  cases y.testBit o <;> simp
theorem sub_cl {x y o : Nat} (hx : x < 1024) (ho : o < 10) (hb : x.testBit o = true) (h : sub_ x y) : sub_ (x - 2 ^ o) y ∧ ∀ j : Nat, j < 10 → (x - 2 ^ o).testBit j = (x.testBit j && !decide (j = o)) := by
  have h1 : sub_ (2 ^ o) x := by
    intro j hj hb2
    rw [Nat.testBit_two_pow] at hb2
    have : o = j := by simpa using hb2
    subst this; exact hb
  have c := sub_co (j_pw o ho).1 hx h1
  have b : ∀ j : Nat, j < 10 → (x - 2 ^ o).testBit j = (x.testBit j && !decide (j = o)) := by
    intro j hj
    rw [c.2.2.1 j hj, Nat.testBit_two_pow]
    congr 2
    by_cases e : o = j <;> simp [e, eq_comm]
  exact ⟨fun j hj hb2 => h j hj (c.2.2.2 j hj hb2), b⟩
theorem j_clr {o x : Nat} (ho : o < 10) (hx : x < 1024) : iI (x : Int) &&& (((1 : Int32) <<< (iI (o : Int) &&& 31)) ^^^ (-1 : Int32)) = iI ((if x.testBit o then x - 2 ^ o else x : Nat) : Int) := by
  rw [j_shl1 (by omega)]
  apply b_ext
  intro i hi
  rw [b_and, b_xor, bt_iI x i hi, bt_iI _ i hi, b_m1 i hi, bt_iI _ i hi, Nat.testBit_two_pow]
  have big : 10 ≤ i → ∀ y : Nat, y < 1024 → y.testBit i = false := fun h y hy => Nat.testBit_lt_two_pow (Nat.lt_of_lt_of_le hy (Nat.le_trans (show 1024 ≤ 2 ^ 10 by decide) (Nat.pow_le_pow_right (by omega) h)))
  by_cases hb : x.testBit o = true
  · rw [if_pos hb]
    by_cases h10 : i < 10
    · rw [(sub_cl (y := x) hx ho hb (fun _ _ h => h)).2 i h10]
      by_cases e : o = i <;> simp [e, eq_comm]
    · rw [big (by omega) x hx, big (by omega) (x - 2 ^ o) (Nat.lt_of_le_of_lt (Nat.sub_le x _) hx)]; simp
  · rw [if_neg hb]
    by_cases e : o = i
    · subst e; simp [hb]
    · simp [e]
theorem j_set {o x : Nat} (ho : o < 10) (hx : x < 1024) (hb : x.testBit o = false) : x ||| 2 ^ o = x + 2 ^ o := by
  have hy : x ||| 2 ^ o < 1024 := Nat.or_lt_two_pow (n := 10) hx (j_pw o ho).1
  have h1 : sub_ (2 ^ o) (x ||| 2 ^ o) := fun j hj h => by rw [Nat.testBit_or, h, Bool.or_true]
  have c := sub_co (j_pw o ho).1 hy h1
  have e : (x ||| 2 ^ o) - 2 ^ o = x := by
    apply Nat.eq_of_testBit_eq
    intro i
    by_cases hi : i < 10
    · rw [c.2.2.1 i hi, Nat.testBit_or, Nat.testBit_two_pow]
      by_cases e : o = i
      · subst e; simp [hb]
      · simp [e]
    · have big : ∀ y : Nat, y < 1024 → y.testBit i = false := fun y hy => Nat.testBit_lt_two_pow (Nat.lt_of_lt_of_le hy (Nat.le_trans (show 1024 ≤ 2 ^ 10 by decide) (Nat.pow_le_pow_right (by omega) (by omega))))
      rw [big _ c.2.1, big _ hx]
  have := c.1
  omega
/-- a sum over a mask -/
def Pm (p : Nat → Int) (x : Nat) : Nat → Int
  | 0 => 0
  | k + 1 => Pm p x k + if x.testBit k then p k else 0
theorem Pm_bd {p : Nat → Int} {x : Nat} {B : Int} : ∀ {k : Nat}, (∀ o : Nat, o < k → x.testBit o = true → 0 ≤ p o ∧ p o ≤ B) → 0 ≤ B → 0 ≤ Pm p x k ∧ Pm p x k ≤ k * B
  | 0, _, _ => ⟨Int.le_refl 0, by rw [Pm]; simp⟩
  | k + 1, h, hB => by
    have ih := Pm_bd (k := k) (fun o ho => h o (by omega)) hB
    have hk := h k (by omega)
    rw [Pm, show ((k + 1 : Nat) : Int) * B = k * B + B by rw [Int.natCast_add, Int.add_mul]; simp]
    by_cases hb : x.testBit k = true
    · have := hk hb
      rw [if_pos hb]; omega
    · rw [if_neg hb]; omega
theorem Pm_co {p : Nat → Int} {x y z : Nat} : ∀ {k : Nat}, (∀ o : Nat, o < k → x.testBit o = true → y.testBit o = true) → (∀ o : Nat, o < k → z.testBit o = (y.testBit o && !x.testBit o)) → Pm p z k = Pm p y k - Pm p x k
  | 0, _, _ => rfl
  | k + 1, h, h2 => by
    have ih := Pm_co (p := p) (k := k) (fun o ho => h o (by omega)) (fun o ho => h2 o (by omega))
    have hk := h k (by omega)
    rw [Pm, Pm, Pm, ih, h2 k (by omega)]
    revert hk
    cases x.testBit k <;> cases y.testBit k <;> simp <;> omega
theorem Pm_cl {p : Nat → Int} {x z o : Nat} : ∀ {k : Nat}, x.testBit o = true → (∀ j : Nat, j < k → z.testBit j = (x.testBit j && !decide (j = o))) → Pm p z k = Pm p x k - (if o < k then p o else 0)
  | 0, _, _ => by rw [Pm, Pm, if_neg (by omega)]; rfl
  | k + 1, hb, h2 => by
    have ih := Pm_cl (p := p) (k := k) hb (fun j hj => h2 j (by omega))
    rw [Pm, Pm, ih, h2 k (by omega)]
    by_cases e : k = o
    · subst e
      rw [if_neg (show ¬ k < k by omega), if_pos (show k < k + 1 by omega), hb]
      simp
    · have e2 : (decide (k = o)) = false := by simp [e]
      rw [e2]
      by_cases l : o < k
      · rw [if_pos l, if_pos (show o < k + 1 by omega)]
        cases x.testBit k <;> simp <;> omega
      · rw [if_neg l, if_neg (show ¬ o < k + 1 by omega)]
        cases x.testBit k <;> simp
theorem Pm_cong {p q : Nat → Int} {x : Nat} : ∀ {k : Nat}, (∀ o : Nat, o < k → x.testBit o = true → p o = q o) → Pm p x k = Pm q x k
  | 0, _ => rfl
  | k + 1, h => by
    rw [Pm, Pm, Pm_cong (k := k) (fun o ho => h o (by omega))]
    by_cases hb : x.testBit k = true
    · rw [if_pos hb, if_pos hb, h k (by omega) hb]
    · rw [if_neg hb, if_neg hb]
/-- the least of g over the mask's orders, and the first that has it -/
def mn (g : Nat → Int) (x : Nat) : Nat → Int × Nat
  | 0 => (1000000, 0)
  | k + 1 => if x.testBit k = true ∧ g k < (mn g x k).1 then (g k, k) else mn g x k
theorem mn_cong {g g' : Nat → Int} {x : Nat} : ∀ {k : Nat}, (∀ o : Nat, o < k → x.testBit o = true → g o = g' o) → mn g x k = mn g' x k
  | 0, _ => rfl
  | k + 1, h => by
    rw [mn, mn, mn_cong (k := k) (fun o ho => h o (by omega))]
    by_cases hb : x.testBit k = true
    · rw [h k (by omega) hb]
    · rw [if_neg (fun z => hb z.1), if_neg (fun z => hb z.1)]
theorem mn_sp {g : Nat → Int} {x : Nat} : ∀ {k : Nat}, (∀ o : Nat, o < k → x.testBit o = true → 0 ≤ g o ∧ g o < 1000000) → (mn g x k).1 ≤ 1000000 ∧ 0 ≤ (mn g x k).1 ∧ (∀ o : Nat, o < k → x.testBit o = true → (mn g x k).1 ≤ g o) ∧ ((mn g x k).1 < 1000000 → (mn g x k).2 < k ∧ x.testBit (mn g x k).2 = true ∧ g (mn g x k).2 = (mn g x k).1 ∧ ∀ o : Nat, o < (mn g x k).2 → x.testBit o = true → ¬ g o = (mn g x k).1)
  | 0, _ => ⟨by rw [mn]; decide, by rw [mn]; decide, fun o ho => absurd ho (by omega), fun z => by rw [mn] at z; exact absurd z (by decide)⟩
  | k + 1, h => by
    have ih := mn_sp (g := g) (x := x) (k := k) (fun o ho => h o (by omega))
    have hk := h k (by omega)
    rw [mn]
    by_cases a : x.testBit k = true ∧ g k < (mn g x k).1
    · rw [if_pos a]
      have b := hk a.1
      refine ⟨by show g k ≤ 1000000; omega, b.1, fun o ho hb => ?_, fun _ => ⟨by show k < k + 1; omega, a.1, rfl, fun o ho hb => ?_⟩⟩
      · show g k ≤ g o
        by_cases e : o = k
        · subst e; omega
        · have := ih.2.2.1 o (by omega) hb; omega
      · show ¬ g o = g k
        have ho : o < k := ho
        have := ih.2.2.1 o (by omega) hb; omega
    · rw [if_neg a]
      refine ⟨ih.1, ih.2.1, fun o ho hb => ?_, fun z => ?_⟩
      · by_cases e : o = k
        · subst e
          have : ¬ g o < (mn g x o).1 := fun q => a ⟨hb, q⟩
          omega
        · exact ih.2.2.1 o (by omega) hb
      · have := ih.2.2.2 z
        exact ⟨by omega, this.2⟩
