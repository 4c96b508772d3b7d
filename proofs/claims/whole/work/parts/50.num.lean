/-- an int by the whole number that it stands for -/
def iI (z : Int) : Int32 := Int32.ofInt z
theorem iI_toInt {z : Int} (h1 : -2147483648 ≤ z) (h2 : z < 2147483648) : (iI z).toInt = z := Int32.toInt_ofInt_of_le (by omega) (by omega)
theorem iI_of (x : Int32) : x = iI x.toInt := (Int32.ofInt_toInt x).symm
theorem iI_rng (x : Int32) : -2147483648 ≤ x.toInt ∧ x.toInt < 2147483648 := ⟨by have := Int32.le_toInt x; omega, by have := Int32.toInt_lt x; omega⟩
theorem iI_add (a b : Int) : iI a + iI b = iI (a + b) := (Int32.ofInt_add a b).symm
theorem iI_sub (a b : Int) : iI a - iI b = iI (a - b) := (Int32.ofInt_sub a b).symm
theorem iI_mul (a b : Int) : iI a * iI b = iI (a * b) := (Int32.ofInt_mul a b).symm
theorem iI_neg (a : Int) : -iI a = iI (-a) := (Int32.ofInt_neg a).symm
theorem iI_lit (n : Nat) : (OfNat.ofNat n : Int32) = iI (OfNat.ofNat n : Int) := by
  show Int32.ofNat n = Int32.ofInt ((n : Nat) : Int)
  exact (Int32.ofInt_eq_ofNat).symm
theorem iI_nat (n : Nat) : Int32.ofNat n = iI (n : Int) := (Int32.ofInt_eq_ofNat).symm
theorem iI_nI (n : Nat) : nI n = iI (n : Int) := (Int32.ofInt_eq_ofNat).symm
theorem iI_lt {a b : Int} (h1 : -2147483648 ≤ a) (h2 : a < 2147483648) (h3 : -2147483648 ≤ b) (h4 : b < 2147483648) : (iI a < iI b) = (a < b) := by
  rw [Int32.lt_iff_toInt_lt, iI_toInt h1 h2, iI_toInt h3 h4]
theorem iI_le {a b : Int} (h1 : -2147483648 ≤ a) (h2 : a < 2147483648) (h3 : -2147483648 ≤ b) (h4 : b < 2147483648) : (iI a ≤ iI b) = (a ≤ b) := by
  rw [Int32.le_iff_toInt_le, iI_toInt h1 h2, iI_toInt h3 h4]
theorem iI_eq {a b : Int} (h1 : -2147483648 ≤ a) (h2 : a < 2147483648) (h3 : -2147483648 ≤ b) (h4 : b < 2147483648) : (iI a = iI b) = (a = b) := by
  rw [← Int32.toInt_inj, iI_toInt h1 h2, iI_toInt h3 h4]
theorem iI_cl {a : Int} (h1 : -2147483648 ≤ a) (h2 : a < 2147483648) : (iI a).toNatClampNeg = a.toNat := Int32.toNatClampNeg_ofInt_of_le (by omega) (by omega)
theorem iI_in {a : Int} {n : Nat} (h1 : 0 ≤ a) (h2 : a < (n : Int)) (h3 : a < 2147483648) : xin (iI a) n = true := by
  have e : (iI a).toNatClampNeg = a.toNat := iI_cl (by omega) h3
  have g : ¬ iI a < 0 := by
    rw [show (0 : Int32) = iI 0 from rfl, iI_lt (by omega) h3 (by omega) (by omega)]
    omega
  simp only [xin, Bool.and_eq_true, decide_eq_true_eq]
  exact ⟨g, by rw [e]; omega⟩
theorem iI_div {a b : Int} (h1 : 0 ≤ a) (h2 : a < 2147483648) (h3 : 0 < b) (h4 : b < 2147483648) : iI a / iI b = iI (a / b) := by
  apply Int32.toInt_inj.mp
  have q : 0 ≤ a / b := Int.ediv_nonneg h1 (by omega)
  have q2 : a / b ≤ a := Int.ediv_le_self b h1
  rw [Int32.toInt_div, iI_toInt (by omega) h2, iI_toInt (by omega) h4, iI_toInt (by omega) (by omega), Int.tdiv_eq_ediv_of_nonneg h1]
  exact Int.bmod_eq_of_le (by omega) (by omega)
theorem ald_at {α : Type} {σ : xS} {a n : Nat} {i : Int} {X : Int32 → Option α} (h1 : 0 ≤ i) (h2 : i < (n : Int)) (h3 : i < 2147483648) : ald σ a n (iI i) X = X (σ.2 a i.toNat) := by
  rw [ald, if_pos (iI_in h1 h2 h3), iI_cl (by omega) h3]
theorem ast_at {α : Type} {σ : xS} {a n : Nat} {i : Int} {v : Int32} {X : xS → Option α} (h1 : 0 ≤ i) (h2 : i < (n : Int)) (h3 : i < 2147483648) : ast σ a n (iI i) v X = X (σ.1, va_up σ.2 a (upd (σ.2 a) i.toNat v)) := by
  rw [ast, if_pos (iI_in h1 h2 h3), iI_cl (by omega) h3]
theorem bnd_at {α β : Type} (e : α) (X : α → β) : bnd e X = X e := rfl
theorem put_at {α : Type} (σ : xS) (k : Nat) (v : Int32) (X : xS → Option α) : put σ k v X = X (va_up σ.1 k v, σ.2) := rfl
theorem cal_at {α : Type} (r : Int32) (σ : xS) (X : Int32 → xS → Option α) : cal (some (r, σ)) X = X r σ := rfl
theorem gdz_at {α : Type} {b : Int} (X : Option α) (h1 : b ≠ 0) (h2 : -2147483648 ≤ b) (h3 : b < 2147483648) : gdz (iI b) X = X := by
  rw [gdz, if_neg]
  rw [show (0 : Int32) = iI 0 from rfl, iI_eq h2 h3 (by omega) (by omega)]
  exact h1
theorem gdb_0 {α : Type} (X : Option α) : gdb (iI 0) X = X := by rw [gdb, if_pos]; decide
theorem gdb_1 {α : Type} (X : Option α) : gdb (iI 1) X = X := by rw [gdb, if_pos]; decide
theorem va_up_s {α : Type} (f : Nat → α) (k : Nat) (v : α) : va_up f k v k = v := by rw [va_up, if_pos rfl]
theorem va_up_n {α : Type} (f : Nat → α) {k j : Nat} (v : α) (h : j ≠ k) : va_up f k v j = f j := by rw [va_up, if_neg h]
theorem nb_0 : vp_nar .boolean (iI 0) = iI 0 := by decide
theorem nb_1 : vp_nar .boolean (iI 1) = iI 1 := by decide
theorem iI_max {a b : Int} (h1 : -2147483648 ≤ a) (h2 : a < 2147483648) (h3 : -2147483648 ≤ b) (h4 : b < 2147483648) : xmax (iI a) (iI b) = iI (if a < b then b else a) := by
  unfold xmax
  simp only [iI_lt h1 h2 h3 h4]
  split <;> rfl
theorem iI_min {a b : Int} (h1 : -2147483648 ≤ a) (h2 : a < 2147483648) (h3 : -2147483648 ≤ b) (h4 : b < 2147483648) : xmin (iI a) (iI b) = iI (if b < a then b else a) := by
  unfold xmin
  simp only [iI_lt h3 h4 h1 h2]
  split <;> rfl
theorem iI_abs {a : Int} (h1 : -2147483648 ≤ a) (h2 : a < 2147483648) : xabs (iI a) = iI (if 0 ≤ a then a else 0 - a) := by
  unfold xabs
  rw [show (0 : Int32) = iI 0 from rfl]
  simp only [iI_le (show (-2147483648 : Int) ≤ 0 by omega) (show (0 : Int) < 2147483648 by omega) h1 h2, iI_sub]
  split <;> rfl
