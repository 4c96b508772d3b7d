/-! the row in which least comes late -/
def oL (s : oS) (o : Nat) (d : Int) : Int := if 0 ≤ d + s.1 o + s.2.2.2 - s.2.1 o then d + s.1 o + s.2.2.2 - s.2.1 o else 0
def oA (s : oS) (al : Nat) : Nat → Nat → Int
  | 0, _ => 0
  | n + 1, x => if x = 0 then 0 else (mn (fun o => s.2.2.1 o * oL s o (Pm s.1 al 10 - Pm s.1 x 10) + oA s al n (x - 2 ^ o)) x 10).1
def oC (s : oS) (al x o : Nat) : Int := s.2.2.1 o * oL s o (Pm s.1 al 10 - Pm s.1 x 10) + oA s al 10 (x - 2 ^ o)
/-- al: the orders that are there -/
def oAl (s : oS) (al : Nat) : Prop := al < 1024 ∧ ∀ o : Nat, o < 10 → (al.testBit o = true ↔ 0 < s.1 o)
theorem bit_ex {x : Nat} (hx : x < 1024) (h0 : x ≠ 0) : ∃ o : Nat, o < 10 ∧ x.testBit o = true := by
  by_cases h : ∃ o : Nat, o < 10 ∧ x.testBit o = true
  · exact h
  · exfalso
    apply h0
    apply Nat.eq_of_testBit_eq
    intro i
    rw [Nat.zero_testBit]
    by_cases hi : i < 10
    · cases hb : x.testBit i with
      | false => rfl
      | true => exact absurd ⟨i, hi, hb⟩ h
    · exact Nat.testBit_lt_two_pow (Nat.lt_of_lt_of_le hx (Nat.le_trans (show 1024 ≤ 2 ^ 10 by decide) (Nat.pow_le_pow_right (by omega) (by omega))))
abbrev cnt (x : Nat) : Int := Pm (fun _ => 1) x 10
theorem P_bd {s : oS} (ok : oOk s) (x : Nat) : 0 ≤ Pm s.1 x 10 ∧ Pm s.1 x 10 ≤ 500 := by
  have := Pm_bd (p := s.1) (x := x) (B := 50) (k := 10) (fun o ho _ => ⟨(ok.1 o ho).1, (ok.1 o ho).2.1⟩) (by omega)
  exact ⟨this.1, by have := this.2; omega⟩
theorem cnt_bd (x : Nat) : 0 ≤ cnt x ∧ cnt x ≤ 10 := by
  have := Pm_bd (p := fun _ => 1) (x := x) (B := 1) (k := 10) (fun o ho _ => ⟨by omega, by omega⟩) (by omega)
  exact ⟨this.1, by have := this.2; show Pm (fun _ => 1) x 10 ≤ 10; omega⟩
theorem P_mono {s : oS} (ok : oOk s) {x al : Nat} (hx : x < 1024) (ha : al < 1024) (h : sub_ x al) : 0 ≤ Pm s.1 al 10 - Pm s.1 x 10 ∧ Pm s.1 al 10 - Pm s.1 x 10 ≤ 500 := by
  have c := sub_co hx ha h
  rw [← Pm_co (p := s.1) (z := al - x) (k := 10) h c.2.2.1]
  exact P_bd ok (al - x)
theorem oL_bd {s : oS} (ok : oOk s) {o : Nat} (ho : o < 10) (hp : 0 < s.1 o) {d : Int} (h1 : 0 ≤ d) (h2 : d ≤ 500) : 0 ≤ oL s o d ∧ oL s o d ≤ 650 := by
  have a := ok.1 o ho
  have b := ok.2
  have c := a.2.2 hp
  unfold oL
  split <;> omega
theorem oT_bd {s : oS} (ok : oOk s) {o : Nat} (ho : o < 10) (hp : 0 < s.1 o) {d : Int} (h1 : 0 ≤ d) (h2 : d ≤ 500) : 0 ≤ s.2.2.1 o * oL s o d ∧ s.2.2.1 o * oL s o d ≤ 65000 := by
  have a := (ok.1 o ho).2.2 hp
  have b := oL_bd ok ho hp h1 h2
  have := mul_bd (show 0 ≤ s.2.2.1 o by omega) a.2.2.2 b.1 b.2
  omega
theorem cl_lt {x o : Nat} (hx : x < 1024) : x - 2 ^ o < 1024 := Nat.lt_of_le_of_lt (Nat.sub_le x _) hx
theorem cnt_cl {x o : Nat} (hx : x < 1024) (ho : o < 10) (hb : x.testBit o = true) : cnt (x - 2 ^ o) = cnt x - 1 := by
  have h := (sub_cl (y := x) hx ho hb (fun _ _ h => h)).2
  have := Pm_cl (p := fun _ => 1) (k := 10) hb h
  rw [if_pos ho] at this
  exact this
theorem oA_bd {s : oS} (ok : oOk s) {al : Nat} (hal : oAl s al) : ∀ (n x : Nat), x < 1024 → sub_ x al → 0 ≤ oA s al n x ∧ oA s al n x ≤ 65000 * cnt x
  | 0, x, _, _ => by
    have := cnt_bd x
    rw [oA]; omega
  | n + 1, x, hx, hs => by
    have cb := cnt_bd x
    rw [oA]
    by_cases h0 : x = 0
    · rw [if_pos h0]; omega
    · rw [if_neg h0]
      have P := P_mono ok hx hal.1 hs
      have gb : ∀ o : Nat, o < 10 → x.testBit o = true → 0 ≤ s.2.2.1 o * oL s o (Pm s.1 al 10 - Pm s.1 x 10) + oA s al n (x - 2 ^ o) ∧ s.2.2.1 o * oL s o (Pm s.1 al 10 - Pm s.1 x 10) + oA s al n (x - 2 ^ o) ≤ 65000 * cnt x := by
        intro o ho hb
        have t := oT_bd ok ho ((hal.2 o ho).mp (hs o ho hb)) P.1 P.2
        have ih := oA_bd ok hal n (x - 2 ^ o) (cl_lt hx) (sub_cl hx ho hb hs).1
        rw [cnt_cl hx ho hb] at ih
        omega
      have m := mn_sp (g := fun o => s.2.2.1 o * oL s o (Pm s.1 al 10 - Pm s.1 x 10) + oA s al n (x - 2 ^ o)) (x := x) (k := 10) (fun o ho hb => ⟨(gb o ho hb).1, by have := (gb o ho hb).2; omega⟩)
      obtain ⟨o, ho, hb⟩ := bit_ex hx h0
      have m2 := m.2.2.1 o ho hb
      exact ⟨m.2.1, by have := (gb o ho hb).2; omega⟩
theorem oA_st {s : oS} {al : Nat} : ∀ (n x : Nat), x < 1024 → cnt x ≤ n → oA s al n x = oA s al (n + 1) x
  | 0, x, hx, hc => by
    rw [oA, oA]
    by_cases h0 : x = 0
    · rw [if_pos h0]
    · obtain ⟨o, ho, hb⟩ := bit_ex hx h0
      have := cnt_cl hx ho hb
      have := cnt_bd (x - 2 ^ o)
      omega
  | n + 1, x, hx, hc => by
    rw [oA, oA]
    by_cases h0 : x = 0
    · rw [if_pos h0, if_pos h0]
    · rw [if_neg h0, if_neg h0]
      rw [mn_cong (k := 10) (fun o ho hb => by
        have := cnt_cl hx ho hb
        rw [oA_st n (x - 2 ^ o) (cl_lt hx) (by omega)])]
theorem oA_eq {s : oS} {al x : Nat} (hx : x < 1024) (h0 : x ≠ 0) : oA s al 10 x = (mn (oC s al x) x 10).1 := by
  rw [oA, if_neg h0]
  have e : mn (fun o => s.2.2.1 o * oL s o (Pm s.1 al 10 - Pm s.1 x 10) + oA s al 9 (x - 2 ^ o)) x 10 = mn (oC s al x) x 10 := by
    apply mn_cong
    intro o ho hb
    have := cnt_cl hx ho hb
    have := cnt_bd x
    show _ = s.2.2.1 o * oL s o (Pm s.1 al 10 - Pm s.1 x 10) + oA s al 10 (x - 2 ^ o)
    rw [oA_st 9 (x - 2 ^ o) (cl_lt hx) (by omega)]
  rw [e]
theorem oC_bd {s : oS} (ok : oOk s) {al : Nat} (hal : oAl s al) {x o : Nat} (hx : x < 1024) (hs : sub_ x al) (ho : o < 10) (hb : x.testBit o = true) : 0 ≤ oC s al x o ∧ oC s al x o ≤ 650000 := by
  have P := P_mono ok hx hal.1 hs
  have t := oT_bd ok ho ((hal.2 o ho).mp (hs o ho hb)) P.1 P.2
  have a := oA_bd ok hal 10 (x - 2 ^ o) (cl_lt hx) (sub_cl hx ho hb hs).1
  have c := cnt_cl hx ho hb
  have d := cnt_bd x
  unfold oC
  omega
theorem oM_sp {s : oS} (ok : oOk s) {al : Nat} (hal : oAl s al) {x : Nat} (hx : x < 1024) (hs : sub_ x al) (h0 : x ≠ 0) : (mn (oC s al x) x 10).1 < 1000000 ∧ (mn (oC s al x) x 10).2 < 10 ∧ x.testBit (mn (oC s al x) x 10).2 = true ∧ oC s al x (mn (oC s al x) x 10).2 = oA s al 10 x ∧ ∀ o : Nat, o < (mn (oC s al x) x 10).2 → x.testBit o = true → ¬ oC s al x o = oA s al 10 x := by
  have m := mn_sp (g := oC s al x) (x := x) (k := 10) (fun o ho hb => ⟨(oC_bd ok hal hx hs ho hb).1, by have := (oC_bd ok hal hx hs ho hb).2; omega⟩)
  obtain ⟨o, ho, hb⟩ := bit_ex hx h0
  have b := (oC_bd ok hal hx hs ho hb).2
  have := m.2.2.1 o ho hb
  have lt : (mn (oC s al x) x 10).1 < 1000000 := by omega
  have r := m.2.2.2 lt
  rw [oA_eq hx h0]
  exact ⟨lt, r⟩
/-! the class -/
theorem oX_fr {S T : List Nat} {σ σ' : xS} {s : oS} (h : oX σ s) (f : fr S T σ σ') (h1 : 15 ∉ S) (h2 : 18 ∉ T ∧ 19 ∉ T ∧ 20 ∉ T) : oX σ' s := by
  refine ⟨fun o ho => ?_, ?_⟩
  · rw [f.2 18 h2.1, f.2 19 h2.2.1, f.2 20 h2.2.2]; exact h.1 o ho
  · rw [f.1 15 h1]; exact h.2
theorem oM_fr {S T : List Nat} {τ τ' : xS} {s : oS} (h : oM τ s) (f : fr S T τ τ') (h1 : 21 ∉ S) (h2 : 18 ∉ T ∧ 19 ∉ T ∧ 20 ∉ T ∧ 21 ∉ T) : oM τ' s := by
  refine ⟨fun o ho => ?_, ?_⟩
  · rw [f.2 18 h2.1, f.2 19 h2.2.1, f.2 20 h2.2.2.1, f.2 21 h2.2.2.2]; exact h.1 o ho
  · rw [f.1 21 h1]; exact h.2
theorem all_x {N : Nat} {σ : xS} {s : oS} (ok : oOk s) (hx : oX σ s) : ∀ (n k : Nat), k ≤ 10 → 10 < k + n → orders_allOrders_b4 N n (iI ((mk (fun o => decide (0 < s.1 o)) k : Nat) : Int)) (iI k) σ = some (iI ((mk (fun o => decide (0 < s.1 o)) 10 : Nat) : Int), σ) := by
  intro n
  induction n with
  | zero => intro k h1 h2; omega
  | succ n ih =>
    intro k h1 h2
    rw [orders_allOrders_b4]
    by_cases q : (10 : Int) ≤ k
    · rw [if_pos (show (10 : Int32) ≤ iI k by rw [show (10 : Int32) = iI 10 from rfl, iI_le (by omega) (by omega) (by omega) (by omega)]; exact q), show k = 10 by omega]
    · have g := ih (k + 1) (by omega) (by omega)
      have e1 := hx.1 (k : Int).toNat (by omega)
      have e2 := ok.1 (k : Int).toNat (by omega)
      have ml := mk_lt (fun o => decide (0 < s.1 o)) k
      have mb := mk_bit (fun o => decide (0 < s.1 o)) k k
      have p10 : 2 ^ k ≤ 1024 := (Nat.pow_le_pow_right (by omega) (by omega) : 2 ^ k ≤ 2 ^ 10)
      rw [mk] at g
      rw [if_neg (show ¬ (10 : Int32) ≤ iI k by rw [show (10 : Int32) = iI 10 from rfl, iI_le (by omega) (by omega) (by omega) (by omega)]; exact q), j_shl1 (show k < 31 by omega), j_or, j_set (show k < 10 by omega) (by omega) (by rw [mb]; simp)]
      simp (disch := omega) only [iI_lit, ald_at, e1.1, iI_le, bnd_at, iI_add]
      have e3 : (k : Int).toNat = k := by omega
      rw [e3] at e2 ⊢
      by_cases hp : 0 < s.1 k
      · rw [if_neg (by omega)]
        rw [if_pos (by simp [hp])] at g
        exact g
      · rw [if_pos (by omega)]
        rw [if_neg (by simp [hp]), Nat.add_zero] at g
        have e4 : iI ((mk (fun o => decide (0 < s.1 o)) k : Nat) : Int) ||| iI 0 = iI ((mk (fun o => decide (0 < s.1 o)) k : Nat) : Int) := by
          rw [show iI 0 = iI ((0 : Nat) : Int) from rfl, j_or, Nat.or_zero]
        rw [e4]
        exact g
theorem al_ok {s : oS} : oAl s (mk (fun o => decide (0 < s.1 o)) 10) := ⟨mk_lt _ 10, fun o ho => by rw [mk_bit, decide_eq_true ho, Bool.true_and, decide_eq_true_eq]⟩
theorem pours_x {N : Nat} {σ : xS} {s : oS} (ok : oOk s) (hx : oX σ s) {x : Nat} (hxl : x < 1024) : ∀ (n k : Nat), k ≤ 10 → 10 < k + n → orders_poursOf_b4 N n (iI (x : Int)) (iI (Pm s.1 x k)) (iI k) σ = some (iI (Pm s.1 x 10), σ) := by
  intro n
  induction n with
  | zero => intro k h1 h2; omega
  | succ n ih =>
    intro k h1 h2
    rw [orders_poursOf_b4]
    by_cases q : (10 : Int) ≤ k
    · rw [if_pos (show (10 : Int32) ≤ iI k by rw [show (10 : Int32) = iI 10 from rfl, iI_le (by omega) (by omega) (by omega) (by omega)]; exact q), show k = 10 by omega]
    · have g := ih (k + 1) (by omega) (by omega)
      have e1 := hx.1 (k : Int).toNat (by omega)
      rw [if_neg (show ¬ (10 : Int32) ≤ iI k by rw [show (10 : Int32) = iI 10 from rfl, iI_le (by omega) (by omega) (by omega) (by omega)]; exact q), j_bit (by omega) (by omega)]
      simp (disch := omega) only [iI_lit, ald_at, e1.1, bnd_at, iI_mul, iI_add]
      rw [Pm] at g
      have e3 : (k : Int).toNat = k := by omega
      rw [e3]
      rw [show (if x.testBit k = true then (1 : Int) else 0) * s.1 k = if x.testBit k = true then s.1 k else 0 by split <;> simp]
      exact g
theorem late_x {N : Nat} {σ : xS} {s : oS} (ok : oOk s) (hx : oX σ s) {o : Nat} (ho : o < 10) (hp : 0 < s.1 o) {d : Int} (h1 : 0 ≤ d) (h2 : d ≤ 500) : orders_latenessOf N (iI o) (iI d) σ = some (iI (oL s o d), σ) := by
  have e1 := hx.1 (o : Int).toNat (by omega)
  have e2 := ok.1 (o : Int).toNat (by omega)
  have e3 : (o : Int).toNat = o := by omega
  rw [e3] at e1 e2
  have e4 := e2.2.2 hp
  have e5 := ok.2
  unfold orders_latenessOf
  simp (disch := omega) only [iI_lit, ald_at, e3, e1.1, (e1.2 hp).1, hx.2, iI_add, iI_sub, iI_max, bnd_at]
  unfold oL
  by_cases q : 0 < d + s.1 o + s.2.2.2 - s.2.1 o
  · rw [if_pos q, if_pos (by omega)]
  · rw [if_neg q]
    by_cases q2 : 0 ≤ d + s.1 o + s.2.2.2 - s.2.1 o
    · rw [if_pos q2]; congr 3; omega
    · rw [if_neg q2]
