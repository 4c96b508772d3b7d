/-! the drawing: fewest pieces by sets of ways, against all rows of ways -/
def wl (P : Nat → Nat → Nat) (G : Nat → Int) (s : Nat) : Nat → Int × Int
  | 0 => (1000000, -1)
  | k + 1 => if s.testBit k = false ∧ G (s ||| 2 ^ k) + 1 < (wl P G s k).1 ∧ (P k s : Int) + G (s ||| 2 ^ k) < (wl P G s k).1 then ((P k s : Int) + G (s ||| 2 ^ k), (k : Int)) else wl P G s k
def dF (P : Nat → Nat → Nat) (C : Nat → Bool) : Nat → Nat → Int × Int
  | 0, s => (if C s = true then 0 else 1000000, -1)
  | m + 1, s => wl P (fun t => (dF P C m t).1) s 6
def gc (P : Nat → Nat → Nat) (C : Nat → Bool) : Nat → Nat → Nat
  | 0, _ => 0
  | m + 1, s => (dF P C (m + 1) s).2.toNat * 6 ^ m + gc P C m (s ||| 2 ^ (dF P C (m + 1) s).2.toNat)
def tt (P : Nat → Nat → Nat) (C : Nat → Bool) : Nat → Nat → Nat → Int
  | 0, s, _ => if C s = true then 0 else 1000000
  | m + 1, s, c => if s.testBit (c / 6 ^ m) = true then 1000000 else (P (c / 6 ^ m) s : Int) + tt P C m (s ||| 2 ^ (c / 6 ^ m)) (c % 6 ^ m)
def sb (s T : Nat) : Prop := ∀ k : Nat, k < 6 → s.testBit k = true → T.testBit k = true
theorem on_or : ∀ s : Nat, s < 64 → ∀ k : Nat, k < 6 → on (s ||| 2 ^ k) = on s + (if s.testBit k = true then 0 else 1) ∧ s ||| 2 ^ k < 64 := by decide +kernel
theorem sb_eq : ∀ s : Nat, s < 64 → ∀ T : Nat, T < 64 → (∀ k : Nat, k < 6 → s.testBit k = true → T.testBit k = true) → on s = on T → s = T := by decide +kernel
theorem sb_le : ∀ s : Nat, s < 64 → ∀ T : Nat, T < 64 → (∀ k : Nat, k < 6 → s.testBit k = true → T.testBit k = true) → on s ≤ on T := by decide +kernel
theorem sb_ex {s T : Nat} (hs : s < 64) (hT : T < 64) (hl : on s < on T) : ∃ k : Nat, k < 6 ∧ T.testBit k = true ∧ s.testBit k = false := by
  by_cases z : ∃ k : Nat, k < 6 ∧ T.testBit k = true ∧ s.testBit k = false
  · exact z
  · have := sb_le T hT s hs (fun k hk ht => by
      cases e : s.testBit k with
      | true => rfl
      | false => exact absurd ⟨k, hk, ht, e⟩ z)
    omega
theorem sb_or {s T k : Nat} (h : sb s T) (hk : T.testBit k = true) : sb (s ||| 2 ^ k) T := fun j hj hb => by
  rw [Nat.testBit_or, Nat.testBit_two_pow] at hb
  by_cases e : k = j
  · rw [← e]; exact hk
  · exact h j hj (by simpa [e] using hb)
theorem sb_up {s T k : Nat} (h : sb (s ||| 2 ^ k) T) : sb s T := fun j hj hb => h j hj (by rw [Nat.testBit_or, hb]; rfl)
theorem sb_in {s T k : Nat} (hk : k < 6) (h : sb (s ||| 2 ^ k) T) : T.testBit k = true := h k hk (by rw [Nat.testBit_or, Nat.testBit_two_pow]; simp)
theorem wl_st {P : Nat → Nat → Nat} {G : Nat → Int} {s : Nat} : ∀ k : Nat, (wl P G s k).1 ≤ 1000000 ∧ ((wl P G s k).1 < 1000000 → ∃ j : Nat, j < k ∧ (wl P G s k).2 = (j : Int) ∧ s.testBit j = false ∧ (wl P G s k).1 = (P j s : Int) + G (s ||| 2 ^ j) ∧ G (s ||| 2 ^ j) < 1000000)
  | 0 => ⟨by rw [wl]; decide, fun z => by rw [wl] at z; exact absurd z (by decide)⟩
  | k + 1 => by
    have ih := wl_st (P := P) (G := G) (s := s) k
    rw [wl]
    by_cases c : s.testBit k = false ∧ G (s ||| 2 ^ k) + 1 < (wl P G s k).1 ∧ (P k s : Int) + G (s ||| 2 ^ k) < (wl P G s k).1
    · rw [if_pos c]
      have i1 := ih.1
      exact ⟨by show (P k s : Int) + G (s ||| 2 ^ k) ≤ 1000000; omega, fun _ => ⟨k, by omega, rfl, c.1, rfl, by omega⟩⟩
    · rw [if_neg c]
      refine ⟨ih.1, fun z => ?_⟩
      obtain ⟨j, a, b⟩ := ih.2 z
      exact ⟨j, by omega, b⟩
theorem dF_T {P : Nat → Nat → Nat} {C : Nat → Bool} : ∀ (m s : Nat), s < 64 → (dF P C m s).1 < 1000000 → ∃ T : Nat, T < 64 ∧ sb s T ∧ on T = on s + m ∧ C T = true
  | 0, s, hs, h => by
    rw [dF] at h
    dsimp only at h
    cases e : C s with
    | true => exact ⟨s, hs, fun _ _ h => h, rfl, e⟩
    | false => rw [e] at h; simp at h
  | m + 1, s, hs, h => by
    rw [dF] at h
    obtain ⟨j, a, b, c, e, g⟩ := (wl_st (P := P) (G := fun t => (dF P C m t).1) (s := s) 6).2 h
    have o := on_or s hs j a
    obtain ⟨T, t1, t2, t3, t4⟩ := dF_T m (s ||| 2 ^ j) o.2 g
    rw [o.1, c] at t3
    exact ⟨T, t1, sb_up t2, by rw [t3]; simp; omega, t4⟩
def dSp (P : Nat → Nat → Nat) (C : Nat → Bool) (m s : Nat) : Prop := 0 ≤ (dF P C m s).1 ∧ (dF P C m s).1 ≤ 1000000 ∧ ((dF P C m s).1 = 1000000 → ∀ c : Nat, c < 6 ^ m → 1000000 ≤ tt P C m s c) ∧ ((dF P C m s).1 < 1000000 → (dF P C m s).1 ≤ 1000 * m ∧ gc P C m s < 6 ^ m ∧ tt P C m s (gc P C m s) = (dF P C m s).1 ∧ ∀ c : Nat, c < 6 ^ m → (dF P C m s).1 < tt P C m s c ∨ ((dF P C m s).1 = tt P C m s c ∧ gc P C m s ≤ c))
def dHy (P : Nat → Nat → Nat) (C : Nat → Bool) (n : Nat) : Prop := (∀ k s : Nat, P k s ≤ 1000) ∧ ∀ T k s : Nat, T < 64 → on T = n → C T = true → sb s T → T.testBit k = true → s.testBit k = false → k < 6 → s < 64 → 1 ≤ P k s
theorem dF_sp {P : Nat → Nat → Nat} {C : Nat → Bool} {n : Nat} (hy : dHy P C n) : ∀ (m s : Nat), s < 64 → on s + m = n → m ≤ 6 → dSp P C m s := by
  intro m
  induction m with
  | zero =>
    intro s hs hn _
    unfold dSp
    cases e : C s with
    | true =>
      have d0 : (dF P C 0 s).1 = 0 := by rw [dF, e]; rfl
      have t0 : ∀ c : Nat, tt P C 0 s c = 0 := fun c => by rw [tt, e]; rfl
      have g0 : gc P C 0 s = 0 := rfl
      rw [d0, g0]
      refine ⟨by omega, by omega, fun z => by omega, fun _ => ⟨by omega, by decide, t0 0, fun c hc => Or.inr ⟨(t0 c).symm, by omega⟩⟩⟩
    | false =>
      have d0 : (dF P C 0 s).1 = 1000000 := by rw [dF, e]; rfl
      have t0 : ∀ c : Nat, tt P C 0 s c = 1000000 := fun c => by rw [tt, e]; rfl
      rw [d0]
      exact ⟨by omega, by omega, fun _ c _ => by rw [t0 c]; exact Int.le_refl _, fun z => by omega⟩
  | succ m ih =>
    intro s hs hn hm
    obtain ⟨A, hA⟩ : ∃ A : Nat, A = 6 ^ m := ⟨_, rfl⟩
    have A0 : 0 < A := by rw [hA]; exact Nat.pow_pos (by decide)
    have hg : ∀ k : Nat, k < 6 → s.testBit k = false → dSp P C m (s ||| 2 ^ k) := fun k hk hb => by
      have o := on_or s hs k hk
      rw [hb] at o
      exact ih _ o.2 (by rw [o.1]; simp; omega) (by omega)
    obtain ⟨G, hG⟩ : ∃ G : Nat → Int, G = fun t => (dF P C m t).1 := ⟨_, rfl⟩
    have Ga : ∀ t : Nat, (dF P C m t).1 = G t := fun t => by rw [hG]
    have inner : ∀ k : Nat, k ≤ 6 → 0 ≤ (wl P G s k).1 ∧ (wl P G s k).1 ≤ 1000000 ∧ ((wl P G s k).1 = 1000000 → ∀ c : Nat, c < k * A → 1000000 ≤ tt P C (m + 1) s c) ∧ ((wl P G s k).1 < 1000000 → ∃ j : Nat, j < k ∧ (wl P G s k).2 = (j : Int) ∧ s.testBit j = false ∧ (wl P G s k).1 = (P j s : Int) + G (s ||| 2 ^ j) ∧ G (s ||| 2 ^ j) < 1000000 ∧ ∀ c : Nat, c < k * A → (wl P G s k).1 < tt P C (m + 1) s c ∨ ((wl P G s k).1 = tt P C (m + 1) s c ∧ j * A + gc P C m (s ||| 2 ^ j) ≤ c)) := by
      intro k
      induction k with
      | zero => intro _; exact ⟨by rw [wl]; decide, by rw [wl]; decide, fun _ c hc => by omega, fun z => by rw [wl] at z; exact absurd z (by decide)⟩
      | succ k ihk =>
        intro hk
        have b := ihk (by omega)
        have sA : (k + 1) * A = k * A + A := Nat.succ_mul k A
        have blk : ∀ c : Nat, k * A ≤ c → c < k * A + A → c / A = k ∧ c = k * A + c % A := fun c h1 h2 => by
          have e : c / A = k := Nat.div_eq_of_lt_le h1 (by rw [sA]; exact h2)
          have := Nat.div_add_mod c A
          rw [e, Nat.mul_comm] at this
          exact ⟨e, by omega⟩
        have tc : ∀ c : Nat, k * A ≤ c → c < k * A + A → tt P C (m + 1) s c = if s.testBit k = true then 1000000 else (P k s : Int) + tt P C m (s ||| 2 ^ k) (c % A) := fun c h1 h2 => by
          rw [tt, ← hA, (blk c h1 h2).1]
        rw [wl, sA]
        obtain ⟨W, hW⟩ : ∃ W : Int × Int, W = wl P G s k := ⟨_, rfl⟩
        rw [← hW] at b ⊢
        by_cases tb : s.testBit k = true
        · rw [if_neg (fun z => by rw [tb] at z; cases z.1)]
          refine ⟨b.1, b.2.1, fun z c hc => ?_, fun z => ?_⟩
          · by_cases y : c < k * A
            · exact b.2.2.1 z c y
            · rw [tc c (by omega) hc, if_pos tb]; exact Int.le_refl _
          · obtain ⟨j, j1, j2, j3, j4, j5, j6⟩ := b.2.2.2 z
            refine ⟨j, by omega, j2, j3, j4, j5, fun c hc => ?_⟩
            by_cases y : c < k * A
            · exact j6 c y
            · rw [tc c (by omega) hc, if_pos tb]; exact Or.inl z
        · have tb' : s.testBit k = false := Bool.eq_false_iff.mpr tb
          have g := hg k (by omega) tb'
          unfold dSp at g
          rw [Ga] at g
          by_cases gl : G (s ||| 2 ^ k) < 1000000
          · have g4 := g.2.2.2 gl
            have p1 : 1 ≤ P k s := by
              obtain ⟨T, t1, t2, t3, t4⟩ := dF_T (P := P) (C := C) m (s ||| 2 ^ k) (on_or s hs k (by omega)).2 (by rw [Ga]; exact gl)
              rw [(on_or s hs k (by omega)).1, tb'] at t3
              exact hy.2 T k s t1 (by rw [t3]; simp; omega) t4 (sb_up t2) (sb_in (by omega) t2) tb' (by omega) hs
            have pb := hy.1 k s
            by_cases up : (P k s : Int) + G (s ||| 2 ^ k) < W.1
            · rw [if_pos ⟨tb', by omega, up⟩]
              dsimp only
              refine ⟨by omega, by omega, fun z => by omega, fun _ => ⟨k, by omega, rfl, tb', rfl, gl, fun c hc => ?_⟩⟩
              by_cases y : c < k * A
              · by_cases w1 : W.1 = 1000000
                · have := b.2.2.1 w1 c y
                  exact Or.inl (by omega)
                · obtain ⟨j, j1, j2, j3, j4, j5, j6⟩ := b.2.2.2 (by omega)
                  rcases j6 c y with q | q
                  · exact Or.inl (by omega)
                  · exact Or.inl (by omega)
              · have bc := blk c (by omega) hc
                have ml := Nat.mod_lt c A0
                rw [tc c (by omega) hc, if_neg tb]
                rcases g4.2.2.2 (c % A) (by rw [← hA]; exact ml) with q | q
                · exact Or.inl (by omega)
                · exact Or.inr ⟨by omega, by omega⟩
            · rw [if_neg (fun z => up z.2.2)]
              have w1 : W.1 < 1000000 := by omega
              refine ⟨b.1, b.2.1, fun z => by omega, fun z => ?_⟩
              obtain ⟨j, j1, j2, j3, j4, j5, j6⟩ := b.2.2.2 z
              refine ⟨j, by omega, j2, j3, j4, j5, fun c hc => ?_⟩
              by_cases y : c < k * A
              · exact j6 c y
              · have bc := blk c (by omega) hc
                have ml := Nat.mod_lt c A0
                have gj := hg j (by omega) j3
                unfold dSp at gj
                rw [Ga] at gj
                have gj2 := (gj.2.2.2 j5).2.1
                rw [← hA] at gj2
                have jk : j * A + A ≤ k * A := by
                  have := Nat.mul_le_mul_right A (show j + 1 ≤ k by omega)
                  rw [Nat.succ_mul] at this; exact this
                rw [tc c (by omega) hc, if_neg tb]
                rcases g4.2.2.2 (c % A) (by rw [← hA]; exact ml) with q | q
                · exact Or.inl (by omega)
                · by_cases e : W.1 = (P k s : Int) + tt P C m (s ||| 2 ^ k) (c % A)
                  · exact Or.inr ⟨e, by omega⟩
                  · exact Or.inl (by omega)
          · rw [if_neg (fun z => by have := z.2.1; omega)]
            have gt := g.2.2.1 (by omega)
            refine ⟨b.1, b.2.1, fun z c hc => ?_, fun z => ?_⟩
            · by_cases y : c < k * A
              · exact b.2.2.1 z c y
              · have ml := Nat.mod_lt c A0
                have := gt (c % A) (by rw [← hA]; exact ml)
                rw [tc c (by omega) hc, if_neg tb]
                omega
            · obtain ⟨j, j1, j2, j3, j4, j5, j6⟩ := b.2.2.2 z
              refine ⟨j, by omega, j2, j3, j4, j5, fun c hc => ?_⟩
              by_cases y : c < k * A
              · exact j6 c y
              · have ml := Nat.mod_lt c A0
                have := gt (c % A) (by rw [← hA]; exact ml)
                rw [tc c (by omega) hc, if_neg tb]
                exact Or.inl (by omega)
    have fin := inner 6 (by omega)
    have eF : dF P C (m + 1) s = wl P G s 6 := by rw [dF, hG]
    have e6 : 6 ^ (m + 1) = 6 * A := by rw [hA, Nat.pow_succ, Nat.mul_comm]
    unfold dSp
    rw [e6, eF]
    refine ⟨fin.1, fin.2.1, fin.2.2.1, fun z => ?_⟩
    obtain ⟨j, j1, j2, j3, j4, j5, j6⟩ := fin.2.2.2 z
    have gj := hg j (by omega) j3
    unfold dSp at gj
    rw [Ga] at gj
    have gj4 := gj.2.2.2 j5
    rw [← hA] at gj4
    have eG : gc P C (m + 1) s = j * A + gc P C m (s ||| 2 ^ j) := by rw [gc, eF, j2, Int.toNat_natCast, hA]
    have jA : j * A + A ≤ 6 * A := by
      have := Nat.mul_le_mul_right A (show j + 1 ≤ 6 by omega)
      rw [Nat.succ_mul] at this; exact this
    have pb := hy.1 j s
    refine ⟨by omega, by omega, ?_, fun c hc => ?_⟩
    · have ed : (j * A + gc P C m (s ||| 2 ^ j)) / A = j := Nat.div_eq_of_lt_le (by omega) (by rw [Nat.succ_mul]; omega)
      have em : (j * A + gc P C m (s ||| 2 ^ j)) % A = gc P C m (s ||| 2 ^ j) := by
        have := Nat.div_add_mod (j * A + gc P C m (s ||| 2 ^ j)) A
        rw [ed, Nat.mul_comm] at this; omega
      rw [eG, tt, ← hA, ed, em, j3, if_neg (by decide), gj4.2.2.1]; omega
    · rw [eG]; exact j6 c hc
theorem dF_pos {P : Nat → Nat → Nat} {C : Nat → Bool} {n : Nat} (hy : dHy P C n) {T : Nat} (hT : T < 64) (oT : on T = n) (cT : C T = true) : ∀ (m s : Nat), s < 64 → on s + m = n → m ≤ 6 → sb s T → (dF P C m s).1 < 1000000 := by
  intro m
  induction m with
  | zero =>
    intro s hs hn _ h
    have e := sb_eq s hs T hT h (by omega)
    rw [dF, e, cT]; decide
  | succ m ih =>
    intro s hs hn hm h
    obtain ⟨k, k1, k2, k3⟩ := sb_ex hs hT (by omega)
    have o := on_or s hs k k1
    have o1 := o.1
    rw [k3] at o1
    have o2 : on (s ||| 2 ^ k) + m = n := by rw [o1]; simp; omega
    have i := ih (s ||| 2 ^ k) o.2 o2 (by omega) (sb_or h k2)
    have sp := dF_sp hy m (s ||| 2 ^ k) o.2 o2 (by omega)
    have sq' := dF_sp hy (m + 1) s hs hn hm
    have s4 := sp.2.2.2 i
    by_cases z : (dF P C (m + 1) s).1 < 1000000
    · exact z
    · have e1 : (dF P C (m + 1) s).1 = 1000000 := by have := sq'.2.1; omega
      obtain ⟨A, hA⟩ : ∃ A : Nat, A = 6 ^ m := ⟨_, rfl⟩
      rw [← hA] at s4
      have jA : k * A + A ≤ 6 * A := by
        have := Nat.mul_le_mul_right A (show k + 1 ≤ 6 by omega)
        rw [Nat.succ_mul] at this; exact this
      have ed : (k * A + gc P C m (s ||| 2 ^ k)) / A = k := Nat.div_eq_of_lt_le (by omega) (by rw [Nat.succ_mul]; omega)
      have em : (k * A + gc P C m (s ||| 2 ^ k)) % A = gc P C m (s ||| 2 ^ k) := by
        have := Nat.div_add_mod (k * A + gc P C m (s ||| 2 ^ k)) A
        rw [ed, Nat.mul_comm] at this; omega
      have t := sq'.2.2.1 e1 (k * A + gc P C m (s ||| 2 ^ k)) (by rw [Nat.pow_succ, ← hA, Nat.mul_comm A 6]; omega)
      rw [tt, ← hA, ed, em, k3, if_neg (by decide), s4.2.2.1] at t
      have pb := hy.1 k s
      omega
/-! the row that a code tells -/
def dq (n c i : Nat) : Nat := c / 6 ^ (n - 1 - i) % 6
theorem dq_lt (n c i : Nat) : dq n c i < 6 := Nat.mod_lt _ (by decide)
theorem sq_lt {q : Nat → Nat} (hq : ∀ i : Nat, q i < 6) : ∀ i : Nat, sq q i < 64
  | 0 => by rw [sq]; decide
  | i + 1 => by rw [sq]; exact (on_or _ (sq_lt hq i) _ (hq i)).2
def sP (P : Nat → Nat → Nat) (q : Nat → Nat) : Nat → Nat
  | 0 => 0
  | i + 1 => sP P q i + P (q i) (sq q i)
theorem on_sq {q : Nat → Nat} (hq : ∀ i : Nat, q i < 6) : ∀ i : Nat, on (sq q i) ≤ i ∧ ((∀ j : Nat, j < i → (sq q j).testBit (q j) = false) → on (sq q i) = i) ∧ ((∃ j : Nat, j < i ∧ (sq q j).testBit (q j) = true) → on (sq q i) < i)
  | 0 => ⟨by rw [sq]; decide, fun _ => by rw [sq]; decide, fun ⟨j, hj, _⟩ => by omega⟩
  | i + 1 => by
    have ih := on_sq hq i
    have o := (on_or _ (sq_lt hq i) _ (hq i)).1
    rw [sq]
    refine ⟨by rw [o]; split <;> omega, fun z => ?_, fun ⟨j, hj, hb⟩ => ?_⟩
    · rw [o, z i (by omega), ih.2.1 (fun j hj => z j (by omega))]; simp
    · by_cases e : j = i
      · rw [e] at hb; rw [o, if_pos hb]; omega
      · have := ih.2.2 ⟨j, by omega, hb⟩
        rw [o]; split <;> omega
theorem dig {n i c m : Nat} (hi : i < n) (hm : n - i = m + 1) : c % 6 ^ (m + 1) / 6 ^ m = dq n c i ∧ c % 6 ^ (m + 1) % 6 ^ m = c % 6 ^ m := by
  unfold dq
  rw [show n - 1 - i = m by omega, Nat.pow_succ]
  exact ⟨Nat.mod_mul_right_div_self c (6 ^ m) 6, Nat.mod_mul_right_mod c (6 ^ m) 6⟩
theorem tt_pre {P : Nat → Nat → Nat} {C : Nat → Bool} {n c : Nat} (hc : c < 6 ^ n) : ∀ i : Nat, i ≤ n → (∀ j : Nat, j < i → (sq (dq n c) j).testBit (dq n c j) = false) → tt P C n 0 c = (sP P (dq n c) i : Int) + tt P C (n - i) (sq (dq n c) i) (c % 6 ^ (n - i)) := by
  intro i
  induction i with
  | zero => intro _ _; rw [Nat.sub_zero, Nat.mod_eq_of_lt hc, sP, sq]; simp
  | succ i ih =>
    intro hi hj
    obtain ⟨m, hm⟩ : ∃ m : Nat, n - i = m + 1 := ⟨n - i - 1, by omega⟩
    have ih := ih (by omega) (fun j h => hj j (by omega))
    have g := dig (c := c) (show i < n by omega) hm
    rw [ih, hm, tt, g.1, g.2, hj i (by omega), if_neg (by decide), sP, sq, show n - (i + 1) = m by omega]
    omega
theorem dup_ex {b : Nat → Bool} : ∀ n : Nat, (∀ j : Nat, j < n → b j = false) ∨ ∃ j : Nat, j < n ∧ b j = true ∧ ∀ i : Nat, i < j → b i = false
  | 0 => Or.inl (fun j hj => by omega)
  | n + 1 => by
    rcases dup_ex (b := b) n with z | ⟨j, a, c⟩
    · cases e : b n with
      | true => exact Or.inr ⟨n, by omega, e, z⟩
      | false => exact Or.inl (fun j hj => by
          by_cases y : j = n
          · rw [y]; exact e
          · exact z j (by omega))
    · exact Or.inr ⟨j, by omega, c⟩
theorem tt_0 {P : Nat → Nat → Nat} {C : Nat → Bool} : ∀ (m s c : Nat), 0 ≤ tt P C m s c
  | 0, s, c => by rw [tt]; split <;> omega
  | m + 1, s, c => by
    have := tt_0 (P := P) (C := C) m (s ||| 2 ^ (c / 6 ^ m)) (c % 6 ^ m)
    rw [tt]; split <;> omega
theorem tt_val {P : Nat → Nat → Nat} {C : Nat → Bool} {n c : Nat} (hc : c < 6 ^ n) : (n ≤ on (sq (dq n c) n) → C (sq (dq n c) n) = true → tt P C n 0 c = (sP P (dq n c) n : Int)) ∧ ((on (sq (dq n c) n) < n ∨ C (sq (dq n c) n) = false) → 1000000 ≤ tt P C n 0 c) := by
  have os := on_sq (dq_lt n c) n
  rcases dup_ex (b := fun j => (sq (dq n c) j).testBit (dq n c j)) n with z | ⟨j, j1, j2, j3⟩
  · have t := tt_pre (P := P) (C := C) hc n (Nat.le_refl n) z
    rw [Nat.sub_self, tt] at t
    have o := os.2.1 z
    refine ⟨fun _ h2 => by rw [t, if_pos h2]; omega, fun h => ?_⟩
    rcases h with h | h
    · omega
    · rw [t, if_neg (by rw [h]; decide)]; omega
  · have o := os.2.2 ⟨j, j1, j2⟩
    refine ⟨fun h1 => by omega, fun _ => ?_⟩
    have t := tt_pre (P := P) (C := C) hc j (by omega) j3
    obtain ⟨m, hm⟩ : ∃ m : Nat, n - j = m + 1 := ⟨n - j - 1, by omega⟩
    have g := dig (c := c) j1 hm
    rw [hm, tt, g.1, if_pos j2] at t
    rw [t]; omega
/-- the best row: what the sets tell, step by step -/
theorem g_dig {P : Nat → Nat → Nat} {C : Nat → Bool} {n : Nat} (hy : dHy P C n) (hn : n ≤ 6) (h0 : (dF P C n 0).1 < 1000000) : ∀ i : Nat, i ≤ n → (dF P C (n - i) (sq (dq n (gc P C n 0)) i)).1 < 1000000 ∧ gc P C n 0 % 6 ^ (n - i) = gc P C (n - i) (sq (dq n (gc P C n 0)) i) ∧ on (sq (dq n (gc P C n 0)) i) = i ∧ (i < n → (dF P C (n - i) (sq (dq n (gc P C n 0)) i)).2 = (dq n (gc P C n 0) i : Int) ∧ (sq (dq n (gc P C n 0)) i).testBit (dq n (gc P C n 0) i) = false) := by
  have on0 : on 0 = 0 := by decide
  have sp0 := dF_sp hy n 0 (by decide) (by rw [on0]; omega) hn
  obtain ⟨q, hq⟩ : ∃ q : Nat → Nat, q = dq n (gc P C n 0) := ⟨_, rfl⟩
  have q6 : ∀ i : Nat, q i < 6 := fun i => by rw [hq]; exact dq_lt _ _ _
  rw [← hq]
  have st : ∀ i : Nat, i < n → (dF P C (n - i) (sq q i)).1 < 1000000 → gc P C n 0 % 6 ^ (n - i) = gc P C (n - i) (sq q i) → on (sq q i) = i → (dF P C (n - i) (sq q i)).2 = (q i : Int) ∧ (sq q i).testBit (q i) = false ∧ (dF P C (n - (i + 1)) (sq q (i + 1))).1 < 1000000 ∧ gc P C n 0 % 6 ^ (n - (i + 1)) = gc P C (n - (i + 1)) (sq q (i + 1)) := by
    intro i hi h1 h2 h3
    obtain ⟨m, hm⟩ : ∃ m : Nat, n - i = m + 1 := ⟨n - i - 1, by omega⟩
    have g := dig (c := gc P C n 0) hi hm
    rw [hm] at h1 h2 ⊢
    rw [show n - (i + 1) = m by omega]
    obtain ⟨j, a, b, c, e, k⟩ := (wl_st (P := P) (G := fun t => (dF P C m t).1) (s := sq q i) 6).2 (by rw [dF] at h1; exact h1)
    have b : (dF P C (m + 1) (sq q i)).2 = (j : Int) := by rw [dF]; exact b
    have o := on_or (sq q i) (sq_lt q6 i) j a
    have o1 := o.1
    rw [c] at o1
    have spm := dF_sp hy m (sq q i ||| 2 ^ j) o.2 (by rw [o1]; simp; omega) (by omega)
    have gl := (spm.2.2.2 k).2.1
    rw [h2, gc, b, Int.toNat_natCast] at g
    obtain ⟨A, hA⟩ : ∃ A : Nat, A = 6 ^ m := ⟨_, rfl⟩
    rw [← hA] at g gl ⊢
    have ed : (j * A + gc P C m (sq q i ||| 2 ^ j)) / A = j := Nat.div_eq_of_lt_le (by omega) (by rw [Nat.succ_mul]; omega)
    have em : (j * A + gc P C m (sq q i ||| 2 ^ j)) % A = gc P C m (sq q i ||| 2 ^ j) := by
      have := Nat.div_add_mod (j * A + gc P C m (sq q i ||| 2 ^ j)) A
      rw [ed, Nat.mul_comm] at this; omega
    rw [ed, em, ← hq] at g
    have qi : q i = j := g.1.symm
    have es : sq q (i + 1) = sq q i ||| 2 ^ j := by rw [sq, qi]
    rw [es, qi]
    exact ⟨b, c, k, g.2.symm⟩
  intro i
  induction i with
  | zero =>
    intro _
    have a : (dF P C (n - 0) (sq q 0)).1 < 1000000 := h0
    have b : gc P C n 0 % 6 ^ (n - 0) = gc P C (n - 0) (sq q 0) := Nat.mod_eq_of_lt (sp0.2.2.2 h0).2.1
    have c : on (sq q 0) = 0 := on0
    exact ⟨a, b, c, fun hi => ⟨(st 0 hi a b c).1, (st 0 hi a b c).2.1⟩⟩
  | succ i ih =>
    intro hi
    have ih := ih (by omega)
    have s1 := st i (by omega) ih.1 ih.2.1 ih.2.2.1
    have o := (on_or (sq q i) (sq_lt q6 i) (q i) (q6 i)).1
    have o2 : on (sq q (i + 1)) = i + 1 := by
      rw [sq, o, s1.2.1, ih.2.2.1]; simp
    exact ⟨s1.2.2.1, s1.2.2.2, o2, fun h => ⟨(st (i + 1) h s1.2.2.1 s1.2.2.2 o2).1, (st (i + 1) h s1.2.2.1 s1.2.2.2 o2).2.1⟩⟩
