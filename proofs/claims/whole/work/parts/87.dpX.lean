/-! the class weighs the sets -/
def pP (N w h d : Nat) (f : Nat → Bool) (k s : Nat) : Nat := (pO N w h d (oW w h d f k s) 1000).2
theorem and_ne {x y : Nat} : x &&& y ≠ 0 ↔ ∃ j : Nat, x.testBit j = true ∧ y.testBit j = true := by
  constructor
  · intro h
    by_cases z : ∃ j : Nat, x.testBit j = true ∧ y.testBit j = true
    · exact z
    · refine absurd (Nat.eq_of_testBit_eq (fun i => ?_)) h
      rw [Nat.testBit_and, Nat.zero_testBit]
      cases a : x.testBit i with
      | false => rfl
      | true =>
        cases b : y.testBit i with
        | false => rfl
        | true => exact absurd ⟨i, a, b⟩ z
  · intro ⟨j, a, b⟩ h
    have : (x &&& y).testBit j = true := by rw [Nat.testBit_and, a, b]; rfl
    rw [h, Nat.zero_testBit] at this; cases this
theorem bit6 {x j : Nat} (hx : x < 64) (hb : x.testBit j = true) : j < 6 := by
  by_cases z : j < 6
  · exact z
  · rw [Nat.testBit_lt_two_pow (Nat.lt_of_lt_of_le hx (Nat.le_trans (show 64 ≤ 2 ^ 6 by decide) (Nat.pow_le_pow_right (by omega) (by omega))))] at hb
    cases hb
theorem on_xor : ∀ T : Nat, T < 64 → ∀ k : Nat, k < 6 → T.testBit k = true → T ^^^ 2 ^ k < 64 ∧ on (T ^^^ 2 ^ k) + 1 = on T := by decide +kernel
theorem mem_0 {w h d : Nat} {f : Nat → Bool} (hin : ∀ i : Nat, f i = true → inn w h d i) : mem w h d f 0 = true := by
  refine mem_iff.mpr ⟨by omega, ?_⟩
  cases e : f 0 with
  | false => rfl
  | true => have := hin 0 e; omega
theorem dHy_ok {N w h d : Nat} {f : Nat → Bool} (hd : dOk w h d) (hin : ∀ i : Nat, f i = true → inn w h d i) : dHy (pP N w h d f) (cv w h d f) (fw w h d f 64) := by
  refine ⟨fun k s => (pO_sp (N := N) (w := w) (h := h) (d := d) (O := oW w h d f k s) (fun c hc => bx_lt hd (oW_b hc).1) 1000).2.2, fun T k s hT oT cT hs hk sk k6 s64 => ?_⟩
  by_cases z : 1 ≤ pP N w h d f k s
  · exact z
  · have hO : ∀ c : Nat, oW w h d f k s c = true → c < 1000 := fun c hc => bx_lt hd (oW_b hc).1
    have none_ : ∀ e : Nat, oW w h d f k s e = false := fun e => by
      cases y : oW w h d f k s e with
      | false => rfl
      | true =>
        have sp := pO_sp (N := N) (w := w) (h := h) (d := d) (O := oW w h d f k s) hO 1000
        obtain ⟨u, a, b, _⟩ := pN_new (N := N) (w := w) (h := h) (d := d) hO (num := fun _ => 0) (v := 0) 1000 e y (sp.2.1 e (hO e y))
        have b : u < 0 + pP N w h d f k s := b
        omega
    have ox := on_xor T hT k k6 hk
    have ct : ∀ c : Nat, mem w h d f c = true → wy w h d f c &&& (T ^^^ 2 ^ k) ≠ 0 := fun c hm => by
      have wl := wy_lt w h d f c
      have key : ∀ j : Nat, j ≠ k → (wy w h d f c).testBit j = true → T.testBit j = true → wy w h d f c &&& (T ^^^ 2 ^ k) ≠ 0 := fun j jk h1 h2 => by
        refine and_ne.mpr ⟨j, h1, ?_⟩
        rw [Nat.testBit_xor, Nat.testBit_two_pow, h2, decide_eq_false (fun y => jk y.symm)]; rfl
      obtain ⟨j, a, b⟩ := and_ne.mp ((cv_iff hd).mp cT c hm)
      by_cases jk : j = k
      · have o := none_ c
        unfold oW at o
        rw [hm, ← jk, a, Bool.true_and, Bool.true_and, decide_eq_false_iff_not] at o
        obtain ⟨i, a1, b1⟩ := and_ne.mp o
        exact key i (fun y => by rw [y, sk] at b1; cases b1) a1 (hs i (bit6 s64 b1) b1)
      · exact key j jk a b
    have f64 := (fw_sp (w := w) (h := h) (d := d) (f := f) 64 (Nat.le_refl 64)).2
    by_cases t0 : T ^^^ 2 ^ k = 0
    · have := ct 0 (mem_0 hin)
      rw [t0, Nat.and_zero] at this
      exact absurd rfl this
    · have := f64 (T ^^^ 2 ^ k) (by omega) ox.1 ((cv_iff hd).mpr ct)
      omega
def tF (N w h d : Nat) (f : Nat → Bool) (n s : Nat) : Int × Int := if on s ≤ n then dF (pP N w h d f) (cv w h d f) (n - on s) s else (1000000, -1)
theorem or_eq : ∀ s : Nat, s < 64 → ∀ k : Nat, k < 6 → (s ||| 2 ^ k = s ↔ s.testBit k = true) ∧ (s.testBit k = false → s < s ||| 2 ^ k) := by decide +kernel
def no2 (σ : xS) : Prop := ∀ e : Nat, e < 1000 → σ.2 16 e ≠ iI (-2)
theorem no2_fr {S T : List Nat} {σ σ' : xS} (h : no2 σ) (r : fr S T σ σ') (h2 : 16 ∉ T) : no2 σ' := by unfold no2; rw [r.2 16 h2]; exact h
theorem wl_bd {P : Nat → Nat → Nat} {G : Nat → Int} {s : Nat} (hG : ∀ t : Nat, 0 ≤ G t) : ∀ k : Nat, 0 ≤ (wl P G s k).1 ∧ (wl P G s k).1 ≤ 1000000 ∧ -1 ≤ (wl P G s k).2 ∧ (wl P G s k).2 < k
  | 0 => by rw [wl]; decide
  | k + 1 => by
    have ih := wl_bd (P := P) (s := s) hG k
    have g := hG (s ||| 2 ^ k)
    rw [wl]
    split
    · dsimp only; omega
    · omega
theorem dF_bd {P : Nat → Nat → Nat} {C : Nat → Bool} : ∀ m s : Nat, 0 ≤ (dF P C m s).1 ∧ (dF P C m s).1 ≤ 1000000 ∧ -1 ≤ (dF P C m s).2 ∧ (dF P C m s).2 < 6
  | 0, s => by rw [dF]; dsimp only; split <;> omega
  | m + 1, s => by
    rw [dF]
    exact wl_bd (fun t => (dF_bd (P := P) (C := C) m t).1) 6
theorem ww_x {N w h d : Nat} {f : Nat → Bool} (hN : 1100 < N) (hd : dOk w h d) {n m s : Nat} (hs : s < 64) (hm : n = on s + (m + 1)) {G : Nat → Int} (hG : G = fun t => (dF (pP N w h d f) (cv w h d f) m t).1) : ∀ (n' k : Nat) (σ : xS), k ≤ 6 → 6 < k + n' → fX w h d f σ → no2 σ → (∀ t : Nat, s < t → t < 64 → σ.2 13 t = iI (tF N w h d f n t).1) → σ.2 13 s = iI (wl (pP N w h d f) G s k).1 → σ.2 14 s = iI (wl (pP N w h d f) G s k).2 → ∃ σ' : xS, drawing_weighWays_b2 N n' (iI s) (iI k) σ = some (0, σ') ∧ σ'.2 13 s = iI (wl (pP N w h d f) G s 6).1 ∧ σ'.2 14 s = iI (wl (pP N w h d f) G s 6).2 ∧ (∀ t : Nat, t ≠ s → σ'.2 13 t = σ.2 13 t ∧ σ'.2 14 t = σ.2 14 t) ∧ no2 σ' ∧ fr [] [13, 14, 16, 17] σ σ' := by
  have hG0 : ∀ t : Nat, 0 ≤ G t ∧ G t ≤ 1000000 := fun t => by
    rw [hG]
    have := dF_bd (P := pP N w h d f) (C := cv w h d f) m t
    exact ⟨this.1, this.2.1⟩
  intro n'
  induction n' with
  | zero => intro k σ h1 h2; omega
  | succ n' ih =>
    intro k σ h1 h2 hx hn h13 e13 e14
    rw [drawing_weighWays_b2]
    by_cases z : k = 6
    · subst z
      rw [if_pos (by decide)]
      exact ⟨σ, rfl, e13, e14, fun _ _ => ⟨rfl, rfl⟩, hn, fr_refl⟩
    · have k6 : k < 6 := by omega
      have oe := or_eq s hs k k6
      have oo := on_or s hs k k6
      have wb := wl_bd (P := pP N w h d f) (s := s) (fun t => (hG0 t).1) k
      rw [if_neg (by rw [show (6 : Int32) = iI 6 from rfl, iI_le (by omega) (by omega) (by omega) (by omega)]; omega), bnd_at, j_shl1 (by omega), j_or]
      by_cases tb : s.testBit k = true
      · have ew : wl (pP N w h d f) G s (k + 1) = wl (pP N w h d f) G s k := by
          rw [wl, if_neg (fun y => by rw [tb] at y; cases y.1)]
        rw [if_pos (by rw [oe.1.mpr tb]), bnd_at, i_suc]
        exact ih (k + 1) σ (by omega) (by omega) hx hn h13 (by rw [ew]; exact e13) (by rw [ew]; exact e14)
      · have tb' : s.testBit k = false := Bool.eq_false_iff.mpr tb
        have lt := oe.2 tb'
        have g := hG0 (s ||| 2 ^ k)
        have pb : pP N w h d f k s ≤ 1000 := (pO_sp (N := N) (w := w) (h := h) (d := d) (O := oW w h d f k s) (fun c hc => bx_lt hd (oW_b hc).1) 1000).2.2
        have et : (tF N w h d f n (s ||| 2 ^ k)).1 = G (s ||| 2 ^ k) := by
          have o1 := oo.1
          rw [tb', if_neg (by decide)] at o1
          unfold tF
          rw [o1, if_pos (by omega), hG, show n - (on s + 1) = m by omega]
        rw [if_neg (fun y => by have := i_inj (by omega) (by omega) y; omega), ald_at (by omega) (by omega) (by omega), ald_at (by omega) (by omega) (by omega), Int.toNat_natCast, Int.toNat_natCast, h13 _ lt oo.2, et, e13, i_sucI]
        by_cases c1 : G (s ||| 2 ^ k) + 1 < (wl (pP N w h d f) G s k).1
        · obtain ⟨σ1, a1, a2, a3, a4⟩ := part_x (N := N) (k := k) (s := s) (v := 0) hN hd k6 hs (by omega) hx hn
          have a1 : parting_part N (iI k) (iI s) 0 σ = some (iI (pP N w h d f k s : Nat), σ1) := a1
          have b13 : σ1.2 13 = σ.2 13 := a4.2 13 (by decide)
          have b14 : σ1.2 14 = σ.2 14 := a4.2 14 (by decide)
          have hx1 := fX_fr hx a4 (by decide) (by decide)
          have fr1 : fr [] [13, 14, 16, 17] σ σ1 := fr_mono a4 (by simp) (by simp)
          rw [if_neg (by rw [iI_le (by omega) (by omega) (by omega) (by omega)]; omega), a1, cal_at, ald_at (by omega) (by omega) (by omega), Int.toNat_natCast, b13, h13 _ lt oo.2, et, iI_add, bnd_at, ald_at (by omega) (by omega) (by omega), Int.toNat_natCast, b13, e13]
          by_cases c2 : (pP N w h d f k s : Int) + G (s ||| 2 ^ k) < (wl (pP N w h d f) G s k).1
          · have ew : wl (pP N w h d f) G s (k + 1) = ((pP N w h d f k s : Int) + G (s ||| 2 ^ k), (k : Int)) := by
              rw [wl, if_pos ⟨tb', c1, c2⟩]
            rw [if_neg (by rw [iI_le (by omega) (by omega) (by omega) (by omega)]; omega), ast_at (by omega) (by omega) (by omega), ast_at (by omega) (by omega) (by omega), bnd_at, i_suc, Int.toNat_natCast]
            obtain ⟨σ2, q2⟩ : ∃ σ2 : xS, σ2 = (σ1.1, va_up (va_up σ1.2 13 (upd (σ1.2 13) s (iI ((pP N w h d f k s : Int) + G (s ||| 2 ^ k))))) 14 (upd (σ1.2 14) s (iI k))) := ⟨_, rfl⟩
            have fr2 : fr [] [13, 14, 16, 17] σ1 σ2 := by
              rw [q2]
              refine ⟨fun _ _ => rfl, fun a ha => ?_⟩
              dsimp only
              rw [va_up_n _ _ (fun z => ha (by rw [z]; decide)), va_up_n _ _ (fun z => ha (by rw [z]; decide))]
            have r13 : σ2.2 13 = upd (σ.2 13) s (iI ((pP N w h d f k s : Int) + G (s ||| 2 ^ k))) := by rw [q2, ← b13]; rfl
            have r14 : σ2.2 14 = upd (σ.2 14) s (iI k) := by rw [q2, ← b14]; rfl
            have r16 : σ2.2 16 = σ1.2 16 := by rw [q2]; rfl
            have hx2 := fX_fr hx1 fr2 (by decide) (by decide)
            have E : ((σ1.1, va_up σ1.2 13 (upd (σ1.2 13) s (iI ((pP N w h d f k s : Int) + G (s ||| 2 ^ k))))).1, va_up (σ1.1, va_up σ1.2 13 (upd (σ1.2 13) s (iI ((pP N w h d f k s : Int) + G (s ||| 2 ^ k))))).2 14 (upd ((σ1.1, va_up σ1.2 13 (upd (σ1.2 13) s (iI ((pP N w h d f k s : Int) + G (s ||| 2 ^ k))))).2 14) s (iI k))) = σ2 := by rw [q2]; rfl
            obtain ⟨σ', c1', c2', c3', c4', c5', c6'⟩ := ih (k + 1) σ2 (by omega) (by omega) hx2 (by unfold no2; rw [r16]; exact a3) (fun t t1 t2 => by rw [r13, upd_e, if_neg (by omega)]; exact h13 t t1 t2) (by rw [r13, upd_e, if_pos rfl, ew]) (by rw [r14, upd_e, if_pos rfl, ew])
            refine ⟨σ', ?_, c2', c3', fun t ht => ?_, c5', fr_trans fr1 (fr_trans fr2 c6')⟩
            · rw [← c1', ← E]
            · rw [(c4' t ht).1, (c4' t ht).2, r13, r14, upd_e, upd_e, if_neg ht, if_neg ht]; exact ⟨rfl, rfl⟩
          · have ew : wl (pP N w h d f) G s (k + 1) = wl (pP N w h d f) G s k := by
              rw [wl, if_neg (fun y => c2 y.2.2)]
            rw [if_pos (by rw [iI_le (by omega) (by omega) (by omega) (by omega)]; omega), bnd_at, i_suc]
            obtain ⟨σ', c1', c2', c3', c4', c5', c6'⟩ := ih (k + 1) σ1 (by omega) (by omega) hx1 a3 (fun t t1 t2 => by rw [b13]; exact h13 t t1 t2) (by rw [b13, ew]; exact e13) (by rw [b14, ew]; exact e14)
            exact ⟨σ', c1', c2', c3', fun t ht => by rw [(c4' t ht).1, (c4' t ht).2, b13, b14]; exact ⟨rfl, rfl⟩, c5', fr_trans fr1 c6'⟩
        · have ew : wl (pP N w h d f) G s (k + 1) = wl (pP N w h d f) G s k := by
            rw [wl, if_neg (fun y => c1 y.2.1)]
          rw [if_pos (by rw [iI_le (by omega) (by omega) (by omega) (by omega)]; omega), bnd_at, i_suc]
          exact ih (k + 1) σ (by omega) (by omega) hx hn h13 (by rw [ew]; exact e13) (by rw [ew]; exact e14)
theorem w36_x {N w h d : Nat} {f : Nat → Bool} (hN : 1100 < N) (hd : dOk w h d) {n j : Nat} (hj : j < 64) (hn6 : n ≤ 6) (K3 : Int32 → Int32 → xS → Option (Int32 × xS)) {v : Int} (hv : v = if on j = n ∧ cv w h d f j = true then 0 else 1000000) {σ : xS} (hx : fX w h d f σ) (hn : no2 σ) (h13 : ∀ t : Nat, j < t → t < 64 → σ.2 13 t = iI (tF N w h d f n t).1 ∧ σ.2 14 t = iI (tF N w h d f n t).2) : ∃ σ' : xS, drawing_weighSets_b36 N K3 (iI n) (iI j) (iI (on j : Nat)) (iI j) (iI v) σ = K3 (iI n) (iI ((j : Int) - 1)) σ' ∧ (∀ t : Nat, j ≤ t → t < 64 → σ'.2 13 t = iI (tF N w h d f n t).1 ∧ σ'.2 14 t = iI (tF N w h d f n t).2) ∧ no2 σ' ∧ fr [] [13, 14, 16, 17] σ σ' := by
  have ol := on_le j
  obtain ⟨σ2, q2⟩ : ∃ σ2 : xS, σ2 = (σ.1, va_up (va_up σ.2 13 (upd (σ.2 13) j (iI v))) 14 (upd (σ.2 14) j (-1))) := ⟨_, rfl⟩
  have fr2 : fr [] [13, 14, 16, 17] σ σ2 := by
    rw [q2]
    refine ⟨fun _ _ => rfl, fun a ha => ?_⟩
    dsimp only
    rw [va_up_n _ _ (fun z => ha (by rw [z]; decide)), va_up_n _ _ (fun z => ha (by rw [z]; decide))]
  have r13 : σ2.2 13 = upd (σ.2 13) j (iI v) := by rw [q2]; rfl
  have r14 : σ2.2 14 = upd (σ.2 14) j (-1) := by rw [q2]; rfl
  have r16 : σ2.2 16 = σ.2 16 := by rw [q2]; rfl
  have n2 : no2 σ2 := by unfold no2; rw [r16]; exact hn
  have hx2 := fX_fr hx fr2 (by decide) (by decide)
  have m1 : iI (j : Int) + (-1 : Int32) = iI ((j : Int) - 1) := by rw [show (-1 : Int32) = iI (-1) from rfl, iI_add]; rfl
  have up : ∀ t : Nat, j < t → t < 64 → σ2.2 13 t = iI (tF N w h d f n t).1 ∧ σ2.2 14 t = iI (tF N w h d f n t).2 := fun t t1 t2 => by
    rw [r13, r14, upd_e, upd_e, if_neg (by omega), if_neg (by omega)]; exact h13 t t1 t2
  have E : drawing_weighSets_b36 N K3 (iI n) (iI j) (iI (on j : Nat)) (iI j) (iI v) σ = if iI (n : Int) ≤ iI (on j : Nat) then K3 (iI n) (iI ((j : Int) - 1)) σ2 else cal (drawing_weighWays N (iI j) σ2) fun _ σ7 => K3 (iI n) (iI ((j : Int) - 1)) σ7 := by
    unfold drawing_weighSets_b36
    rw [ast_at (by omega) (by omega) (by omega), ast_at (by omega) (by omega) (by omega), q2, ← m1]
    rfl
  rw [E]
  by_cases z : on j < n
  · obtain ⟨m, hm⟩ : ∃ m : Nat, n = on j + (m + 1) := ⟨n - on j - 1, by omega⟩
    have et : tF N w h d f n j = wl (pP N w h d f) (fun t => (dF (pP N w h d f) (cv w h d f) m t).1) j 6 := by
      unfold tF
      rw [if_pos (by omega), show n - on j = m + 1 by omega, dF]
    rw [if_neg (fun y => by omega)] at hv
    obtain ⟨σ', a1, a2, a3, a4, a5, a6⟩ := ww_x (N := N) (f := f) hN hd hj hm rfl N 0 σ2 (by omega) (by omega) hx2 n2 (fun t t1 t2 => (up t t1 t2).1) (by rw [r13, upd_e, if_pos rfl, hv, wl]) (by rw [r14, upd_e, if_pos rfl, wl]; rfl)
    have a1 : drawing_weighWays N (iI j) σ2 = some (0, σ') := a1
    rw [if_neg (by rw [iI_le (by omega) (by omega) (by omega) (by omega)]; omega), a1, cal_at]
    refine ⟨σ', rfl, fun t t1 t2 => ?_, a5, fr_trans fr2 a6⟩
    by_cases e : t = j
    · rw [e, a2, a3, et]; exact ⟨rfl, rfl⟩
    · rw [(a4 t e).1, (a4 t e).2]; exact up t (by omega) t2
  · rw [if_pos (by rw [iI_le (by omega) (by omega) (by omega) (by omega)]; omega)]
    refine ⟨σ2, rfl, fun t t1 t2 => ?_, n2, fr2⟩
    by_cases e : t = j
    · rw [e, r13, r14, upd_e, upd_e, if_pos rfl, if_pos rfl, hv]
      by_cases y : on j = n
      · have et : tF N w h d f n j = (if cv w h d f j = true then 0 else 1000000, -1) := by
          unfold tF
          rw [if_pos (by omega), show n - on j = 0 by omega, dF]
        cases e : cv w h d f j with
        | true =>
          rw [e, if_pos rfl] at et
          rw [et, if_pos ⟨y, rfl⟩]; exact ⟨rfl, rfl⟩
        | false =>
          rw [e, if_neg (by decide)] at et
          rw [et, if_neg (fun q => by cases q.2)]; exact ⟨rfl, rfl⟩
      · have et : tF N w h d f n j = (1000000, -1) := by
          unfold tF
          rw [if_neg (by omega)]
        rw [et, if_neg (fun q => y q.1)]; exact ⟨rfl, rfl⟩
    · exact up t (by omega) t2
theorem ws_x {N w h d : Nat} {f : Nat → Bool} (hN : 1100 < N) (hd : dOk w h d) {n : Nat} (hn6 : n ≤ 6) : ∀ (n' j : Nat) (σ : xS), j ≤ 64 → j < n' → fX w h d f σ → no2 σ → x15 w h d f σ → (∀ t : Nat, j ≤ t → t < 64 → σ.2 13 t = iI (tF N w h d f n t).1 ∧ σ.2 14 t = iI (tF N w h d f n t).2) → ∃ σ' : xS, drawing_weighSets_b3 N n' (iI n) (iI ((j : Int) - 1)) σ = some (0, σ') ∧ (∀ t : Nat, t < 64 → σ'.2 13 t = iI (tF N w h d f n t).1 ∧ σ'.2 14 t = iI (tF N w h d f n t).2) ∧ no2 σ' ∧ fr [] [13, 14, 16, 17] σ σ' := by
  intro n'
  induction n' with
  | zero => intro j σ h1 h2; omega
  | succ n' ih =>
    intro j σ h1 h2 hx hn hf h13
    rw [drawing_weighSets_b3]
    by_cases z : j = 0
    · subst z
      rw [if_pos (by decide)]
      exact ⟨σ, rfl, fun t ht => h13 t (by omega) ht, hn, fr_refl⟩
    · obtain ⟨i, hi⟩ : ∃ i : Nat, j = i + 1 := ⟨j - 1, by omega⟩
      subst hi
      have ol := on_le i
      have ei : ((i + 1 : Nat) : Int) - 1 = (i : Int) := by omega
      have fin : ∀ v : Int, (v = if on i = n ∧ cv w h d f i = true then 0 else 1000000) → ∃ σ' : xS, drawing_weighSets_b36 N (drawing_weighSets_b3 N n') (iI n) (iI i) (iI (on i : Nat)) (iI i) (iI v) σ = some (0, σ') ∧ (∀ t : Nat, t < 64 → σ'.2 13 t = iI (tF N w h d f n t).1 ∧ σ'.2 14 t = iI (tF N w h d f n t).2) ∧ no2 σ' ∧ fr [] [13, 14, 16, 17] σ σ' := fun v hv => by
        obtain ⟨σ1, a1, a2, a3, a4⟩ := w36_x (N := N) (f := f) hN hd (show i < 64 by omega) hn6 (drawing_weighSets_b3 N n') hv hx hn (fun t t1 t2 => h13 t (by omega) t2)
        have hf1 : x15 w h d f σ1 := by unfold x15; rw [a4.2 15 (by decide)]; exact hf
        obtain ⟨σ2, b1, b2, b3, b4⟩ := ih i σ1 (by omega) (by omega) (fX_fr hx a4 (by decide) (by decide)) a3 hf1 a2
        exact ⟨σ2, a1.trans b1, b2, b3, fr_trans a4 b4⟩
      rw [ei, if_neg (by rw [show (0 : Int32) = iI 0 from rfl, iI_lt (by omega) (by omega) (by omega) (by omega)]; omega), bc_x (by omega), cal_at]
      by_cases y : on i = n
      · rw [if_pos (by rw [y]), fre_x hN hd (by omega) hf, cal_at]
        cases e : cv w h d f i with
        | true =>
          rw [if_neg (by decide)]
          exact fin 0 (by rw [if_pos ⟨y, e⟩])
        | false =>
          rw [if_pos (by decide)]
          exact fin 1000000 (by rw [if_neg (fun q => by rw [e] at q; cases q.2)])
      · rw [if_neg (fun q => y (i_inj (by omega) (by omega) q))]
        exact fin 1000000 (by rw [if_neg (fun q => y q.1)])
