/-! the reference tries all rows of ways -/
theorem sP_vQ {N w h d : Nat} {f : Nat → Bool} {q : Nat → Nat} : ∀ i : Nat, sP (pP N w h d f) q i = vQ N w h d f q i
  | 0 => rfl
  | i + 1 => by rw [sP, vQ, sP_vQ i]; rfl
theorem d_6 {r : Nat} (hr : r < 100000) : iI (r : Int) - iI (r : Int) / (6 : Int32) * (6 : Int32) = iI ((r % 6 : Nat) : Int) ∧ iI (r : Int) / (6 : Int32) = iI ((r / 6 : Nat) : Int) := by
  rw [show (6 : Int32) = iI 6 from rfl, iI_div (by omega) (by omega) (by omega) (by omega), iI_mul, iI_sub]
  refine ⟨?_, ?_⟩ <;> congr 1 <;> omega
theorem gz6 {α : Type} (X : Option α) : gdz (6 : Int32) X = X := by rw [gdz, if_neg (by decide)]
theorem cp_m {N n : Nat} (hN : 1100 < N) (hn : n ≤ 6) (K49 : Int32 → Int32 → Int32 → Int32 → xS → Option (Int32 × xS)) (l2 l3 : Int32) (code : Nat) {q : Nat → Nat} {τ : xS} (hq : qM 11 n q τ) : ∃ τ' : xS, m_draw_b158 N K49 N (iI n) l2 l3 (iI code) (iI 0) τ = K49 (iI n) l2 l3 (iI (code + 1 : Nat)) τ' ∧ (∀ j : Nat, j < n → τ'.2 10 j = iI (q j : Nat)) ∧ fr [] [10] τ τ' := by
  obtain ⟨s, k1, k2, k3, _⟩ := lpA (S := xS) (fun n' k s => m_draw_b158 N K49 n' (iI n) l2 l3 (iI code) k s) (fun s => K49 (iI n) l2 l3 (iI (code + 1 : Nat)) s) n
    (fun k s => (∀ j : Nat, (j : Int) < k → s.2 10 j = iI (q j : Nat)) ∧ fr [] [10] τ s ∧ 0 ≤ k)
    (fun n' s hs => by rw [m_draw_b158, if_pos (by rw [iI_le (by omega) (by omega) (by omega) (by omega)]; omega), bnd_at, i_suc])
    (fun n' k s hk hs => by
      obtain ⟨j, rfl⟩ : ∃ j : Nat, k = j := ⟨k.toNat, by have := hs.2.2; omega⟩
      have qj := hq j (by omega)
      rw [m_draw_b158, if_neg (by rw [iI_le (by omega) (by omega) (by omega) (by omega)]; omega), ald_at (by omega) (by omega) (by omega), ast_at (by omega) (by omega) (by omega), bnd_at, i_sucI, Int.toNat_natCast, hs.2.1.2 11 (by decide), qj.2]
      refine ⟨_, rfl, fun t ht => ?_, fr_trans hs.2.1 ⟨fun _ _ => rfl, fun a ha => va_up_n _ _ (fun z => ha (by rw [z]; decide))⟩, by omega⟩
      show upd (s.2 10) j (iI (q j : Nat)) t = _
      rw [upd_e]
      by_cases y : t = j
      · rw [if_pos y, y]
      · rw [if_neg y]; exact hs.1 t (by omega))
    N 0 τ (by omega) (by omega) ⟨fun j hj => by omega, fr_refl, by omega⟩
  exact ⟨s, k1, fun j hj => k2 j (by omega), k3⟩
theorem dig_m {N n c : Nat} (hn : n ≤ 6) (hc : c < 100000) (K49 : Int32 → Int32 → Int32 → Int32 → xS → Option (Int32 × xS)) (l2 l3 l4 : Int32) : ∀ (i n' b : Nat) (σ : xS), i ≤ n → i < n' → b ||| sq (dq n c) i = sq (dq n c) n → (∀ j : Nat, i ≤ j → j < n → σ.2 11 j = iI (dq n c j : Nat)) → ∃ (σ' : xS) (n'' : Nat) (x : Int32), m_draw_b67 N K49 n' (iI n) l2 l3 l4 (iI (c / 6 ^ (n - i) : Nat)) (iI b) (iI ((i : Int) - 1)) σ = m_draw_b67 N K49 (n'' + 1) (iI n) l2 l3 l4 x (iI (sq (dq n c) n : Nat)) (iI (-1)) σ' ∧ qM 11 n (dq n c) σ' ∧ fr [] [11] σ σ' := by
  intro i
  induction i with
  | zero =>
    intro n' b σ h1 h2 hb hj
    obtain ⟨n'', rfl⟩ : ∃ m : Nat, n' = m + 1 := ⟨n' - 1, by omega⟩
    have eb : b = sq (dq n c) n := by
      have hb : b ||| 0 = sq (dq n c) n := hb
      rw [Nat.or_zero] at hb; exact hb
    rw [eb]
    exact ⟨σ, n'', _, rfl, fun j hj' => ⟨dq_lt _ _ _, hj j (by omega) hj'⟩, fr_refl⟩
  | succ i ih =>
    intro n' b σ h1 h2 hb hj
    obtain ⟨n'', rfl⟩ : ∃ m : Nat, n' = m + 1 := ⟨n' - 1, by omega⟩
    have rl : c / 6 ^ (n - (i + 1)) < 100000 := Nat.lt_of_le_of_lt (Nat.div_le_self _ _) hc
    have ql := dq_lt n c i
    have e1 : c / 6 ^ (n - (i + 1)) % 6 = dq n c i := by
      unfold dq; rw [show n - (i + 1) = n - 1 - i by omega]
    have e2 : c / 6 ^ (n - (i + 1)) / 6 = c / 6 ^ (n - i) := by
      rw [Nat.div_div_eq_div_mul, ← Nat.pow_succ, show (n - (i + 1)).succ = n - i by omega]
    have d6 := d_6 rl
    rw [e1, e2] at d6
    have ei : ((i + 1 : Nat) : Int) - 1 = (i : Int) := by omega
    obtain ⟨σ1, q1⟩ : ∃ σ1 : xS, σ1 = (σ.1, va_up σ.2 11 (upd (σ.2 11) i (iI (dq n c i : Nat)))) := ⟨_, rfl⟩
    have f1 : fr [] [11] σ σ1 := by
      rw [q1]; exact ⟨fun _ _ => rfl, fun a ha => va_up_n _ _ (fun z => ha (by rw [z]; decide))⟩
    have r11 : σ1.2 11 = upd (σ.2 11) i (iI (dq n c i : Nat)) := by rw [q1]; rfl
    have m1 : iI (i : Int) + (-1 : Int32) = iI ((i : Int) - 1) := by rw [show (-1 : Int32) = iI (-1) from rfl, iI_add]; rfl
    obtain ⟨σ', n3, x, a1, a2, a3⟩ := ih n'' (b ||| 2 ^ dq n c i) σ1 (by omega) (by omega) (by rw [Nat.or_assoc, Nat.or_comm (2 ^ dq n c i), ← hb, sq]) (fun j j1 j2 => by
      rw [r11, upd_e]
      by_cases y : j = i
      · rw [if_pos y, y]
      · rw [if_neg y]; exact hj j (by omega) j2)
    refine ⟨σ', n3, x, ?_, a2, fr_trans f1 a3⟩
    rw [ei, m_draw_b67, if_neg (by rw [show (0 : Int32) = iI 0 from rfl, iI_lt (by omega) (by omega) (by omega) (by omega)]; omega), gz6, ast_at (by omega) (by omega) (by omega), gz6, bnd_at, Int.toNat_natCast, d6.1, d6.2, ← q1, ald_at (by omega) (by omega) (by omega), Int.toNat_natCast, r11, upd_e, if_pos rfl, j_shl1 (by omega), j_or, bnd_at, bnd_at, m1]
    exact a1
/-- what stands when the codes below one have been tried -/
def sI (N w h d : Nat) (f : Nat → Bool) (n code : Nat) (B : Int) (τ u : xS) : Prop := fr [18] [10, 11, 12, 13, 14, 15, 16, 17] τ u ∧ 0 ≤ B ∧ B ≤ 1000000 ∧ (B = 1000000 → ∀ c : Nat, c < code → 1000000 ≤ tt (pP N w h d f) (cv w h d f) n 0 c) ∧ (B < 1000000 → ∃ c0 : Nat, c0 < code ∧ tt (pP N w h d f) (cv w h d f) n 0 c0 = B ∧ (∀ j : Nat, j < n → u.2 10 j = iI (dq n c0 j : Nat)) ∧ ∀ c : Nat, c < code → B < tt (pP N w h d f) (cv w h d f) n 0 c ∨ (B = tt (pP N w h d f) (cv w h d f) n 0 c ∧ c0 ≤ c))
theorem sI_st {N w h d : Nat} {f : Nat → Bool} (hN : 1100 < N) (hd : dOk w h d) {n code : Nat} (hn : n ≤ 6) (hc : code < 6 ^ n) (hc5 : code < 100000) (K49 : Int32 → Int32 → Int32 → Int32 → xS → Option (Int32 × xS)) (l2 : Int32) {B : Int} {τ u : xS} (hm : fM w h d f τ) (hs : sI N w h d f n code B τ u) : ∃ (B' : Int) (u' : xS), m_draw_b67 N K49 N (iI n) l2 (iI B) (iI code) (iI code) (iI 0) (iI ((n : Int) - 1)) u = K49 (iI n) l2 (iI B') (iI (code + 1 : Nat)) u' ∧ sI N w h d f n (code + 1) B' τ u' := by
  obtain ⟨u1, n1, x, a1, a2, a3⟩ := dig_m (N := N) (n := n) (c := code) hn hc5 K49 l2 (iI B) (iI code) n N 0 u (by omega) (by omega) (Nat.zero_or _) (fun j j1 j2 => by omega)
  have a1 : m_draw_b67 N K49 N (iI n) l2 (iI B) (iI code) (iI (code / 6 ^ (n - n) : Nat)) (iI 0) (iI ((n : Int) - 1)) u = _ := a1
  rw [Nat.sub_self, Nat.pow_zero, Nat.div_one] at a1
  obtain ⟨q, hq⟩ : ∃ q : Nat → Nat, q = dq n code := ⟨_, rfl⟩
  have q6 : ∀ i : Nat, q i < 6 := fun i => by rw [hq]; exact dq_lt _ _ _
  have tv := tt_val (P := pP N w h d f) (C := cv w h d f) hc
  rw [sP_vQ, ← hq] at tv
  rw [← hq] at a1 a2
  have sl := sq_lt q6 n
  have ol := on_le (sq q n)
  have vb := vQ_bd (N := N) (f := f) (q := q) hd n
  have f1 : fr [18] [10, 11, 12, 13, 14, 15, 16, 17] τ u1 := fr_trans hs.1 (fr_mono a3 (by simp) (by simp))
  have hm1 := fM_fr hm f1 (by decide) (by decide)
  obtain ⟨T, hT⟩ : ∃ T : Int, T = tt (pP N w h d f) (cv w h d f) n 0 code := ⟨_, rfl⟩
  have t0 := tt_0 (P := pP N w h d f) (C := cv w h d f) n 0 code
  rw [← hT] at tv t0
  have hB0 := hs.2.1
  have hB1 := hs.2.2.1
  -- not better
  have keep : ∀ u' : xS, B ≤ T → fr [18] [10, 11, 12, 13, 14, 15, 16, 17] τ u' → u'.2 10 = u.2 10 → sI N w h d f n (code + 1) B τ u' := fun u' h1 h2 h3 => by
    refine ⟨h2, hs.2.1, hs.2.2.1, fun z c hc' => ?_, fun z => ?_⟩
    · by_cases y : c = code
      · rw [y, ← hT]; omega
      · exact hs.2.2.2.1 z c (by omega)
    · obtain ⟨c0, b1, b2, b3, b4⟩ := hs.2.2.2.2 z
      refine ⟨c0, by omega, b2, fun j hj => by rw [h3]; exact b3 j hj, fun c hc' => ?_⟩
      by_cases y : c = code
      · rw [y, ← hT]
        by_cases e : B = T
        · exact Or.inr ⟨e, by omega⟩
        · exact Or.inl (by omega)
      · exact b4 c (by omega)
  have u10 : u1.2 10 = u.2 10 := a3.2 10 (by decide)
  rw [a1, m_draw_b67, if_pos (by decide), ons_m (by omega) sl, cal_at]
  by_cases z : on (sq q n) < n
  · have := tv.2 (Or.inl z)
    rw [if_pos (by rw [iI_lt (by omega) (by omega) (by omega) (by omega)]; omega), bnd_at, i_suc]
    exact ⟨B, u1, rfl, keep u1 (by omega) f1 u10⟩
  · rw [if_neg (by rw [iI_lt (by omega) (by omega) (by omega) (by omega)]; omega), cov_m hN hd sl hm1, cal_at]
    cases e : cv w h d f (sq q n) with
    | false =>
      have := tv.2 (Or.inr e)
      rw [if_pos (by decide), bnd_at, i_suc]
      exact ⟨B, u1, rfl, keep u1 (by omega) f1 u10⟩
    | true =>
      have tv1 := tv.1 (by omega) e
      obtain ⟨u2, c1, c2⟩ := parts_m (N := N) (ab := 11) (q := q) hN (Or.inr rfl) hn hd hm1 a2
      have f2 : fr [18] [10, 11, 12, 13, 14, 15, 16, 17] τ u2 := fr_trans f1 (fr_mono c2.1 (by simp) (by simp))
      rw [if_neg (by decide), c1, cal_at]
      by_cases y : T < B
      · have qm2 : qM 11 n q u2 := fun j hj => by rw [c2.1.2 11 (by decide)]; exact a2 j hj
        obtain ⟨u3, d1, d2, d3⟩ := cp_m (N := N) hN hn K49 l2 (iI (vQ N w h d f q n : Nat)) code qm2
        have d1 : m_draw_b158 N K49 N (iI n) l2 (iI (vQ N w h d f q n : Nat)) (iI code) 0 u2 = _ := d1
        rw [if_pos (by rw [iI_lt (by omega) (by omega) (by omega) (by omega)]; omega), d1]
        refine ⟨(vQ N w h d f q n : Nat), u3, rfl, fr_trans f2 (fr_mono d3 (by simp) (by simp)), by omega, by omega, fun w1 => by omega, fun _ => ⟨code, by omega, by rw [← hT]; omega, fun j hj => by rw [d2 j hj, hq], fun c hc' => ?_⟩⟩
        by_cases ce : c = code
        · rw [ce, ← hT]; exact Or.inr ⟨by omega, by omega⟩
        · by_cases b1 : B = 1000000
          · have := hs.2.2.2.1 b1 c (by omega)
            exact Or.inl (by omega)
          · obtain ⟨c0, g1, g2, g3, g4⟩ := hs.2.2.2.2 (by omega)
            rcases g4 c (by omega) with g | g
            · exact Or.inl (by omega)
            · exact Or.inl (by omega)
      · rw [if_neg (by rw [iI_lt (by omega) (by omega) (by omega) (by omega)]; omega), bnd_at, i_suc]
        exact ⟨B, u2, rfl, keep u2 (by omega) f2 (by rw [c2.1.2 10 (by decide)]; exact u10)⟩
theorem srch_m {N w h d : Nat} {f : Nat → Bool} (hN : 1100 < N) (hd : dOk w h d) {n : Nat} (hn : n ≤ 6) (p6 : 6 ^ n < 100000) {τ : xS} (hm : fM w h d f τ) : ∀ (n' code : Nat) (B : Int) (u : xS), code ≤ 6 ^ n → 6 ^ n < code + n' → sI N w h d f n code B τ u → ∃ (B' : Int) (u' : xS), m_draw_b49 N n' (iI n) (iI (6 ^ n : Nat)) (iI B) (iI code) u = (cal (m_parts 10 N (iI n) (va_up (va_up u'.1 17 (iI n)) 16 1, u'.2)) fun v5 σ6 => some (v5, σ6)) ∧ sI N w h d f n (6 ^ n) B' τ u' := by
  intro n'
  induction n' with
  | zero => intro code B u h1 h2; omega
  | succ n' ih =>
    intro code B u h1 h2 hs
    rw [m_draw_b49]
    by_cases z : code = 6 ^ n
    · rw [if_pos (by rw [iI_le (by omega) (by omega) (by omega) (by omega)]; omega), put_at, put_at]
      exact ⟨B, u, rfl, z ▸ hs⟩
    · obtain ⟨B1, u1, a1, a2⟩ := sI_st hN hd hn (show code < 6 ^ n by omega) (by omega) (m_draw_b49 N n') (iI (6 ^ n : Nat)) hm hs
      have a1 : m_draw_b67 N (m_draw_b49 N n') N (iI n) (iI (6 ^ n : Nat)) (iI B) (iI code) (iI code) 0 (iI ((n : Int) - 1)) u = _ := a1
      rw [if_neg (by rw [iI_le (by omega) (by omega) (by omega) (by omega)]; omega), bnd_at, show (1 : Int32) = iI 1 from rfl, iI_sub, a1]
      exact ih (code + 1) B1 u1 (by omega) (by omega) a2
theorem p6_b : ∀ n : Nat, n ≤ 6 → 6 ^ n ≤ 46656 := by decide
theorem cds_m {N n : Nat} (hn : n ≤ 6) {τ : xS} : ∀ n' i : Nat, i ≤ n → n < i + n' → m_draw_b27 N n' (iI n) (iI (6 ^ i : Nat)) (iI i) τ = m_draw_b49 N N (iI n) (iI (6 ^ n : Nat)) (iI 1000000) (iI (0 : Nat)) τ := by
  intro n'
  induction n' with
  | zero => intro i h1 h2; omega
  | succ n' ih =>
    intro i h1 h2
    rw [m_draw_b27]
    by_cases z : i = n
    · subst z
      rw [if_pos (by rw [iI_le (by omega) (by omega) (by omega) (by omega)]; omega)]; rfl
    · rw [if_neg (by rw [iI_le (by omega) (by omega) (by omega) (by omega)]; omega), bnd_at, bnd_at, i_suc, show (6 : Int32) = iI 6 from rfl, iI_mul, ← ih (i + 1) (by omega) (by omega), Nat.pow_succ]
      rfl
/-! the drawing as each one holds it -/
def bq (N w h d : Nat) (f : Nat → Bool) : Nat → Nat := dq (fw w h d f 64) (gc (pP N w h d f) (cv w h d f) (fw w h d f 64) 0)
theorem fw_T {N w h d : Nat} {f : Nat → Bool} (hd : dOk w h d) (hin : ∀ i : Nat, f i = true → inn w h d i) (h7 : fw w h d f 64 ≠ 7) : fw w h d f 64 ≤ 6 ∧ (dF (pP N w h d f) (cv w h d f) (fw w h d f 64) 0).1 < 1000000 := by
  have fl := fw_le (w := w) (h := h) (d := d) (f := f) 64
  have hy := dHy_ok (N := N) hd hin
  refine ⟨by omega, ?_⟩
  rcases (fw_sp (w := w) (h := h) (d := d) (f := f) 64 (Nat.le_refl 64)).1 with z | ⟨T, t1, t2, t3, t4⟩
  · exact absurd z h7
  · exact dF_pos hy t2 t4 t3 (fw w h d f 64) 0 (by decide) (by rw [show on 0 = 0 by decide]; omega) (by omega) (fun k _ hb => by rw [Nat.zero_testBit] at hb; cases hb)
theorem bq_cv {N w h d : Nat} {f : Nat → Bool} (hd : dOk w h d) (hin : ∀ i : Nat, f i = true → inn w h d i) (h7 : fw w h d f 64 ≠ 7) : cv w h d f (sq (bq N w h d f) (fw w h d f 64)) = true := by
  have t := fw_T (N := N) hd hin h7
  have g := (g_dig (dHy_ok (N := N) hd hin) t.1 t.2 (fw w h d f 64) (Nat.le_refl _)).1
  rw [Nat.sub_self, dF] at g
  cases e : cv w h d f (sq (bq N w h d f) (fw w h d f 64)) with
  | true => rfl
  | false =>
    have e : cv w h d f (sq (dq (fw w h d f 64) (gc (pP N w h d f) (cv w h d f) (fw w h d f 64) 0)) (fw w h d f 64)) = false := e
    rw [e] at g; simp at g
def dMs (N w h d : Nat) (f : Nat → Bool) (τ : xS) : Prop := τ.1 16 = iI 1 ∧ τ.1 17 = iI (fw w h d f 64 : Nat) ∧ τ.1 18 = iI (vQ N w h d f (bq N w h d f) (fw w h d f 64) : Nat) ∧ (∀ j : Nat, j < fw w h d f 64 → τ.2 10 j = iI (bq N w h d f j : Nat)) ∧ (∀ e : Nat, mem w h d f e = true → τ.2 12 e = nQ N w h d f (bq N w h d f) (fun _ => iI (-1)) (fw w h d f 64) e) ∧ (∀ v : Nat, v < vQ N w h d f (bq N w h d f) (fw w h d f 64) → τ.2 15 v = iI (szN w h d f (nQ N w h d f (bq N w h d f) (fun _ => iI (-1)) (fw w h d f 64)) v) ∧ τ.2 16 v = iI (tcN w h d f (nQ N w h d f (bq N w h d f) (fun _ => iI (-1)) (fw w h d f 64)) v)) ∧ ∀ v j : Nat, j < fw w h d f 64 → vQ N w h d f (bq N w h d f) j ≤ v → v < vQ N w h d f (bq N w h d f) (j + 1) → τ.2 14 v = iI (bq N w h d f j : Nat)
theorem pM_0 {N w h d K : Nat} {f : Nat → Bool} {q : Nat → Nat} {τ u : xS} (hp : pM N w h d f q K 0 τ u) : u.1 18 = iI (vQ N w h d f q K : Nat) ∧ (∀ e : Nat, mem w h d f e = true → u.2 12 e = nQ N w h d f q (fun _ => iI (-1)) K e) ∧ (∀ v : Nat, v < vQ N w h d f q K → u.2 15 v = iI (szN w h d f (nQ N w h d f q (fun _ => iI (-1)) K) v) ∧ u.2 16 v = iI (tcN w h d f (nQ N w h d f q (fun _ => iI (-1)) K) v) ∧ u.2 17 v = iI 0) ∧ ∀ v j : Nat, j ≤ K → vQ N w h d f q j ≤ v → v < vQ N w h d f q (j + 1) → v < vQ N w h d f q K → u.2 14 v = iI (q j : Nat) := by
  have e : nM N w h d f q K 0 = nQ N w h d f q (fun _ => iI (-1)) K := by
    funext c; rfl
  have z : pO N w h d (oQ w h d f q K) 0 = (oQ w h d f q K, 0) := rfl
  unfold pM at hp
  rw [e, z] at hp
  dsimp only at hp
  rw [Nat.add_zero] at hp
  exact hp.2
theorem draw_m {N w h d : Nat} {f : Nat → Bool} (hN : 100000 < N) (hd : dOk w h d) (hin : ∀ i : Nat, f i = true → inn w h d i) (h7 : fw w h d f 64 ≠ 7) {τ : xS} (hm : fM w h d f τ) : ∃ u : xS, m_draw N τ = some (iI (vQ N w h d f (bq N w h d f) (fw w h d f 64) : Nat), u) ∧ dMs N w h d f u ∧ ∀ v : Nat, v < vQ N w h d f (bq N w h d f) (fw w h d f 64) → u.2 17 v = iI 0 := by
  have t := fw_T (N := N) hd hin h7
  have hy := dHy_ok (N := N) hd hin
  have p6 := p6_b (fw w h d f 64) t.1
  have sp := dF_sp hy (fw w h d f 64) 0 (by decide) (by rw [show on 0 = 0 by decide]; omega) t.1
  have s4 := sp.2.2.2 t.2
  obtain ⟨B, u, a1, a2⟩ := srch_m (N := N) (by omega) hd t.1 (by omega) hm N 0 1000000 τ (by omega) (by omega) ⟨fr_refl, by omega, by omega, fun _ c hc => absurd hc (Nat.not_lt_zero c), fun z => by omega⟩
  have B1 : B < 1000000 := by
    by_cases z : B < 1000000
    · exact z
    · have := a2.2.2.2.1 (by have := a2.2.2.1; omega) _ s4.2.1
      have := s4.2.2.1
      omega
  obtain ⟨c0, c1, c2, c3, c4⟩ := a2.2.2.2.2 B1
  have ec : c0 = gc (pP N w h d f) (cv w h d f) (fw w h d f 64) 0 := by
    have g1 := s4.2.2.2 c0 c1
    have g2 := c4 _ s4.2.1
    rw [s4.2.2.1] at g2
    rw [c2] at g1
    rcases g1 with g1 | g1
    · rcases g2 with g2 | g2 <;> omega
    · rcases g2 with g2 | g2 <;> omega
  rw [ec] at c3
  obtain ⟨u1, q1⟩ : ∃ u1 : xS, u1 = (va_up (va_up u.1 17 (iI (fw w h d f 64 : Nat))) 16 1, u.2) := ⟨_, rfl⟩
  have m1 : fM w h d f u1 := by
    refine fM_fr (S := [16, 17, 18]) (T := [10, 11, 12, 13, 14, 15, 16, 17]) hm (fr_trans (fr_mono a2.1 (by simp) (by simp)) ?_) (by decide) (by decide)
    rw [q1]
    refine ⟨fun k hk => ?_, fun _ _ => rfl⟩
    dsimp only
    rw [va_up_n _ _ (fun z => hk (by rw [z]; decide)), va_up_n _ _ (fun z => hk (by rw [z]; decide))]
  have qm : qM 10 (fw w h d f 64) (bq N w h d f) u1 := fun j hj => ⟨dq_lt _ _ _, by rw [q1]; exact c3 j hj⟩
  obtain ⟨u2, b1, b2⟩ := parts_m (N := N) (ab := 10) (q := bq N w h d f) (by omega) (Or.inl rfl) t.1 hd m1 qm
  have E : m_draw N τ = some (iI (vQ N w h d f (bq N w h d f) (fw w h d f 64) : Nat), u2) := by
    have cd := cds_m (N := N) (τ := τ) t.1 N 0 (by omega) (by omega)
    have cd : m_draw_b27 N N (iI (fw w h d f 64 : Nat)) 1 0 τ = _ := cd
    unfold m_draw
    rw [hm.1.1, if_neg (by decide), few_m (by omega) hd hm, cal_at, if_neg (by rw [show (7 : Int32) = iI 7 from rfl, iI_eq (by omega) (by omega) (by omega) (by omega)]; omega), cd, a1, ← q1, b1, cal_at]
  have b3 := pM_0 b2
  refine ⟨u2, E, ⟨?_, ?_, b3.1, fun j hj => ?_, b3.2.1, fun v hv => ?_, fun v j hj v1 v2 => ?_⟩, fun v hv => (b3.2.2.1 v hv).2.2⟩
  · rw [b2.1.1 16 (by decide), q1]; rfl
  · rw [b2.1.1 17 (by decide), q1]; rfl
  · rw [b2.1.2 10 (by decide)]; exact (qm j hj).2
  · have := b3.2.2.1 v hv
    exact ⟨this.1, this.2.1⟩
  · have := vQ_mono (N := N) (w := w) (h := h) (d := d) (f := f) (q := bq N w h d f) (i := j + 1) (j := fw w h d f 64) (by omega)
    exact b3.2.2.2 v j (by omega) v1 v2 (Nat.lt_of_lt_of_le v2 this)
