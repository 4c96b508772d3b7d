theorem opM_in {w h d : Nat} {a : Int} {g : Nat → Bool} (hg : ∀ i : Nat, g i = true → inn w h d i) (i : Nat) (hi : opM w h d a g i = true) : inn w h d i := by
  unfold opM at hi
  rw [Bool.or_eq_true, Bool.and_eq_true] at hi
  rcases hi with e | e
  · exact hg i e
  · exact of_decide_eq_true e.1
theorem opT_in {w h d : Nat} {g : Nat → Bool} (hg : ∀ i : Nat, g i = true → inn w h d i) (i : Nat) (hi : opT w h d g i = true) : inn w h d i := by
  unfold opT at hi
  by_cases q : inn w h d i
  · exact q
  · rw [if_neg q] at hi; exact hg i hi
theorem semi_p {n : Nat} {t : Nat → Int} {b : Nat} {v : Int} (hv : 0 ≤ v) (h : tb n t b = v) : b < n := by
  by_cases z : b < n
  · exact z
  · unfold tb at h; rw [if_neg z] at h; omega
theorem turn_xm {N n : Nat} (hN : 1000 < N) {t : Nat → Int} (ok : tpOk n t) {w h d : Nat} (hd : dOk w h d) {g : Nat → Bool} (hin : ∀ i : Nat, g i = true → inn w h d i) (K : xS → Option (Int32 × xS)) {a s0 : Nat} {σ τ : xS} (hx : tpX n t σ) (hg : gX w h d g σ) (hm : tpM n t τ) (hgm : gM w h d g τ) (hw : wds τ) (ha : a ≤ n) (hh : At a σ τ) (h4 : τ.1 4 = iI a) : ∃ σ' τ' : xS, reader_readTurn N (iI s0) σ = some (0, σ') ∧ cal (m_turns N (iI s0) τ) (fun _ τ1 => m_reads_b104 N K τ1) = K τ' ∧ (Fx n t σ' τ' ∨ ∃ (a' : Nat) (g' : Nat → Bool), a < a' ∧ St n t w h d a' g' σ' τ') := by
  obtain ⟨b, hs⟩ := Sk_ex (n := n) (t := t) n a ha (by omega)
  have k := ok.1
  by_cases wh : w = h
  · subst wh
    have X := semi_x (N := N) (by omega) ok hx hs hh.1 hh.2.1
    obtain ⟨τ0, C1, C2, C3, C4⟩ := cpy_t (N := N) hN hd hgm
    obtain ⟨τ1, D1, D2, D3⟩ := turn_m (N := N) hN hd C2 C3
    have MB : m_turns N (iI s0) τ = some (0, τ1) := by
      unfold m_turns
      have C1 : m_turns_b20 N N 0 τ = _ := C1
      rw [hgm.1, hgm.2.1, if_pos rfl, C1, D1]
    have M3 : fr [] [5, 6] τ τ1 := ⟨fun k _ => by rw [D3, C4], (f_m_turns MB).2⟩
    have hm1 := tpM_fr hm M3 (by decide) (by decide)
    have M := semi_m (N := N) (by omega) ok hm1 hs (by rw [M3.1 1 (by decide)]; exact hh.2.2.2.1) (by rw [M3.1 5 (by decide)]; exact hh.2.2.2.2.1) K
    have T : draft_canTurn N σ = some (1, σ) := by unfold draft_canTurn; rw [hg.1, hg.2.1, if_pos rfl]
    unfold reader_readTurn
    rw [T, cal_at, if_neg (by decide), MB, cal_at]
    by_cases c : tb n t b = 59
    · obtain ⟨σ1, X1, X2, X3⟩ := X.1 c
      obtain ⟨τ2, N1, N2, N3⟩ := M.1 c
      have bn := semi_p (by omega) c
      obtain ⟨σ2, Y1, Y2, Y3⟩ := turn_x (N := N) hN hd (gX_fr hg X3 (by decide) (by decide))
      refine ⟨σ2, τ2, ?_, N1, Or.inr ⟨b + 1, _, by have := hs.1; omega, tpX_fr (tpX_fr hx X3 (by decide) (by decide)) Y3 (by decide) (by decide), Y2, tpM_fr hm1 N3 (by decide) (by decide), gM_fr D2 N3 (by decide) (by decide), wds_fr (wds_fr hw M3 (by decide)) N3 (by decide), by omega, ⟨?_, ?_, ?_, N2, ?_, ?_⟩, ⟨a, ?_, by omega, by have := hs.1; omega⟩, opT_in hin⟩⟩
      · rw [X1, cal_at, if_pos (by rw [X3.1 2 (by decide), hh.2.1]; decide), Y1, cal_at]
      · rw [Y3.1 1 (by decide)]; exact X2
      · rw [Y3.1 2 (by decide), X3.1 2 (by decide)]; exact hh.2.1
      · rw [Y3.1 3 (by decide), X3.1 3 (by decide)]; exact hh.2.2.1
      · rw [N3.1 5 (by decide), M3.1 5 (by decide)]; exact hh.2.2.2.2.1
      · rw [N3.1 6 (by decide), M3.1 6 (by decide)]; exact hh.2.2.2.2.2
      · rw [N3.1 4 (by decide), M3.1 4 (by decide)]; exact h4
    · obtain ⟨σ1, X1, X2, X3, X4⟩ := X.2 c
      obtain ⟨τ2, N1, N2, N3⟩ := M.2 c
      have f1 := f_reader_readSemicolon X1
      refine ⟨σ1, τ2, ?_, N1, Or.inl ⟨⟨1, b, Or.inl rfl, X2, X3, N2, N3⟩, tpX_fr hx f1 (by decide) (by decide), b, hs.2.1, X4⟩⟩
      rw [X1, cal_at, if_neg (by rw [X2]; decide)]
  · have ne : ¬ iI (w : Int) = iI (h : Int) := by rw [iI_eq (by omega) (by omega) (by omega) (by omega)]; omega
    have T : draft_canTurn N σ = some (0, σ) := by unfold draft_canTurn; rw [hg.1, hg.2.1, if_neg ne]
    have MB : m_turns N (iI s0) τ = some (0, (va_up (va_up τ.1 5 2) 6 (iI s0), τ.2)) := by
      unfold m_turns
      rw [hgm.1, hgm.2.1, if_neg ne, fail_m _ _ hh.2.2.2.2.1, cal_at]
    obtain ⟨σ1, X1, X2, X3, X4⟩ := semi_x' (N := N) (by omega) ok (σ := (va_up (va_up σ.1 2 2) 3 (iI s0), σ.2)) hx ha hh.1 (show ¬ (2 : Int32) = 0 by decide)
    obtain ⟨τ2, N1, N2, N3⟩ := semi_m' (N := N) (τ := (va_up (va_up τ.1 5 2) 6 (iI s0), τ.2)) (show ¬ (2 : Int32) = 0 by decide) K
    have f1 := f_reader_readSemicolon X1
    unfold reader_readTurn
    rw [T, cal_at, if_pos rfl, ref_x _ _ hh.2.1, cal_at, X1, cal_at, if_neg (by rw [X2]; exact (show ¬ (2 : Int32) = 0 by decide)), MB, cal_at]
    exact ⟨σ1, τ2, rfl, N1, Or.inl ⟨⟨2, s0, Or.inr rfl, X2, X3, N2, N3⟩, tpX_fr (σ := (va_up (va_up σ.1 2 2) 3 (iI s0), σ.2)) hx f1 (by decide) (by decide), X4⟩⟩
theorem wm_ax {n : Nat} {t : Nat → Int} {b : Nat} (k : Nat) (hk : k < 3) : wm n t (4 + k) b ↔ (tb n t b = 120 + k ∧ ¬ lt_ (tb n t (b + 1))) := by
  have e : Wl (4 + k) = 1 ∧ Wd (4 + k) 0 = 120 + k := by
    rcases (show k = 0 ∨ k = 1 ∨ k = 2 by omega) with rfl | rfl | rfl <;> exact ⟨by decide, by decide⟩
  unfold wm
  rw [e.1]
  constructor
  · intro z; exact ⟨by rw [← e.2]; exact z.1 0 (by omega), z.2⟩
  · intro z; exact ⟨fun j hj => by rw [show j = 0 by omega, e.2]; exact z.1, z.2⟩
theorem axis_x {N n : Nat} (hN : 500 < N) {t : Nat → Int} (ok : tpOk n t) {b : Nat} (hb : b ≤ n) {σ : xS} (hx : tpX n t σ) (h1 : σ.1 1 = iI b) : (∀ k : Nat, k < 3 → wm n t (4 + k) b → ∃ σ' : xS, reader_takeAxis N σ = some (iI k, σ') ∧ σ'.1 1 = iI (b + 1 : Nat) ∧ fr [1] [] σ σ') ∧ ((∀ k : Nat, k < 3 → ¬ wm n t (4 + k) b) → reader_takeAxis N σ = some (-1, σ)) := by
  have T0 := take_X hN ok (w := 4) (by omega) hb hx h1
  have T1 := take_X hN ok (w := 5) (by omega) hb hx h1
  have T2 := take_X hN ok (w := 6) (by omega) hb hx h1
  have w0 := wm_ax (n := n) (t := t) (b := b) 0 (by omega)
  have w1 := wm_ax (n := n) (t := t) (b := b) 1 (by omega)
  have w2 := wm_ax (n := n) (t := t) (b := b) 2 (by omega)
  refine ⟨fun k hk z => ?_, fun z => ?_⟩
  · rcases (show k = 0 ∨ k = 1 ∨ k = 2 by omega) with rfl | rfl | rfl
    · obtain ⟨σ', a1, a2, a3⟩ := T0.1 z
      unfold reader_takeAxis
      rw [a1, cal_at, if_neg (by decide)]
      exact ⟨_, rfl, a2, a3⟩
    · have n0 : ¬ wm n t 4 b := fun y => by have := (w0.mp y).1; have := (w1.mp z).1; omega
      obtain ⟨σ', a1, a2, a3⟩ := T1.1 z
      unfold reader_takeAxis
      rw [T0.2 n0, cal_at, if_pos (by decide), a1, cal_at, if_neg (by decide)]
      exact ⟨_, rfl, a2, a3⟩
    · have n0 : ¬ wm n t 4 b := fun y => by have := (w0.mp y).1; have := (w2.mp z).1; omega
      have n1 : ¬ wm n t 5 b := fun y => by have := (w1.mp y).1; have := (w2.mp z).1; omega
      obtain ⟨σ', a1, a2, a3⟩ := T2.1 z
      unfold reader_takeAxis
      rw [T0.2 n0, cal_at, if_pos (by decide), T1.2 n1, cal_at, if_pos (by decide), a1, cal_at, if_neg (by decide)]
      exact ⟨_, rfl, a2, a3⟩
  · have n0 := z 0 (by omega)
    have n1 := z 1 (by omega)
    have n2 := z 2 (by omega)
    unfold reader_takeAxis
    rw [T0.2 n0, cal_at, if_pos (by decide), T1.2 n1, cal_at, if_pos (by decide), T2.2 n2, cal_at, if_pos (by decide)]
theorem mirror_xm {N n : Nat} (hN : 1000 < N) {t : Nat → Int} (ok : tpOk n t) {w h d : Nat} (hd : dOk w h d) {g : Nat → Bool} (hin : ∀ i : Nat, g i = true → inn w h d i) (K : xS → Option (Int32 × xS)) {a : Nat} {σ τ : xS} (hx : tpX n t σ) (hg : gX w h d g σ) (hm : tpM n t τ) (hgm : gM w h d g τ) (hw : wds τ) (ha : a ≤ n) (hh : At a σ τ) (h4 : τ.1 4 = iI a) (hl : ¬ lt_ (tb n t a)) : ∃ σ' τ' : xS, reader_readMirror N σ = some (0, σ') ∧ cal (m_mirrors N τ) (fun _ τ1 => m_reads_b104 N K τ1) = K τ' ∧ (Fx n t σ' τ' ∨ ∃ (a' : Nat) (g' : Nat → Bool), a < a' ∧ St n t w h d a' g' σ' τ') := by
  obtain ⟨b, hs⟩ := Sk_ex (n := n) (t := t) n a ha (by omega)
  obtain ⟨σ1, e1, p1, f1⟩ := skip_X (N := N) (by omega) ok hs hx hh.1
  obtain ⟨τ1, d1, q1, g1⟩ := next_M (N := N) (by omega) ok hs hm hh.2.2.2.1
  have k := ok.1
  have hb := hs.2.1
  have hab := hs.1
  have tbd := tb_bd ok b
  have hx1 := tpX_fr hx f1 (by decide) (by decide)
  have hm1 := tpM_fr hm g1 (by decide) (by decide)
  have s2 : σ1.1 2 = iI 0 := by rw [f1.1 2 (by decide)]; exact hh.2.1
  have s3 : σ1.1 3 = iI (-1) := by rw [f1.1 3 (by decide)]; exact hh.2.2.1
  have t4 : τ1.1 4 = iI a := by rw [g1.1 4 (by decide)]; exact h4
  have t5 : τ1.1 5 = iI 0 := by rw [g1.1 5 (by decide)]; exact hh.2.2.2.2.1
  have t6 : τ1.1 6 = iI (-1) := by rw [g1.1 6 (by decide)]; exact hh.2.2.2.2.2
  have hg1 := gX_fr hg f1 (by decide) (by decide)
  have hgm1 := gM_fr hgm g1 (by decide) (by decide)
  have hw1 := wds_fr hw g1 (by decide)
  have A := axis_x (N := N) (by omega) ok hb hx1 p1
  by_cases ax : ∃ k : Nat, k < 3 ∧ wm n t (4 + k) b
  · obtain ⟨j, hj, wj⟩ := ax
    have wj2 := (wm_ax j hj).mp wj
    have bn := semi_p (n := n) (t := t) (b := b) (v := 120 + j) (by omega) wj2.1
    have nab : ¬ b = a := fun z => by subst z; exact hl (by have := wj2.1; omega)
    obtain ⟨σ2, A1, A2, A3⟩ := A.1 j hj wj
    have hx2 := tpX_fr hx1 A3 (by decide) (by decide)
    have hg2 := gX_fr hg1 A3 (by decide) (by decide)
    obtain ⟨b2, hs2⟩ := Sk_ex (n := n) (t := t) n (b + 1) (by omega) (by omega)
    have X := semi_x (N := N) (by omega) ok hx2 hs2 A2 (by rw [A3.1 2 (by decide)]; exact s2)
    -- the reference
    have hgm2 : gM w h d g (va_up (va_up τ1.1 1 (iI (b + 1 : Nat))) 4 (iI (b + 1 : Nat)), τ1.2) := hgm1
    obtain ⟨τ0, C1, C2, C3, C4⟩ := cpy_m (N := N) (a := iI (120 + (j : Int))) hN hd hgm2
    obtain ⟨τ2, D1, D2, D3⟩ := mirr_m (N := N) (a := j) hN hd (by omega) C2 C3
    have C1 : m_mirrors_b94 N N (iI (120 + (j : Int))) 0 (va_up (va_up τ1.1 1 (iI (b + 1 : Nat))) 4 (iI (b + 1 : Nat)), τ1.2) = _ := C1
    have M74 : m_mirrors_b74 N (iI (120 + (j : Int))) τ1 = some (0, τ2) := by
      unfold m_mirrors_b74
      rw [put_at, put_at, q1, i_suc]
      exact C1.trans D1
    have M3 : fr [] [5, 6] (va_up (va_up τ1.1 1 (iI (b + 1 : Nat))) 4 (iI (b + 1 : Nat)), τ1.2) τ2 := ⟨fun k _ => by rw [D3, C4], (f_m_mirrors_b94 _ _ _ _ (C1.trans D1)).2⟩
    have MB : m_mirrors N τ = some (0, τ2) := by
      have B23 : m_mirrors_b23 N (iI (120 + (j : Int))) τ1 = some (0, τ2) := by
        unfold m_mirrors_b23
        rw [q1, t4, if_neg (by rw [iI_eq (by omega) (by omega) (by omega) (by omega)]; omega), i_suc, hm1.1]
        by_cases en : n ≤ b + 1
        · rw [if_pos (by rw [iI_le (by omega) (by omega) (by omega) (by omega)]; omega)]; exact M74
        · have tb1 := ok.2 (b + 1) (by omega)
          have nl := wj2.2
          unfold tb at nl
          rw [if_pos (show b + 1 < n by omega)] at nl
          rw [if_neg (by rw [iI_le (by omega) (by omega) (by omega) (by omega)]; omega), ald_at (by omega) (by omega) (by omega), Int.toNat_natCast, hm1.2 (b + 1) (by omega), letter_m (by omega) (by omega), cal_at, if_neg nl, if_pos (by decide)]; exact M74
      unfold m_mirrors
      rw [d1, cal_at, wj2.1]
      rcases (show j = 0 ∨ j = 1 ∨ j = 2 by omega) with rfl | rfl | rfl
      · rw [if_pos (by decide)]; exact B23
      · rw [if_neg (by decide), if_pos (by decide)]; exact B23
      · rw [if_neg (by decide), if_neg (by decide), if_pos (by decide)]; exact B23
    have hm2 := tpM_fr (σ := (va_up (va_up τ1.1 1 (iI (b + 1 : Nat))) 4 (iI (b + 1 : Nat)), τ1.2)) hm1 M3 (by decide) (by decide)
    have M := semi_m (N := N) (by omega) ok hm2 hs2 (by rw [M3.1 1 (by decide)]; rfl) (by rw [M3.1 5 (by decide)]; exact t5) K
    have jn : ¬ iI (j : Int) = (-1 : Int32) := by rw [show (-1 : Int32) = iI (-1) from rfl, iI_eq (by omega) (by omega) (by omega) (by omega)]; omega
    unfold reader_readMirror
    rw [e1, cal_at, p1, bnd_at, A1, cal_at, if_neg jn, MB, cal_at]
    by_cases c : tb n t b2 = 59
    · obtain ⟨σ3, X1, X2, X3⟩ := X.1 c
      obtain ⟨τ3, N1, N2, N3⟩ := M.1 c
      have bn2 := semi_p (by omega) c
      obtain ⟨σ4, Y1, Y2, Y3⟩ := mirr_x (N := N) (a := j) (by omega) hd (by omega) (gX_fr hg2 X3 (by decide) (by decide))
      refine ⟨σ4, τ3, ?_, N1, Or.inr ⟨b2 + 1, _, by have := hs2.1; omega, tpX_fr (tpX_fr hx2 X3 (by decide) (by decide)) Y3 (by decide) (by decide), Y2, tpM_fr hm2 N3 (by decide) (by decide), gM_fr D2 N3 (by decide) (by decide), wds_fr (wds_fr (σ := (va_up (va_up τ1.1 1 (iI (b + 1 : Nat))) 4 (iI (b + 1 : Nat)), τ1.2)) hw1 M3 (by decide)) N3 (by decide), by omega, ⟨?_, ?_, ?_, N2, ?_, ?_⟩, ⟨(b + 1 : Nat), ?_, by omega, by have := hs2.1; omega⟩, opM_in hin⟩⟩
      · rw [X1, cal_at, if_pos (by rw [X3.1 2 (by decide), A3.1 2 (by decide), s2]; decide), Y1, cal_at]
      · rw [Y3.1 1 (by decide)]; exact X2
      · rw [Y3.1 2 (by decide), X3.1 2 (by decide), A3.1 2 (by decide)]; exact s2
      · rw [Y3.1 3 (by decide), X3.1 3 (by decide), A3.1 3 (by decide)]; exact s3
      · rw [N3.1 5 (by decide), M3.1 5 (by decide)]; exact t5
      · rw [N3.1 6 (by decide), M3.1 6 (by decide)]; exact t6
      · rw [N3.1 4 (by decide), M3.1 4 (by decide)]; rfl
    · obtain ⟨σ3, X1, X2, X3, X4⟩ := X.2 c
      obtain ⟨τ3, N1, N2, N3⟩ := M.2 c
      have f3 := f_reader_readSemicolon X1
      refine ⟨σ3, τ3, ?_, N1, Or.inl ⟨⟨1, b2, Or.inl rfl, X2, X3, N2, N3⟩, tpX_fr hx2 f3 (by decide) (by decide), b2, hs2.2.1, X4⟩⟩
      rw [X1, cal_at, if_neg (by rw [X2]; decide)]
  · have nx : ∀ k : Nat, k < 3 → ¬ wm n t (4 + k) b := fun k hk z => ax ⟨k, hk, z⟩
    have AN := A.2 nx
    have MB : m_mirrors N τ = some (0, (va_up (va_up τ1.1 5 1) 6 (iI b), τ1.2)) := by
      have FL : cal (m_fail N 1 (iI b) τ1) (fun _ σ30 => some ((0 : Int32), σ30)) = some (0, (va_up (va_up τ1.1 5 1) 6 (iI b), τ1.2)) := by rw [fail_m _ _ t5, cal_at]
      have B23 : ∀ k : Nat, k < 3 → tb n t b = 120 + k → m_mirrors_b23 N (iI (tb n t b)) τ1 = some (0, (va_up (va_up τ1.1 5 1) 6 (iI b), τ1.2)) := by
        intro k hk e
        have bn := semi_p (n := n) (t := t) (b := b) (v := 120 + k) (by omega) e
        have nab : ¬ b = a := fun z => by subst z; exact hl (by omega)
        have le : lt_ (tb n t (b + 1)) := by
          by_cases z : lt_ (tb n t (b + 1))
          · exact z
          · exact absurd ((wm_ax k hk).mpr ⟨e, z⟩) (nx k hk)
        have bn1 := semi_p (n := n) (t := t) (b := b + 1) (v := tb n t (b + 1)) (by omega) rfl
        have tl : tb n t (b + 1) = t (b + 1) := by unfold tb; rw [if_pos bn1]
        rw [tl] at le
        unfold m_mirrors_b23
        rw [q1, t4, if_neg (by rw [iI_eq (by omega) (by omega) (by omega) (by omega)]; omega), i_suc, hm1.1, if_neg (by rw [iI_le (by omega) (by omega) (by omega) (by omega)]; omega), ald_at (by omega) (by omega) (by omega), Int.toNat_natCast, hm1.2 (b + 1) (by omega), letter_m (by omega) (by omega), cal_at, if_pos le, if_neg (by decide), q1]
        exact FL
      unfold m_mirrors
      rw [d1, cal_at, q1]
      simp (disch := omega) only [iI_lit, iI_eq]
      by_cases c0 : tb n t b = 120
      · rw [if_pos c0]; exact B23 0 (by omega) c0
      · by_cases c1 : tb n t b = 121
        · rw [if_neg c0, if_pos c1]; exact B23 1 (by omega) c1
        · by_cases c2 : tb n t b = 122
          · rw [if_neg c0, if_neg c1, if_pos c2]; exact B23 2 (by omega) c2
          · rw [if_neg c0, if_neg c1, if_neg c2]; exact FL
    obtain ⟨σ2, X1, X2, X3, X4⟩ := semi_x' (N := N) (by omega) ok (σ := (va_up (va_up σ1.1 2 1) 3 (iI b), σ1.2)) hx1 hb p1 (show ¬ (1 : Int32) = 0 by decide)
    obtain ⟨τ2, N1, N2, N3⟩ := semi_m' (N := N) (τ := (va_up (va_up τ1.1 5 1) 6 (iI b), τ1.2)) (show ¬ (1 : Int32) = 0 by decide) K
    have f3 := f_reader_readSemicolon X1
    unfold reader_readMirror
    rw [e1, cal_at, p1, bnd_at, AN, cal_at, if_pos rfl, ref_x _ _ s2, cal_at, X1, cal_at, if_neg (by rw [X2]; exact (show ¬ (1 : Int32) = 0 by decide)), MB, cal_at]
    exact ⟨σ2, τ2, rfl, N1, Or.inl ⟨⟨1, b, Or.inl rfl, X2, X3, N2, N3⟩, tpX_fr (σ := (va_up (va_up σ1.1 2 1) 3 (iI b), σ1.2)) hx1 f3 (by decide) (by decide), X4⟩⟩
