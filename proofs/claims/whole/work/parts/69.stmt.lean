/-- at the head of a statement -/
def St (n : Nat) (t : Nat → Int) (w h d a : Nat) (g : Nat → Bool) (σ τ : xS) : Prop := tpX n t σ ∧ gX w h d g σ ∧ tpM n t τ ∧ gM w h d g τ ∧ wds τ ∧ a ≤ n ∧ At a σ τ ∧ (∃ e : Int, τ.1 4 = iI e ∧ -1 ≤ e ∧ e < a) ∧ ∀ i : Nat, g i = true → inn w h d i
/-- a fault that both have found -/
def Fx (n : Nat) (t : Nat → Int) (σ τ : xS) : Prop := Fb σ τ ∧ tpX n t σ ∧ ∃ a : Nat, a ≤ n ∧ σ.1 1 = iI a
theorem endF_x {N n : Nat} (hN : 500 < N) {t : Nat → Int} (ok : tpOk n t) {σ : xS} (hx : tpX n t σ) {a : Nat} (ha : a ≤ n) (h1 : σ.1 1 = iI a) (h2 : ¬ σ.1 2 = (0 : Int32)) (v : Int32) (f i : Nat) (hi : i ≤ 6) : ∃ σ' : xS, reader_readBlock_b2 N (f + 1) v (iI i) σ = some (0, σ') ∧ σ'.1 2 = σ.1 2 ∧ σ'.1 3 = σ.1 3 ∧ tpX n t σ' ∧ ∃ a' : Nat, a' ≤ n ∧ σ'.1 1 = iI a' := by
  obtain ⟨σ1, e1, e2, e3, e4⟩ := semi_x' hN ok hx ha h1 h2
  have f1 := f_reader_readSemicolon e1
  refine ⟨σ1, ?_, e2, e3, tpX_fr hx f1 (by decide) (by decide), e4⟩
  rw [reader_readBlock_b2, e1, cal_at, if_neg (show ¬ σ1.1 2 = (0 : Int32) by rw [e2]; exact h2), if_neg h2]
  split <;> rfl
theorem endF_m {N : Nat} {τ : xS} (h2 : ¬ τ.1 5 = (0 : Int32)) (v : Int32) (f i : Nat) (hi : i ≤ 6) : m_boxes_b2 N (f + 1) v (iI i) τ = some (0, τ) := by
  rw [m_boxes_b2, if_neg h2, if_neg h2]
  split <;> rfl
theorem num_p {N n : Nat} (hN : 500 < N) {t : Nat → Int} (ok : tpOk n t) {σ : xS} (hx : tpX n t σ) {a i : Nat} (ha : a < n) (hd : 48 ≤ t a ∧ t a ≤ 57) (h1 : σ.1 1 = iI a) (h2 : σ.1 2 = iI 0) : ∃ σ' : xS, reader_readNumber N (iI i) σ = some (0, σ') ∧ σ'.1 2 = iI 1 ∧ σ'.1 3 = iI a ∧ σ'.1 1 = iI a ∧ tpX n t σ' := by
  have hs : Sk n t a a := ⟨by omega, by omega, fun i _ _ => by omega, fun _ => by omega⟩
  obtain ⟨σ1, e1, p1, f1⟩ := skip_X hN ok hs hx h1
  have k := ok.1
  have hx1 := tpX_fr hx f1 (by decide) (by decide)
  have s2 : σ1.1 2 = iI 0 := by rw [f1.1 2 (by decide)]; exact h2
  have E : reader_readNumber N (iI i) σ = some (0, (va_up (va_up σ1.1 2 1) 3 (iI a), σ1.2)) := by
    unfold reader_readNumber
    rw [bnd_at, e1, cal_at, p1, byte_x ok hx1 (by omega), cal_at, h1, p1, bnd_at, if_pos (by rw [iI_le (by omega) (by omega) (by omega) (by omega)]; omega)]
    unfold reader_readNumber_b37
    rw [if_pos rfl, p1, ref_x _ _ s2, cal_at]
  exact ⟨_, E, rfl, rfl, p1, hx1⟩
theorem opB_in {w h d : Nat} {g : Nat → Bool} {x0 x1 y0 y1 z0 z1 : Int} {v : Bool} (a1 : 0 ≤ x0 ∧ x1 ≤ w) (a2 : 0 ≤ y0 ∧ y1 ≤ h) (a3 : 0 ≤ z0 ∧ z1 ≤ d) (hg : ∀ i : Nat, g i = true → inn w h d i) (i : Nat) (hi : opB x0 x1 y0 y1 z0 z1 v g i = true) : inn w h d i := by
  unfold opB at hi
  by_cases q : blk x0 x1 y0 y1 z0 z1 i
  · omega
  · rw [if_neg q] at hi; exact hg i hi
theorem nums_xm {N n : Nat} (hN : 1000 < N) {t : Nat → Int} (ok : tpOk n t) {w h d : Nat} (hd : dOk w h d) {g : Nat → Bool} (hin : ∀ i : Nat, g i = true → inn w h d i) (v : Bool) (K : xS → Option (Int32 × xS)) : ∀ (m i a : Nat) (q : Nat → Int) (σ τ : xS) (f f' : Nat), i + m = 6 → m + 2 ≤ f → m + 2 ≤ f' → tpX n t σ → gX w h d g σ → tpM n t τ → gM w h d g τ → wds τ → a ≤ n → At a σ τ → τ.1 4 = iI a → (∀ j : Nat, 0 ≤ q j ∧ q j ≤ 9) → (∀ j : Nat, j < i → σ.2 1 j = iI (q j) ∧ τ.2 7 j = iI (q j)) → ∃ σ' τ' : xS, reader_readBlock_b2 N f (iI (bI v)) (iI i) σ = some (0, σ') ∧ cal (m_boxes_b2 N f' (iI (bI v)) (iI i) τ) (fun _ τ1 => m_reads_b104 N K τ1) = K τ' ∧ (Fx n t σ' τ' ∨ ∃ (a' : Nat) (g' : Nat → Bool), a < a' ∧ St n t w h d a' g' σ' τ') := by
  intro m
  induction m with
  | zero =>
    intro i a q σ τ f f' hi hf hf' hx hg hm hgm hw ha h h4 hq hr
    have i6 : i = 6 := by omega
    subst i6
    obtain ⟨f, rfl⟩ : ∃ z, f = z + 1 := ⟨f - 1, by omega⟩
    obtain ⟨f', rfl⟩ : ∃ z, f' = z + 1 := ⟨f' - 1, by omega⟩
    obtain ⟨b, hs⟩ := Sk_ex (n := n) (t := t) n a ha (by omega)
    have k := ok.1
    have X := semi_x (N := N) (by omega) ok hx hs h.1 h.2.1
    obtain ⟨τ1, M1, M2, M3⟩ := fill_M (N := N) (v := v) (q := q) (by omega) hd (fun j _ => hq j) hgm (fun j hj => (hr j hj).2)
    have MB : m_boxes_b2 N (f' + 1) (iI (bI v)) (iI (6 : Nat)) τ = some (0, τ1) := by
      rw [m_boxes_b2, if_pos (by decide), h.2.2.2.2.1, if_pos (by decide), show (2 : Int32) = iI 2 from rfl, ald_at (by omega) (by omega) (by omega), show (2 : Int).toNat = 2 from rfl, (hr 2 (by omega)).2, M1]
    have hm1 := tpM_fr hm M3 (by decide) (by decide)
    have M := semi_m (N := N) (by omega) ok hm1 hs (by rw [M3.1 1 (by decide)]; exact h.2.2.2.1) (by rw [M3.1 5 (by decide)]; exact h.2.2.2.2.1) K
    rw [reader_readBlock_b2, if_pos (by decide), MB, cal_at]
    by_cases c : tb n t b = 59
    · obtain ⟨σ1, X1, X2, X3⟩ := X.1 c
      obtain ⟨τ2, N1, N2, N3⟩ := M.1 c
      have bn : b < n := by
        by_cases z : b < n
        · exact z
        · unfold tb at c; rw [if_neg z] at c; omega
      obtain ⟨σ2, Y1, Y2, Y3⟩ := fill_X (N := N) (v := v) (q := q) (by omega) hd (fun j _ => hq j) (gX_fr hg X3 (by decide) (by decide)) (fun j hj => by rw [X3.2 1 (by decide)]; exact (hr j hj).1)
      have q0 := hq 0
      have q1 := hq 1
      have q2 := hq 2
      refine ⟨σ2, τ2, ?_, N1, Or.inr ⟨b + 1, _, by have := hs.1; omega, tpX_fr (tpX_fr hx X3 (by decide) (by decide)) Y3 (by decide) (by decide), Y2, tpM_fr hm1 N3 (by decide) (by decide), gM_fr M2 N3 (by decide) (by decide), wds_fr (wds_fr hw M3 (by decide)) N3 (by decide), by omega, ⟨?_, ?_, ?_, N2, ?_, ?_⟩, ⟨a, ?_, by omega, by have := hs.1; omega⟩, opB_in ⟨by omega, by split <;> omega⟩ ⟨by omega, by split <;> omega⟩ ⟨by omega, by split <;> omega⟩ hin⟩⟩
      · rw [X1, cal_at, if_pos (by rw [X3.1 2 (by decide), h.2.1]; decide), Y1, cal_at]
      · rw [Y3.1 1 (by decide)]; exact X2
      · rw [Y3.1 2 (by decide), X3.1 2 (by decide)]; exact h.2.1
      · rw [Y3.1 3 (by decide), X3.1 3 (by decide)]; exact h.2.2.1
      · rw [N3.1 5 (by decide), M3.1 5 (by decide)]; exact h.2.2.2.2.1
      · rw [N3.1 6 (by decide), M3.1 6 (by decide)]; exact h.2.2.2.2.2
      · rw [N3.1 4 (by decide), M3.1 4 (by decide)]; exact h4
    · obtain ⟨σ1, X1, X2, X3, X4⟩ := X.2 c
      obtain ⟨τ2, N1, N2, N3⟩ := M.2 c
      have f1 := f_reader_readSemicolon X1
      refine ⟨σ1, τ2, ?_, N1, Or.inl ⟨⟨1, b, Or.inl rfl, X2, X3, N2, N3⟩, tpX_fr hx f1 (by decide) (by decide), b, hs.2.1, X4⟩⟩
      rw [X1, cal_at, if_neg (by rw [X2]; decide)]
  | succ m ih =>
    intro i a q σ τ f f' hi hf hf' hx hg hm hgm hw ha h h4 hq hr
    obtain ⟨f, rfl⟩ : ∃ z, f = z + 1 := ⟨f - 1, by omega⟩
    obtain ⟨f', rfl⟩ : ∃ z, f' = z + 1 := ⟨f' - 1, by omega⟩
    have i6 : i < 6 := by omega
    obtain ⟨σ1, τ1, z, X1, M1, fx, fm, ⟨ap, ap1, ap2⟩, cs⟩ := num_xm (N := N) (by omega) ok hx hm ha i6 h h4
    have hx1 := tpX_fr hx fx (by decide) (by decide)
    have hm1 := tpM_fr hm fm (by decide) (by decide)
    have XE : reader_readBlock_b2 N (f + 1) (iI (bI v)) (iI i) σ = reader_readBlock_b2 N f (iI (bI v)) (iI (i + 1 : Nat)) σ1 := by
      rw [reader_readBlock_b2, if_neg (by rw [show (6 : Int32) = iI 6 from rfl, iI_le (by omega) (by omega) (by omega) (by omega)]; omega), h.2.1, if_pos (by decide), X1, cal_at, bnd_at, i_suc]
    have ME : m_boxes_b2 N (f' + 1) (iI (bI v)) (iI i) τ = m_boxes_b2 N f' (iI (bI v)) (iI (i + 1 : Nat)) (τ1.1, va_up τ1.2 7 (upd (τ1.2 7) i z)) := by
      rw [m_boxes_b2, if_neg (by rw [show (6 : Int32) = iI 6 from rfl, iI_le (by omega) (by omega) (by omega) (by omega)]; omega), h.2.2.2.2.1, if_pos (by decide)]
      by_cases c : i ≤ 2
      · rw [if_pos c] at M1
        have M1 : m_number N 0 τ = _ := M1
        rw [if_pos (by rw [show (2 : Int32) = iI 2 from rfl, iI_le (by omega) (by omega) (by omega) (by omega)]; omega), M1, cal_at, ast_at (by omega) (by omega) (by omega), Int.toNat_natCast, bnd_at, i_suc]
      · rw [if_neg c] at M1
        have M1 : m_number N 1 τ = _ := M1
        rw [if_neg (by rw [show (2 : Int32) = iI 2 from rfl, iI_le (by omega) (by omega) (by omega) (by omega)]; omega), M1, cal_at, ast_at (by omega) (by omega) (by omega), Int.toNat_natCast, bnd_at, i_suc]
    obtain ⟨f, rfl⟩ : ∃ z, f = z + 1 := ⟨f - 1, by omega⟩
    obtain ⟨f', rfl⟩ : ∃ z, f' = z + 1 := ⟨f' - 1, by omega⟩
    rw [XE, ME]
    have out : ∀ (σ2 : xS) (k p : Int), (k = 1 ∨ k = 2) → τ1.1 5 = iI k → τ1.1 6 = iI p → σ2.1 2 = iI k → σ2.1 3 = iI p → tpX n t σ2 → (∃ a2 : Nat, a2 ≤ n ∧ σ2.1 1 = iI a2) → ∃ τ' : xS, cal (m_boxes_b2 N (f' + 1) (iI (bI v)) (iI (i + 1 : Nat)) (τ1.1, va_up τ1.2 7 (upd (τ1.2 7) i z))) (fun _ τ1 => m_reads_b104 N K τ1) = K τ' ∧ Fx n t σ2 τ' := by
      intro σ2 k p hk e5 e6 e2 e3 hx2 ha2
      have nz : ¬ (τ1.1, va_up τ1.2 7 (upd (τ1.2 7) i z)).1 5 = (0 : Int32) := by
        show ¬ τ1.1 5 = (0 : Int32)
        rw [e5]
        rcases hk with rfl | rfl <;> decide
      rw [endF_m nz _ _ _ (by omega), cal_at]
      obtain ⟨τ', a1, a2, a3⟩ := semi_m' (N := N) nz K
      exact ⟨τ', a1, ⟨k, p, hk, e2, e3, a2.trans e5, a3.trans e6⟩, hx2, ha2⟩
    rcases cs with fb | ⟨a', z', h1, h2, h3, h5, h6, h7, h8, h9⟩ | ⟨a', h1, h2, h3, h5, h6, h7, h8⟩
    · have nz := Fb_x fb
      obtain ⟨k, p, hk, e2, e3, e5, e6⟩ := fb
      obtain ⟨σ2, A1, A2, A3, A4, A5⟩ := endF_x (N := N) (by omega) ok hx1 ap1 ap2 nz.1 (iI (bI v)) f (i + 1) (by omega)
      obtain ⟨τ2, B1, B2⟩ := out σ2 k p hk e5 e6 (A2.trans e2) (A3.trans e3) A4 A5
      exact ⟨σ2, τ2, A1, B1, Or.inl B2⟩
    · have gm1 := gM_fr hgm fm (by decide) (by decide)
      have w1 := wds_fr hw fm (by decide)
      have w2 : wds (τ1.1, va_up τ1.2 7 (upd (τ1.2 7) i z)) := wds_fr (S := []) (T := [7]) w1 ⟨fun _ _ => rfl, fun a ha => va_up_n _ _ (fun z => ha (by rw [z]; decide))⟩ (by decide)
      have := ih (i + 1) a' (fun j => if j = i then z' else q j) σ1 (τ1.1, va_up τ1.2 7 (upd (τ1.2 7) i z)) (f + 1) (f' + 1) (by omega) (by omega) (by omega) hx1 (gX_fr hg fx (by decide) (by decide)) hm1 gm1 w2 h2 h7 h8 (fun j => by
        by_cases e : j = i
        · simp only [if_pos e]; exact ⟨h5, h6⟩
        · simp only [if_neg e]; exact hq j) (fun j hj => by
        show σ1.2 1 j = _ ∧ upd (τ1.2 7) i z j = _
        rw [h9, upd_e, upd_e, fm.2 7 (by decide), h3]
        by_cases e : j = i
        · simp only [if_pos e]; exact ⟨trivial, trivial⟩
        · simp only [if_neg e]; exact hr j (by omega))
      obtain ⟨σ2, τ2, A1, A2, A3⟩ := this
      refine ⟨σ2, τ2, A1, A2, ?_⟩
      rcases A3 with A3 | ⟨a2, g2, A3, A4⟩
      · exact Or.inl A3
      · exact Or.inr ⟨a2, g2, by omega, A4⟩
    · by_cases c : i + 1 = 6
      · have hs : Sk n t a' a' := ⟨by omega, by omega, fun i _ _ => by omega, fun _ => by omega⟩
        obtain ⟨σ2, S1, S2, S3, S4⟩ := (semi_x (N := N) (by omega) ok hx1 hs h5 h6).2 (by unfold tb; rw [if_pos h1]; omega)
        have f1 := f_reader_readSemicolon S1
        obtain ⟨τ2, B1, B2⟩ := out σ2 1 a' (Or.inl rfl) h7 h8 S2 S3 (tpX_fr hx1 f1 (by decide) (by decide)) ⟨a', by omega, S4⟩
        refine ⟨σ2, τ2, ?_, B1, Or.inl B2⟩
        rw [reader_readBlock_b2, if_pos (by rw [c]; decide), S1, cal_at, if_neg (by rw [S2]; decide)]
      · obtain ⟨f, rfl⟩ : ∃ z, f = z + 1 := ⟨f - 1, by omega⟩
        obtain ⟨σ2, S1, S2, S3, S4, S5⟩ := num_p (N := N) (i := i + 1) (by omega) ok hx1 h1 ⟨h2, h3⟩ h5 h6
        obtain ⟨σ3, A1, A2, A3, A4, A5⟩ := endF_x (N := N) (by omega) ok S5 (show a' ≤ n by omega) S4 (by rw [S2]; decide) (iI (bI v)) f (i + 1 + 1) (by omega)
        obtain ⟨τ2, B1, B2⟩ := out σ3 1 a' (Or.inl rfl) h7 h8 (A2.trans S2) (A3.trans S3) A4 A5
        refine ⟨σ3, τ2, ?_, B1, Or.inl B2⟩
        rw [reader_readBlock_b2, if_neg (by rw [show (6 : Int32) = iI 6 from rfl, iI_le (by omega) (by omega) (by omega) (by omega)]; omega), h6, if_pos (by decide), S1, cal_at, bnd_at, i_suc, A1]
theorem block_xm {N n : Nat} (hN : 1000 < N) {t : Nat → Int} (ok : tpOk n t) {w h d : Nat} (hd : dOk w h d) {g : Nat → Bool} (hin : ∀ i : Nat, g i = true → inn w h d i) (v : Bool) (K : xS → Option (Int32 × xS)) {a : Nat} {σ τ : xS} (hx : tpX n t σ) (hg : gX w h d g σ) (hm : tpM n t τ) (hgm : gM w h d g τ) (hw : wds τ) (ha : a ≤ n) (hh : At a σ τ) (h4 : τ.1 4 = iI a) : ∃ σ' τ' : xS, reader_readBlock N (iI (bI v)) σ = some (0, σ') ∧ cal (m_boxes N (iI (bI v)) τ) (fun _ τ1 => m_reads_b104 N K τ1) = K τ' ∧ (Fx n t σ' τ' ∨ ∃ (a' : Nat) (g' : Nat → Bool), a < a' ∧ St n t w h d a' g' σ' τ') :=
  nums_xm hN ok hd hin v K 6 0 a (fun _ => 0) σ τ N N rfl (by omega) (by omega) hx hg hm hgm hw ha hh h4 (fun _ => ⟨by omega, by omega⟩) (fun j hj => by omega)
