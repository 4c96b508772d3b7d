theorem gz10 {α : Type} (X : Option α) : gdz (10 : Int32) X = X := by rw [gdz, if_neg (by decide)]
theorem gz100 {α : Type} (X : Option α) : gdz (100 : Int32) X = X := by rw [gdz, if_neg (by decide)]
theorem d_x {x : Nat} (hx : x < 1000) : (iI (x : Int) - iI (x : Int) / (10 : Int32) * (10 : Int32)) - (1 : Int32) = iI (((x % 10 : Nat) : Int) - 1) := by
  rw [show (10 : Int32) = iI 10 from rfl, show (1 : Int32) = iI 1 from rfl, iI_div (by omega) (by omega) (by omega) (by omega), iI_mul, iI_sub, iI_sub]
  congr 1; omega
theorem d_y {x : Nat} (hx : x < 1000) : ((iI (x : Int) / (10 : Int32)) - (iI (x : Int) / (10 : Int32)) / (10 : Int32) * (10 : Int32)) - (1 : Int32) = iI (((x / 10 % 10 : Nat) : Int) - 1) := by
  rw [show (10 : Int32) = iI 10 from rfl, show (1 : Int32) = iI 1 from rfl, iI_div (by omega) (by omega) (by omega) (by omega), iI_div (by omega) (by omega) (by omega) (by omega), iI_mul, iI_sub, iI_sub]
  congr 1; omega
theorem d_z {x : Nat} (hx : x < 1000) : (iI (x : Int) / (100 : Int32)) - (1 : Int32) = iI (((x / 100 : Nat) : Int) - 1) := by
  rw [show (100 : Int32) = iI 100 from rfl, show (1 : Int32) = iI 1 from rfl, iI_div (by omega) (by omega) (by omega) (by omega), iI_sub]
  congr 1
theorem h66_s {N ab w h d K i n : Nat} {f : Nat → Bool} (hN : 1100 < N) (hd : dOk w h d) {v : Nat} (hv : v < 1000) {p L x : Nat} (hp : p < 1000) (hpL : p < L) (hL : L ≤ 1000) (bq : bx w h d x) {t : Int} (t0 : 0 ≤ t) {τ : xS} (hm : fM w h d f τ) (h18 : τ.1 18 = iI v) (e13 : τ.2 13 p = iI (x : Nat)) (h15 : τ.2 15 v = iI (p : Nat)) (h16 : τ.2 16 v = iI t) : ∃ τ' : xS, m_hangs_b66 ab N (n + 1) (iI K) (iI i) (iI (L : Nat)) (iI p) τ = m_hangs_b160 ab N (m_hangs_b66 ab N n) N (iI K) (iI i) (iI (L : Nat)) (iI p) (iI (((x % 10 : Nat) : Int) - 1)) (iI (((x / 10 % 10 : Nat) : Int) - 1)) (iI (((x / 100 : Nat) : Int) - 1)) (iI 0) τ' ∧ τ'.2 15 v = iI (p + 1 : Nat) ∧ τ'.2 16 v = iI (t + bI (tch w h d f x 6)) ∧ (∀ u : Nat, u ≠ v → τ'.2 15 u = τ.2 15 u ∧ τ'.2 16 u = τ.2 16 u) ∧ fr [] [15, 16] τ τ' := by
  have xl := bx_lt hd bq
  rw [m_hangs_b66, if_neg (by rw [iI_le (by omega) (by omega) (by omega) (by omega)]; omega), ald_at (by omega) (by omega) (by omega), Int.toNat_natCast, e13, gz10, bnd_at, ald_at (by omega) (by omega) (by omega), Int.toNat_natCast, e13, gz10, gz10, bnd_at, ald_at (by omega) (by omega) (by omega), Int.toNat_natCast, e13, gz100, bnd_at, d_x xl, d_y xl, d_z xl, h18, ald_at (by omega) (by omega) (by omega), ast_at (by omega) (by omega) (by omega), Int.toNat_natCast, h15, i_suc]
  obtain ⟨τ1, q1, q2, q3⟩ : ∃ τ1 : xS, τ1 = (τ.1, va_up τ.2 15 (upd (τ.2 15) v (iI (p + 1 : Nat)))) ∧ τ1.1 18 = iI v ∧ τ1.2 16 = τ.2 16 := ⟨_, rfl, h18, rfl⟩
  have f1 : fr [] [15, 16] τ τ1 := by
    rw [q1]; exact ⟨fun _ _ => rfl, fun a ha => va_up_n _ _ (fun z => ha (by rw [z]; decide))⟩
  have r1 : τ1.2 15 = upd (τ.2 15) v (iI (p + 1 : Nat)) := by rw [q1]; rfl
  have m1 := fM_fr hm f1 (by decide) (by decide)
  rw [← q1, tch_m (by omega) hd bq m1.1 m1.2.1, cal_at]
  cases e : tch w h d f x 6 with
  | false =>
    rw [if_pos (by decide)]
    refine ⟨τ1, rfl, by rw [r1, upd_e, if_pos rfl], by rw [q3, h16, show bI false = 0 from rfl, Int.add_zero], fun u hu => ⟨by rw [r1, upd_e, if_neg hu], by rw [q3]⟩, f1⟩
  | true =>
    rw [if_neg (by decide), q2, ald_at (by omega) (by omega) (by omega), ast_at (by omega) (by omega) (by omega), Int.toNat_natCast, q3, h16, i_sucI]
    refine ⟨_, rfl, ?_, ?_, fun u hu => ⟨?_, ?_⟩, fr_trans f1 ⟨fun _ _ => rfl, fun a ha => va_up_n _ _ (fun z => ha (by rw [z]; decide))⟩⟩
    · show τ1.2 15 v = _
      rw [r1, upd_e, if_pos rfl]
    · show upd (τ.2 16) v (iI (t + 1)) v = _
      rw [upd_e, if_pos rfl]; rfl
    · show τ1.2 15 u = _
      rw [r1, upd_e, if_neg hu]
    · show upd (τ.2 16) v (iI (t + 1)) u = _
      rw [upd_e, if_neg hu]
theorem sumB_0 {b : Nat → Bool} : ∀ k : Nat, 0 ≤ sumP (fun j => bI (b j)) k
  | 0 => Int.le_refl 0
  | k + 1 => by
    have := sumB_0 (b := b) k
    rw [sumP]
    have : 0 ≤ bI (b k) := by cases b k <;> decide
    omega
theorem h66_m {N ab w h d K i : Nat} {f : Nat → Bool} {q : Nat → Nat} (hN : 1100 < N) (hab : ab = 10 ∨ ab = 11) (hK : K ≤ 6) (hi : i < K) (hd : dOk w h d) {O : Nat → Bool} (hO : ∀ c : Nat, O c = true → mem w h d f c = true ∧ bel (wy w h d f c) q K 0 = (i : Int)) {num : Nat → Int32} (hn : ∀ c : Nat, mem w h d f c = true → O c = false → num c = iI (-1) → bel (wy w h d f c) q K 0 ≠ (i : Int)) {v : Nat} (hv : v < 1000) : ∀ (n p : Nat) (s : fS) (τ : xS), p ≤ s.2.2 → 1000 < p + n → FI O s → fM w h d f τ → qM ab K q τ → τ.1 18 = iI v → mR (mem w h d f) O num v s τ → τ.2 15 v = iI (p : Nat) → τ.2 16 v = iI (sumP (fun j => bI (tch w h d f (s.2.1 j) 6)) p) → ∃ τ' : xS, m_hangs_b66 ab N n (iI K) (iI i) (iI (s.2.2 : Nat)) (iI p) τ = some (0, τ') ∧ τ'.1 18 = iI (v + 1 : Nat) ∧ (∀ c : Nat, mem w h d f c = true → τ'.2 12 c = if (fld w h d n s p).1 c = true then iI (-1) else if O c = true then iI v else num c) ∧ τ'.2 15 v = iI ((fld w h d n s p).2.2 : Nat) ∧ τ'.2 16 v = iI (sumP (fun j => bI (tch w h d f ((fld w h d n s p).2.1 j) 6)) (fld w h d n s p).2.2) ∧ (∀ u : Nat, u ≠ v → τ'.2 15 u = τ.2 15 u ∧ τ'.2 16 u = τ.2 16 u) ∧ fr [18] [12, 13, 15, 16] τ τ' := by
  have hO' : ∀ c : Nat, O c = true → c < 1000 := fun c hc => bx_lt hd (mem_iff.mp (hO c hc).1).1
  intro n
  induction n with
  | zero => intro p s τ h1 h2 hf; have := FI_l hf; omega
  | succ n ih =>
    intro p s τ h1 h2 hf hm hq h18 hr h15 h16
    have l := FI_l hf
    by_cases z : s.2.2 ≤ p
    · have ep : p = s.2.2 := by omega
      rw [m_hangs_b66, fld]
      rw [if_pos (by rw [iI_le (by omega) (by omega) (by omega) (by omega)]; omega), if_pos z, put_at, h18, i_suc]
      exact ⟨_, rfl, rfl, hr.1, by rw [← ep]; exact h15, by rw [← ep]; exact h16, fun _ _ => ⟨rfl, rfl⟩, ⟨fun k hk => va_up_n _ _ (fun z => hk (by rw [z]; decide)), fun _ _ => rfl⟩⟩
    · have qp := hf.2.1 p (by omega)
      have mx := (hO _ qp.1).1
      have bq := (mem_iff.mp mx).1
      have e13 := hr.2 p (by omega)
      rw [fld, if_neg z]
      obtain ⟨τ1, a1, a2, a3, a4, a5⟩ := h66_s (N := N) (ab := ab) (K := K) (i := i) (n := n) (L := s.2.2) hN hd hv (by omega) (by omega) l bq (sumB_0 (b := fun j => tch w h d f (s.2.1 j) 6) p) hm h18 e13 h15 h16
      rw [a1]
      have m1 := fM_fr hm a5 (by decide) (by decide)
      have qm1 : qM ab K q τ1 := fun t ht => by
        rw [a5.2 ab (by rcases hab with z | z <;> rw [z] <;> decide)]; exact hq t ht
      have e18 : τ1.1 18 = iI v := by rw [a5.1 18 (by decide)]; exact h18
      have mr1 : mR (mem w h d f) O num v s τ1 := by
        unfold mR; rw [a5.2 12 (by decide), a5.2 13 (by decide)]; exact hr
      obtain ⟨τ2, b1, b2, b3⟩ := hng_m hN hab hK hi hd hO hn hv (m_hangs_b66 ab N n) (p := p) (by omega) hf bq m1 qm1 e18 mr1
      rw [b1]
      have fx := FI_x hO' (w := w) (h := h) (d := d) (x := s.2.1 p) hf 6
      have m2 := fM_fr m1 b3 (by decide) (by decide)
      have qm2 : qM ab K q τ2 := fun t ht => by
        rw [b3.2 ab (by rcases hab with z | z <;> rw [z] <;> decide)]; exact qm1 t ht
      obtain ⟨τ3, c1, c2, c3, c4, c5, c6, c7⟩ := ih (p + 1) (xpd w h d (s.2.1 p) 6 s) τ2 (by omega) (by omega) fx.1 m2 qm2 (by rw [b3.1 18 (by decide)]; exact e18) b2 (by rw [b3.2 15 (by decide)]; exact a2) (by
        rw [b3.2 16 (by decide), a3, sumP, fx.2.2 p (by omega)]
        congr 2
        exact sumP_cong (fun j hj => by rw [fx.2.2 j (by omega)]))
      refine ⟨τ3, c1, c2, c3, c4, c5, fun u hu => ?_, fr_trans (fr_mono a5 (by simp) (by simp)) (fr_trans (fr_mono b3 (by simp) (by simp)) c7)⟩
      rw [(c6 u hu).1, (c6 u hu).2, b3.2 15 (by decide), b3.2 16 (by decide)]
      exact a4 u hu
/-- one piece is made -/
theorem hangs_m {N ab w h d K i : Nat} {f : Nat → Bool} {q : Nat → Nat} (hN : 1100 < N) (hab : ab = 10 ∨ ab = 11) (hK : K ≤ 6) (hi : i < K) (hd : dOk w h d) {O : Nat → Bool} (hO : ∀ c : Nat, O c = true → mem w h d f c = true ∧ bel (wy w h d f c) q K 0 = (i : Int)) {num : Nat → Int32} (hn : ∀ c : Nat, mem w h d f c = true → O c = false → num c = iI (-1) → bel (wy w h d f c) q K 0 ≠ (i : Int)) {v : Nat} (hv : v < 1000) {c : Nat} (hc : O c = true) {τ : xS} (hm : fM w h d f τ) (hq : qM ab K q τ) (h18 : τ.1 18 = iI v) (h12 : ∀ e : Nat, mem w h d f e = true → τ.2 12 e = if O e = true then iI (-1) else num e) : ∃ τ' : xS, m_hangs ab N (iI c) (iI K) (iI i) τ = some (0, τ') ∧ τ'.1 18 = iI (v + 1 : Nat) ∧ (∀ e : Nat, mem w h d f e = true → τ'.2 12 e = if (fl0 N w h d O c).1 e = true then iI (-1) else if O e = true then iI v else num e) ∧ τ'.2 14 v = iI (q i : Nat) ∧ τ'.2 15 v = iI (sumP (fun e => if (O e && !(fl0 N w h d O c).1 e) = true then 1 else 0) 1000) ∧ τ'.2 16 v = iI (sumP (fun e => if (O e && !(fl0 N w h d O c).1 e) = true then bI (tch w h d f e 6) else 0) 1000) ∧ τ'.2 17 v = iI 0 ∧ (∀ u : Nat, u ≠ v → τ'.2 14 u = τ.2 14 u ∧ τ'.2 15 u = τ.2 15 u ∧ τ'.2 16 u = τ.2 16 u ∧ τ'.2 17 u = τ.2 17 u) ∧ fr [18] [12, 13, 14, 15, 16, 17] τ τ' := by
  have hO' : ∀ c : Nat, O c = true → c < 1000 := fun c hc => bx_lt hd (mem_iff.mp (hO c hc).1).1
  have cl := hO' c hc
  have qi := hq i hi
  have er : rch (O, fun _ => 0, 0) c = ((fun i => if i = c then false else O i), (fun j => if j = 0 then c else 0), 1) := by unfold rch; rw [if_pos hc]
  have r := FI_r hO' (FI_0 (O := O)) c
  obtain ⟨τ1, q1⟩ : ∃ τ1 : xS, τ1 = (τ.1, va_up (va_up (va_up (va_up (va_up (va_up τ.2 13 (upd (τ.2 13) 0 (iI c))) 12 (upd (τ.2 12) c (iI v))) 14 (upd (τ.2 14) v (iI (q i : Nat)))) 15 (upd (τ.2 15) v 0)) 16 (upd (τ.2 16) v 0)) 17 (upd (τ.2 17) v 0)) := ⟨_, rfl⟩
  have E : m_hangs ab N (iI c) (iI K) (iI i) τ = m_hangs_b66 ab N N (iI K) (iI i) (iI (1 : Nat)) (iI (0 : Nat)) τ1 := by
    unfold m_hangs
    rw [show (0 : Int32) = iI 0 from rfl, ast_at (by omega) (by omega) (by omega)]
    dsimp only
    rw [h18, ast_at (by omega) (by omega) (by omega), ald_at (by omega) (by omega) (by omega)]
    dsimp only
    rw [h18, ast_at (by omega) (by omega) (by omega)]
    dsimp only
    rw [h18, ast_at (by omega) (by omega) (by omega)]
    dsimp only
    rw [h18, ast_at (by omega) (by omega) (by omega)]
    dsimp only
    rw [h18, ast_at (by omega) (by omega) (by omega), q1]
    have eq : ∀ g g' : Nat → Int32, (va_up (va_up τ.2 13 g) 12 g') ab i = iI (q i : Nat) := fun g g' => by
      rw [va_up_n _ _ (by rcases hab with z | z <;> rw [z] <;> decide), va_up_n _ _ (by rcases hab with z | z <;> rw [z] <;> decide)]; exact qi.2
    rw [Int.toNat_natCast, Int.toNat_natCast, Int.toNat_natCast, eq]
    rfl
  have f1 : fr [18] [12, 13, 14, 15, 16, 17] τ τ1 := by
    rw [q1]
    refine ⟨fun _ _ => rfl, fun a ha => ?_⟩
    dsimp only
    rw [va_up_n _ _ (fun z => ha (by rw [z]; decide)), va_up_n _ _ (fun z => ha (by rw [z]; decide)), va_up_n _ _ (fun z => ha (by rw [z]; decide)), va_up_n _ _ (fun z => ha (by rw [z]; decide)), va_up_n _ _ (fun z => ha (by rw [z]; decide)), va_up_n _ _ (fun z => ha (by rw [z]; decide))]
  have r12 : τ1.2 12 = upd (τ.2 12) c (iI v) := by rw [q1]; rfl
  have r13 : τ1.2 13 = upd (τ.2 13) 0 (iI c) := by rw [q1]; rfl
  have r14 : τ1.2 14 = upd (τ.2 14) v (iI (q i : Nat)) := by rw [q1]; rfl
  have r15 : τ1.2 15 = upd (τ.2 15) v 0 := by rw [q1]; rfl
  have r16 : τ1.2 16 = upd (τ.2 16) v 0 := by rw [q1]; rfl
  have r17 : τ1.2 17 = upd (τ.2 17) v 0 := by rw [q1]; rfl
  have e18 : τ1.1 18 = iI v := by rw [q1]; exact h18
  have m1 := fM_fr hm f1 (by decide) (by decide)
  have qm1 : qM ab K q τ1 := fun t ht => by
    rw [f1.2 ab (by rcases hab with z | z <;> rw [z] <;> decide)]; exact hq t ht
  have mr1 : mR (mem w h d f) O num v (rch (O, fun _ => 0, 0) c) τ1 := by
    rw [er]
    refine ⟨fun e he => ?_, fun j hj => ?_⟩
    · dsimp only
      rw [r12, upd_e]
      by_cases y : e = c
      · subst y; simp [hc]
      · simp only [if_neg y]
        rw [h12 e he]
        by_cases o : O e = true
        · rw [if_pos o, if_pos o]
        · rw [if_neg o, if_neg o, if_neg o]
    · dsimp only at hj ⊢
      have : j = 0 := by omega
      subst this
      rw [r13, upd_e, if_pos rfl, if_pos rfl]
  obtain ⟨τ2, c1, c2, c3, c4, c5, c6, c7⟩ := h66_m hN hab hK hi hd hO hn hv N 0 (rch (O, fun _ => 0, 0) c) τ1 (by omega) (by omega) r.1 m1 qm1 e18 mr1 (by rw [r15, upd_e, if_pos rfl]; rfl) (by rw [r16, upd_e, if_pos rfl]; rfl)
  have ff := fl0_sp (N := N) (w := w) (h := h) (d := d) hO' hc
  have e1 : (rch (O, fun _ => 0, 0) c).2.2 = 1 := by rw [er]
  rw [e1] at c1
  have g1 := ff.1.2.2 (fun _ => 1)
  rw [sumP_1] at g1
  have g2 := ff.1.2.2 (fun e => bI (tch w h d f e 6))
  refine ⟨τ2, E.trans c1, c2, c3, ?_, ?_, ?_, ?_, fun u hu => ⟨?_, ?_, ?_, ?_⟩, fr_trans f1 (fr_mono c7 (by simp) (by simp))⟩
  · rw [c7.2 14 (by decide), r14, upd_e, if_pos rfl]
  · rw [c4]; exact congrArg iI g1
  · rw [c5]; exact congrArg iI g2
  · rw [c7.2 17 (by decide), r17, upd_e, if_pos rfl]; rfl
  · rw [c7.2 14 (by decide), r14, upd_e, if_neg hu]
  · rw [(c6 u hu).1, r15, upd_e, if_neg hu]
  · rw [(c6 u hu).2, r16, upd_e, if_neg hu]
  · rw [c7.2 17 (by decide), r17, upd_e, if_neg hu]
