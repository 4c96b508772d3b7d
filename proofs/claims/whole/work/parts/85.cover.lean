/-! which sets of ways free all cells -/
def cvB (w h d : Nat) (f : Nat → Bool) (s : Nat) : Nat → Bool
  | 0 => true
  | c + 1 => cvB w h d f s c && (!mem w h d f c || !decide (wy w h d f c &&& s = 0))
theorem cvB_iff {w h d s : Nat} {f : Nat → Bool} (k : Nat) : cvB w h d f s k = true ↔ ∀ c : Nat, c < k → mem w h d f c = true → wy w h d f c &&& s ≠ 0 := by
  induction k with
  | zero => exact ⟨fun _ c hc => absurd hc (Nat.not_lt_zero c), fun _ => rfl⟩
  | succ k ih =>
    rw [cvB, Bool.and_eq_true, ih]
    constructor
    · intro z c hc hm
      by_cases y : c = k
      · subst y
        have z2 := z.2
        rw [hm] at z2
        simpa using z2
      · exact z.1 c (by omega) hm
    · intro z
      refine ⟨fun c hc => z c (by omega), ?_⟩
      cases hm : mem w h d f k with
      | false => rfl
      | true =>
        have := z k (by omega) hm
        simp [this]
def cv (w h d : Nat) (f : Nat → Bool) (s : Nat) : Bool := cvB w h d f s 1000
theorem cv_iff {w h d s : Nat} {f : Nat → Bool} (hd : dOk w h d) : cv w h d f s = true ↔ ∀ c : Nat, mem w h d f c = true → wy w h d f c &&& s ≠ 0 := by
  unfold cv
  rw [cvB_iff]
  exact ⟨fun z c hm => z c (bx_lt hd (mem_iff.mp hm).1) hm, fun z c _ hm => z c hm⟩
theorem cov_m {N w h d s : Nat} {f : Nat → Bool} (hN : 1100 < N) (hd : dOk w h d) (hs : s < 64) {τ : xS} (hm : fM w h d f τ) : m_covers N (iI s) τ = some (iI (bI (cv w h d f s)), τ) := by
  have key := lpX (S := xS) (N := N) (by omega) hd
    (fun n z u => m_covers_b2 N n (iI s) z u)
    (fun n1 n z y u => m_covers_b12 N (m_covers_b2 N n1) n (iI s) z y u)
    (fun n1 n2 n z y x u => m_covers_b23 N (m_covers_b2 N n1) (m_covers_b12 N (m_covers_b2 N n1) n2) n (iI s) z y x u)
    (fun u => some ((1 : Int32), u)) (fun r => r = some ((0 : Int32), τ) ∧ cv w h d f s = false)
    (fun c u => u = τ ∧ cvB w h d f s c = true)
    (fun a b u hab hno hu => ⟨hu.1, (cvB_iff b).mpr (fun c hc me => by
      by_cases y : c < a
      · exact (cvB_iff a).mp hu.2 c y me
      · exact absurd (mem_iff.mp me).1 (hno c (by omega) hc))⟩)
    (fun n u hu => by
      rw [m_covers_b2, hu.1, hm.1.2.2.2, if_pos (by rw [iI_lt (by omega) (by omega) (by omega) (by omega)]; omega)])
    (fun n c z u z1 z2 hu => by
      rw [m_covers_b2, hu.1, hm.1.2.2.2, if_neg (by rw [iI_lt (by omega) (by omega) (by omega) (by omega)]; omega)]; rfl)
    (fun n1 n c z u z1 z2 hu => by
      rw [m_covers_b12, hu.1, hm.1.2.2.1, if_pos (by rw [iI_lt (by omega) (by omega) (by omega) (by omega)]; omega), bnd_at, i_sucI])
    (fun n1 n c z y u z1 z2 y1 y2 hu => by
      rw [m_covers_b12, hu.1, hm.1.2.2.1, if_neg (by rw [iI_lt (by omega) (by omega) (by omega) (by omega)]; omega)]; rfl)
    (fun n1 n2 n c z y u z1 z2 y1 y2 hu => by
      rw [m_covers_b23, hu.1, hm.1.2.1, if_pos (by rw [iI_lt (by omega) (by omega) (by omega) (by omega)]; omega), bnd_at, i_sucI])
    (fun n1 n2 n c u bc hu => by
      have cl := bx_lt hd bc
      have ex : ((c % 10 : Nat) : Int) - 1 + 1 = ((c % 10 : Nat) : Int) := by omega
      rw [m_covers_b23, hu.1, hm.1.2.1, if_neg (by rw [iI_lt (by omega) (by omega) (by omega) (by omega)]; omega), idx_m, P_of, cal_at, ald_at (by omega) (by omega) (by omega), Int.toNat_natCast, hm.2.1 c cl]
      cases fe : f c with
      | true =>
        rw [if_neg (by decide), bnd_at, i_sucI, ex]
        refine Or.inl ⟨τ, rfl, rfl, ?_⟩
        rw [cvB, hu.2, show mem w h d f c = false by unfold mem; rw [fe]; simp]; rfl
      | false =>
        have me := mem_iff.mpr ⟨bc, fe⟩
        have wl := wy_lt w h d f c
        have al := Nat.and_le_left (n := wy w h d f c) (m := s)
        rw [if_pos (by decide), idx_m, P_of, cal_at, ald_at (by omega) (by omega) (by omega), Int.toNat_natCast, hm.2.2 c me, j_and]
        by_cases z : wy w h d f c &&& s = 0
        · rw [if_pos (by rw [z]; decide)]
          refine Or.inr ⟨rfl, ?_⟩
          cases y : cv w h d f s with
          | false => rfl
          | true => exact absurd z ((cv_iff hd).mp y c me)
        · rw [if_neg (by rw [show (0 : Int32) = iI 0 from rfl, iI_eq (by omega) (by omega) (by omega) (by omega)]; omega), bnd_at, i_sucI, ex]
          refine Or.inl ⟨τ, rfl, rfl, ?_⟩
          rw [cvB, hu.2, decide_eq_false z]; simp)
    τ ⟨rfl, rfl⟩
  rcases key with ⟨u, e1, rfl, e2⟩ | ⟨e1, e2⟩
  · have e1 : m_covers N (iI s) u = some (1, u) := e1
    rw [e1, show cv w h d f s = true from e2]; rfl
  · have e1 : m_covers N (iI s) τ = some (0, τ) := e1
    rw [e1, e2]; rfl
/-! the class: how many cells are free by just these ways -/
def nF (w h d : Nat) (f : Nat → Bool) (t c : Nat) : Nat := rk (fun e => mem w h d f e && decide (wy w h d f e = t)) c
def x15 (w h d : Nat) (f : Nat → Bool) (σ : xS) : Prop := ∀ t : Nat, t < 64 → σ.2 15 t = iI (nF w h d f t 1000 : Nat)
theorem note_x {N w h d : Nat} {f : Nat → Bool} (hN : 1100 < N) (hd : dOk w h d) {σ : xS} (hx : fX w h d f σ) : ∃ σ' : xS, drawing_noteFreedoms N σ = some (0, σ') ∧ x15 w h d f σ' ∧ fr [] [15] σ σ' := by
  obtain ⟨σ1, a1, a2, a3⟩ := fill_z (N := N) (a := 15) (n := 64) (by omega) (by omega) 0 σ
  have r2 := rk_le (mem w h d f) 1000
  have hx1 := fX_fr hx a3 (by decide) (by decide)
  obtain ⟨u, k1, k2, k3⟩ := lpM (S := xS) (mem w h d f) (fun n i u => drawing_noteFreedoms_b10 N n i u) (fun u => some ((0 : Int32), u))
    (fun c u => (∀ t : Nat, t < 64 → u.2 15 t = iI (nF w h d f t c : Nat)) ∧ fr [] [15] σ1 u)
    (fun a b u hab hno hi => ⟨fun t ht => by
      rw [hi.1 t ht]
      unfold nF
      rw [rk_gap hab (fun c h1 h2 => by rw [hno c h1 h2]; rfl)], hi.2⟩)
    (fun n u hi => by
      have hxu := fX_fr hx1 hi.2 (by decide) (by decide)
      rw [drawing_noteFreedoms_b10, msz_x hxu, cal_at, if_pos (by rw [iI_le (by omega) (by omega) (by omega) (by omega)]; omega)])
    (fun n c u hc hm hi => by
      have hxu := fX_fr hx1 hi.2 (by decide) (by decide)
      have r1 := rk_lt hc hm
      have bc := (mem_iff.mp hm).1
      have wl := wy_lt w h d f c
      have w63 : wy w h d f c &&& 63 = wy w h d f c := by
        rw [show 63 = 2 ^ 6 - 1 from rfl, Nat.and_two_pow_sub_one_eq_mod]; exact Nat.mod_eq_of_lt wl
      rw [drawing_noteFreedoms_b10, msz_x hxu, cal_at, if_neg (by rw [iI_le (by omega) (by omega) (by omega) (by omega)]; omega), mbr_x hxu hc hm, cal_at, frw_x hd bc hxu, cal_at, show (63 : Int32) = iI (63 : Nat) from rfl, j_and, w63, ald_at (by omega) (by omega) (by omega), ast_at (by omega) (by omega) (by omega), bnd_at, Int.toNat_natCast, hi.1 _ wl, i_suc, i_suc]
      refine ⟨_, rfl, fun t ht => ?_, fr_trans hi.2 ⟨fun _ _ => rfl, fun a ha => va_up_n _ _ (fun z => ha (by rw [z]; decide))⟩⟩
      show upd (u.2 15) (wy w h d f c) _ t = _
      rw [upd_e]
      unfold nF
      rw [rk]
      by_cases z : t = wy w h d f c
      · rw [if_pos z, if_pos (by rw [hm, z]; simp), z]
      · rw [if_neg z, if_neg (by rw [hm]; simp; exact fun y => z y.symm)]; exact hi.1 t ht)
    N 0 σ1 (by omega) (by omega) ⟨fun t ht => by rw [a2 t ht]; rfl, fr_refl⟩
  have k1 : drawing_noteFreedoms_b10 N N 0 σ1 = some (0, u) := k1
  refine ⟨u, ?_, k2, fr_trans a3 k3⟩
  unfold drawing_noteFreedoms
  rw [a1, cal_at, k1]
theorem fre_x {N w h d s : Nat} {f : Nat → Bool} (hN : 1100 < N) (hd : dOk w h d) (hs : s < 64) {σ : xS} (hx : x15 w h d f σ) : drawing_frees N (iI s) σ = some (iI (bI (cv w h d f s)), σ) := by
  have key := lpB (S := xS) (fun n k u => drawing_frees_b2 N n (iI s) k u) (fun u => some ((1 : Int32), u)) (fun r => r = some ((0 : Int32), σ) ∧ cv w h d f s = false) 64
    (fun k u => u = σ ∧ 0 ≤ k ∧ ∀ t : Nat, (t : Int) < k → 0 < nF w h d f t 1000 → t &&& s ≠ 0)
    (fun n u hu => by rw [drawing_frees_b2, if_pos (by decide)])
    (fun n k u hk hu => by
      obtain ⟨j, rfl⟩ : ∃ j : Nat, k = j := ⟨k.toNat, by have := hu.2.1; omega⟩
      have al := Nat.and_le_left (n := j) (m := s)
      have rl := rk_le (fun e => mem w h d f e && decide (wy w h d f e = j)) 1000
      have rl : nF w h d f j 1000 ≤ 1000 := rl
      rw [drawing_frees_b2, hu.1, if_neg (by rw [show (64 : Int32) = iI 64 from rfl, iI_le (by omega) (by omega) (by omega) (by omega)]; omega), ald_at (by omega) (by omega) (by omega), Int.toNat_natCast, hx j (by omega), j_and]
      by_cases z : 0 < nF w h d f j 1000
      · rw [if_neg (by rw [show (0 : Int32) = iI 0 from rfl, iI_le (by omega) (by omega) (by omega) (by omega)]; omega)]
        by_cases y : j &&& s = 0
        · rw [if_pos (by rw [y]; decide)]
          refine Or.inr ⟨rfl, ?_⟩
          cases t : cv w h d f s with
          | false => rfl
          | true =>
            obtain ⟨c, c1, c2, c3, _⟩ := rk_nx (m := fun e => mem w h d f e && decide (wy w h d f e = j)) 1000 0 1000 (by omega) z
            rw [Bool.and_eq_true, decide_eq_true_eq] at c3
            exact absurd (by rw [c3.2]; exact y) ((cv_iff hd).mp t c c3.1)
        · rw [if_neg (by rw [show (0 : Int32) = iI 0 from rfl, iI_eq (by omega) (by omega) (by omega) (by omega)]; omega), bnd_at, i_sucI]
          refine Or.inl ⟨σ, rfl, rfl, by omega, fun t ht h0 => ?_⟩
          by_cases e : t = j
          · rw [e]; exact y
          · exact hu.2.2 t (by omega) h0
      · rw [if_pos (by rw [show (0 : Int32) = iI 0 from rfl, iI_le (by omega) (by omega) (by omega) (by omega)]; omega), bnd_at, i_sucI]
        refine Or.inl ⟨σ, rfl, rfl, by omega, fun t ht h0 => ?_⟩
        by_cases e : t = j
        · rw [e] at h0; exact absurd h0 z
        · exact hu.2.2 t (by omega) h0)
    N 0 σ (by omega) (by omega) ⟨rfl, by omega, fun t ht => by omega⟩
  rcases key with ⟨u, e1, e0, _, e2⟩ | ⟨e1, e2⟩
  · have e1 : drawing_frees N (iI s) σ = some (1, u) := e1
    have t : cv w h d f s = true := (cv_iff hd).mpr (fun c hm => e2 _ (by have := wy_lt w h d f c; omega) (by
      have l := rk_lt (m := fun e => mem w h d f e && decide (wy w h d f e = wy w h d f c)) (bx_lt hd (mem_iff.mp hm).1) (by rw [hm]; simp)
      show 0 < rk _ 1000
      omega))
    rw [e1, e0, t]; rfl
  · have e1 : drawing_frees N (iI s) σ = some (0, σ) := e1
    rw [e1, e2]; rfl
/-! how many ways are in a set -/
def onK (s : Nat) : Nat → Nat
  | 0 => 0
  | k + 1 => onK s k + if s.testBit k then 1 else 0
def on (s : Nat) : Nat := onK s 6
theorem onK_le (s : Nat) : ∀ k : Nat, onK s k ≤ k
  | 0 => Nat.le_refl 0
  | k + 1 => by have := onK_le s k; rw [onK]; split <;> omega
theorem on_le (s : Nat) : on s ≤ 6 := onK_le s 6
theorem ons_m {N s : Nat} (hN : 100 < N) (hs : s < 64) {τ : xS} : m_ones N (iI s) τ = some (iI (on s : Nat), τ) := by
  have go : ∀ n k : Nat, k ≤ 6 → 6 < k + n → m_ones_b4 N n (iI s) (iI (onK s k : Nat)) (iI k) τ = some (iI (on s : Nat), τ) := by
    intro n
    induction n with
    | zero => intro k h1 h2; omega
    | succ n ih =>
      intro k h1 h2
      rw [m_ones_b4]
      by_cases z : k = 6
      · subst z
        rw [if_pos (by decide)]; rfl
      · rw [if_neg (by rw [show (6 : Int32) = iI 6 from rfl, iI_le (by omega) (by omega) (by omega) (by omega)]; omega), bnd_at, bnd_at, j_bit (by omega) (by omega), iI_add, i_suc]
        have := ih (k + 1) (by omega) (by omega)
        rw [onK] at this
        rw [show ((onK s k : Nat) : Int) + (if s.testBit k = true then 1 else 0) = ((onK s k + (if s.testBit k = true then 1 else 0) : Nat) : Int) by split <;> omega]
        exact this
  exact go N 0 (by omega) (by omega)
theorem bc_v : ∀ s : Nat, s < 64 → (ji_bitCount 0 (iI (s : Nat)) ((fun _ => 0), (fun _ _ => 0))).map (fun z => z.1) = some (iI (on s : Nat)) := by decide +kernel
theorem bc_x {N s : Nat} (hs : s < 64) {σ : xS} : ji_bitCount N (iI s) σ = some (iI (on s : Nat), σ) := by
  have a : ji_bitCount N (iI s) σ = (ji_bitCount 0 (iI (s : Nat)) ((fun _ => 0), (fun _ _ => 0))).map (fun z => (z.1, σ)) := rfl
  have b := bc_v s hs
  rw [a]
  cases e : ji_bitCount 0 (iI (s : Nat)) ((fun _ => 0), (fun _ _ => 0)) with
  | none => rw [e] at b; cases b
  | some z =>
    rw [e] at b
    have b : some z.1 = some (iI (on s : Nat)) := b
    injection b with b
    show some (z.1, σ) = _
    rw [b]
/-! the fewest ways -/
def fw (w h d : Nat) (f : Nat → Bool) : Nat → Nat
  | 0 => 7
  | j + 1 => if 1 ≤ j ∧ on j < fw w h d f j ∧ cv w h d f j = true then on j else fw w h d f j
theorem fw_le {w h d : Nat} {f : Nat → Bool} : ∀ j : Nat, fw w h d f j ≤ 7
  | 0 => Nat.le_refl 7
  | j + 1 => by
    have := fw_le (w := w) (h := h) (d := d) (f := f) j
    rw [fw]; split <;> omega
theorem on_pos : ∀ s : Nat, s < 64 → 1 ≤ s → 1 ≤ on s := by decide +kernel
theorem fw_sp {w h d : Nat} {f : Nat → Bool} : ∀ j : Nat, j ≤ 64 → (fw w h d f j = 7 ∨ ∃ s : Nat, 1 ≤ s ∧ s < j ∧ cv w h d f s = true ∧ on s = fw w h d f j) ∧ ∀ s : Nat, 1 ≤ s → s < j → cv w h d f s = true → fw w h d f j ≤ on s := by
  intro j
  induction j with
  | zero => intro _; exact ⟨Or.inl rfl, fun s h1 h2 => by omega⟩
  | succ j ih =>
    intro hj
    have ih := ih (by omega)
    rw [fw]
    by_cases c : 1 ≤ j ∧ on j < fw w h d f j ∧ cv w h d f j = true
    · rw [if_pos c]
      refine ⟨Or.inr ⟨j, c.1, by omega, c.2.2, rfl⟩, fun s h1 h2 h3 => ?_⟩
      by_cases z : s = j
      · rw [z]; omega
      · have := ih.2 s h1 (by omega) h3; omega
    · rw [if_neg c]
      refine ⟨?_, fun s h1 h2 h3 => ?_⟩
      · rcases ih.1 with z | ⟨s, a, b, e, g⟩
        · exact Or.inl z
        · exact Or.inr ⟨s, a, by omega, e, g⟩
      · by_cases z : s = j
        · subst z
          have : ¬ on s < fw w h d f s := fun y => c ⟨h1, y, h3⟩
          omega
        · exact ih.2 s h1 (by omega) h3
theorem few_m {N w h d : Nat} {f : Nat → Bool} (hN : 1100 < N) (hd : dOk w h d) {τ : xS} (hm : fM w h d f τ) : m_fewest N τ = some (iI (fw w h d f 64 : Nat), τ) := by
  have go : ∀ n j : Nat, 1 ≤ j → j ≤ 64 → 64 < j + n → m_fewest_b5 N n (iI (fw w h d f j : Nat)) (iI j) τ = some (iI (fw w h d f 64 : Nat), τ) := by
    intro n
    induction n with
    | zero => intro j h0 h1 h2; omega
    | succ n ih =>
      intro j h0 h1 h2
      rw [m_fewest_b5]
      by_cases z : j = 64
      · subst z
        rw [if_pos (by decide)]
      · have fl := fw_le (w := w) (h := h) (d := d) (f := f) j
        have ol := on_le j
        have ih := ih (j + 1) (by omega) (by omega) (by omega)
        rw [if_neg (by rw [show (64 : Int32) = iI 64 from rfl, iI_le (by omega) (by omega) (by omega) (by omega)]; omega), ons_m (by omega) (by omega), cal_at]
        rw [fw] at ih
        by_cases y : on j < fw w h d f j
        · rw [if_neg (by rw [iI_le (by omega) (by omega) (by omega) (by omega)]; omega), cov_m hN hd (by omega) hm, cal_at]
          cases e : cv w h d f j with
          | true =>
            rw [if_pos ⟨h0, y, e⟩] at ih
            rw [if_neg (by decide), ons_m (by omega) (by omega), cal_at, bnd_at, i_suc]; exact ih
          | false =>
            rw [if_neg (fun q => by rw [e] at q; cases q.2.2)] at ih
            rw [if_pos (by decide), bnd_at, i_suc]; exact ih
        · rw [if_neg (fun q => y q.2.1)] at ih
          rw [if_pos (by rw [iI_le (by omega) (by omega) (by omega) (by omega)]; omega), bnd_at, i_suc]; exact ih
  exact go N 1 (by omega) (by omega) (by omega)
theorem few_x {N w h d : Nat} {f : Nat → Bool} (hN : 1100 < N) (hd : dOk w h d) {σ : xS} (hx : x15 w h d f σ) : drawing_fewestWays N σ = some (iI (if fw w h d f 64 = 7 then -1 else (fw w h d f 64 : Nat)), σ) := by
  have go : ∀ n j : Nat, 1 ≤ j → j ≤ 64 → 64 < j + n → drawing_fewestWays_b4 N n (iI (if fw w h d f j = 7 then -1 else (fw w h d f j : Nat))) (iI j) σ = some (iI (if fw w h d f 64 = 7 then -1 else (fw w h d f 64 : Nat)), σ) := by
    intro n
    induction n with
    | zero => intro j h0 h1 h2; omega
    | succ n ih =>
      intro j h0 h1 h2
      rw [drawing_fewestWays_b4]
      by_cases z : j = 64
      · subst z
        rw [if_pos (by decide)]
      · have fl := fw_le (w := w) (h := h) (d := d) (f := f) j
        have ol := on_le j
        have ih := ih (j + 1) (by omega) (by omega) (by omega)
        rw [if_neg (by rw [show (64 : Int32) = iI 64 from rfl, iI_le (by omega) (by omega) (by omega) (by omega)]; omega), bc_x (by omega), cal_at]
        have fs : fw w h d f (j + 1) = if 1 ≤ j ∧ on j < fw w h d f j ∧ cv w h d f j = true then on j else fw w h d f j := by rw [fw]
        by_cases x7 : fw w h d f j = 7
        · rw [if_pos x7, if_pos (by decide), fre_x hN hd (by omega) hx, cal_at]
          cases e : cv w h d f j with
          | true =>
            rw [if_pos ⟨h0, by omega, e⟩] at fs
            rw [fs, if_neg (by omega)] at ih
            rw [if_neg (by decide), bnd_at, i_suc]; exact ih
          | false =>
            rw [if_neg (fun q => by rw [e] at q; cases q.2.2)] at fs
            rw [fs, if_pos x7] at ih
            rw [if_pos (by decide), bnd_at, i_suc]; exact ih
        · rw [if_neg x7, if_neg (by rw [show (-1 : Int32) = iI (-1) from rfl, iI_eq (by omega) (by omega) (by omega) (by omega)]; omega)]
          by_cases y : on j < fw w h d f j
          · rw [if_neg (by rw [iI_le (by omega) (by omega) (by omega) (by omega)]; omega), fre_x hN hd (by omega) hx, cal_at]
            cases e : cv w h d f j with
            | true =>
              rw [if_pos ⟨h0, y, e⟩] at fs
              rw [fs, if_neg (by omega)] at ih
              rw [if_neg (by decide), bnd_at, i_suc]; exact ih
            | false =>
              rw [if_neg (fun q => by rw [e] at q; cases q.2.2)] at fs
              rw [fs, if_neg x7] at ih
              rw [if_pos (by decide), bnd_at, i_suc]; exact ih
          · rw [if_neg (fun q => y q.2.1)] at fs
            rw [fs, if_neg x7] at ih
            rw [if_pos (by rw [iI_le (by omega) (by omega) (by omega) (by omega)]; omega), bnd_at, i_suc]; exact ih
  exact go N 1 (by omega) (by omega) (by omega)
