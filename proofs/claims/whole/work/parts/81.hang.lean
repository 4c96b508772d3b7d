/-! to which way of a row of ways a cell belongs -/
def bel (W : Nat) (q : Nat → Nat) : Nat → Nat → Int
  | 0, _ => -1
  | n + 1, j => if W.testBit (q j) = true then j else bel W q n (j + 1)
theorem bel_bd {W : Nat} {q : Nat → Nat} : ∀ (n j : Nat), -1 ≤ bel W q n j ∧ bel W q n j < j + n ∧ (bel W q n j ≠ -1 → (j : Int) ≤ bel W q n j)
  | 0, j => by rw [bel]; omega
  | n + 1, j => by
    have := bel_bd (W := W) (q := q) n (j + 1)
    rw [bel]
    split
    · omega
    · refine ⟨by omega, by omega, fun z => by have := this.2.2 z; omega⟩
theorem bel_eq {W : Nat} {q : Nat → Nat} : ∀ (n j t : Nat), (bel W q n j = ((j + t : Nat) : Int)) ↔ (t < n ∧ W.testBit (q (j + t)) = true ∧ ∀ t' : Nat, t' < t → W.testBit (q (j + t')) = false)
  | 0, j, t => by rw [bel]; constructor <;> intro z <;> omega
  | n + 1, j, t => by
    have ih := bel_eq (W := W) (q := q) n (j + 1) (t - 1)
    rw [bel]
    by_cases b : W.testBit (q j) = true
    · rw [if_pos b]
      constructor
      · intro z
        have : t = 0 := by omega
        subst this
        exact ⟨by omega, b, fun t' ht => by omega⟩
      · intro z
        by_cases y : t = 0
        · rw [y]; rfl
        · have := z.2.2 0 (by omega)
          rw [Nat.add_zero, b] at this; cases this
    · rw [if_neg b]
      by_cases y : t = 0
      · subst y
        constructor
        · intro z
          have := bel_bd (W := W) (q := q) n (j + 1)
          have := this.2.2 (by omega)
          omega
        · intro z; exact absurd z.2.1 b
      · rw [show ((j + 1 + (t - 1) : Nat)) = j + t by omega] at ih
        rw [ih]
        constructor
        · intro z
          refine ⟨by omega, z.2.1, fun t' ht => ?_⟩
          by_cases u : t' = 0
          · rw [u, Nat.add_zero]; cases c : W.testBit (q j) <;> simp_all
          · have := z.2.2 (t' - 1) (by omega)
            rw [show j + 1 + (t' - 1) = j + t' by omega] at this; exact this
        · intro z
          refine ⟨by omega, z.2.1, fun t' ht => ?_⟩
          have := z.2.2 (t' + 1) (by omega)
          rw [show j + (t' + 1) = j + 1 + t' by omega] at this; exact this
/-- the set of the first i ways -/
def sq (q : Nat → Nat) : Nat → Nat
  | 0 => 0
  | i + 1 => sq q i ||| 2 ^ q i
theorem and_sq {W : Nat} {q : Nat → Nat} : ∀ i : Nat, (W &&& sq q i = 0) ↔ ∀ j : Nat, j < i → W.testBit (q j) = false
  | 0 => by rw [sq, Nat.and_zero]; exact ⟨fun _ j hj => by omega, fun _ => rfl⟩
  | i + 1 => by
    have ih := and_sq (W := W) (q := q) i
    have e2 : (W &&& 2 ^ q i = 0) ↔ W.testBit (q i) = false := by
      constructor
      · intro z
        have : (W &&& 2 ^ q i).testBit (q i) = false := by rw [z]; exact Nat.zero_testBit _
        rw [Nat.testBit_and, Nat.testBit_two_pow] at this
        simpa using this
      · intro z
        apply Nat.eq_of_testBit_eq
        intro b
        rw [Nat.testBit_and, Nat.testBit_two_pow, Nat.zero_testBit]
        by_cases y : q i = b
        · subst y; rw [z]; rfl
        · simp [y]
    rw [sq, Nat.and_or_distrib_left, Nat.or_eq_zero_iff, ih, e2]
    constructor
    · intro z j hj
      by_cases y : j = i
      · rw [y]; exact z.2
      · exact z.1 j (by omega)
    · intro z; exact ⟨fun j hj => z j (by omega), z i (by omega)⟩
theorem oW_bel {w h d i K c : Nat} {f : Nat → Bool} {q : Nat → Nat} (hi : i < K) : oW w h d f (q i) (sq q i) c = (mem w h d f c && decide (bel (wy w h d f c) q K 0 = (i : Int))) := by
  unfold oW
  congr 1
  have e := bel_eq (W := wy w h d f c) (q := q) K 0 i
  rw [Nat.zero_add] at e
  have a := and_sq (W := wy w h d f c) (q := q) i
  by_cases z : bel (wy w h d f c) q K 0 = (i : Int)
  · have g := e.mp z
    rw [g.2.1, decide_eq_true z, decide_eq_true (a.mpr (fun j hj => by have := g.2.2 j hj; rw [Nat.zero_add] at this; exact this))]; rfl
  · rw [decide_eq_false z]
    cases b : (wy w h d f c).testBit (q i) with
    | false => rfl
    | true =>
      rw [Bool.true_and]
      apply decide_eq_false
      intro y
      apply z
      exact e.mpr ⟨hi, b, fun j hj => by rw [Nat.zero_add]; exact a.mp y j hj⟩
/-- the row of ways as the reference holds it -/
def qM (ab K : Nat) (q : Nat → Nat) (τ : xS) : Prop := ∀ j : Nat, j < K → q j < 6 ∧ τ.2 ab j = iI (q j : Nat)
theorem bel_m {N ab w h d K c : Nat} {f : Nat → Bool} {q : Nat → Nat} (hN : 100 < N) (hK : K ≤ 6) (hc : mem w h d f c = true) (hcl : c < 1000) {τ : xS} (hm : fM w h d f τ) (hq : qM ab K q τ) : m_belongs ab N (iI c) (iI K) τ = some (iI (bel (wy w h d f c) q K 0), τ) := by
  have wl := wy_lt w h d f c
  have go : ∀ n j : Nat, j ≤ K → K < j + n → m_belongs_b3 ab N n (iI c) (iI K) (iI j) τ = some (iI (bel (wy w h d f c) q (K - j) j), τ) := by
    intro n
    induction n with
    | zero => intro j h1 h2; omega
    | succ n ih =>
      intro j h1 h2
      rw [m_belongs_b3]
      by_cases z : j = K
      · subst z
        rw [if_pos (by rw [iI_le (by omega) (by omega) (by omega) (by omega)]; omega), Nat.sub_self, bel]; rfl
      · have qj := hq j (by omega)
        rw [if_neg (by rw [iI_le (by omega) (by omega) (by omega) (by omega)]; omega), ald_at (by omega) (by omega) (by omega), ald_at (by omega) (by omega) (by omega), Int.toNat_natCast, Int.toNat_natCast, hm.2.2 c hc, qj.2, j_bit (by omega) (by omega), show K - j = K - (j + 1) + 1 by omega, bel]
        by_cases b : (wy w h d f c).testBit (q j) = true
        · rw [if_pos b, if_pos (by decide), if_pos b]
        · rw [if_neg b, if_neg (by decide), if_neg b, bnd_at, i_suc]
          exact ih (j + 1) (by omega) (by omega)
  exact go N 0 (by omega) (by omega)
/-! has a cell a solid one at a side -/
def tch (w h d : Nat) (f : Nat → Bool) (c : Nat) : Nat → Bool
  | 0 => false
  | k + 1 => tch w h d f c k || (!decide (ed w h d k c = 0) && f (nx k c))
theorem tch_up {w h d c : Nat} {f : Nat → Bool} {k : Nat} (h1 : tch w h d f c k = true) : ∀ n : Nat, tch w h d f c (k + n) = true
  | 0 => h1
  | n + 1 => by rw [show k + (n + 1) = k + n + 1 by omega, tch, tch_up h1 n]; rfl
theorem nb_m {N w h d k c : Nat} (hd : dOk w h d) (hk : k < 6) (hc : bx w h d c) {τ : xS} (hm : dM w h d τ) : m_isMould N (iI (((c % 10 : Nat) : Int) - 1 + sx_ k)) (iI (((c / 10 % 10 : Nat) : Int) - 1 + sy_ k)) (iI (((c / 100 : Nat) : Int) - 1 + sz_ k)) τ = some (iI (if ed w h d k c = 0 then 0 else 1), τ) ∧ (ed w h d k c ≠ 0 → m_place N (iI (((c % 10 : Nat) : Int) - 1 + sx_ k)) (iI (((c / 10 % 10 : Nat) : Int) - 1 + sy_ k)) (iI (((c / 100 : Nat) : Int) - 1 + sz_ k)) τ = some (iI (nx k c : Nat), τ)) := by
  have g6 := geo6 hd hk hc
  have sb : -1 ≤ sx_ k ∧ sx_ k ≤ 1 ∧ -1 ≤ sy_ k ∧ sy_ k ≤ 1 ∧ -1 ≤ sz_ k ∧ sz_ k ≤ 1 := by
    rcases k6 hk with rfl | rfl | rfl | rfl | rfl | rfl <;> decide
  have cl := bx_lt hd hc
  rw [mou_m hd hm (by omega) (by omega) (by omega) (by omega) (by omega) (by omega)]
  by_cases z : ed w h d k c = 0
  · rw [if_neg (g6.2 z), if_pos z]
    exact ⟨rfl, fun y => absurd z y⟩
  · have g := g6.1 (by omega)
    have g2 := (geo2 hd hk hc (by omega)).1
    rw [if_pos (by omega), if_neg z]
    refine ⟨rfl, fun _ => ?_⟩
    rw [← g.1, ← g.2.1, ← g.2.2, idx_m, P_of]
theorem tch_m {N w h d c : Nat} {f : Nat → Bool} (hN : 100 < N) (hd : dOk w h d) (hc : bx w h d c) {τ : xS} (hm : dM w h d τ) (hs : sM f τ) : m_touches N (iI (((c % 10 : Nat) : Int) - 1)) (iI (((c / 10 % 10 : Nat) : Int) - 1)) (iI (((c / 100 : Nat) : Int) - 1)) τ = some (iI (bI (tch w h d f c 6)), τ) := by
  have go : ∀ n k : Nat, k ≤ 6 → 6 < k + n → tch w h d f c k = false → m_touches_b3 N n (iI (((c % 10 : Nat) : Int) - 1)) (iI (((c / 10 % 10 : Nat) : Int) - 1)) (iI (((c / 100 : Nat) : Int) - 1)) (iI k) τ = some (iI (bI (tch w h d f c 6)), τ) := by
    intro n
    induction n with
    | zero => intro k h1 h2; omega
    | succ n ih =>
      intro k h1 h2 h3
      rw [m_touches_b3]
      by_cases z : k = 6
      · subst z
        rw [if_pos (by decide), h3]; rfl
      · have hk : k < 6 := by omega
        have st := stX (N := N) hk (τ := τ)
        have nb := nb_m (N := N) hd hk hc hm
        rw [if_neg (by rw [show (6 : Int32) = iI 6 from rfl, iI_le (by omega) (by omega) (by omega) (by omega)]; omega), st.1, cal_at, st.2.1, cal_at, st.2.2, cal_at, iI_add, iI_add, iI_add, nb.1, cal_at]
        have t1 : tch w h d f c (k + 1) = (tch w h d f c k || (!decide (ed w h d k c = 0) && f (nx k c))) := rfl
        rw [h3, Bool.false_or] at t1
        by_cases y : ed w h d k c = 0
        · rw [decide_eq_true y] at t1
          rw [if_pos y, if_pos (by decide), bnd_at, i_suc]
          exact ih (k + 1) (by omega) (by omega) t1
        · rw [decide_eq_false y] at t1
          have bn := bx_lt hd (geo2 hd hk hc (by omega)).1
          rw [if_neg y, if_neg (by decide), st.1, cal_at, st.2.1, cal_at, st.2.2, cal_at, iI_add, iI_add, iI_add, nb.2 y, cal_at, ald_at (by omega) (by omega) (by omega), Int.toNat_natCast, hs _ bn]
          cases e : f (nx k c) with
          | false =>
            rw [if_pos (by decide), bnd_at, i_suc]
            exact ih (k + 1) (by omega) (by omega) (by rw [t1, e]; rfl)
          | true =>
            rw [if_neg (by decide)]
            have := tch_up (k := k + 1) (by rw [t1, e]; rfl) (6 - (k + 1))
            rw [show k + 1 + (6 - (k + 1)) = 6 by omega] at this
            rw [this]; rfl
  exact go N 0 (by omega) (by omega) rfl
theorem fM_up {w h d a : Nat} {f : Nat → Bool} {τ : xS} (hm : fM w h d f τ) (g : Nat → Int32) (ha : a ≠ 8 ∧ a ≠ 9) : fM w h d f (τ.1, va_up τ.2 a g) := fM_fr (S := []) (T := [a]) hm ⟨fun _ _ => rfl, fun b hb => va_up_n _ _ (fun z => hb (by rw [z]; exact List.mem_singleton.mpr rfl))⟩ (by simp) ⟨by simp [Ne.symm ha.1], by simp [Ne.symm ha.2]⟩
/-! the reference's flood -/
def mR (m : Nat → Bool) (O : Nat → Bool) (num : Nat → Int32) (v : Nat) (s : fS) (τ : xS) : Prop := (∀ c : Nat, m c = true → τ.2 12 c = if s.1 c = true then iI (-1) else if O c = true then iI v else num c) ∧ ∀ j : Nat, j < s.2.2 → τ.2 13 j = iI (s.2.1 j : Nat)
theorem hng_m {N ab w h d K i : Nat} {f : Nat → Bool} {q : Nat → Nat} (hN : 1100 < N) (hab : ab = 10 ∨ ab = 11) (hK : K ≤ 6) (hi : i < K) (hd : dOk w h d) {O : Nat → Bool} (hO : ∀ c : Nat, O c = true → mem w h d f c = true ∧ bel (wy w h d f c) q K 0 = (i : Int)) {num : Nat → Int32} (hn : ∀ c : Nat, mem w h d f c = true → O c = false → num c = iI (-1) → bel (wy w h d f c) q K 0 ≠ (i : Int)) {v : Nat} (hv : v < 1000) (K66 : Int32 → Int32 → Int32 → Int32 → xS → Option (Int32 × xS)) {p : Nat} (hp : p < 1000) {s : fS} (hf : FI O s) {x : Nat} (hx : bx w h d x) {τ : xS} (hm : fM w h d f τ) (hq : qM ab K q τ) (h18 : τ.1 18 = iI v) (hr : mR (mem w h d f) O num v s τ) : ∃ τ' : xS, m_hangs_b160 ab N K66 N (iI K) (iI i) (iI (s.2.2 : Nat)) (iI p) (iI (((x % 10 : Nat) : Int) - 1)) (iI (((x / 10 % 10 : Nat) : Int) - 1)) (iI (((x / 100 : Nat) : Int) - 1)) (iI 0) τ = K66 (iI K) (iI i) (iI ((xpd w h d x 6 s).2.2 : Nat)) (iI (p + 1 : Nat)) τ' ∧ mR (mem w h d f) O num v (xpd w h d x 6 s) τ' ∧ fr [] [12, 13] τ τ' := by
  have hO' : ∀ c : Nat, O c = true → c < 1000 := fun c hc => bx_lt hd (mem_iff.mp (hO c hc).1).1
  obtain ⟨u, k1, k2, k3, k4, _⟩ := lpA (S := Int32 × xS) (fun n' k u => m_hangs_b160 ab N K66 n' (iI K) (iI i) u.1 (iI p) (iI (((x % 10 : Nat) : Int) - 1)) (iI (((x / 10 % 10 : Nat) : Int) - 1)) (iI (((x / 100 : Nat) : Int) - 1)) k u.2) (fun u => K66 (iI K) (iI i) u.1 (iI (p + 1 : Nat)) u.2) 6
    (fun k u => u.1 = iI ((xpd w h d x k.toNat s).2.2 : Nat) ∧ mR (mem w h d f) O num v (xpd w h d x k.toNat s) u.2 ∧ fr [] [12, 13] τ u.2 ∧ 0 ≤ k)
    (fun n' u hi => by rw [m_hangs_b160, if_pos (by decide), bnd_at, i_suc])
    (fun n' k u hk hu => by
      obtain ⟨j, rfl⟩ : ∃ j : Nat, k = j := ⟨k.toNat, by have := hu.2.2.2; omega⟩
      rw [Int.toNat_natCast] at hu
      have fx := FI_x hO' (w := w) (h := h) (d := d) (x := x) hf j
      have hj : j < 6 := by omega
      have hmu := fM_fr hm hu.2.2.1 (by decide) (by decide)
      have hqu : qM ab K q u.2 := fun t ht => by
        rw [hu.2.2.1.2 ab (by rcases hab with z | z <;> rw [z] <;> decide)]; exact hq t ht
      have e18 : u.2.1 18 = iI v := by rw [hu.2.2.1.1 18 (by decide)]; exact h18
      have st := stX (N := N) hj (τ := u.2)
      have nb := nb_m (N := N) hd hj hx hmu.1
      rw [show ((j : Int) + 1).toNat = j + 1 by omega, xpd]
      rw [m_hangs_b160, if_neg (by rw [show (6 : Int32) = iI 6 from rfl, iI_le (by omega) (by omega) (by omega) (by omega)]; omega), st.1, cal_at, iI_add, bnd_at, st.2.1, cal_at, iI_add, bnd_at, st.2.2, cal_at, iI_add, bnd_at, nb.1, cal_at]
      by_cases y : ed w h d j x = 0
      · rw [if_pos y, if_pos (by decide), if_pos y, bnd_at, i_sucI]
        exact ⟨u, rfl, hu.1, hu.2.1, hu.2.2.1, by omega⟩
      · have be := (geo2 hd hj hx (by omega)).1
        obtain ⟨e, he⟩ : ∃ e : Nat, e = nx j x := ⟨_, rfl⟩
        rw [← he] at be nb
        have el := bx_lt hd be
        rw [if_neg y, if_neg (by decide), if_neg y, nb.2 y, cal_at, ald_at (by omega) (by omega) (by omega), Int.toNat_natCast, hmu.2.1 e el, ← he]
        obtain ⟨s1, hs1⟩ : ∃ s1 : fS, s1 = xpd w h d x j s := ⟨_, rfl⟩
        rw [← hs1] at hu fx ⊢
        have l1 := FI_l fx.1
        cases fe : f e with
        | true =>
          have o : s1.1 e ≠ true := fun z => by
            have := (mem_iff.mp (hO e (fx.1.1 e z)).1).2
            rw [fe] at this; cases this
          have er : rch s1 e = s1 := by unfold rch; rw [if_neg o]
          rw [if_neg (by decide), er, bnd_at, i_sucI]
          exact ⟨u, rfl, hu.1, hu.2.1, hu.2.2.1, by omega⟩
        | false =>
          have me := mem_iff.mpr ⟨be, fe⟩
          have r12 := hu.2.1.1 e me
          rw [if_pos (by decide), ald_at (by omega) (by omega) (by omega), Int.toNat_natCast, r12]
          by_cases o : s1.1 e = true
          · have l2 := FI_l (FI_r hO' fx.1 e).1
            have er : rch s1 e = ((fun i => if i = e then false else s1.1 i), (fun j => if j = s1.2.2 then e else s1.2.1 j), s1.2.2 + 1) := by unfold rch; rw [if_pos o]
            rw [er] at l2 ⊢
            dsimp only at l2
            rw [if_pos o, if_pos (by decide), bel_m (by omega) hK me el hmu hqu, cal_at, (hO e (fx.1.1 e o)).2, if_pos rfl, e18, ast_at (by omega) (by omega) (by omega), hu.1, ast_at (by omega) (by omega) (by omega), Int.toNat_natCast, Int.toNat_natCast]
            simp only [bnd_at, i_suc, i_sucI]
            refine ⟨(iI (s1.2.2 + 1 : Nat), _), rfl, rfl, ⟨fun c hc => ?_, fun t ht => ?_⟩, fr_trans hu.2.2.1 ⟨fun _ _ => rfl, fun a ha => ?_⟩, by omega⟩
            · show upd (u.2.2 12) e (iI v) c = _
              rw [upd_e]
              by_cases z : c = e
              · subst z; simp [fx.1.1 _ o]
              · rw [if_neg z]; simp only [if_neg z]; exact hu.2.1.1 c hc
            · show upd (u.2.2 13) s1.2.2 (iI e) t = _
              rw [upd_e]
              dsimp only at ht ⊢
              by_cases z : t = s1.2.2
              · rw [if_pos z, if_pos z]
              · rw [if_neg z, if_neg z]; exact hu.2.1.2 t (by omega)
            · show va_up (va_up u.2.2 12 _) 13 _ a = _
              rw [va_up_n _ _ (fun z => ha (by rw [z]; decide)), va_up_n _ _ (fun z => ha (by rw [z]; decide))]
          · have er : rch s1 e = s1 := by unfold rch; rw [if_neg o]
            rw [er, if_neg o]
            by_cases oe : O e = true
            · rw [if_pos oe, if_neg (by rw [show (-1 : Int32) = iI (-1) from rfl, iI_eq (by omega) (by omega) (by omega) (by omega)]; omega), bnd_at, i_sucI]
              exact ⟨u, rfl, hu.1, hu.2.1, hu.2.2.1, by omega⟩
            · rw [if_neg oe]
              by_cases nm : num e = (-1 : Int32)
              · have bb := bel_bd (W := wy w h d f e) (q := q) K 0
                have ne := hn e me (by cases z : O e <;> simp_all) nm
                rw [if_pos nm, bel_m (by omega) hK me el hmu hqu, cal_at, if_neg (by rw [iI_eq (by omega) (by omega) (by omega) (by omega)]; exact ne), bnd_at, i_sucI]
                exact ⟨u, rfl, hu.1, hu.2.1, hu.2.2.1, by omega⟩
              · rw [if_neg nm, bnd_at, i_sucI]
                exact ⟨u, rfl, hu.1, hu.2.1, hu.2.2.1, by omega⟩)
    N 0 (iI (s.2.2 : Nat), τ) (by omega) (by omega) ⟨rfl, hr, fr_refl, by omega⟩
  refine ⟨u.2, ?_, k3, k4⟩
  rw [k1, k2]; rfl
