/-! turn -/
def src_ (w i : Nat) : Nat := i / 100 * 100 + (i % 10) * 10 + (w + 1 - i / 10 % 10)
def opT (w h d : Nat) (g : Nat → Bool) (i : Nat) : Bool := if inn w h d i then g (src_ w i) else g i
def opTp (w h d : Nat) (g : Nat → Bool) (p : Int) (i : Nat) : Bool := if inn w h d i ∧ (src_ w i : Int) < p then g (src_ w i) else g i
theorem dg {a b : Nat} (c : Nat) (ha : a < 10) (hb : b < 10) : (c * 100 + b * 10 + a) % 10 = a ∧ (c * 100 + b * 10 + a) / 10 % 10 = b ∧ (c * 100 + b * 10 + a) / 100 = c := by omega
theorem P_d {x y z : Int} (h1 : -1 ≤ x) (h2 : x ≤ 8) (h3 : -1 ≤ y) (h4 : y ≤ 8) (h5 : -1 ≤ z) : (((((z + 1) * 100 + (y + 1) * 10 + x + 1)).toNat % 10 : Nat) : Int) = x + 1 ∧ (((((z + 1) * 100 + (y + 1) * 10 + x + 1)).toNat / 10 % 10 : Nat) : Int) = y + 1 ∧ (((((z + 1) * 100 + (y + 1) * 10 + x + 1)).toNat / 100 : Nat) : Int) = z + 1 := by
  have e : (((z + 1) * 100 + (y + 1) * 10 + x + 1)).toNat = (z + 1).toNat * 100 + (y + 1).toNat * 10 + (x + 1).toNat := by omega
  have D := dg (a := (x + 1).toNat) (b := (y + 1).toNat) (z + 1).toNat (by omega) (by omega)
  rw [e, D.1, D.2.1, D.2.2]
  omega
theorem src_d {w d i : Nat} (hd : dOk w w d) (hi : inn w w d i) : src_ w i % 10 = w + 1 - i / 10 % 10 ∧ src_ w i / 10 % 10 = i % 10 ∧ src_ w i / 100 = i / 100 := by
  unfold src_
  exact dg (a := w + 1 - i / 10 % 10) (b := i % 10) (i / 100) (by omega) (by omega)
theorem src_in {w d i : Nat} (hd : dOk w w d) (hi : inn w w d i) : inn w w d (src_ w i) := by
  have := src_d hd hi
  omega
theorem opTp_gap {w d : Nat} {g : Nat → Bool} {p q : Int} (hd : dOk w w d) (e : ∀ j : Nat, inn w w d j → ((j : Int) < p ↔ (j : Int) < q)) (i : Nat) : opTp w w d g p i = opTp w w d g q i := by
  unfold opTp
  apply if_c
  constructor
  · intro z; exact ⟨z.1, (e _ (src_in hd z.1)).mp z.2⟩
  · intro z; exact ⟨z.1, (e _ (src_in hd z.1)).mpr z.2⟩
theorem opTp_set {w d : Nat} {g : Nat → Bool} {x y z : Int} (hd : dOk w w d) (h1 : 0 ≤ x) (h2 : x < w) (h3 : 0 ≤ y) (h4 : y < w) (h5 : 0 ≤ z) (h6 : z < d) (i : Nat) : (if i = (((z + 1) * 100 + ((w - 1 - x) + 1) * 10 + y + 1)).toNat then g (((z + 1) * 100 + (y + 1) * 10 + x + 1)).toNat else opTp w w d g ((z + 1) * 100 + (y + 1) * 10 + x + 1) i) = opTp w w d g ((z + 1) * 100 + (y + 1) * 10 + (x + 1) + 1) i := by
  by_cases q : i = (((z + 1) * 100 + ((w - 1 - x) + 1) * 10 + y + 1)).toNat
  · have D := P_d (x := y) (y := w - 1 - x) (z := z) (by omega) (by omega) (by omega) (by omega) (by omega)
    rw [← q] at D
    have hi : inn w w d i := by omega
    have sd := src_d hd hi
    have e : src_ w i = (((z + 1) * 100 + (y + 1) * 10 + x + 1)).toNat := by omega
    rw [if_pos q]
    unfold opTp
    rw [if_pos (show inn w w d i ∧ (src_ w i : Int) < _ by exact ⟨hi, by omega⟩), e]
  · rw [if_neg q]
    unfold opTp
    apply if_c
    constructor
    · intro z; exact ⟨z.1, by omega⟩
    · intro z'
      refine ⟨z'.1, ?_⟩
      have a := z'.2
      have sd := src_d hd z'.1
      have b := z'.1
      by_cases c : (src_ w i : Int) = ((z + 1) * 100 + (y + 1) * 10 + x + 1)
      · exfalso
        apply q
        have D := P_d (x := x) (y := y) (z := z) (by omega) (by omega) (by omega) (by omega) (by omega)
        rw [← c, Int.toNat_natCast] at D
        omega
      · omega
theorem opTp_0 {w d : Nat} {g : Nat → Bool} (hd : dOk w w d) (i : Nat) : g i = opTp w w d g ((0 + 1) * 100 + (0 + 1) * 10 + 0 + 1) i := by
  unfold opTp
  by_cases q : inn w w d i
  · have m := src_in hd q
    rw [if_neg (by omega)]
  · rw [if_neg (fun z => q z.1)]
theorem opTp_e {w d : Nat} {g : Nat → Bool} (hd : dOk w w d) (i : Nat) : opTp w w d g ((((d : Int)) + 1) * 100 + (0 + 1) * 10 + 0 + 1) i = opT w w d g i := by
  unfold opTp opT
  apply if_c
  constructor
  · intro z; exact z.1
  · intro z; exact ⟨z, by have := src_in hd z; omega⟩
theorem cpy_t {N w h d : Nat} (hN : 1000 < N) {g : Nat → Bool} (hd : dOk w h d) {τ : xS} (hg : gM w h d g τ) : ∃ τ' : xS, m_turns_b20 N N (iI 0) τ = m_turns_b47 N N (iI 0) τ' ∧ gM w h d g τ' ∧ oth w h d g τ' ∧ τ'.1 = τ.1 := by
  obtain ⟨τ', k1, k2, k3, k4, _⟩ := lpA (fun n k σ => m_turns_b20 N n k σ) (fun σ => m_turns_b47 N N (iI 0) σ) 512
    (fun k σ' => (∀ j : Nat, (j : Int) < k → σ'.2 6 j = vp_nar .boolean (τ.2 5 j)) ∧ σ'.2 5 = τ.2 5 ∧ σ'.1 = τ.1 ∧ 0 ≤ k)
    (fun n s _ => by rw [m_turns_b20, if_pos (by decide)]; rfl)
    (fun n k s hk hi => by
      have k0 := hi.2.2.2
      · refine ⟨(s.1, va_up s.2 6 (upd (s.2 6) k.toNat (vp_nar .boolean (s.2 5 k.toNat)))), ?_, fun j hj => ?_, hi.2.1, hi.2.2.1, by omega⟩
        · rw [m_turns_b20, if_neg (by rw [show (512 : Int32) = iI 512 from rfl, iI_le (by omega) (by omega) (by omega) (by omega)]; omega), ald_at (by omega) (by omega) (by omega), ast_at (by omega) (by omega) (by omega), bnd_at, i_sucI]
        · show upd (s.2 6) k.toNat _ j = _
          rw [upd_e]
          by_cases e : j = k.toNat
          · rw [if_pos e, hi.2.1, e]
          · rw [if_neg e]; exact hi.1 j (by omega))
    N 0 τ (by omega) (by omega) ⟨fun j hj => by omega, rfl, rfl, by omega⟩
  refine ⟨τ', k1, ?_, fun i hi => ?_, k4⟩
  · unfold gM; rw [k3, k4]; exact hg
  · rw [k2 _ (by omega), hg.2.2.2 i hi, nb_b]
theorem cpy_m {N w h d : Nat} (hN : 1000 < N) {g : Nat → Bool} (hd : dOk w h d) {a : Int32} {τ : xS} (hg : gM w h d g τ) : ∃ τ' : xS, m_mirrors_b94 N N a (iI 0) τ = m_mirrors_b121 N N a (iI 0) τ' ∧ gM w h d g τ' ∧ oth w h d g τ' ∧ τ'.1 = τ.1 := by
  obtain ⟨τ', k1, k2, k3, k4, _⟩ := lpA (fun n k σ => m_mirrors_b94 N n a k σ) (fun σ => m_mirrors_b121 N N a (iI 0) σ) 512
    (fun k σ' => (∀ j : Nat, (j : Int) < k → σ'.2 6 j = vp_nar .boolean (τ.2 5 j)) ∧ σ'.2 5 = τ.2 5 ∧ σ'.1 = τ.1 ∧ 0 ≤ k)
    (fun n s _ => by rw [m_mirrors_b94, if_pos (by decide)]; rfl)
    (fun n k s hk hi => by
      have k0 := hi.2.2.2
      · refine ⟨(s.1, va_up s.2 6 (upd (s.2 6) k.toNat (vp_nar .boolean (s.2 5 k.toNat)))), ?_, fun j hj => ?_, hi.2.1, hi.2.2.1, by omega⟩
        · rw [m_mirrors_b94, if_neg (by rw [show (512 : Int32) = iI 512 from rfl, iI_le (by omega) (by omega) (by omega) (by omega)]; omega), ald_at (by omega) (by omega) (by omega), ast_at (by omega) (by omega) (by omega), bnd_at, i_sucI]
        · show upd (s.2 6) k.toNat _ j = _
          rw [upd_e]
          by_cases e : j = k.toNat
          · rw [if_pos e, hi.2.1, e]
          · rw [if_neg e]; exact hi.1 j (by omega))
    N 0 τ (by omega) (by omega) ⟨fun j hj => by omega, rfl, rfl, by omega⟩
  refine ⟨τ', k1, ?_, fun i hi => ?_, k4⟩
  · unfold gM; rw [k3, k4]; exact hg
  · rw [k2 _ (by omega), hg.2.2.2 i hi, nb_b]
theorem turn_m {N w d : Nat} (hN : 1000 < N) {g : Nat → Bool} (hd : dOk w w d) {τ : xS} (hg : gM w w d g τ) (ho : oth w w d g τ) : ∃ τ' : xS, m_turns_b47 N N (iI 0) τ = some (0, τ') ∧ gM w w d (opT w w d g) τ' ∧ τ'.1 = τ.1 := by
  have key := lpT (S := xS) (N := N)
    (fun n z σ => m_turns_b47 N n z σ)
    (fun n1 n z y σ => m_turns_b57 N (m_turns_b47 N n1) n z y σ)
    (fun n1 n2 n z y x σ => m_turns_b68 N (m_turns_b47 N n1) (m_turns_b57 N (m_turns_b47 N n1) n2) n z y x σ)
    (fun σ => some (0, σ)) 0 0 w w d
    (fun z y x σ' => gM w w d (opTp w w d g ((z + 1) * 100 + (y + 1) * 10 + x + 1)) σ' ∧ 0 ≤ z ∧ oth w w d g σ' ∧ σ'.1 = τ.1)
    (by omega) (by omega) (by omega) (by omega)
    (fun n s hi => by
      rw [m_turns_b47, hi.1.2.2.1, if_pos (by rw [iI_le (by omega) (by omega) (by omega) (by omega)]; omega)])
    (fun n z s hz hi => by
      rw [m_turns_b47, hi.1.2.2.1, if_neg (by rw [iI_le (by omega) (by omega) (by omega) (by omega)]; omega)]; rfl)
    (fun n1 n z s hz hi => by
      refine ⟨?_, gM_c hi.1 (fun i _ => opTp_gap hd (fun j hj => by omega) i), by omega, hi.2.2⟩
      rw [m_turns_b57, hi.1.2.1, if_pos (by rw [iI_le (by omega) (by omega) (by omega) (by omega)]; omega), bnd_at, i_sucI])
    (fun n1 n z y s hz hy hy0 hi => by
      rw [m_turns_b57, hi.1.2.1, if_neg (by rw [iI_le (by omega) (by omega) (by omega) (by omega)]; omega)]; rfl)
    (fun n1 n2 n z y s hz hy hy0 hi => by
      refine ⟨?_, gM_c hi.1 (fun i _ => opTp_gap hd (fun j hj => by omega) i), hi.2⟩
      rw [m_turns_b68, hi.1.1, if_pos (by rw [iI_le (by omega) (by omega) (by omega) (by omega)]; omega), bnd_at, i_sucI])
    (fun n1 n2 n z y x s hz hy hx hy0 hx0 hi => by
      obtain ⟨c, hc⟩ : ∃ c : Nat, c = (((z + 1) * 100 + (y + 1) * 10 + x + 1)).toNat := ⟨_, rfl⟩
      have cin : inn w w d c := by omega
      have oc := hi.2.2.1 c cin
      have P := ste_m (v := g c) hd hi.1 hy0 hy (show 0 ≤ (w : Int) - 1 - x by omega) (by omega) hi.2.1 hz
      refine ⟨_, ?_, gM_c P (fun i _ => ?_), hi.2.1, hi.2.2⟩
      · rw [m_turns_b68, hi.1.1, if_neg (by rw [iI_le (by omega) (by omega) (by omega) (by omega)]; omega), show (1 : Int32) = iI 1 from rfl, iI_sub, iI_sub, ce_m, cal_at, ce_m, cal_at, ald_at (by omega) (by omega) (by omega), show ((z * 8 + y) * 8 + x).toNat = (((c / 100 - 1) * 8 + (c / 10 % 10 - 1)) * 8 + (c % 10 - 1)) by omega, oc, nb_b, ast_at (by omega) (by omega) (by omega), bnd_at, iI_add]
      · rw [hc]; exact opTp_set hd hx0 hx hy0 hy hi.2.1 hz i)
    N 0 τ (by omega) (by omega) ⟨gM_c hg (fun i _ => opTp_0 hd i), by omega, ho, rfl⟩
  obtain ⟨σ', k1, k2, _, _, k5⟩ := key
  exact ⟨σ', k1, gM_c k2 (fun i _ => opTp_e hd i), k5⟩
/-- the layer that the class keeps -/
def lay (w d : Nat) (g : Nat → Bool) (z p : Int) (σ : xS) : Prop := ∀ i : Nat, inn w w d i → ((i / 100 : Nat) : Int) = z + 1 → (i : Int) < p → σ.2 5 ((i / 10 % 10 - 1) * 8 + (i % 10 - 1)) = iI (bI (g i))
theorem keep_L {N w d : Nat} (hN : 1000 < N) {g : Nat → Bool} (hd : dOk w w d) {σ : xS} (hg : gX w w d g σ) {z : Int} (hz0 : 0 ≤ z) (hz : z < d) : ∃ σ' : xS, draft_keepLayer N (iI z) σ = some (0, σ') ∧ gX w w d g σ' ∧ lay w d g z ((z + 1) * 100 + (((w : Int)) + 1) * 10 + 0 + 1) σ' := by
  have inner : ∀ (n1 : Nat) (y : Int) (s : xS), 0 ≤ y → y < w → gX w w d g s → lay w d g z ((z + 1) * 100 + (y + 1) * 10 + 0 + 1) s → ∃ s' : xS, draft_keepLayer_b18 N (draft_keepLayer_b2 N n1) N (iI z) (iI y) (iI 0) s = draft_keepLayer_b2 N n1 (iI z) (iI (y + 1)) s' ∧ gX w w d g s' ∧ lay w d g z ((z + 1) * 100 + (y + 1) * 10 + ((w : Int)) + 1) s' := by
    intro n1 y s hy0 hy hgs hls
    obtain ⟨s', k1, k2, k3, _⟩ := lpA (fun n k σ => draft_keepLayer_b18 N (draft_keepLayer_b2 N n1) n (iI z) (iI y) k σ) (fun σ => draft_keepLayer_b2 N n1 (iI z) (iI (y + 1)) σ) w
      (fun x s' => gX w w d g s' ∧ lay w d g z ((z + 1) * 100 + (y + 1) * 10 + x + 1) s' ∧ 0 ≤ x)
      (fun n s hi => by rw [draft_keepLayer_b18, hi.1.1, if_pos (by rw [iI_le (by omega) (by omega) (by omega) (by omega)]; omega), bnd_at, i_sucI])
      (fun n x s hx hi => by
        have hx0 := hi.2.2
        obtain ⟨c, hc⟩ : ∃ c : Nat, (c : Int) = ((z + 1) * 100 + (y + 1) * 10 + x + 1) := ⟨(((z + 1) * 100 + (y + 1) * 10 + x + 1)).toNat, by omega⟩
        have cin : inn w w d c := by omega
        have S := sol_x (N := N) (a := 4) (σ := s) (i := ((z + 1) * 100 + (y + 1) * 10 + x + 1)) (b := g c) (by omega) (by omega) (by rw [← hc, Int.toNat_natCast]; exact hi.1.2.2.2 c (by omega))
        refine ⟨(s.1, va_up s.2 5 (upd (s.2 5) (y * 8 + x).toNat (iI (bI (g c))))), ?_, hi.1, fun i hin hiz hip => ?_, by omega⟩
        · rw [draft_keepLayer_b18, hi.1.1, if_neg (by rw [iI_le (by omega) (by omega) (by omega) (by omega)]; omega), if_neg (by rw [show (8 : Int32) = iI 8 from rfl, iI_le (by omega) (by omega) (by omega) (by omega)]; omega), idx_x, cal_at, S, cal_at]
          simp only [show (8 : Int32) = iI 8 from rfl, show (1 : Int32) = iI 1 from rfl, show (0 : Int32) = iI 0 from rfl, iI_mul, iI_add]
          rw [ast_at (by omega) (by omega) (by omega), ast_at (by omega) (by omega) (by omega), bnd_at, bnd_at]
          cases g c
          · rw [if_pos (by decide)]; rfl
          · rw [if_neg (by decide)]; rfl
        · show upd (s.2 5) (y * 8 + x).toNat (iI (bI (g c))) ((i / 10 % 10 - 1) * 8 + (i % 10 - 1)) = _
          rw [upd_e]
          by_cases e : i = c
          · rw [if_pos (by omega), e]
          · rw [if_neg (by omega)]
            exact hi.2.1 i hin hiz (by omega))
      N 0 s (by omega) (by omega) ⟨hgs, fun i a b c => hls i a b (by omega), by omega⟩
    exact ⟨s', k1, k2, k3⟩
  obtain ⟨σ', k1, k2, k3, _⟩ := lpA (fun n k σ => draft_keepLayer_b2 N n (iI z) k σ) (fun σ => some (0, σ)) w
    (fun y s' => gX w w d g s' ∧ lay w d g z ((z + 1) * 100 + (y + 1) * 10 + 0 + 1) s' ∧ 0 ≤ y)
    (fun n s hi => by rw [draft_keepLayer_b2, hi.1.2.1, if_pos (by rw [iI_le (by omega) (by omega) (by omega) (by omega)]; omega)])
    (fun n y s hy hi => by
      obtain ⟨s', p1, p2, p3⟩ := inner n y s hi.2.2 hy hi.1 hi.2.1
      refine ⟨s', ?_, p2, fun i a b c => p3 i a b (by omega), by have := hi.2.2; omega⟩
      rw [draft_keepLayer_b2, hi.1.2.1, if_neg (by rw [iI_le (by omega) (by omega) (by omega) (by omega)]; omega), if_neg (by rw [show (8 : Int32) = iI 8 from rfl, iI_le (by omega) (by omega) (by omega) (by omega)]; omega)]
      exact p1)
    N 0 σ (by omega) (by omega) ⟨hg, fun i a b c => by omega, by omega⟩
  exact ⟨σ', k1, k2, k3⟩
theorem turn_x {N w d : Nat} (hN : 1000 < N) {g : Nat → Bool} (hd : dOk w w d) {σ : xS} (hg : gX w w d g σ) : ∃ σ' : xS, draft_turnOnce N σ = some (0, σ') ∧ gX w w d (opT w w d g) σ' ∧ fr [] [4, 5] σ σ' := by
  have key := lpTQ (S := xS) (N := N)
    (fun n z σ => draft_turnOnce_b2 N n z σ)
    (fun n1 n z y σ => draft_turnOnce_b24 N (draft_turnOnce_b2 N n1) n z y σ)
    (fun n1 n2 n z y x σ => draft_turnOnce_b40 N (draft_turnOnce_b2 N n1) (draft_turnOnce_b24 N (draft_turnOnce_b2 N n1) n2) n z y x σ)
    (fun σ => some (0, σ)) (fun _ => False) 0 0 w w d
    (fun z σ' => gX w w d (opTp w w d g ((z + 1) * 100 + (0 + 1) * 10 + 0 + 1)) σ' ∧ 0 ≤ z)
    (fun z y x σ' => gX w w d (opTp w w d g ((z + 1) * 100 + (y + 1) * 10 + x + 1)) σ' ∧ 0 ≤ z ∧ lay w d g z ((z + 1) * 100 + (((w : Int)) + 1) * 10 + 0 + 1) σ')
    (by omega) (by omega) (by omega) (by omega)
    (fun n s hi => by
      rw [draft_turnOnce_b2, hi.1.2.2.1, if_pos (by rw [iI_le (by omega) (by omega) (by omega) (by omega)]; omega)])
    (fun n z s hz hi => by
      obtain ⟨s', p1, p2, p3⟩ := keep_L (N := N) hN hd hi.1 hi.2 hz
      have T : draft_canTurn N s = some (1, s) := by unfold draft_canTurn; rw [hi.1.1, hi.1.2.1, if_pos rfl]
      refine ⟨s', ?_, p2, hi.2, fun i a b c => ?_⟩
      · rw [draft_turnOnce_b2, hi.1.2.2.1, if_neg (by rw [iI_le (by omega) (by omega) (by omega) (by omega)]; omega), T, cal_at, if_neg (by decide), p1, cal_at]; rfl
      · rw [p3 i a b c]
        unfold opTp
        rw [if_neg (fun q => by have := q.2; have := src_d hd q.1; omega)])
    (fun n1 n z s hz hi => by
      refine ⟨?_, gX_c hi.1 (fun i _ => opTp_gap hd (fun j hj => by omega) i), by omega⟩
      rw [draft_turnOnce_b24, hi.1.2.1, if_pos (by rw [iI_le (by omega) (by omega) (by omega) (by omega)]; omega), bnd_at, i_sucI])
    (fun n1 n z y s hz hy hy0 hi => by
      rw [draft_turnOnce_b24, hi.1.2.1, if_neg (by rw [iI_le (by omega) (by omega) (by omega) (by omega)]; omega), if_neg (by rw [show (8 : Int32) = iI 8 from rfl, iI_le (by omega) (by omega) (by omega) (by omega)]; omega)]; rfl)
    (fun n1 n2 n z y s hz hy hy0 hi => by
      refine ⟨?_, gX_c hi.1 (fun i _ => opTp_gap hd (fun j hj => by omega) i), hi.2⟩
      rw [draft_turnOnce_b40, hi.1.1, if_pos (by rw [iI_le (by omega) (by omega) (by omega) (by omega)]; omega), bnd_at, i_sucI])
    (fun n1 n2 n z y x s hz hy hx hy0 hx0 hi => by
      left
      obtain ⟨c, hc⟩ : ∃ c : Nat, c = (((z + 1) * 100 + (y + 1) * 10 + x + 1)).toNat := ⟨_, rfl⟩
      have cin : inn w w d c := by omega
      have lc := hi.2.2 c cin (by omega) (by omega)
      obtain ⟨s', p1, p2, p3⟩ := put_x (N := N) (v := g c) hd hi.1 hy0 hy (show 0 ≤ (w : Int) - 1 - x by omega) (by omega) hi.2.1 hz
      refine ⟨s', ?_, gX_c p2 (fun i _ => ?_), hi.2.1, ?_⟩
      · rw [draft_turnOnce_b40, hi.1.1, if_neg (by rw [iI_le (by omega) (by omega) (by omega) (by omega)]; omega), if_neg (by rw [show (8 : Int32) = iI 8 from rfl, iI_le (by omega) (by omega) (by omega) (by omega)]; omega), show (1 : Int32) = iI 1 from rfl, show (8 : Int32) = iI 8 from rfl, iI_sub, iI_sub, iI_mul, iI_add, ald_at (by omega) (by omega) (by omega), show (y * 8 + x).toNat = (c / 10 % 10 - 1) * 8 + (c % 10 - 1) by omega, lc, p1, cal_at, bnd_at, iI_add]
      · rw [hc]; exact opTp_set hd hx0 hx hy0 hy hi.2.1 hz i
      · intro i a b c
        rw [p3.2 5 (by decide)]; exact hi.2.2 i a b c)
    N 0 σ (by omega) (by omega) ⟨gX_c hg (fun i _ => opTp_0 hd i), by omega⟩
  rcases key with ⟨σ', k1, k2, _⟩ | h
  · have k1 : draft_turnOnce N σ = some (0, σ') := k1
    exact ⟨σ', k1, gX_c k2 (fun i _ => opTp_e hd i), f_draft_turnOnce k1⟩
  · exact h.elim
