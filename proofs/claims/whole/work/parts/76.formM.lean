/-! the reference's mould -/
def sM (f : Nat → Bool) (τ : xS) : Prop := ∀ i : Nat, i < 1000 → τ.2 8 i = iI (bI (f i))
theorem sM_fr {S T : List Nat} {f : Nat → Bool} {σ σ' : xS} (hg : sM f σ) (r : fr S T σ σ') (h2 : 8 ∉ T) : sM f σ' := by
  unfold sM; rw [r.2 8 h2]; exact hg
theorem dM_fr {S T : List Nat} {w h d : Nat} {σ σ' : xS} (hg : dM w h d σ) (r : fr S T σ σ') (h1 : 12 ∉ S ∧ 13 ∉ S ∧ 14 ∉ S ∧ 15 ∉ S) : dM w h d σ' := by
  unfold dM; rw [r.1 12 h1.1, r.1 13 h1.2.1, r.1 14 h1.2.2.1, r.1 15 h1.2.2.2]; exact hg
theorem P_of {c : Nat} : ((((((c / 100 : Nat) : Int) - 1) + 1) * 100 + ((((c / 10 % 10 : Nat) : Int) - 1) + 1) * 10 + (((c % 10 : Nat) : Int) - 1) + 1)) = (c : Int) := by omega
theorem way_m {N w h d k : Nat} {f : Nat → Bool} (hd : dOk w h d) (hk : k < 6) {τ : xS} (hm : dM w h d τ) (hs : sM f τ) (K : Int32 → Int32 → Int32 → Int32 → Int32 → xS → Option (Int32 × xS)) (l1 l2 l3 l4 : Int32) : ∀ (n r p : Nat) (fl : Bool), bx w h d p → ed w h d k p = r → r + 1 < n → m_waysOf_b25 N K n l1 l2 l3 l4 (iI k) (iI (bI fl)) (iI (((p % 10 : Nat) : Int) - 1)) (iI (((p / 10 % 10 : Nat) : Int) - 1)) (iI (((p / 100 : Nat) : Int) - 1)) τ = K l1 l2 l3 (if (fl && clw w h d f k p) = true then l4 ||| ((1 : Int32) <<< (iI k &&& 31)) else l4) (iI (k + 1 : Nat)) τ := by
  intro n
  induction n with
  | zero => intro r p fl _ _ h; omega
  | succ n ih =>
    intro r p fl hp hr hn
    have pl := bx_lt hd hp
    have g6 := geo6 hd hk hp
    have cs := clw_s (f := f) hd hk hp
    have st := stX (N := N) hk (τ := τ)
    have E : m_waysOf_b25 N K (n + 1) l1 l2 l3 l4 (iI k) (iI (bI fl)) (iI (((p % 10 : Nat) : Int) - 1)) (iI (((p / 10 % 10 : Nat) : Int) - 1)) (iI (((p / 100 : Nat) : Int) - 1)) τ = m_waysOf_b25 N K n l1 l2 l3 l4 (iI k) (iI (bI (fl && !f p))) (iI (((p % 10 : Nat) : Int) - 1 + sx_ k)) (iI (((p / 10 % 10 : Nat) : Int) - 1 + sy_ k)) (iI (((p / 100 : Nat) : Int) - 1 + sz_ k)) τ := by
      have b65 : ∀ s : Int32, m_waysOf_b65 N K (m_waysOf_b25 N K n) l1 l2 l3 l4 (iI k) (iI (((p % 10 : Nat) : Int) - 1)) (iI (((p / 10 % 10 : Nat) : Int) - 1)) (iI (((p / 100 : Nat) : Int) - 1)) s τ = m_waysOf_b25 N K n l1 l2 l3 l4 (iI k) s (iI (((p % 10 : Nat) : Int) - 1 + sx_ k)) (iI (((p / 10 % 10 : Nat) : Int) - 1 + sy_ k)) (iI (((p / 100 : Nat) : Int) - 1 + sz_ k)) τ := by
        intro s
        unfold m_waysOf_b65
        rw [st.1, cal_at, st.2.1, iI_add, bnd_at, cal_at, st.2.2, iI_add, bnd_at, cal_at, iI_add, bnd_at]
      rw [m_waysOf_b25, mou_m hd hm (by omega) (by omega) (by omega) (by omega) (by omega) (by omega), if_pos (by omega), cal_at, if_neg (by decide), idx_m, cal_at, P_of, ald_at (by omega) (by omega) (by omega), Int.toNat_natCast, hs p pl, b65, b65]
      cases fl
      · rw [if_pos (by decide)]; rfl
      · rw [if_neg (by decide)]
        cases f p
        · rw [if_pos (by decide)]; rfl
        · rw [if_neg (by decide)]; rfl
    rw [E]
    by_cases q : 0 < ed w h d k p
    · have g2 := geo2 hd hk hp q
      have g := g6.1 q
      rw [← g.1, ← g.2.1, ← g.2.2, ih (r - 1) (nx k p) (fl && !f p) g2.1 (by omega) (by omega), cs.1 q, Bool.and_assoc]
    · obtain ⟨n, rfl⟩ : ∃ z, n = z + 1 := ⟨n - 1, by omega⟩
      have o := g6.2 (by omega)
      have sb : -1 ≤ sx_ k ∧ sx_ k ≤ 1 ∧ -1 ≤ sy_ k ∧ sy_ k ≤ 1 ∧ -1 ≤ sz_ k ∧ sz_ k ≤ 1 := by
        rcases k6 hk with rfl | rfl | rfl | rfl | rfl | rfl <;> decide
      rw [m_waysOf_b25, mou_m hd hm (by omega) (by omega) (by omega) (by omega) (by omega) (by omega), if_neg o, cal_at, if_pos (by decide), cs.2 (by omega), bnd_at, bnd_at, i_suc]
      cases fl && !f p
      · rw [if_pos (by decide)]; rfl
      · rw [if_neg (by decide)]; rfl
theorem ways_m {N w h d c : Nat} {f : Nat → Bool} (hN : 100 < N) (hd : dOk w h d) (hc : bx w h d c) {τ : xS} (hm : dM w h d τ) (hs : sM f τ) : m_waysOf N (iI (((c % 10 : Nat) : Int) - 1)) (iI (((c / 10 % 10 : Nat) : Int) - 1)) (iI (((c / 100 : Nat) : Int) - 1)) τ = some (iI (wy w h d f c : Nat), τ) := by
  have go : ∀ n k : Nat, k ≤ 6 → 6 < k + n → m_waysOf_b6 N n (iI (((c % 10 : Nat) : Int) - 1)) (iI (((c / 10 % 10 : Nat) : Int) - 1)) (iI (((c / 100 : Nat) : Int) - 1)) (iI (mk (fun k => clw w h d f k c) k : Nat)) (iI k) τ = some (iI (wy w h d f c : Nat), τ) := by
    intro n
    induction n with
    | zero => intro k h1 h2; omega
    | succ n ih =>
      intro k h1 h2
      rw [m_waysOf_b6]
      by_cases q : k = 6
      · subst q
        rw [if_pos (by decide)]; rfl
      · have hk : k < 6 := by omega
        have g := ih (k + 1) (by omega) (by omega)
        have e9 := (geo1 hd hk hc).2.2.1
        have W := way_m (N := N) (f := f) hd hk hm hs (m_waysOf_b6 N n) (iI (((c % 10 : Nat) : Int) - 1)) (iI (((c / 10 % 10 : Nat) : Int) - 1)) (iI (((c / 100 : Nat) : Int) - 1)) (iI (mk (fun k => clw w h d f k c) k : Nat)) N (ed w h d k c) c true hc rfl (by omega)
        have W : m_waysOf_b25 N (m_waysOf_b6 N n) N (iI (((c % 10 : Nat) : Int) - 1)) (iI (((c / 10 % 10 : Nat) : Int) - 1)) (iI (((c / 100 : Nat) : Int) - 1)) (iI (mk (fun k => clw w h d f k c) k : Nat)) (iI k) 1 (iI (((c % 10 : Nat) : Int) - 1)) (iI (((c / 10 % 10 : Nat) : Int) - 1)) (iI (((c / 100 : Nat) : Int) - 1)) τ = _ := W
        have ml := mk_lt (fun k => clw w h d f k c) k
        have p6 : 2 ^ k ≤ 64 := (Nat.pow_le_pow_right (by omega) (by omega) : 2 ^ k ≤ 2 ^ 6)
        rw [if_neg (by rw [show (6 : Int32) = iI 6 from rfl, iI_le (by omega) (by omega) (by omega) (by omega)]; omega), W, Bool.true_and, j_shl1 (by omega), j_or, j_set (by omega) (by omega) (by rw [mk_bit]; simp)]
        rw [mk] at g
        by_cases b : clw w h d f k c = true
        · rw [if_pos b] at g ⊢; exact g
        · rw [if_neg b] at g ⊢; exact g
  exact go N 0 (by omega) (by omega)
def fM (w h d : Nat) (f : Nat → Bool) (τ : xS) : Prop := dM w h d τ ∧ sM f τ ∧ ∀ c : Nat, mem w h d f c = true → τ.2 9 c = iI (wy w h d f c : Nat)
theorem wys_m {N w h d : Nat} {f : Nat → Bool} (hN : 1000 < N) (hd : dOk w h d) (acc : Int32) {τ : xS} (hm : dM w h d τ) (hs : sM f τ) : ∃ τ' : xS, m_form_b284 N N (iI w) (iI h) (iI d) acc (iI (-1)) τ = some (acc, τ') ∧ fM w h d f τ' ∧ τ'.1 = τ.1 := by
  have key := lpT (S := xS) (N := N)
    (fun n z σ => m_form_b284 N n (iI w) (iI h) (iI d) acc z σ)
    (fun n1 n z y σ => m_form_b293 N (m_form_b284 N n1) n (iI w) (iI h) (iI d) acc z y σ)
    (fun n1 n2 n z y x σ => m_form_b302 N (m_form_b284 N n1) (m_form_b293 N (m_form_b284 N n1) n2) n (iI w) (iI h) (iI d) acc z y x σ)
    (fun σ => some (acc, σ)) (-1) (-1) (w + 1) (h + 1) (d + 1)
    (fun z y x σ' => (∀ c : Nat, (c : Int) < ((z + 1) * 100 + (y + 1) * 10 + x + 1) → mem w h d f c = true → σ'.2 9 c = iI (wy w h d f c : Nat)) ∧ dM w h d σ' ∧ sM f σ' ∧ -1 ≤ z ∧ σ'.1 = τ.1)
    (by omega) (by omega) (by omega) (by omega)
    (fun n s hi => by
      rw [m_form_b284, if_pos (by rw [iI_lt (by omega) (by omega) (by omega) (by omega)]; omega)])
    (fun n z s hz hi => by
      rw [m_form_b284, if_neg (by rw [iI_lt (by omega) (by omega) (by omega) (by omega)]; omega)]; rfl)
    (fun n1 n z s hz hi => by
      refine ⟨?_, fun c h1 h2 => ?_, hi.2.1, hi.2.2.1, by omega, hi.2.2.2.2⟩
      · rw [m_form_b293, if_pos (by rw [iI_lt (by omega) (by omega) (by omega) (by omega)]; omega), bnd_at, i_sucI]
      · have := (mem_iff.mp h2).1
        exact hi.1 c (by omega) h2)
    (fun n1 n z y s hz hy hy0 hi => by
      rw [m_form_b293, if_neg (by rw [iI_lt (by omega) (by omega) (by omega) (by omega)]; omega)]; rfl)
    (fun n1 n2 n z y s hz hy hy0 hi => by
      refine ⟨?_, fun c h1 h2 => ?_, hi.2.1, hi.2.2.1, hi.2.2.2⟩
      · rw [m_form_b302, if_pos (by rw [iI_lt (by omega) (by omega) (by omega) (by omega)]; omega), bnd_at, i_sucI]
      · have := (mem_iff.mp h2).1
        exact hi.1 c (by omega) h2)
    (fun n1 n2 n z y x s hz hy hx hy0 hx0 hi => by
      obtain ⟨c, hc⟩ : ∃ c : Nat, (c : Int) = ((z + 1) * 100 + (y + 1) * 10 + x + 1) := ⟨(((z + 1) * 100 + (y + 1) * 10 + x + 1)).toNat, by omega⟩
      have c1 : (((z + 1) * 100 + (y + 1) * 10 + x + 1)).toNat = c := by omega
      have D := P_d (x := x) (y := y) (z := z) (by omega) (by omega) (by omega) (by omega) (by omega)
      rw [c1] at D
      have bc : bx w h d c := by omega
      have cl := bx_lt hd bc
      have W := ways_m (N := N) (f := f) (by omega) hd bc hi.2.1 hi.2.2.1
      rw [D.1, D.2.1, D.2.2, show x + 1 - 1 = x by omega, show y + 1 - 1 = y by omega, show z + 1 - 1 = z by omega] at W
      rw [m_form_b302, if_neg (by rw [iI_lt (by omega) (by omega) (by omega) (by omega)]; omega), idx_m, cal_at, idx_m, cal_at, ald_at (by omega) (by omega) (by omega), c1, hi.2.2.1 c cl, W, cal_at, ast_at (by omega) (by omega) (by omega), ast_at (by omega) (by omega) (by omega), c1, bnd_at, bnd_at, i_sucI]
      have fin : ∀ v : Int32, (f c = false → v = iI (wy w h d f c : Nat)) → (∀ e : Nat, (e : Int) < ((z + 1) * 100 + (y + 1) * 10 + (x + 1) + 1) → mem w h d f e = true → upd (s.2 9) c v e = iI (wy w h d f e : Nat)) := by
        intro v hv e h1 h2
        rw [upd_e]
        by_cases q : e = c
        · rw [if_pos q, q]; rw [q] at h2; exact hv (mem_iff.mp h2).2
        · rw [if_neg q]; exact hi.1 e (by omega) h2
      cases b : f c
      · rw [if_pos (by decide)]
        exact ⟨_, rfl, fin _ (fun _ => rfl), hi.2.1, hi.2.2.1, hi.2.2.2⟩
      · rw [if_neg (by decide)]
        exact ⟨_, rfl, fin _ (fun z => by rw [b] at z; cases z), hi.2.1, hi.2.2.1, hi.2.2.2⟩)
    N (-1) τ (by omega) (by omega) ⟨fun c h1 _ => by omega, hm, hs, by omega, rfl⟩
  obtain ⟨σ', k1, k2, k3, k4, _, k6⟩ := key
  refine ⟨σ', k1, ⟨k3, k4, fun c hc => k2 c ?_ hc⟩, k6⟩
  have := (mem_iff.mp hc).1
  omega
/-- the cells are taken over -/
theorem tak_m {N w h d : Nat} {g : Nat → Bool} (hN : 1000 < N) (hd : dOk w h d) (hin : ∀ i : Nat, g i = true → inn w h d i) {τ : xS} (hm : dM w h d τ) (hg : gM w h d g τ) : ∃ τ' : xS, m_form_b166 N N (iI w) (iI h) (iI d) (iI 0) (iI 0) τ = m_form_b284 N N (iI w) (iI h) (iI d) (iI (rk g 1000 : Nat)) (iI (-1)) τ' ∧ dM w h d τ' ∧ sM g τ' ∧ τ'.1 = τ.1 := by
  obtain ⟨τ1, k1, k2, k3, k4, k5⟩ := lpA (fun n k σ => m_form_b166 N n (iI w) (iI h) (iI d) (iI 0) k σ) (fun σ => m_form_b191 N N (iI w) (iI h) (iI d) (iI 0) (iI 0) σ) 1000
    (fun k s => (∀ i : Nat, (i : Int) < k → s.2 8 i = iI 0) ∧ 0 ≤ k ∧ s.1 = τ.1 ∧ s.2 5 = τ.2 5)
    (fun n s _ => by rw [m_form_b166, if_pos (by decide)]; rfl)
    (fun n k s hk hi => by
      refine ⟨(s.1, va_up s.2 8 (upd (s.2 8) k.toNat (iI 0))), ?_, fun i h1 => ?_, by omega, hi.2.2.1, hi.2.2.2⟩
      · rw [m_form_b166, if_neg (by rw [show (1000 : Int32) = iI 1000 from rfl, iI_le (by omega) (by omega) (by omega) (by omega)]; omega), ast_at (by omega) (by omega) (by omega), bnd_at, i_sucI]; rfl
      · show upd (s.2 8) k.toNat (iI 0) i = _
        rw [upd_e]
        by_cases q : i = k.toNat
        · rw [if_pos q]
        · rw [if_neg q]; exact hi.1 i (by omega))
    N 0 τ (by omega) (by omega) ⟨fun i h1 => by omega, by omega, rfl, rfl⟩
  have hg1 : gM w h d g τ1 := by unfold gM; rw [k4, k5]; exact hg
  have hm1 : dM w h d τ1 := by unfold dM; rw [k4]; exact hm
  have key := lpT (S := Int32 × xS) (N := N)
    (fun n z s => m_form_b191 N n (iI w) (iI h) (iI d) s.1 z s.2)
    (fun n1 n z y s => m_form_b200 N (m_form_b191 N n1) n (iI w) (iI h) (iI d) s.1 z y s.2)
    (fun n1 n2 n z y x s => m_form_b209 N (m_form_b191 N n1) (m_form_b200 N (m_form_b191 N n1) n2) n (iI w) (iI h) (iI d) s.1 z y x s.2)
    (fun s => m_form_b284 N N (iI w) (iI h) (iI d) s.1 (iI (-1)) s.2) 0 0 w h d
    (fun z y x s => s.1 = iI (rk g (((z + 1) * 100 + (y + 1) * 10 + x + 1)).toNat : Nat) ∧ (∀ i : Nat, i < 1000 → s.2.2 8 i = iI (bI (g i && decide ((i : Int) < ((z + 1) * 100 + (y + 1) * 10 + x + 1))))) ∧ gM w h d g s.2 ∧ dM w h d s.2 ∧ 0 ≤ z ∧ s.2.1 = τ.1)
    (by omega) (by omega) (by omega) (by omega)
    (fun n s hi => by
      rw [m_form_b191, if_pos (by rw [iI_le (by omega) (by omega) (by omega) (by omega)]; omega)]; rfl)
    (fun n z s hz hi => by
      rw [m_form_b191, if_neg (by rw [iI_le (by omega) (by omega) (by omega) (by omega)]; omega)]; rfl)
    (fun n1 n z s hz hi => by
      have z0 := hi.2.2.2.2.1
      refine ⟨?_, ?_, fun i h1 => ?_, hi.2.2.1, hi.2.2.2.1, by omega, hi.2.2.2.2.2⟩
      · rw [m_form_b200, if_pos (by rw [iI_le (by omega) (by omega) (by omega) (by omega)]; omega), bnd_at, i_sucI]
      · rw [hi.1, rk_gap (a := (((z + 1) * 100 + (((h : Int)) + 1) * 10 + 0 + 1)).toNat) (b := ((((z + 1) + 1) * 100 + (0 + 1) * 10 + 0 + 1)).toNat) (by omega) (fun c c1 c2 => by
          cases e : g c with
          | false => rfl
          | true => have := hin c e; omega)]
      · rw [hi.2.1 i h1]
        congr 2
        cases e : g i with
        | false => rfl
        | true =>
          have := hin i e
          rw [Bool.true_and, Bool.true_and]
          apply decide_eq_decide.mpr
          omega)
    (fun n1 n z y s hz hy hy0 hi => by
      rw [m_form_b200, if_neg (by rw [iI_le (by omega) (by omega) (by omega) (by omega)]; omega)]; rfl)
    (fun n1 n2 n z y s hz hy hy0 hi => by
      have z0 := hi.2.2.2.2.1
      refine ⟨?_, ?_, fun i h1 => ?_, hi.2.2⟩
      · rw [m_form_b209, if_pos (by rw [iI_le (by omega) (by omega) (by omega) (by omega)]; omega), bnd_at, i_sucI]
      · rw [hi.1, rk_gap (a := (((z + 1) * 100 + (y + 1) * 10 + ((w : Int)) + 1)).toNat) (b := (((z + 1) * 100 + ((y + 1) + 1) * 10 + 0 + 1)).toNat) (by omega) (fun c c1 c2 => by
          cases e : g c with
          | false => rfl
          | true => have := hin c e; omega)]
      · rw [hi.2.1 i h1]
        congr 2
        cases e : g i with
        | false => rfl
        | true =>
          have := hin i e
          rw [Bool.true_and, Bool.true_and]
          apply decide_eq_decide.mpr
          omega)
    (fun n1 n2 n z y x s hz hy hx hy0 hx0 hi => by
      have z0 := hi.2.2.2.2.1
      obtain ⟨c, hc⟩ : ∃ c : Nat, (c : Int) = ((z + 1) * 100 + (y + 1) * 10 + x + 1) := ⟨(((z + 1) * 100 + (y + 1) * 10 + x + 1)).toNat, by omega⟩
      have c1 : (((z + 1) * 100 + (y + 1) * 10 + x + 1)).toNat = c := by omega
      have c2 : (((z + 1) * 100 + (y + 1) * 10 + (x + 1) + 1)).toNat = c + 1 := by omega
      have D := P_d (x := x) (y := y) (z := z) (by omega) (by omega) (by omega) (by omega) (by omega)
      rw [c1] at D
      have cin : inn w h d c := by omega
      have cg := hi.2.2.1.2.2.2 c cin
      have c8 : ((z * 8 + y) * 8 + x).toNat = (((c / 100 - 1) * 8 + (c / 10 % 10 - 1)) * 8 + (c % 10 - 1)) := by omega
      have e1 : (s.2.1, va_up s.2.2 8 (upd (s.2.2 8) c (iI (bI (g c))))).2 5 (((c / 100 - 1) * 8 + (c / 10 % 10 - 1)) * 8 + (c % 10 - 1)) = iI (bI (g c)) := cg
      have fin : ∀ i : Nat, i < 1000 → upd (s.2.2 8) c (iI (bI (g c))) i = iI (bI (g i && decide ((i : Int) < ((z + 1) * 100 + (y + 1) * 10 + (x + 1) + 1)))) := by
        intro i h1
        rw [upd_e]
        by_cases q : i = c
        · rw [if_pos q, q, decide_eq_true (show (c : Int) < _ by omega), Bool.and_true]
        · rw [if_neg q, hi.2.1 i h1]
          congr 3
          apply decide_eq_decide.mpr
          omega
      rw [m_form_b209, if_neg (by rw [iI_le (by omega) (by omega) (by omega) (by omega)]; omega), idx_m, cal_at, ce_m, cal_at, ald_at (by omega) (by omega) (by omega), c8, cg, nb_b, ast_at (by omega) (by omega) (by omega), c1, ce_m, cal_at, ald_at (by omega) (by omega) (by omega), c8, e1]
      simp only [bnd_at, i_sucI]
      rw [c2, rk]
      rw [c1] at hi
      cases b : g c
      · rw [if_pos (by decide)]
        rw [b] at fin
        exact ⟨(s.1, (s.2.1, va_up s.2.2 8 (upd (s.2.2 8) c (iI (bI false))))), rfl, by rw [hi.1]; rfl, fin, hi.2.2⟩
      · rw [if_neg (by decide)]
        rw [b] at fin
        exact ⟨(iI (rk g c + 1 : Nat), (s.2.1, va_up s.2.2 8 (upd (s.2.2 8) c (iI (bI true))))), by rw [hi.1, i_suc], rfl, fin, hi.2.2⟩)
    N 0 (iI 0, τ1) (by omega) (by omega) ⟨by
      show iI 0 = _
      rw [rk_gap (a := 0) (b := (((((0 : Int)) + 1) * 100 + (((0 : Int)) + 1) * 10 + ((0 : Int)) + 1)).toNat) (by omega) (fun c c1 c2 => by
        cases e : g c with
        | false => rfl
        | true => have := hin c e; omega)]
      rfl, fun i h1 => by
      show τ1.2 8 i = _
      rw [k2 i (by omega)]
      cases e : g i with
      | false => rfl
      | true =>
        have := hin i e
        rw [Bool.true_and, decide_eq_false (by omega)]; rfl, hg1, hm1, by omega, k4⟩
  obtain ⟨s', r1, r2, r3, r4, r5, _, r7⟩ := key
  have gp : rk g 1000 = rk g (((((d : Int)) + 1) * 100 + (0 + 1) * 10 + 0 + 1)).toNat := rk_gap (by omega) (fun c c1 c2 => by
      cases e : g c with
      | false => rfl
      | true => have := hin c e; omega)
  refine ⟨s'.2, ?_, r5, fun i hi => ?_, r7⟩
  · rw [k1]
    have r1 : m_form_b191 N N (iI w) (iI h) (iI d) (iI 0) (iI 0) τ1 = _ := r1
    rw [r1, r2, gp]
  · rw [r3 i hi]
    congr 2
    cases e : g i with
    | false => rfl
    | true =>
      have := hin i e
      rw [Bool.true_and, decide_eq_true (by omega)]
