/-! mirror -/
def mir (w h d : Nat) (a : Int) (i : Nat) : Nat := if a = 0 then i / 10 * 10 + (w + 1 - i % 10) else if a = 1 then i / 100 * 100 + (h + 1 - i / 10 % 10) * 10 + i % 10 else (d + 1 - i / 100) * 100 + i % 100
def opM (w h d : Nat) (a : Int) (g : Nat → Bool) (i : Nat) : Bool := g i || (decide (inn w h d i) && g (mir w h d a i))
theorem ax3 {a : Int} (h : 0 ≤ a ∧ a ≤ 2) : a = 0 ∨ a = 1 ∨ a = 2 := by omega
theorem mir_0 (w h d i : Nat) : mir w h d 0 i = i / 10 * 10 + (w + 1 - i % 10) := by unfold mir; rw [if_pos rfl]
theorem mir_1 (w h d i : Nat) : mir w h d 1 i = i / 100 * 100 + (h + 1 - i / 10 % 10) * 10 + i % 10 := by unfold mir; rw [if_neg (by decide), if_pos rfl]
theorem mir_2 (w h d i : Nat) : mir w h d 2 i = (d + 1 - i / 100) * 100 + i % 100 := by unfold mir; rw [if_neg (by decide), if_neg (by decide)]
theorem mir_in {w h d i : Nat} {a : Int} (hd : dOk w h d) (ha : 0 ≤ a ∧ a ≤ 2) (hi : inn w h d i) : inn w h d (mir w h d a i) ∧ mir w h d a (mir w h d a i) = i := by
  rcases ax3 ha with rfl | rfl | rfl
  · rw [mir_0, mir_0]; exact ⟨by omega, by omega⟩
  · rw [mir_1, mir_1]; exact ⟨by omega, by omega⟩
  · rw [mir_2, mir_2]; exact ⟨by omega, by omega⟩
/-- where a cell's mirrored cell lies -/
theorem mir_at {w h d : Nat} {a x y z : Int} (hd : dOk w h d) (ha : 0 ≤ a ∧ a ≤ 2) (h1 : 0 ≤ x) (h2 : x < w) (h3 : 0 ≤ y) (h4 : y < h) (h5 : 0 ≤ z) (h6 : z < d) : ∃ tx ty tz : Int, tx = (if a = 0 then w - 1 - x else x) ∧ ty = (if a = 1 then h - 1 - y else y) ∧ tz = (if a = 2 then d - 1 - z else z) ∧ 0 ≤ tx ∧ tx < w ∧ 0 ≤ ty ∧ ty < h ∧ 0 ≤ tz ∧ tz < d ∧ (((tz + 1) * 100 + (ty + 1) * 10 + tx + 1)).toNat = mir w h d a (((z + 1) * 100 + (y + 1) * 10 + x + 1)).toNat := by
  rcases ax3 ha with rfl | rfl | rfl
  · refine ⟨w - 1 - x, y, z, by simp, by simp, by simp, by omega, by omega, by omega, by omega, by omega, by omega, ?_⟩
    rw [mir_0]; omega
  · refine ⟨x, h - 1 - y, z, by simp, by simp, by simp, by omega, by omega, by omega, by omega, by omega, by omega, ?_⟩
    rw [mir_1]; omega
  · refine ⟨x, y, d - 1 - z, by simp, by simp, by simp, by omega, by omega, by omega, by omega, by omega, by omega, ?_⟩
    rw [mir_2]; omega
/-- as far as the cells below p -/
def opMp (w h d : Nat) (a : Int) (g : Nat → Bool) (p : Int) (i : Nat) : Bool := g i || (decide (inn w h d i ∧ (mir w h d a i : Int) < p) && g (mir w h d a i))
theorem opMp_gap {w h d : Nat} {a : Int} {g : Nat → Bool} {p q : Int} (hd : dOk w h d) (ha : 0 ≤ a ∧ a ≤ 2) (e : ∀ j : Nat, inn w h d j → ((j : Int) < p ↔ (j : Int) < q)) (i : Nat) : opMp w h d a g p i = opMp w h d a g q i := by
  unfold opMp
  congr 2
  apply decide_eq_decide.mpr
  constructor
  · intro z; exact ⟨z.1, (e _ (mir_in hd ha z.1).1).mp z.2⟩
  · intro z; exact ⟨z.1, (e _ (mir_in hd ha z.1).1).mpr z.2⟩
theorem opMp_skip {w h d c : Nat} {a : Int} {g : Nat → Bool} (hc : g c = false) (i : Nat) : opMp w h d a g (c : Int) i = opMp w h d a g ((c : Int) + 1) i := by
  unfold opMp
  by_cases q : mir w h d a i = c
  · rw [q, hc]; simp
  · congr 2
    apply decide_eq_decide.mpr
    constructor
    · intro z; exact ⟨z.1, by omega⟩
    · intro z; exact ⟨z.1, by omega⟩
theorem opMp_set {w h d c : Nat} {a : Int} {g : Nat → Bool} (hd : dOk w h d) (ha : 0 ≤ a ∧ a ≤ 2) (hi : inn w h d c) (hc : g c = true ∨ g (mir w h d a c) = true) (i : Nat) : (if i = mir w h d a c then true else opMp w h d a g (c : Int) i) = opMp w h d a g ((c : Int) + 1) i := by
  have m := mir_in hd ha hi
  by_cases q : i = mir w h d a c
  · rw [if_pos q, q]
    unfold opMp
    rw [m.2, decide_eq_true (show inn w h d (mir w h d a c) ∧ (c : Int) < c + 1 from ⟨m.1, by omega⟩)]
    rcases hc with e | e <;> rw [e] <;> simp
  · rw [if_neg q]
    unfold opMp
    congr 2
    apply decide_eq_decide.mpr
    constructor
    · intro z; exact ⟨z.1, by omega⟩
    · intro z
      refine ⟨z.1, ?_⟩
      have m2 := mir_in hd ha z.1
      have : mir w h d a i ≠ c := fun e => q (by rw [← e]; exact m2.2.symm)
      have := z.2
      omega
theorem mirr_x {N w h d : Nat} (hN : 100 < N) {g : Nat → Bool} (hd : dOk w h d) {a : Int} (ha : 0 ≤ a ∧ a ≤ 2) {σ : xS} (hg : gX w h d g σ) : ∃ σ' : xS, draft_mirrorAcross N (iI a) σ = some (0, σ') ∧ gX w h d (opM w h d a g) σ' ∧ fr [] [4] σ σ' := by
  have key := lpT (S := xS) (N := N)
    (fun n z σ => draft_mirrorAcross_b2 N n (iI a) z σ)
    (fun n1 n z y σ => draft_mirrorAcross_b12 N (draft_mirrorAcross_b2 N n1) n (iI a) z y σ)
    (fun n1 n2 n z y x σ => draft_mirrorAcross_b23 N (draft_mirrorAcross_b2 N n1) (draft_mirrorAcross_b12 N (draft_mirrorAcross_b2 N n1) n2) n (iI a) z y x σ)
    (fun σ => some (0, σ)) 0 0 w h d
    (fun z y x σ' => gX w h d (opMp w h d a g ((z + 1) * 100 + (y + 1) * 10 + x + 1)) σ' ∧ 0 ≤ z)
    (by omega) (by omega) (by omega) (by omega)
    (fun n s hi => by
      rw [draft_mirrorAcross_b2, hi.1.2.2.1, if_pos (by rw [iI_le (by omega) (by omega) (by omega) (by omega)]; omega)])
    (fun n z s hz hi => by
      rw [draft_mirrorAcross_b2, hi.1.2.2.1, if_neg (by rw [iI_le (by omega) (by omega) (by omega) (by omega)]; omega)]; rfl)
    (fun n1 n z s hz hi => by
      refine ⟨?_, gX_c hi.1 (fun i _ => opMp_gap hd ha (fun j hj => by omega) i), by omega⟩
      rw [draft_mirrorAcross_b12, hi.1.2.1, if_pos (by rw [iI_le (by omega) (by omega) (by omega) (by omega)]; omega), bnd_at, i_sucI])
    (fun n1 n z y s hz hy hy0 hi => by
      rw [draft_mirrorAcross_b12, hi.1.2.1, if_neg (by rw [iI_le (by omega) (by omega) (by omega) (by omega)]; omega)]; rfl)
    (fun n1 n2 n z y s hz hy hy0 hi => by
      refine ⟨?_, gX_c hi.1 (fun i _ => opMp_gap hd ha (fun j hj => by omega) i), hi.2⟩
      rw [draft_mirrorAcross_b23, hi.1.1, if_pos (by rw [iI_le (by omega) (by omega) (by omega) (by omega)]; omega), bnd_at, i_sucI])
    (fun n1 n2 n z y x s hz hy hx hy0 hx0 hi => by
      obtain ⟨c, hc⟩ : ∃ c : Nat, (c : Int) = ((z + 1) * 100 + (y + 1) * 10 + x + 1) := ⟨(((z + 1) * 100 + (y + 1) * 10 + x + 1)).toNat, by omega⟩
      have cin : inn w h d c := by omega
      have S := sol_x (N := N) (a := 4) (σ := s) (i := ((z + 1) * 100 + (y + 1) * 10 + x + 1)) (b := opMp w h d a g ((z + 1) * 100 + (y + 1) * 10 + x + 1) c) (by omega) (by omega) (by rw [← hc, Int.toNat_natCast]; rw [hi.1.2.2.2 c (by omega), hc])
      rw [draft_mirrorAcross_b23, hi.1.1, if_neg (by rw [iI_le (by omega) (by omega) (by omega) (by omega)]; omega), idx_x, cal_at, S, cal_at]
      by_cases b : opMp w h d a g ((z + 1) * 100 + (y + 1) * 10 + x + 1) c = true
      · have hc2 : g c = true ∨ g (mir w h d a c) = true := by
          unfold opMp at b
          rw [Bool.or_eq_true, Bool.and_eq_true] at b
          rcases b with b | b
          · exact Or.inl b
          · exact Or.inr b.2
        obtain ⟨tx, ty, tz, e1, e2, e3, t1, t2, t3, t4, t5, t6, t7⟩ := mir_at hd ha hx0 hx hy0 hy hi.2 hz
        obtain ⟨s', p1, p2, p3⟩ := put_x (N := N) (v := true) hd hi.1 t1 t2 t3 t4 t5 t6
        refine ⟨s', ?_, gX_c p2 (fun i _ => ?_), hi.2⟩
        · have p1 : draft_put N (iI tx) (iI ty) (iI tz) (iI 1) s = some (0, s') := p1
          rw [b, if_neg (by decide)]
          rcases ax3 ha with rfl | rfl | rfl
          · rw [if_pos (by decide)]
            unfold draft_mirrorAcross_b65
            rw [if_neg (by decide)]
            unfold draft_mirrorAcross_b82
            rw [if_neg (by decide), hi.1.1, show (1 : Int32) = iI 1 from rfl, iI_sub, iI_sub]
            rw [if_pos rfl] at e1
            rw [if_neg (by decide)] at e2 e3
            rw [← e1, ← e2, ← e3, p1, cal_at, bnd_at, iI_add, e2, e3]
          · rw [if_neg (by decide)]
            unfold draft_mirrorAcross_b65
            rw [if_pos (by decide), hi.1.2.1]
            unfold draft_mirrorAcross_b82
            rw [if_neg (by decide), show (1 : Int32) = iI 1 from rfl, iI_sub, iI_sub]
            rw [if_pos rfl] at e2
            rw [if_neg (by decide)] at e1 e3
            rw [← e1, ← e2, ← e3, p1, cal_at, bnd_at, iI_add, e1, e3]
          · rw [if_neg (by decide)]
            unfold draft_mirrorAcross_b65
            rw [if_neg (by decide)]
            unfold draft_mirrorAcross_b82
            rw [if_pos (by decide), hi.1.2.2.1, show (1 : Int32) = iI 1 from rfl, iI_sub, iI_sub]
            rw [if_pos rfl] at e3
            rw [if_neg (by decide)] at e1 e2
            rw [← e1, ← e2, ← e3, p1, cal_at, bnd_at, iI_add, e1, e2]
        · have z1 := opMp_set hd ha cin hc2 i
          have z2 : (((z + 1) * 100 + (y + 1) * 10 + x + 1)).toNat = c := by omega
          rw [t7, z2, show ((z + 1) * 100 + (y + 1) * 10 + (x + 1) + 1) = (c : Int) + 1 by omega, ← hc]
          exact z1
      · have b0 : opMp w h d a g ((z + 1) * 100 + (y + 1) * 10 + x + 1) c = false := by cases h : opMp w h d a g ((z + 1) * 100 + (y + 1) * 10 + x + 1) c <;> simp_all
        have gc : g c = false := by
          unfold opMp at b0
          rw [Bool.or_eq_false_iff] at b0
          exact b0.1
        rw [b0, if_pos (by decide), bnd_at, i_sucI]
        refine ⟨s, rfl, gX_c hi.1 (fun i _ => ?_), hi.2⟩
        rw [show ((z + 1) * 100 + (y + 1) * 10 + (x + 1) + 1) = (c : Int) + 1 by omega, ← hc]
        exact opMp_skip gc i)
    N 0 σ (by omega) (by omega) ⟨gX_c hg (fun i _ => by
      unfold opMp
      by_cases q : inn w h d i
      · have m := (mir_in hd ha q).1
        rw [decide_eq_false (by omega)]; simp
      · rw [decide_eq_false (fun z => q z.1)]; simp), by omega⟩
  obtain ⟨σ', k1, k2, _⟩ := key
  have k1 : draft_mirrorAcross N (iI a) σ = some (0, σ') := k1
  refine ⟨σ', k1, gX_c k2 (fun i _ => ?_), f_draft_mirrorAcross k1⟩
  unfold opMp opM
  congr 2
  apply decide_eq_decide.mpr
  constructor
  · intro z; exact z.1
  · intro z; exact ⟨z, by have := (mir_in hd ha z).1; omega⟩
/-- the copy of the grid that the reference keeps -/
def oth (w h d : Nat) (g : Nat → Bool) (τ : xS) : Prop := ∀ i : Nat, inn w h d i → τ.2 6 (((i / 100 - 1) * 8 + (i / 10 % 10 - 1)) * 8 + (i % 10 - 1)) = iI (bI (g i))
theorem mirr_m {N w h d : Nat} (hN : 1000 < N) {g : Nat → Bool} (hd : dOk w h d) {a : Int} (ha : 0 ≤ a ∧ a ≤ 2) {τ : xS} (hg : gM w h d g τ) (ho : oth w h d g τ) : ∃ τ' : xS, m_mirrors_b121 N N (iI (120 + a)) (iI 0) τ = some (0, τ') ∧ gM w h d (opM w h d a g) τ' ∧ τ'.1 = τ.1 := by
  have key := lpT (S := xS) (N := N)
    (fun n z σ => m_mirrors_b121 N n (iI (120 + a)) z σ)
    (fun n1 n z y σ => m_mirrors_b131 N (m_mirrors_b121 N n1) n (iI (120 + a)) z y σ)
    (fun n1 n2 n z y x σ => m_mirrors_b142 N (m_mirrors_b121 N n1) (m_mirrors_b131 N (m_mirrors_b121 N n1) n2) n (iI (120 + a)) z y x σ)
    (fun σ => some (0, σ)) 0 0 w h d
    (fun z y x σ' => gM w h d (opMp w h d a g ((z + 1) * 100 + (y + 1) * 10 + x + 1)) σ' ∧ 0 ≤ z ∧ oth w h d g σ' ∧ σ'.1 = τ.1)
    (by omega) (by omega) (by omega) (by omega)
    (fun n s hi => by
      rw [m_mirrors_b121, hi.1.2.2.1, if_pos (by rw [iI_le (by omega) (by omega) (by omega) (by omega)]; omega)])
    (fun n z s hz hi => by
      rw [m_mirrors_b121, hi.1.2.2.1, if_neg (by rw [iI_le (by omega) (by omega) (by omega) (by omega)]; omega)]; rfl)
    (fun n1 n z s hz hi => by
      refine ⟨?_, gM_c hi.1 (fun i _ => opMp_gap hd ha (fun j hj => by omega) i), by omega, hi.2.2⟩
      rw [m_mirrors_b131, hi.1.2.1, if_pos (by rw [iI_le (by omega) (by omega) (by omega) (by omega)]; omega), bnd_at, i_sucI])
    (fun n1 n z y s hz hy hy0 hi => by
      rw [m_mirrors_b131, hi.1.2.1, if_neg (by rw [iI_le (by omega) (by omega) (by omega) (by omega)]; omega)]; rfl)
    (fun n1 n2 n z y s hz hy hy0 hi => by
      refine ⟨?_, gM_c hi.1 (fun i _ => opMp_gap hd ha (fun j hj => by omega) i), hi.2⟩
      rw [m_mirrors_b142, hi.1.1, if_pos (by rw [iI_le (by omega) (by omega) (by omega) (by omega)]; omega), bnd_at, i_sucI])
    (fun n1 n2 n z y x s hz hy hx hy0 hx0 hi => by
      obtain ⟨c, hc⟩ : ∃ c : Nat, (c : Int) = ((z + 1) * 100 + (y + 1) * 10 + x + 1) := ⟨(((z + 1) * 100 + (y + 1) * 10 + x + 1)).toNat, by omega⟩
      have cin : inn w h d c := by omega
      have oc := hi.2.2.1 c cin
      rw [m_mirrors_b142, hi.1.1, if_neg (by rw [iI_le (by omega) (by omega) (by omega) (by omega)]; omega), ce_m, cal_at, ald_at (by omega) (by omega) (by omega), show ((z * 8 + y) * 8 + x).toNat = (((c / 100 - 1) * 8 + (c / 10 % 10 - 1)) * 8 + (c % 10 - 1)) by omega, oc]
      by_cases b : g c = true
      · obtain ⟨tx, ty, tz, e1, e2, e3, t1, t2, t3, t4, t5, t6, t7⟩ := mir_at hd ha hx0 hx hy0 hy hi.2.1 hz
        have P := ste_m (v := true) hd hi.1 t1 t2 t3 t4 t5 t6
        refine ⟨(s.1, va_up s.2 5 (upd (s.2 5) ((tz * 8 + ty) * 8 + tx).toNat (iI 1))), ?_, gM_c P (fun i _ => ?_), hi.2.1, hi.2.2⟩
        · rw [b, if_neg (by decide)]
          rcases ax3 ha with rfl | rfl | rfl
          · rw [if_pos (by decide)]
            unfold m_mirrors_b193
            rw [if_neg (by decide)]
            unfold m_mirrors_b211
            rw [if_neg (by decide), hi.1.1, show (1 : Int32) = iI 1 from rfl, iI_sub, iI_sub, ce_m, cal_at, nb_1]
            rw [if_pos rfl] at e1
            rw [if_neg (by decide)] at e2 e3
            rw [← e1, ← e2, ← e3, ast_at (by omega) (by omega) (by omega), bnd_at, iI_add, e2, e3]
          · rw [if_neg (by decide)]
            unfold m_mirrors_b193
            rw [if_pos (by decide), hi.1.2.1]
            unfold m_mirrors_b211
            rw [if_neg (by decide), show (1 : Int32) = iI 1 from rfl, iI_sub, iI_sub, ce_m, cal_at, nb_1]
            rw [if_pos rfl] at e2
            rw [if_neg (by decide)] at e1 e3
            rw [← e1, ← e2, ← e3, ast_at (by omega) (by omega) (by omega), bnd_at, iI_add, e1, e3]
          · rw [if_neg (by decide)]
            unfold m_mirrors_b193
            rw [if_neg (by decide)]
            unfold m_mirrors_b211
            rw [if_pos (by decide), hi.1.2.2.1, show (1 : Int32) = iI 1 from rfl, iI_sub, iI_sub, ce_m, cal_at, nb_1]
            rw [if_pos rfl] at e3
            rw [if_neg (by decide)] at e1 e2
            rw [← e1, ← e2, ← e3, ast_at (by omega) (by omega) (by omega), bnd_at, iI_add, e1, e2]
        · have z1 := opMp_set hd ha cin (Or.inl b) i
          have z2 : (((z + 1) * 100 + (y + 1) * 10 + x + 1)).toNat = c := by omega
          rw [t7, z2, show ((z + 1) * 100 + (y + 1) * 10 + (x + 1) + 1) = (c : Int) + 1 by omega, ← hc]
          exact z1
      · have gc : g c = false := by cases h : g c <;> simp_all
        rw [gc, if_pos (by decide), bnd_at, i_sucI]
        refine ⟨s, rfl, gM_c hi.1 (fun i _ => ?_), hi.2⟩
        rw [show ((z + 1) * 100 + (y + 1) * 10 + (x + 1) + 1) = (c : Int) + 1 by omega, ← hc]
        exact opMp_skip gc i)
    N 0 τ (by omega) (by omega) ⟨gM_c hg (fun i q => by
      unfold opMp
      have m := (mir_in hd ha q).1
      rw [decide_eq_false (by omega)]; simp), by omega, ho, rfl⟩
  obtain ⟨σ', k1, k2, _, _, k5⟩ := key
  refine ⟨σ', k1, gM_c k2 (fun i _ => ?_), k5⟩
  unfold opMp opM
  congr 2
  apply decide_eq_decide.mpr
  constructor
  · intro z; exact z.1
  · intro z; exact ⟨z, by have := (mir_in hd ha z).1; omega⟩
