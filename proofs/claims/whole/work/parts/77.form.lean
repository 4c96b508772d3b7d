/-! the form that is held -/
def Rform (σ τ : xS) : Prop := (σ.1 4 = iI 0 ∧ τ.1 12 = iI 0) ∨ ∃ (w h d : Nat) (f : Nat → Bool), dOk w h d ∧ fX w h d f σ ∧ fM w h d f τ ∧ ∀ i : Nat, f i = true → inn w h d i
theorem fX_fr {S T : List Nat} {w h d : Nat} {f : Nat → Bool} {σ σ' : xS} (hg : fX w h d f σ) (r : fr S T σ σ') (h1 : 4 ∉ S ∧ 5 ∉ S ∧ 6 ∉ S ∧ 10 ∉ S) (h2 : 2 ∉ T ∧ 6 ∉ T ∧ 7 ∉ T) : fX w h d f σ' :=
  ⟨dX_fr hg.1 r ⟨h1.1, h1.2.1, h1.2.2.1⟩ h2.1, mX_fr hg.2.1 r h1.2.2.2 h2.2.1, by rw [r.2 7 h2.2.2]; exact hg.2.2⟩
theorem fM_fr {S T : List Nat} {w h d : Nat} {f : Nat → Bool} {σ σ' : xS} (hg : fM w h d f σ) (r : fr S T σ σ') (h1 : 12 ∉ S ∧ 13 ∉ S ∧ 14 ∉ S ∧ 15 ∉ S) (h2 : 8 ∉ T ∧ 9 ∉ T) : fM w h d f σ' :=
  ⟨dM_fr hg.1 r h1, sM_fr hg.2.1 r h2.1, by rw [r.2 9 h2.2]; exact hg.2.2⟩
theorem Rform_fr {S T S' T' : List Nat} {σ σ' τ τ' : xS} (hr : Rform σ τ) (r : fr S T σ σ') (r' : fr S' T' τ τ') (h1 : 4 ∉ S ∧ 5 ∉ S ∧ 6 ∉ S ∧ 10 ∉ S) (h2 : 2 ∉ T ∧ 6 ∉ T ∧ 7 ∉ T) (h3 : 12 ∉ S' ∧ 13 ∉ S' ∧ 14 ∉ S' ∧ 15 ∉ S') (h4 : 8 ∉ T' ∧ 9 ∉ T') : Rform σ' τ' := by
  rcases hr with ⟨a, b⟩ | ⟨w, h, d, f, hd, a, b, c⟩
  · exact Or.inl ⟨by rw [r.1 4 h1.1]; exact a, by rw [r'.1 12 h3.1]; exact b⟩
  · exact Or.inr ⟨w, h, d, f, hd, fX_fr a r h1 h2, fM_fr b r' h3 h4, c⟩
theorem side_x {N : Nat} {σ : xS} {a : Int} (a1 : -2147483648 ≤ a) (a2 : a < 2147483648) : cl_canBeSide N (iI a) σ = some (iI (if 1 ≤ a ∧ a ≤ 8 then 1 else 0), σ) := by
  unfold cl_canBeSide
  simp (disch := omega) only [iI_lit, iI_lt]
  by_cases q : a < 1
  · rw [if_pos q, if_neg (by omega)]
  · by_cases q2 : 8 < a
    · rw [if_neg q, if_pos q2, if_neg (by omega)]
    · rw [if_neg q, if_neg q2, if_pos (by omega)]
theorem va_cp {f g : Nat → Int32} {i : Nat} (hi : i < 1000) : va_cpy f g 0 0 1000 i = f i := by
  unfold va_cpy
  rw [if_pos (by omega), show 0 + (i - 0) = i by omega]
def mEn (N : Nat) (l1 l2 l3 : Int32) (σ : xS) : Option (Int32 × xS) := cal (m_reads N σ) fun _ σ17 => put σ17 7 (σ17.1 5) fun σ18 => put σ18 8 (σ18.1 6) fun σ19 => if (σ19.1 5) = 0 then put σ19 12 (1 : Int32) fun σ20 => put σ20 16 (0 : Int32) fun σ21 => put σ21 13 l1 fun σ22 => put σ22 14 l2 fun σ23 => put σ23 15 l3 fun σ24 => m_form_b166 N N l1 l2 l3 (0 : Int32) (0 : Int32) σ24 else some ((-1 : Int32), σ19)
theorem z84 {N : Nat} (hN : 1000 < N) (l1 l2 l3 : Int32) (τ : xS) : ∃ τ' : xS, m_form_b84 N N l1 l2 l3 (iI 0) τ = mEn N l1 l2 l3 τ' ∧ τ'.1 = τ.1 ∧ (∀ i : Nat, i < 512 → τ'.2 5 i = iI 0) ∧ ∀ a : Nat, a ≠ 5 → τ'.2 a = τ.2 a := by
  obtain ⟨τ1, k1, k2, k3, k4, k5⟩ := lpA (fun n k σ => m_form_b84 N n l1 l2 l3 k σ) (fun σ => mEn N l1 l2 l3 σ) 512
    (fun k s => (∀ i : Nat, (i : Int) < k → s.2 5 i = iI 0) ∧ 0 ≤ k ∧ s.1 = τ.1 ∧ ∀ a : Nat, a ≠ 5 → s.2 a = τ.2 a)
    (fun n s _ => by rw [m_form_b84, if_pos (by decide)]; rfl)
    (fun n k s hk hi => by
      refine ⟨(s.1, va_up s.2 5 (upd (s.2 5) k.toNat (iI 0))), ?_, fun i h1 => ?_, by omega, hi.2.2.1, fun a ha => ?_⟩
      · rw [m_form_b84, if_neg (by rw [show (512 : Int32) = iI 512 from rfl, iI_le (by omega) (by omega) (by omega) (by omega)]; omega), ast_at (by omega) (by omega) (by omega), bnd_at, i_sucI]; rfl
      · show upd (s.2 5) k.toNat (iI 0) i = _
        rw [upd_e]
        by_cases q : i = k.toNat
        · rw [if_pos q]
        · rw [if_neg q]; exact hi.1 i (by omega)
      · show va_up s.2 5 _ a = _
        rw [va_up_n _ _ ha]; exact hi.2.2.2 a ha)
    N 0 τ (by omega) (by omega) ⟨fun i h1 => by omega, by omega, rfl, fun _ _ => rfl⟩
  exact ⟨τ1, k1, k4, fun i hi => k2 i (by omega), k5⟩
def m_ini (τ : xS) (n : Nat) (w h d : Int32) : xS := (va_up (va_up (va_up (va_up (va_up (va_up (va_up (va_up (va_up τ.1 1 (iI 0)) 4 (iI (-1))) 2 (iI n)) 0 (iI 0)) 5 (iI 0)) 6 (iI (-1))) 9 w) 10 h) 11 d, τ.2)
theorem sim_form {N : Nat} (hN : 1100 < N) (a b c : Int32) {σ τ : xS} (ht : Rtape σ τ) (hw : wds τ) : ∃ (r : Int32) (σ' τ' : xS), cw_form N a b c σ = some (r, σ') ∧ m_form N a b c τ = some (r, τ') ∧ ((σ' = σ ∧ τ' = τ) ∨ (Rtape σ' τ' ∧ Rfault σ' τ' ∧ fr [0, 1, 2, 3, 7, 8, 9] [1, 4, 5] σ σ' ∧ fr [0, 1, 2, 3, 4, 5, 6, 7, 8, 9, 10, 11] [5, 6, 7] τ τ') ∨ (Rtape σ' τ' ∧ Rfault σ' τ' ∧ Rform σ' τ' ∧ σ'.1 11 = iI 0 ∧ σ'.1 14 = iI 0 ∧ τ'.1 16 = iI 0)) := by
  obtain ⟨a, rfl, a1, a2⟩ := iI_ex a
  obtain ⟨b, rfl, b1, b2⟩ := iI_ex b
  obtain ⟨c, rfl, c1, c2⟩ := iI_ex c
  obtain ⟨n, n4, t1, t2, t3⟩ := id ht
  unfold cw_form m_form
  have I : ∀ x : Int, -2147483648 ≤ x → x < 2147483648 → m_isIn N (iI x) 1 8 τ = some (iI (if 1 ≤ x ∧ x ≤ 8 then 1 else 0), τ) := fun x x1 x2 => isIn_m (b := 1) (c := 8) x1 x2 (by omega) (by omega) (by omega) (by omega)
  rw [side_x a1 a2, cal_at, I a a1 a2, cal_at]
  by_cases qa' : ¬ (1 ≤ a ∧ a ≤ 8)
  · rw [if_neg qa', if_pos (by decide), if_pos (by decide)]; exact ⟨_, _, _, rfl, rfl, Or.inl ⟨rfl, rfl⟩⟩
  have qa : 1 ≤ a ∧ a ≤ 8 := by omega
  rw [if_pos qa, if_neg (by decide), if_neg (by decide), side_x b1 b2, cal_at, I b b1 b2, cal_at]
  by_cases qb' : ¬ (1 ≤ b ∧ b ≤ 8)
  · rw [if_neg qb', if_pos (by decide), if_pos (by decide)]; exact ⟨_, _, _, rfl, rfl, Or.inl ⟨rfl, rfl⟩⟩
  have qb : 1 ≤ b ∧ b ≤ 8 := by omega
  rw [if_pos qb, if_neg (by decide), if_neg (by decide), side_x c1 c2, cal_at, I c c1 c2, cal_at]
  by_cases qc' : ¬ (1 ≤ c ∧ c ≤ 8)
  · rw [if_neg qc', if_pos (by decide), if_pos (by decide)]; exact ⟨_, _, _, rfl, rfl, Or.inl ⟨rfl, rfl⟩⟩
  have qc : 1 ≤ c ∧ c ≤ 8 := by omega
  rw [if_pos qc, if_neg (by decide), if_neg (by decide)]
  obtain ⟨w, rfl⟩ : ∃ z : Nat, a = z := ⟨a.toNat, by omega⟩
  obtain ⟨h, rfl⟩ : ∃ z : Nat, b = z := ⟨b.toNat, by omega⟩
  obtain ⟨d, rfl⟩ : ∃ z : Nat, c = z := ⟨c.toNat, by omega⟩
  have hd : dOk w h d := by omega
  -- the text
  have ok : tpOk n (fun i => (τ.2 0 i).toInt) := ⟨n4, fun i hi => by
    obtain ⟨z, e, z1, z2⟩ := (t3 i hi).2
    show 0 ≤ (τ.2 0 i).toInt ∧ (τ.2 0 i).toInt < 256
    rw [e, iI_toInt (by omega) (by omega)]; exact ⟨z1, z2⟩⟩
  obtain ⟨t, tdef⟩ : ∃ t : Nat → Int, t = fun i => (τ.2 0 i).toInt := ⟨_, rfl⟩
  rw [← tdef] at ok
  have tX : tpX n t σ := ⟨t1, fun i hi => by rw [(t3 i hi).1, tdef]; exact iI_of _⟩
  -- the class begins
  obtain ⟨σ0, F1, F2, F3⟩ := fill_z (N := N) (a := 4) (n := 1000) (by omega) (by omega) 0 (va_up (va_up (va_up σ.1 7 (iI w)) 8 (iI h)) 9 (iI d), σ.2)
  have DB : draft_begin N (iI w) (iI h) (iI d) σ = some (0, σ0) := by
    unfold draft_begin
    rw [put_at, put_at, put_at, F1, cal_at]
  have rb := f_draft_begin DB
  have gX0 : gX w h d (fun _ => false) (va_up (va_up (va_up σ0.1 1 0) 2 0) 3 (-1), σ0.2) := ⟨by
    show σ0.1 7 = _
    rw [F3.1 7 (by decide)]; rfl, by
    show σ0.1 8 = _
    rw [F3.1 8 (by decide)]; rfl, by
    show σ0.1 9 = _
    rw [F3.1 9 (by decide)]; rfl, fun i hi => F2 i hi⟩
  have tX00 := tpX_fr tX rb (by decide) (by decide)
  have tX0 : tpX n t (va_up (va_up (va_up σ0.1 1 0) 2 0) 3 (-1), σ0.2) := tX00
  obtain ⟨b0, hs⟩ := Sk_ex (n := n) (t := t) n 0 (by omega) (by omega)
  obtain ⟨σ1, s1, s2, s3⟩ := skip_X (N := N) (a := 0) (by omega) ok hs tX0 rfl
  -- the reference begins
  obtain ⟨τ1, Z1, Z2, Z3, Z4⟩ := z84 (N := N) (by omega) (iI w) (iI h) (iI d) (m_ini τ n (iI w) (iI h) (iI d))
  have tM1 : tpM n t τ1 := ⟨by rw [Z2]; rfl, fun i hi => by rw [Z4 0 (by omega), tdef]; exact iI_of _⟩
  have gM1 : gM w h d (fun _ => false) τ1 := ⟨by rw [Z2]; rfl, by rw [Z2]; rfl, by rw [Z2]; rfl, fun i hi => Z3 _ (by omega)⟩
  have wd1 : wds τ1 := fun k hk => by
    rw [Z4 (k + 1) (by omega)]; exact hw k hk
  obtain ⟨r, σ2, τ2, T1, T2, T3⟩ := text_xm (N := N) (by omega) ok hd (n + 1) 0 b0 0 (fun _ => false) σ1 τ1 N N (by omega) (by omega) (by omega) (by omega) (by omega) hs (tpX_fr tX0 s3 (by decide) (by decide)) (gX_fr gX0 s3 (by decide) (by decide)) tM1 gM1 wd1 s2 (by rw [s3.1 2 (by decide)]; rfl) (by rw [s3.1 3 (by decide)]; rfl) (by rw [Z2]; rfl) (by rw [Z2]; rfl) (by rw [Z2]; rfl) ⟨-1, by rw [Z2]; rfl, by omega, by omega⟩ (fun i z => by cases z)
  have RO : reader_readOnto N σ0 = some (r, σ2) := by
    unfold reader_readOnto
    rw [put_at, put_at, put_at, s1, cal_at]; exact T1
  have ro := f_reader_readOnto RO
  have T2 : m_reads N τ1 = some (0, τ2) := T2
  have rm := f_m_reads T2
  have l2 : σ2.1 0 = iI n := by rw [ro.1 0 (by decide), rb.1 0 (by decide)]; exact t1
  have KF : tape_keepFirst N (0 : Int32) σ2 = some (iI 1, (va_up σ2.1 0 (iI 0), σ2.2)) := by
    have := keep_x (N := N) (a := 0) n4 l2 (by omega) (by omega)
    rw [if_pos (by omega)] at this
    exact this
  have MI : put τ 1 (0 : Int32) (fun σ7 => put σ7 4 (-1 : Int32) fun σ8 => put σ8 2 (σ8.1 0) fun σ9 => put σ9 0 (0 : Int32) fun σ10 => put σ10 5 (0 : Int32) fun σ11 => put σ11 6 (-1 : Int32) fun σ12 => put σ12 9 (iI w) fun σ13 => put σ13 10 (iI h) fun σ14 => put σ14 11 (iI d) fun σ15 => m_form_b84 N N (iI w) (iI h) (iI d) (0 : Int32) σ15) = mEn N (iI w) (iI h) (iI d) τ1 := by
    simp only [put_at]
    rw [show (va_up (va_up τ.1 1 0) 4 (-1)) 0 = iI n from t2]
    exact Z1
  rw [DB, cal_at, RO, cal_at, KF, cal_at]
  have rt : ∀ (σ' τ' : xS), σ'.1 0 = iI 0 → τ'.1 0 = iI 0 → Rtape σ' τ' := fun σ' τ' e1 e2 => ⟨0, by omega, e1, e2, fun i hi => by omega⟩
  have m00 : τ2.1 0 = iI 0 := by rw [rm.1 0 (by decide), Z2]; rfl
  rcases T3 with ⟨r0, fb⟩ | ⟨r1, e2, e3, e5, e6, g, hgX, hgM, hin⟩
  · -- a fault
    have nz := (Fb_x fb).2
    obtain ⟨k, p, hk, x1, x2, x3, x4⟩ := fb
    rw [r0, if_pos rfl]
    have MF : mEn N (iI w) (iI h) (iI d) τ1 = some (-1, (va_up (va_up τ2.1 7 (τ2.1 5)) 8 (τ2.1 6), τ2.2)) := by
      unfold mEn
      rw [T2, cal_at, put_at, put_at]
      have : ¬ (va_up (va_up τ2.1 7 (τ2.1 5)) 8 ((va_up τ2.1 7 (τ2.1 5)) 6), τ2.2).1 5 = (0 : Int32) := nz
      rw [if_neg this]; rfl
    refine ⟨-1, _, _, rfl, MI.trans MF, Or.inr (Or.inl ⟨rt _ _ rfl m00, ⟨?_, ?_⟩, ?_, ?_⟩)⟩
    · show σ2.1 2 = τ2.1 5
      rw [x1, x3]
    · show σ2.1 3 = τ2.1 6
      rw [x2, x4]
    · refine fr_trans (fr_mono rb (by decide) (by decide)) (fr_trans (fr_mono ro (by decide) (by decide)) ⟨fun k hk => va_up_n _ _ (fun z => hk (by rw [z]; decide)), fun _ _ => rfl⟩)
    · have q1 : fr [0, 1, 2, 3, 4, 5, 6, 7, 8, 9, 10, 11] [5, 6, 7] τ τ1 := by
        refine ⟨fun k hk => ?_, fun a ha => Z4 a (fun z => ha (by rw [z]; decide))⟩
        rw [Z2]
        show va_up _ 11 _ k = _
        rw [va_up_n _ _ (fun z => hk (by rw [z]; decide)), va_up_n _ _ (fun z => hk (by rw [z]; decide)), va_up_n _ _ (fun z => hk (by rw [z]; decide)), va_up_n _ _ (fun z => hk (by rw [z]; decide)), va_up_n _ _ (fun z => hk (by rw [z]; decide)), va_up_n _ _ (fun z => hk (by rw [z]; decide)), va_up_n _ _ (fun z => hk (by rw [z]; decide)), va_up_n _ _ (fun z => hk (by rw [z]; decide)), va_up_n _ _ (fun z => hk (by rw [z]; decide))]
      refine fr_trans q1 (fr_trans (fr_mono rm (by decide) (by decide)) ⟨fun k hk => ?_, fun _ _ => rfl⟩)
      show va_up _ 8 _ k = _
      rw [va_up_n _ _ (fun z => hk (by rw [z]; decide)), va_up_n _ _ (fun z => hk (by rw [z]; decide))]
  · -- a form
    rw [r1, if_neg (by decide)]
    have CF : ∃ σ3 : xS, cells_copyFrom N (va_up σ2.1 0 (iI 0), σ2.2) = some (0, σ3) ∧ dX w h d g σ3 := by
      unfold cells_copyFrom cpy
      simp only [put_at]
      refine ⟨_, rfl, hgX.1, hgX.2.1, hgX.2.2.1, fun i hi => ?_⟩
      show va_cpy (σ2.2 4) (σ2.2 2) 0 0 1000 i = _
      rw [va_cp hi]; exact hgX.2.2.2 i hi
    obtain ⟨σ3, C1, C2⟩ := CF
    have rc := f_cells_copyFrom C1
    obtain ⟨σ4, K1, K2⟩ := make_x (N := N) (by omega) hd C2
    have rk4 := f_mould_makeAnew K1
    have DF : drawing_forget N σ4 = some (0, (va_up (va_up σ4.1 14 0) 11 0, σ4.2)) := by
      unfold drawing_forget pieces_clear
      rw [put_at, put_at, cal_at]
    have fx5 : fX w h d g (va_up (va_up σ4.1 14 0) 11 0, σ4.2) := K2
    have CS := cnt_x (N := N) (by omega) fx5.1
    rw [C1, cal_at, K1, cal_at, DF, cal_at, CS, cal_at]
    have gM2 : gM w h d g (va_up (va_up (va_up (va_up (va_up (va_up (va_up τ2.1 7 (τ2.1 5)) 8 (τ2.1 6)) 12 1) 16 0) 13 (iI w)) 14 (iI h)) 15 (iI d), τ2.2) := hgM
    obtain ⟨τ3, P1, P2, P3, P4⟩ := tak_m (N := N) (by omega) hd hin ⟨rfl, rfl, rfl, rfl⟩ gM2
    have P1 : m_form_b166 N N (iI w) (iI h) (iI d) 0 0 (va_up (va_up (va_up (va_up (va_up (va_up (va_up τ2.1 7 (τ2.1 5)) 8 (τ2.1 6)) 12 1) 16 0) 13 (iI w)) 14 (iI h)) 15 (iI d), τ2.2) = _ := P1
    obtain ⟨τ4, Q1, Q2, Q3⟩ := wys_m (N := N) (by omega) hd (iI (rk g 1000 : Nat)) P2 P3
    have MG : mEn N (iI w) (iI h) (iI d) τ1 = some (iI (rk g 1000 : Nat), τ4) := by
      unfold mEn
      rw [T2, cal_at, put_at, put_at]
      have : (va_up (va_up τ2.1 7 (τ2.1 5)) 8 ((va_up τ2.1 7 (τ2.1 5)) 6), τ2.2).1 5 = (0 : Int32) := e5
      rw [if_pos this]
      simp only [put_at]
      exact P1.trans Q1
    refine ⟨_, _, _, rfl, MI.trans MG, Or.inr (Or.inr ⟨rt _ _ ?_ ?_, ⟨?_, ?_⟩, Or.inr ⟨w, h, d, g, hd, fx5, Q2, hin⟩, rfl, rfl, ?_⟩)⟩
    · show σ4.1 0 = _
      rw [rk4.1 0 (by decide), rc.1 0 (by decide)]; rfl
    · rw [Q3, P4]; exact m00
    · show σ4.1 2 = _
      rw [Q3, P4, rk4.1 2 (by decide), rc.1 2 (by decide)]
      show σ2.1 2 = τ2.1 5
      rw [e2, e5]
    · show σ4.1 3 = _
      rw [Q3, P4, rk4.1 3 (by decide), rc.1 3 (by decide)]
      show σ2.1 3 = τ2.1 6
      rw [e3, e6]
    · rw [Q3, P4]; rfl
