/-- every call keeps the relation, and answers alike -/
def simAt (N : Nat) (R : xS → xS → Prop) (j : Nat) : Prop := match j with
  | 0 => ∀ (a0 a1 a2 a3 a4 : Int32) (σX σM : xS), R σX σM → ∃ (r : Int32) (σX' σM' : xS), cw_feed N a0 a1 a2 a3 a4 σX = some (r, σX') ∧ m_feed N a0 a1 a2 a3 a4 σM = some (r, σM') ∧ R σX' σM'
  | 1 => ∀ (a0 : Int32) (σX σM : xS), R σX σM → ∃ (r : Int32) (σX' σM' : xS), cw_end N a0 σX = some (r, σX') ∧ m_end N a0 σM = some (r, σM') ∧ R σX' σM'
  | 2 => ∀ (a0 a1 a2 : Int32) (σX σM : xS), R σX σM → ∃ (r : Int32) (σX' σM' : xS), cw_form N a0 a1 a2 σX = some (r, σX') ∧ m_form N a0 a1 a2 σM = some (r, σM') ∧ R σX' σM'
  | 3 => ∀ (a0 : Int32) (σX σM : xS), R σX σM → ∃ (r : Int32) (σX' σM' : xS), cw_fault N a0 σX = some (r, σX') ∧ m_fault N a0 σM = some (r, σM') ∧ R σX' σM'
  | 4 => ∀ (a0 a1 a2 : Int32) (σX σM : xS), R σX σM → ∃ (r : Int32) (σX' σM' : xS), cw_solid N a0 a1 a2 σX = some (r, σX') ∧ m_solid N a0 a1 a2 σM = some (r, σM') ∧ R σX' σM'
  | 5 => ∀ (a0 a1 a2 : Int32) (σX σM : xS), R σX σM → ∃ (r : Int32) (σX' σM' : xS), cw_free N a0 a1 a2 σX = some (r, σX') ∧ m_free N a0 a1 a2 σM = some (r, σM') ∧ R σX' σM'
  | 6 => ∀ (σX σM : xS), R σX σM → ∃ (r : Int32) (σX' σM' : xS), cw_shut N  σX = some (r, σX') ∧ m_shut N  σM = some (r, σM') ∧ R σX' σM'
  | 7 => ∀ (σX σM : xS), R σX σM → ∃ (r : Int32) (σX' σM' : xS), cw_draw N  σX = some (r, σX') ∧ m_draw N  σM = some (r, σM') ∧ R σX' σM'
  | 8 => ∀ (a0 : Int32) (σX σM : xS), R σX σM → ∃ (r : Int32) (σX' σM' : xS), cw_way N a0 σX = some (r, σX') ∧ m_way N a0 σM = some (r, σM') ∧ R σX' σM'
  | 9 => ∀ (a0 a1 a2 : Int32) (σX σM : xS), R σX σM → ∃ (r : Int32) (σX' σM' : xS), cw_pieceAt N a0 a1 a2 σX = some (r, σX') ∧ m_pieceAt N a0 a1 a2 σM = some (r, σM') ∧ R σX' σM'
  | 10 => ∀ (a0 a1 : Int32) (σX σM : xS), R σX σM → ∃ (r : Int32) (σX' σM' : xS), cw_piece N a0 a1 σX = some (r, σX') ∧ m_piece N a0 a1 σM = some (r, σM') ∧ R σX' σM'
  | 11 => ∀ (a0 a1 : Int32) (σX σM : xS), R σX σM → ∃ (r : Int32) (σX' σM' : xS), cw_wear N a0 a1 σX = some (r, σX') ∧ m_wear N a0 a1 σM = some (r, σM') ∧ R σX' σM'
  | 12 => ∀ (a0 : Int32) (σX σM : xS), R σX σM → ∃ (r : Int32) (σX' σM' : xS), cw_pour N a0 σX = some (r, σX') ∧ m_pour N a0 σM = some (r, σM') ∧ R σX' σM'
  | 13 => ∀ (a0 : Int32) (σX σM : xS), R σX σM → ∃ (r : Int32) (σX' σM' : xS), cw_mend N a0 σX = some (r, σX') ∧ m_mend N a0 σM = some (r, σM') ∧ R σX' σM'
  | 14 => ∀ (a0 : Int32) (σX σM : xS), R σX σM → ∃ (r : Int32) (σX' σM' : xS), cw_run N a0 σX = some (r, σX') ∧ m_run N a0 σM = some (r, σM') ∧ R σX' σM'
  | 15 => ∀ (a0 : Int32) (σX σM : xS), R σX σM → ∃ (r : Int32) (σX' σM' : xS), cw_dry N a0 σX = some (r, σX') ∧ m_dry N a0 σM = some (r, σM') ∧ R σX' σM'
  | 16 => ∀ (a0 a1 a2 : Int32) (σX σM : xS), R σX σM → ∃ (r : Int32) (σX' σM' : xS), cw_order N a0 a1 a2 σX = some (r, σX') ∧ m_order N a0 a1 a2 σM = some (r, σM') ∧ R σX' σM'
  | 17 => ∀ (a0 : Int32) (σX σM : xS), R σX σM → ∃ (r : Int32) (σX' σM' : xS), cw_cancel N a0 σX = some (r, σX') ∧ m_cancel N a0 σM = some (r, σM') ∧ R σX' σM'
  | 18 => ∀ (σX σM : xS), R σX σM → ∃ (r : Int32) (σX' σM' : xS), cw_row N  σX = some (r, σX') ∧ m_row N  σM = some (r, σM') ∧ R σX' σM'
  | 19 => ∀ (a0 : Int32) (σX σM : xS), R σX σM → ∃ (r : Int32) (σX' σM' : xS), cw_next N a0 σX = some (r, σX') ∧ m_next_ N a0 σM = some (r, σM') ∧ R σX' σM'
  | 20 => ∀ (a0 : Int32) (σX σM : xS), R σX σM → ∃ (r : Int32) (σX' σM' : xS), cw_late N a0 σX = some (r, σX') ∧ m_late N a0 σM = some (r, σM') ∧ R σX' σM'
  | 21 => ∀ (a0 a1 a2 : Int32) (σX σM : xS), R σX σM → ∃ (r : Int32) (σX' σM' : xS), cw_cast N a0 a1 a2 σX = some (r, σX') ∧ m_cast N a0 a1 a2 σM = some (r, σM') ∧ R σX' σM'
  | 22 => ∀ (a0 a1 a2 : Int32) (σX σM : xS), R σX σM → ∃ (r : Int32) (σX' σM' : xS), cw_copies N a0 a1 a2 σX = some (r, σX') ∧ m_copies N a0 a1 a2 σM = some (r, σM') ∧ R σX' σM'
  | 23 => ∀ (a0 : Int32) (σX σM : xS), R σX σM → ∃ (r : Int32) (σX' σM' : xS), cw_mother N a0 σX = some (r, σX') ∧ m_mother N a0 σM = some (r, σM') ∧ R σX' σM'
  | 24 => ∀ (a0 : Int32) (σX σM : xS), R σX σM → ∃ (r : Int32) (σX' σM' : xS), cw_steps N a0 σX = some (r, σX') ∧ m_steps N a0 σM = some (r, σM') ∧ R σX' σM'
  | 25 => ∀ (a0 : Int32) (σX σM : xS), R σX σM → ∃ (r : Int32) (σX' σM' : xS), cw_told N a0 σX = some (r, σX') ∧ m_told N a0 σM = some (r, σM') ∧ R σX' σM'
  | _ => True
def simOk (N : Nat) (R : xS → xS → Prop) : Prop := ∀ j : Nat, simAt N R j
set_option maxRecDepth 100000 in
set_option maxHeartbeats 4000000 in
theorem law_step {C : xT} {EX : xE} {EM : mE} {b L : Nat} {xs : Nat → Int32} {Q : State → Prop} {σX σM : xS} {x3 : Int32} {N : Nat} {R : xS → xS → Prop} (hC : zc C EX EM b L xs) (hs : simOk N R) (hR : R σX σM) (i0 : vp_in x3 L) (i1 : vp_in (x3 + 1) L) (i2 : vp_in (x3 + 2) L) (i3 : vp_in (x3 + 3) L) (i4 : vp_in (x3 + 4) L) (i5 : vp_in (x3 + 5) L) (k : ∀ σX' σM' : xS, R σX' σM' → zw C EX EM Q σX' σM' 920 [(0, .ref b), (1, .ref (EX.2.2.1 0)), (2, .ref (EM.2.2.1 0)), (3, .int x3)] []) : zw C EX EM Q σX σM 27 [(0, .ref b), (1, .ref (EX.2.2.1 0)), (2, .ref (EM.2.2.1 0)), (3, .int x3)] [] := by
  refine zr_aload_n (pc' := 28) 0 hC dL_law_27 rfl rfl rfl ?_
  refine zr_iload_n (pc' := 29) 3 hC dL_law_28 rfl rfl rfl ?_
  refine zr_sld (pc' := 30) hC dL_law_29 rfl i0 ?_
  refine zr_bipush (pc' := 32) 31 hC dL_law_30 rfl (by decide) ?_
  refine zr_iand (pc' := 33) hC dL_law_32 rfl ?_
  generalize xs x3.toNatClampNeg &&& 31 = v
  by_cases e0 : v = 0
  · refine zr_tableIn (off := 119) 152 hC dL_law_33 (by rw [e0]; decide) (by rw [e0]; decide) (by rw [e0]; rfl) (by decide) ?_
    obtain ⟨r, σX1, σM1, g1, g2, g3⟩ := (show simAt N R 0 from hs 0) (xs (x3 + 1).toNatClampNeg) (xs (x3 + 2).toNatClampNeg) (xs (x3 + 3).toNatClampNeg) (xs (x3 + 4).toNatClampNeg) (xs (x3 + 5).toNatClampNeg) σX σM hR
    exact law_c0 hC i1 i2 i3 i4 i5 g1 g2 (k σX1 σM1 g3)
  by_cases e1 : v = 1
  · refine zr_tableIn (off := 182) 215 hC dL_law_33 (by rw [e1]; decide) (by rw [e1]; decide) (by rw [e1]; rfl) (by decide) ?_
    obtain ⟨r, σX1, σM1, g1, g2, g3⟩ := (show simAt N R 1 from hs 1) (xs (x3 + 1).toNatClampNeg) σX σM hR
    exact law_c1 hC i1 g1 g2 (k σX1 σM1 g3)
  by_cases e2 : v = 2
  · refine zr_tableIn (off := 205) 238 hC dL_law_33 (by rw [e2]; decide) (by rw [e2]; decide) (by rw [e2]; rfl) (by decide) ?_
    obtain ⟨r, σX1, σM1, g1, g2, g3⟩ := (show simAt N R 2 from hs 2) (xs (x3 + 1).toNatClampNeg) (xs (x3 + 2).toNatClampNeg) (xs (x3 + 3).toNatClampNeg) σX σM hR
    exact law_c2 hC i1 i2 i3 g1 g2 (k σX1 σM1 g3)
  by_cases e3 : v = 3
  · refine zr_tableIn (off := 248) 281 hC dL_law_33 (by rw [e3]; decide) (by rw [e3]; decide) (by rw [e3]; rfl) (by decide) ?_
    obtain ⟨r, σX1, σM1, g1, g2, g3⟩ := (show simAt N R 3 from hs 3) (xs (x3 + 1).toNatClampNeg) σX σM hR
    exact law_c3 hC i1 g1 g2 (k σX1 σM1 g3)
  by_cases e4 : v = 4
  · refine zr_tableIn (off := 271) 304 hC dL_law_33 (by rw [e4]; decide) (by rw [e4]; decide) (by rw [e4]; rfl) (by decide) ?_
    obtain ⟨r, σX1, σM1, g1, g2, g3⟩ := (show simAt N R 4 from hs 4) (xs (x3 + 1).toNatClampNeg) (xs (x3 + 2).toNatClampNeg) (xs (x3 + 3).toNatClampNeg) σX σM hR
    exact law_c4 hC i1 i2 i3 g1 g2 (k σX1 σM1 g3)
  by_cases e5 : v = 5
  · refine zr_tableIn (off := 314) 347 hC dL_law_33 (by rw [e5]; decide) (by rw [e5]; decide) (by rw [e5]; rfl) (by decide) ?_
    obtain ⟨r, σX1, σM1, g1, g2, g3⟩ := (show simAt N R 5 from hs 5) (xs (x3 + 1).toNatClampNeg) (xs (x3 + 2).toNatClampNeg) (xs (x3 + 3).toNatClampNeg) σX σM hR
    exact law_c5 hC i1 i2 i3 g1 g2 (k σX1 σM1 g3)
  by_cases e6 : v = 6
  · refine zr_tableIn (off := 357) 390 hC dL_law_33 (by rw [e6]; decide) (by rw [e6]; decide) (by rw [e6]; rfl) (by decide) ?_
    obtain ⟨r, σX1, σM1, g1, g2, g3⟩ := (show simAt N R 6 from hs 6) σX σM hR
    exact law_c6 hC g1 g2 (k σX1 σM1 g3)
  by_cases e7 : v = 7
  · refine zr_tableIn (off := 370) 403 hC dL_law_33 (by rw [e7]; decide) (by rw [e7]; decide) (by rw [e7]; rfl) (by decide) ?_
    obtain ⟨r, σX1, σM1, g1, g2, g3⟩ := (show simAt N R 7 from hs 7) σX σM hR
    exact law_c7 hC g1 g2 (k σX1 σM1 g3)
  by_cases e8 : v = 8
  · refine zr_tableIn (off := 383) 416 hC dL_law_33 (by rw [e8]; decide) (by rw [e8]; decide) (by rw [e8]; rfl) (by decide) ?_
    obtain ⟨r, σX1, σM1, g1, g2, g3⟩ := (show simAt N R 8 from hs 8) (xs (x3 + 1).toNatClampNeg) σX σM hR
    exact law_c8 hC i1 g1 g2 (k σX1 σM1 g3)
  by_cases e9 : v = 9
  · refine zr_tableIn (off := 406) 439 hC dL_law_33 (by rw [e9]; decide) (by rw [e9]; decide) (by rw [e9]; rfl) (by decide) ?_
    obtain ⟨r, σX1, σM1, g1, g2, g3⟩ := (show simAt N R 9 from hs 9) (xs (x3 + 1).toNatClampNeg) (xs (x3 + 2).toNatClampNeg) (xs (x3 + 3).toNatClampNeg) σX σM hR
    exact law_c9 hC i1 i2 i3 g1 g2 (k σX1 σM1 g3)
  by_cases e10 : v = 10
  · refine zr_tableIn (off := 449) 482 hC dL_law_33 (by rw [e10]; decide) (by rw [e10]; decide) (by rw [e10]; rfl) (by decide) ?_
    obtain ⟨r, σX1, σM1, g1, g2, g3⟩ := (show simAt N R 10 from hs 10) (xs (x3 + 1).toNatClampNeg) (xs (x3 + 2).toNatClampNeg) σX σM hR
    exact law_c10 hC i1 i2 g1 g2 (k σX1 σM1 g3)
  by_cases e11 : v = 11
  · refine zr_tableIn (off := 482) 515 hC dL_law_33 (by rw [e11]; decide) (by rw [e11]; decide) (by rw [e11]; rfl) (by decide) ?_
    obtain ⟨r, σX1, σM1, g1, g2, g3⟩ := (show simAt N R 11 from hs 11) (xs (x3 + 1).toNatClampNeg) (xs (x3 + 2).toNatClampNeg) σX σM hR
    exact law_c11 hC i1 i2 g1 g2 (k σX1 σM1 g3)
  by_cases e12 : v = 12
  · refine zr_tableIn (off := 515) 548 hC dL_law_33 (by rw [e12]; decide) (by rw [e12]; decide) (by rw [e12]; rfl) (by decide) ?_
    obtain ⟨r, σX1, σM1, g1, g2, g3⟩ := (show simAt N R 12 from hs 12) (xs (x3 + 1).toNatClampNeg) σX σM hR
    exact law_c12 hC i1 g1 g2 (k σX1 σM1 g3)
  by_cases e13 : v = 13
  · refine zr_tableIn (off := 538) 571 hC dL_law_33 (by rw [e13]; decide) (by rw [e13]; decide) (by rw [e13]; rfl) (by decide) ?_
    obtain ⟨r, σX1, σM1, g1, g2, g3⟩ := (show simAt N R 13 from hs 13) (xs (x3 + 1).toNatClampNeg) σX σM hR
    exact law_c13 hC i1 g1 g2 (k σX1 σM1 g3)
  by_cases e14 : v = 14
  · refine zr_tableIn (off := 561) 594 hC dL_law_33 (by rw [e14]; decide) (by rw [e14]; decide) (by rw [e14]; rfl) (by decide) ?_
    obtain ⟨r, σX1, σM1, g1, g2, g3⟩ := (show simAt N R 14 from hs 14) (xs (x3 + 1).toNatClampNeg) σX σM hR
    exact law_c14 hC i1 g1 g2 (k σX1 σM1 g3)
  by_cases e15 : v = 15
  · refine zr_tableIn (off := 584) 617 hC dL_law_33 (by rw [e15]; decide) (by rw [e15]; decide) (by rw [e15]; rfl) (by decide) ?_
    obtain ⟨r, σX1, σM1, g1, g2, g3⟩ := (show simAt N R 15 from hs 15) (xs (x3 + 1).toNatClampNeg) σX σM hR
    exact law_c15 hC i1 g1 g2 (k σX1 σM1 g3)
  by_cases e16 : v = 16
  · refine zr_tableIn (off := 607) 640 hC dL_law_33 (by rw [e16]; decide) (by rw [e16]; decide) (by rw [e16]; rfl) (by decide) ?_
    obtain ⟨r, σX1, σM1, g1, g2, g3⟩ := (show simAt N R 16 from hs 16) (xs (x3 + 1).toNatClampNeg) (xs (x3 + 2).toNatClampNeg) (xs (x3 + 3).toNatClampNeg) σX σM hR
    exact law_c16 hC i1 i2 i3 g1 g2 (k σX1 σM1 g3)
  by_cases e17 : v = 17
  · refine zr_tableIn (off := 650) 683 hC dL_law_33 (by rw [e17]; decide) (by rw [e17]; decide) (by rw [e17]; rfl) (by decide) ?_
    obtain ⟨r, σX1, σM1, g1, g2, g3⟩ := (show simAt N R 17 from hs 17) (xs (x3 + 1).toNatClampNeg) σX σM hR
    exact law_c17 hC i1 g1 g2 (k σX1 σM1 g3)
  by_cases e18 : v = 18
  · refine zr_tableIn (off := 673) 706 hC dL_law_33 (by rw [e18]; decide) (by rw [e18]; decide) (by rw [e18]; rfl) (by decide) ?_
    obtain ⟨r, σX1, σM1, g1, g2, g3⟩ := (show simAt N R 18 from hs 18) σX σM hR
    exact law_c18 hC g1 g2 (k σX1 σM1 g3)
  by_cases e19 : v = 19
  · refine zr_tableIn (off := 686) 719 hC dL_law_33 (by rw [e19]; decide) (by rw [e19]; decide) (by rw [e19]; rfl) (by decide) ?_
    obtain ⟨r, σX1, σM1, g1, g2, g3⟩ := (show simAt N R 19 from hs 19) (xs (x3 + 1).toNatClampNeg) σX σM hR
    exact law_c19 hC i1 g1 g2 (k σX1 σM1 g3)
  by_cases e20 : v = 20
  · refine zr_tableIn (off := 709) 742 hC dL_law_33 (by rw [e20]; decide) (by rw [e20]; decide) (by rw [e20]; rfl) (by decide) ?_
    obtain ⟨r, σX1, σM1, g1, g2, g3⟩ := (show simAt N R 20 from hs 20) (xs (x3 + 1).toNatClampNeg) σX σM hR
    exact law_c20 hC i1 g1 g2 (k σX1 σM1 g3)
  by_cases e21 : v = 21
  · refine zr_tableIn (off := 732) 765 hC dL_law_33 (by rw [e21]; decide) (by rw [e21]; decide) (by rw [e21]; rfl) (by decide) ?_
    obtain ⟨r, σX1, σM1, g1, g2, g3⟩ := (show simAt N R 21 from hs 21) (xs (x3 + 1).toNatClampNeg) (xs (x3 + 2).toNatClampNeg) (xs (x3 + 3).toNatClampNeg) σX σM hR
    exact law_c21 hC i1 i2 i3 g1 g2 (k σX1 σM1 g3)
  by_cases e22 : v = 22
  · refine zr_tableIn (off := 775) 808 hC dL_law_33 (by rw [e22]; decide) (by rw [e22]; decide) (by rw [e22]; rfl) (by decide) ?_
    obtain ⟨r, σX1, σM1, g1, g2, g3⟩ := (show simAt N R 22 from hs 22) (xs (x3 + 1).toNatClampNeg) (xs (x3 + 2).toNatClampNeg) (xs (x3 + 3).toNatClampNeg) σX σM hR
    exact law_c22 hC i1 i2 i3 g1 g2 (k σX1 σM1 g3)
  by_cases e23 : v = 23
  · refine zr_tableIn (off := 818) 851 hC dL_law_33 (by rw [e23]; decide) (by rw [e23]; decide) (by rw [e23]; rfl) (by decide) ?_
    obtain ⟨r, σX1, σM1, g1, g2, g3⟩ := (show simAt N R 23 from hs 23) (xs (x3 + 1).toNatClampNeg) σX σM hR
    exact law_c23 hC i1 g1 g2 (k σX1 σM1 g3)
  by_cases e24 : v = 24
  · refine zr_tableIn (off := 841) 874 hC dL_law_33 (by rw [e24]; decide) (by rw [e24]; decide) (by rw [e24]; rfl) (by decide) ?_
    obtain ⟨r, σX1, σM1, g1, g2, g3⟩ := (show simAt N R 24 from hs 24) (xs (x3 + 1).toNatClampNeg) σX σM hR
    exact law_c24 hC i1 g1 g2 (k σX1 σM1 g3)
  by_cases e25 : v = 25
  · refine zr_tableIn (off := 864) 897 hC dL_law_33 (by rw [e25]; decide) (by rw [e25]; decide) (by rw [e25]; rfl) (by decide) ?_
    obtain ⟨r, σX1, σM1, g1, g2, g3⟩ := (show simAt N R 25 from hs 25) (xs (x3 + 1).toNatClampNeg) σX σM hR
    exact law_c25 hC i1 g1 g2 (k σX1 σM1 g3)
  refine zr_tableOut 920 hC dL_law_33 (by have f0 := i32_ne e0 (show (0 : Int32).toInt = 0 by decide); have f1 := i32_ne e1 (show (1 : Int32).toInt = 1 by decide); have f2 := i32_ne e2 (show (2 : Int32).toInt = 2 by decide); have f3 := i32_ne e3 (show (3 : Int32).toInt = 3 by decide); have f4 := i32_ne e4 (show (4 : Int32).toInt = 4 by decide); have f5 := i32_ne e5 (show (5 : Int32).toInt = 5 by decide); have f6 := i32_ne e6 (show (6 : Int32).toInt = 6 by decide); have f7 := i32_ne e7 (show (7 : Int32).toInt = 7 by decide); have f8 := i32_ne e8 (show (8 : Int32).toInt = 8 by decide); have f9 := i32_ne e9 (show (9 : Int32).toInt = 9 by decide); have f10 := i32_ne e10 (show (10 : Int32).toInt = 10 by decide); have f11 := i32_ne e11 (show (11 : Int32).toInt = 11 by decide); have f12 := i32_ne e12 (show (12 : Int32).toInt = 12 by decide); have f13 := i32_ne e13 (show (13 : Int32).toInt = 13 by decide); have f14 := i32_ne e14 (show (14 : Int32).toInt = 14 by decide); have f15 := i32_ne e15 (show (15 : Int32).toInt = 15 by decide); have f16 := i32_ne e16 (show (16 : Int32).toInt = 16 by decide); have f17 := i32_ne e17 (show (17 : Int32).toInt = 17 by decide); have f18 := i32_ne e18 (show (18 : Int32).toInt = 18 by decide); have f19 := i32_ne e19 (show (19 : Int32).toInt = 19 by decide); have f20 := i32_ne e20 (show (20 : Int32).toInt = 20 by decide); have f21 := i32_ne e21 (show (21 : Int32).toInt = 21 by decide); have f22 := i32_ne e22 (show (22 : Int32).toInt = 22 by decide); have f23 := i32_ne e23 (show (23 : Int32).toInt = 23 by decide); have f24 := i32_ne e24 (show (24 : Int32).toInt = 24 by decide); have f25 := i32_ne e25 (show (25 : Int32).toInt = 25 by decide); omega) (by decide) ?_
  exact k σX σM hR
set_option maxRecDepth 100000 in
set_option maxHeartbeats 4000000 in
theorem law_loop {C : xT} {EX : xE} {EM : mE} {b L : Nat} {xs : Nat → Int32} {Q : State → Prop} {N : Nat} {R : xS → xS → Prop} (hL : L ≤ 3072) (hC : zc C EX EM b L xs) (hs : simOk N R) (kend : ∀ (σX σM : xS) (x3 : Int32), zw C EX EM Q σX σM 926 [(0, .ref b), (1, .ref (EX.2.2.1 0)), (2, .ref (EM.2.2.1 0)), (3, .int x3)] []) :
    ∀ (n i : Nat), L < i + n → i ≤ L → ∀ (σX σM : xS), R σX σM → ∀ x3 : Int32, x3 = nI i → zw C EX EM Q σX σM 18 [(0, .ref b), (1, .ref (EX.2.2.1 0)), (2, .ref (EM.2.2.1 0)), (3, .int x3)] [] := by
  intro n
  induction n with
  | zero => intro i h1 h2; exact absurd h1 (by omega)
  | succ n ih =>
    intro i h1 h2 σX σM hR x3 e3
    refine zr_iload_n (pc' := 19) 3 hC dL_law_18 rfl rfl rfl ?_
    refine zr_aload_n (pc' := 20) 0 hC dL_law_19 rfl rfl rfl ?_
    refine zr_slen (pc' := 21) hC dL_law_20 rfl ?_
    refine zr_bipush (pc' := 23) 6 hC dL_law_21 rfl (by decide) ?_
    refine zr_isub (pc' := 24) hC dL_law_23 rfl ?_
    refine zr_icmp_gt (pc' := 27) 926 hC dL_law_24 rfl (by decide) (fun _ => kend σX σM x3) (fun c => ?_)
    have hle : i + 6 ≤ L := by
      have e4 : (Int32.ofNat L - 6).toInt = (L : Int) - 6 := pk_sub_toInt (a := L) (b := 6) (by omega) (by omega)
      have e5 : x3.toInt = (i : Int) := by rw [e3]; exact nI_toInt (by omega)
      have e6 : ¬ (Int32.ofNat L - 6).toInt < x3.toInt := fun h => c (Int32.lt_iff_toInt_lt.mpr h)
      rw [e4, e5] at e6
      omega
    have hin : ∀ j : Nat, j < 6 → vp_in (x3 + nI j) L := fun j hj => by rw [e3, nI_add]; exact vp_in_nI (by omega) (by omega)
    refine law_step hC hs hR (by rw [e3]; exact vp_in_nI (by omega) (by omega)) (hin 1 (by omega)) (hin 2 (by omega)) (hin 3 (by omega)) (hin 4 (by omega)) (hin 5 (by omega)) (fun σX' σM' hR' => ?_)
    refine zr_iinc (pc' := 923) (lv' := [(0, .ref b), (1, .ref (EX.2.2.1 0)), (2, .ref (EM.2.2.1 0)), (3, .int (x3 + 6))]) (x3 + 6) hC dL_law_920 rfl rfl 3 rfl (by decide) [1, 2, 3, 0] rfl ?_
    refine zr_goto 18 hC dL_law_923 (by decide) ?_
    exact ih (i + 6) (by omega) hle σX' σM' hR' (x3 + 6) (by rw [e3]; exact nI_add i 6)
