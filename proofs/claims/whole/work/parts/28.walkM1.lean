set_option maxRecDepth 100000 in
set_option maxHeartbeats 4000000 in
theorem w_m_mirrors_b211 {C : xT} {E : mE} {N : Nat} {r : Int32} {σ' : xS} (hC : xc C (GM E) RX10 cX10_mirrors 5 none (k2_rm 1 22)) (K121 : Int32 → Int32 → xS → Option (Int32 × xS)) (hK121 : ∀ (l1 l2 : Int32) (σ : xS), K121 l1 l2 σ = some (r, σ') → xw C (GM E) 5 (xq C (GM E) none σ') σ 121 [(0, .ref (E.2.2.1 0)), (1, .int l1), (2, .int l2)] []) (K131 : Int32 → Int32 → Int32 → xS → Option (Int32 × xS)) (hK131 : ∀ (l1 l2 l3 : Int32) (σ : xS), K131 l1 l2 l3 σ = some (r, σ') → xw C (GM E) 5 (xq C (GM E) none σ') σ 131 [(0, .ref (E.2.2.1 0)), (1, .int l1), (2, .int l2), (3, .int l3)] []) (K142 : Int32 → Int32 → Int32 → Int32 → xS → Option (Int32 × xS)) (hK142 : ∀ (l1 l2 l3 l4 : Int32) (σ : xS), K142 l1 l2 l3 l4 σ = some (r, σ') → xw C (GM E) 5 (xq C (GM E) none σ') σ 142 [(0, .ref (E.2.2.1 0)), (1, .int l1), (2, .int l2), (3, .int l3), (4, .int l4)] []) : ∀ (l1 l2 l3 l4 s1 s2 : Int32) (σ : xS), m_mirrors_b211 N K121 K131 K142 l1 l2 l3 l4 s1 s2 σ = some (r, σ') → xw C (GM E) 5 (xq C (GM E) none σ') σ 211 [(0, .ref (E.2.2.1 0)), (1, .int l1), (2, .int l2), (3, .int l3), (4, .int l4)] [.int s2, .int s1, .ref (E.2.2.1 6)] := by
  intro l1 l2 l3 l4 s1 s2 σ hf
  unfold m_mirrors_b211 at hf
  refine xr_iload_n (pc' := 212) 1 hC dX10_mirrors_211 rfl rfl rfl ?_
  refine xr_bipush (pc' := 214) (122 : Int32) hC dX10_mirrors_212 rfl (by decide) ?_
  refine xr_icmp_ne (pc' := 217) 228 hC dX10_mirrors_214 rfl (by decide) hf (fun hf => ?_) (fun hf => ?_)
  · refine xr_iload_n (pc' := 229) 2 hC dX10_mirrors_228 rfl rfl rfl ?_
    refine xr_callS (pc' := 232) (rmy := k2_rm 0 0) [.int s1, .int s2, .int l2] hC dX10_mirrors_229 rfl kX10_164 rfl rfl rfl ⟨Nat.le_of_ble_eq_true rfl, Nat.le_of_ble_eq_true rfl⟩ rfl (Nat.le_of_ble_eq_true rfl) hf (fun _ _ h => c_m_cell (xc_ok hC) h) (fun v12 σ13 hf => ?_)
    refine xr_iconst (pc' := 233) (1 : Int32) hC dX10_mirrors_232 rfl (by decide) ?_
    refine sM_5 (pc' := 234) hC dX10_mirrors_233 rfl hf (fun σ14 hf => ?_)
    refine xr_iinc (pc' := 237) hC dX10_mirrors_234 rfl _ rfl hf 4 rfl (by decide) [1, 2, 3, 4, 0] (fun l4_15 => [(0, .ref (E.2.2.1 0)), (1, .int l1), (2, .int l2), (3, .int l3), (4, .int l4_15)]) (fun _ => rfl) (fun l4_15 hf => ?_)
    refine xr_goto 142 hC dX10_mirrors_237 (by decide) ?_
    exact hK142 _ _ _ _ _ hf
  refine xr_aload_n (pc' := 218) 0 hC dX10_mirrors_217 rfl rfl rfl ?_
  refine gX10_m_newDeep (pc' := 221) hC dX10_mirrors_218 rfl ?_
  refine xr_iconst (pc' := 222) (1 : Int32) hC dX10_mirrors_221 rfl (by decide) ?_
  refine xr_isub (pc' := 223) hC dX10_mirrors_222 rfl ?_
  refine xr_iload_n (pc' := 224) 2 hC dX10_mirrors_223 rfl rfl rfl ?_
  refine xr_isub (pc' := 225) hC dX10_mirrors_224 rfl ?_
  refine xr_goto 229 hC dX10_mirrors_225 (by decide) ?_
  refine xr_callS (pc' := 232) (rmy := k2_rm 0 0) [.int s1, .int s2, .int (((σ.1 11) - (1 : Int32)) - l2)] hC dX10_mirrors_229 rfl kX10_164 rfl rfl rfl ⟨Nat.le_of_ble_eq_true rfl, Nat.le_of_ble_eq_true rfl⟩ rfl (Nat.le_of_ble_eq_true rfl) hf (fun _ _ h => c_m_cell (xc_ok hC) h) (fun v16 σ17 hf => ?_)
  refine xr_iconst (pc' := 233) (1 : Int32) hC dX10_mirrors_232 rfl (by decide) ?_
  refine sM_5 (pc' := 234) hC dX10_mirrors_233 rfl hf (fun σ18 hf => ?_)
  refine xr_iinc (pc' := 237) hC dX10_mirrors_234 rfl _ rfl hf 4 rfl (by decide) [1, 2, 3, 4, 0] (fun l4_19 => [(0, .ref (E.2.2.1 0)), (1, .int l1), (2, .int l2), (3, .int l3), (4, .int l4_19)]) (fun _ => rfl) (fun l4_19 hf => ?_)
  refine xr_goto 142 hC dX10_mirrors_237 (by decide) ?_
  exact hK142 _ _ _ _ _ hf

set_option maxRecDepth 100000 in
set_option maxHeartbeats 4000000 in
theorem w_m_mirrors_b193 {C : xT} {E : mE} {N : Nat} {r : Int32} {σ' : xS} (hC : xc C (GM E) RX10 cX10_mirrors 5 none (k2_rm 1 22)) (K121 : Int32 → Int32 → xS → Option (Int32 × xS)) (hK121 : ∀ (l1 l2 : Int32) (σ : xS), K121 l1 l2 σ = some (r, σ') → xw C (GM E) 5 (xq C (GM E) none σ') σ 121 [(0, .ref (E.2.2.1 0)), (1, .int l1), (2, .int l2)] []) (K131 : Int32 → Int32 → Int32 → xS → Option (Int32 × xS)) (hK131 : ∀ (l1 l2 l3 : Int32) (σ : xS), K131 l1 l2 l3 σ = some (r, σ') → xw C (GM E) 5 (xq C (GM E) none σ') σ 131 [(0, .ref (E.2.2.1 0)), (1, .int l1), (2, .int l2), (3, .int l3)] []) (K142 : Int32 → Int32 → Int32 → Int32 → xS → Option (Int32 × xS)) (hK142 : ∀ (l1 l2 l3 l4 : Int32) (σ : xS), K142 l1 l2 l3 l4 σ = some (r, σ') → xw C (GM E) 5 (xq C (GM E) none σ') σ 142 [(0, .ref (E.2.2.1 0)), (1, .int l1), (2, .int l2), (3, .int l3), (4, .int l4)] []) : ∀ (l1 l2 l3 l4 s1 : Int32) (σ : xS), m_mirrors_b193 N K121 K131 K142 l1 l2 l3 l4 s1 σ = some (r, σ') → xw C (GM E) 5 (xq C (GM E) none σ') σ 193 [(0, .ref (E.2.2.1 0)), (1, .int l1), (2, .int l2), (3, .int l3), (4, .int l4)] [.int s1, .ref (E.2.2.1 6)] := by
  intro l1 l2 l3 l4 s1 σ hf
  unfold m_mirrors_b193 at hf
  refine xr_iload_n (pc' := 194) 1 hC dX10_mirrors_193 rfl rfl rfl ?_
  refine xr_bipush (pc' := 196) (121 : Int32) hC dX10_mirrors_194 rfl (by decide) ?_
  refine xr_icmp_ne (pc' := 199) 210 hC dX10_mirrors_196 rfl (by decide) hf (fun hf => ?_) (fun hf => ?_)
  · refine xr_iload_n (pc' := 211) 3 hC dX10_mirrors_210 rfl rfl rfl ?_
    exact w_m_mirrors_b211 hC (K121) hK121 (K131) hK131 (K142) hK142 _ _ _ _ _ _ _ hf
  refine xr_aload_n (pc' := 200) 0 hC dX10_mirrors_199 rfl rfl rfl ?_
  refine gX10_m_newHigh (pc' := 203) hC dX10_mirrors_200 rfl ?_
  refine xr_iconst (pc' := 204) (1 : Int32) hC dX10_mirrors_203 rfl (by decide) ?_
  refine xr_isub (pc' := 205) hC dX10_mirrors_204 rfl ?_
  refine xr_iload_n (pc' := 206) 3 hC dX10_mirrors_205 rfl rfl rfl ?_
  refine xr_isub (pc' := 207) hC dX10_mirrors_206 rfl ?_
  refine xr_goto 211 hC dX10_mirrors_207 (by decide) ?_
  exact w_m_mirrors_b211 hC (K121) hK121 (K131) hK131 (K142) hK142 _ _ _ _ _ _ _ hf

set_option maxRecDepth 100000 in
set_option maxHeartbeats 4000000 in
theorem w_m_mirrors_b142 {C : xT} {E : mE} {N : Nat} {r : Int32} {σ' : xS} (hC : xc C (GM E) RX10 cX10_mirrors 5 none (k2_rm 1 22)) (K121 : Int32 → Int32 → xS → Option (Int32 × xS)) (hK121 : ∀ (l1 l2 : Int32) (σ : xS), K121 l1 l2 σ = some (r, σ') → xw C (GM E) 5 (xq C (GM E) none σ') σ 121 [(0, .ref (E.2.2.1 0)), (1, .int l1), (2, .int l2)] []) (K131 : Int32 → Int32 → Int32 → xS → Option (Int32 × xS)) (hK131 : ∀ (l1 l2 l3 : Int32) (σ : xS), K131 l1 l2 l3 σ = some (r, σ') → xw C (GM E) 5 (xq C (GM E) none σ') σ 131 [(0, .ref (E.2.2.1 0)), (1, .int l1), (2, .int l2), (3, .int l3)] []) : ∀ (n : Nat) (l1 l2 l3 l4 : Int32) (σ : xS), m_mirrors_b142 N K121 K131 n l1 l2 l3 l4 σ = some (r, σ') → xw C (GM E) 5 (xq C (GM E) none σ') σ 142 [(0, .ref (E.2.2.1 0)), (1, .int l1), (2, .int l2), (3, .int l3), (4, .int l4)] [] := by
  intro n
  induction n with
  | zero =>
    intro l1 l2 l3 l4 σ hf
    rw [m_mirrors_b142] at hf
    cases hf
  | succ n ih =>
    intro l1 l2 l3 l4 σ hf
    rw [m_mirrors_b142] at hf
    refine xr_iload (pc' := 144) 4 hC dX10_mirrors_142 rfl rfl ?_
    refine xr_aload_n (pc' := 145) 0 hC dX10_mirrors_144 rfl rfl rfl ?_
    refine gX10_m_newWide (pc' := 148) hC dX10_mirrors_145 rfl ?_
    refine xr_icmp_ge (pc' := 151) 240 hC dX10_mirrors_148 rfl (by decide) hf (fun hf => ?_) (fun hf => ?_)
    · refine xr_iinc (pc' := 243) hC dX10_mirrors_240 rfl _ rfl hf 3 rfl (by decide) [1, 2, 3, 0, 4] (fun l3_8 => [(0, .ref (E.2.2.1 0)), (1, .int l1), (2, .int l2), (3, .int l3_8), (4, .int l4)]) (fun _ => rfl) (fun l3_8 hf => ?_)
      refine xr_goto 131 hC dX10_mirrors_243 (by decide) ?_
      refine x_lv [0, 1, 2, 3] rfl ?_
      exact hK131 _ _ _ _ hf
    refine xr_aload_n (pc' := 152) 0 hC dX10_mirrors_151 rfl rfl rfl ?_
    refine gX10_m_other (pc' := 155) hC dX10_mirrors_152 rfl ?_
    refine xr_iload (pc' := 157) 4 hC dX10_mirrors_155 rfl rfl ?_
    refine xr_iload_n (pc' := 158) 3 hC dX10_mirrors_157 rfl rfl rfl ?_
    refine xr_iload_n (pc' := 159) 2 hC dX10_mirrors_158 rfl rfl rfl ?_
    refine xr_callS (pc' := 162) (rmy := k2_rm 0 0) [.int l4, .int l3, .int l2] hC dX10_mirrors_159 rfl kX10_164 rfl rfl rfl ⟨Nat.le_of_ble_eq_true rfl, Nat.le_of_ble_eq_true rfl⟩ rfl (Nat.le_of_ble_eq_true rfl) hf (fun _ _ h => c_m_cell (xc_ok hC) h) (fun v9 σ10 hf => ?_)
    refine lM_6 (pc' := 163) hC dX10_mirrors_162 rfl hf (fun v11 hf => ?_)
    refine xr_if_ne (pc' := 166) 169 hC dX10_mirrors_163 rfl (by decide) hf (fun hf => ?_) (fun hf => ?_)
    · refine xr_aload_n (pc' := 170) 0 hC dX10_mirrors_169 rfl rfl rfl ?_
      refine gX10_m_made (pc' := 173) hC dX10_mirrors_170 rfl ?_
      refine xr_iload_n (pc' := 174) 1 hC dX10_mirrors_173 rfl rfl rfl ?_
      refine xr_bipush (pc' := 176) (120 : Int32) hC dX10_mirrors_174 rfl (by decide) ?_
      refine xr_icmp_ne (pc' := 179) 191 hC dX10_mirrors_176 rfl (by decide) hf (fun hf => ?_) (fun hf => ?_)
      · refine xr_iload (pc' := 193) 4 hC dX10_mirrors_191 rfl rfl ?_
        exact w_m_mirrors_b193 hC (K121) hK121 (K131) hK131 (m_mirrors_b142 N K121 K131 n) ih _ _ _ _ _ _ hf
      refine xr_aload_n (pc' := 180) 0 hC dX10_mirrors_179 rfl rfl rfl ?_
      refine gX10_m_newWide (pc' := 183) hC dX10_mirrors_180 rfl ?_
      refine xr_iconst (pc' := 184) (1 : Int32) hC dX10_mirrors_183 rfl (by decide) ?_
      refine xr_isub (pc' := 185) hC dX10_mirrors_184 rfl ?_
      refine xr_iload (pc' := 187) 4 hC dX10_mirrors_185 rfl rfl ?_
      refine xr_isub (pc' := 188) hC dX10_mirrors_187 rfl ?_
      refine xr_goto 193 hC dX10_mirrors_188 (by decide) ?_
      exact w_m_mirrors_b193 hC (K121) hK121 (K131) hK131 (m_mirrors_b142 N K121 K131 n) ih _ _ _ _ _ _ hf
    refine xr_goto 234 hC dX10_mirrors_166 (by decide) ?_
    refine xr_iinc (pc' := 237) hC dX10_mirrors_234 rfl _ rfl hf 4 rfl (by decide) [1, 2, 3, 4, 0] (fun l4_20 => [(0, .ref (E.2.2.1 0)), (1, .int l1), (2, .int l2), (3, .int l3), (4, .int l4_20)]) (fun _ => rfl) (fun l4_20 hf => ?_)
    refine xr_goto 142 hC dX10_mirrors_237 (by decide) ?_
    exact ih _ _ _ _ _ hf

set_option maxRecDepth 100000 in
set_option maxHeartbeats 4000000 in
theorem w_m_mirrors_b131 {C : xT} {E : mE} {N : Nat} {r : Int32} {σ' : xS} (hC : xc C (GM E) RX10 cX10_mirrors 5 none (k2_rm 1 22)) (K121 : Int32 → Int32 → xS → Option (Int32 × xS)) (hK121 : ∀ (l1 l2 : Int32) (σ : xS), K121 l1 l2 σ = some (r, σ') → xw C (GM E) 5 (xq C (GM E) none σ') σ 121 [(0, .ref (E.2.2.1 0)), (1, .int l1), (2, .int l2)] []) : ∀ (n : Nat) (l1 l2 l3 : Int32) (σ : xS), m_mirrors_b131 N K121 n l1 l2 l3 σ = some (r, σ') → xw C (GM E) 5 (xq C (GM E) none σ') σ 131 [(0, .ref (E.2.2.1 0)), (1, .int l1), (2, .int l2), (3, .int l3)] [] := by
  intro n
  induction n with
  | zero =>
    intro l1 l2 l3 σ hf
    rw [m_mirrors_b131] at hf
    cases hf
  | succ n ih =>
    intro l1 l2 l3 σ hf
    rw [m_mirrors_b131] at hf
    refine xr_iload_n (pc' := 132) 3 hC dX10_mirrors_131 rfl rfl rfl ?_
    refine xr_aload_n (pc' := 133) 0 hC dX10_mirrors_132 rfl rfl rfl ?_
    refine gX10_m_newHigh (pc' := 136) hC dX10_mirrors_133 rfl ?_
    refine xr_icmp_ge (pc' := 139) 246 hC dX10_mirrors_136 rfl (by decide) hf (fun hf => ?_) (fun hf => ?_)
    · refine xr_iinc (pc' := 249) hC dX10_mirrors_246 rfl _ rfl hf 2 rfl (by decide) [1, 2, 0, 3] (fun l2_7 => [(0, .ref (E.2.2.1 0)), (1, .int l1), (2, .int l2_7), (3, .int l3)]) (fun _ => rfl) (fun l2_7 hf => ?_)
      refine xr_goto 121 hC dX10_mirrors_249 (by decide) ?_
      refine x_lv [0, 1, 2] rfl ?_
      exact hK121 _ _ _ hf
    refine xr_iconst (pc' := 140) (0 : Int32) hC dX10_mirrors_139 rfl (by decide) ?_
    refine xr_istore (pc' := 142) (lv' := [(0, .ref (E.2.2.1 0)), (1, .int l1), (2, .int l2), (3, .int l3), (4, .int (0 : Int32))]) hC dX10_mirrors_140 rfl (by decide) [1, 2, 3, 4, 0] rfl ?_
    exact w_m_mirrors_b142 hC (K121) hK121 (m_mirrors_b131 N K121 n) ih N _ _ _ _ _ hf

set_option maxRecDepth 100000 in
set_option maxHeartbeats 4000000 in
theorem w_m_mirrors_b121 {C : xT} {E : mE} {N : Nat} {r : Int32} {σ' : xS} (hC : xc C (GM E) RX10 cX10_mirrors 5 none (k2_rm 1 22)) : ∀ (n : Nat) (l1 l2 : Int32) (σ : xS), m_mirrors_b121 N n l1 l2 σ = some (r, σ') → xw C (GM E) 5 (xq C (GM E) none σ') σ 121 [(0, .ref (E.2.2.1 0)), (1, .int l1), (2, .int l2)] [] := by
  intro n
  induction n with
  | zero =>
    intro l1 l2 σ hf
    rw [m_mirrors_b121] at hf
    cases hf
  | succ n ih =>
    intro l1 l2 σ hf
    rw [m_mirrors_b121] at hf
    refine xr_iload_n (pc' := 122) 2 hC dX10_mirrors_121 rfl rfl rfl ?_
    refine xr_aload_n (pc' := 123) 0 hC dX10_mirrors_122 rfl rfl rfl ?_
    refine gX10_m_newDeep (pc' := 126) hC dX10_mirrors_123 rfl ?_
    refine xr_icmp_ge (pc' := 129) 252 hC dX10_mirrors_126 rfl (by decide) hf (fun hf => ?_) (fun hf => ?_)
    · exact xr_return hC dX10_mirrors_252 hf
    refine xr_iconst (pc' := 130) (0 : Int32) hC dX10_mirrors_129 rfl (by decide) ?_
    refine xr_istore_n (pc' := 131) (lv' := [(0, .ref (E.2.2.1 0)), (1, .int l1), (2, .int l2), (3, .int (0 : Int32))]) hC dX10_mirrors_130 rfl rfl (by decide) [1, 2, 3, 0] rfl ?_
    exact w_m_mirrors_b131 hC (m_mirrors_b121 N n) ih N _ _ _ _ hf

set_option maxRecDepth 100000 in
set_option maxHeartbeats 4000000 in
theorem w_m_mirrors_b94 {C : xT} {E : mE} {N : Nat} {r : Int32} {σ' : xS} (hC : xc C (GM E) RX10 cX10_mirrors 5 none (k2_rm 1 22)) : ∀ (n : Nat) (l1 l2 : Int32) (σ : xS), m_mirrors_b94 N n l1 l2 σ = some (r, σ') → xw C (GM E) 5 (xq C (GM E) none σ') σ 94 [(0, .ref (E.2.2.1 0)), (1, .int l1), (2, .int l2)] [] := by
  intro n
  induction n with
  | zero =>
    intro l1 l2 σ hf
    rw [m_mirrors_b94] at hf
    cases hf
  | succ n ih =>
    intro l1 l2 σ hf
    rw [m_mirrors_b94] at hf
    refine xr_iload_n (pc' := 95) 2 hC dX10_mirrors_94 rfl rfl rfl ?_
    refine xr_sipush (pc' := 98) (512 : Int32) hC dX10_mirrors_95 rfl (by decide) ?_
    refine xr_icmp_ge (pc' := 101) 119 hC dX10_mirrors_98 rfl (by decide) hf (fun hf => ?_) (fun hf => ?_)
    · refine xr_iconst (pc' := 120) (0 : Int32) hC dX10_mirrors_119 rfl (by decide) ?_
      refine xr_istore_n (pc' := 121) (lv' := [(0, .ref (E.2.2.1 0)), (1, .int l1), (2, .int (0 : Int32))]) hC dX10_mirrors_120 rfl rfl (by decide) [1, 2, 0] rfl ?_
      exact w_m_mirrors_b121 hC N _ _ _ hf
    refine xr_aload_n (pc' := 102) 0 hC dX10_mirrors_101 rfl rfl rfl ?_
    refine gX10_m_other (pc' := 105) hC dX10_mirrors_102 rfl ?_
    refine xr_iload_n (pc' := 106) 2 hC dX10_mirrors_105 rfl rfl rfl ?_
    refine xr_aload_n (pc' := 107) 0 hC dX10_mirrors_106 rfl rfl rfl ?_
    refine gX10_m_made (pc' := 110) hC dX10_mirrors_107 rfl ?_
    refine xr_iload_n (pc' := 111) 2 hC dX10_mirrors_110 rfl rfl rfl ?_
    refine lM_5 (pc' := 112) hC dX10_mirrors_111 rfl hf (fun v21 hf => ?_)
    refine sM_6 (pc' := 113) hC dX10_mirrors_112 rfl hf (fun σ22 hf => ?_)
    refine xr_iinc (pc' := 116) hC dX10_mirrors_113 rfl _ rfl hf 2 rfl (by decide) [1, 2, 0] (fun l2_23 => [(0, .ref (E.2.2.1 0)), (1, .int l1), (2, .int l2_23)]) (fun _ => rfl) (fun l2_23 hf => ?_)
    refine xr_goto 94 hC dX10_mirrors_116 (by decide) ?_
    exact ih _ _ _ hf

set_option maxRecDepth 100000 in
set_option maxHeartbeats 4000000 in
theorem w_m_mirrors_b74 {C : xT} {E : mE} {N : Nat} {r : Int32} {σ' : xS} (hC : xc C (GM E) RX10 cX10_mirrors 5 none (k2_rm 1 22)) : ∀ (l1 : Int32) (σ : xS), m_mirrors_b74 N l1 σ = some (r, σ') → xw C (GM E) 5 (xq C (GM E) none σ') σ 74 [(0, .ref (E.2.2.1 0)), (1, .int l1)] [] := by
  intro l1 σ hf
  unfold m_mirrors_b74 at hf
  refine xr_aload_n (pc' := 75) 0 hC dX10_mirrors_74 rfl rfl rfl ?_
  refine xr_dup (pc' := 76) hC dX10_mirrors_75 rfl rfl ?_
  refine gX10_m_at (pc' := 79) hC dX10_mirrors_76 rfl ?_
  refine xr_iconst (pc' := 80) (1 : Int32) hC dX10_mirrors_79 rfl (by decide) ?_
  refine xr_iadd (pc' := 81) hC dX10_mirrors_80 rfl ?_
  refine pX10_m_at (pc' := 84) hC dX10_mirrors_81 rfl hf (fun σ5 hf => ?_)
  refine xr_aload_n (pc' := 85) 0 hC dX10_mirrors_84 rfl rfl rfl ?_
  refine xr_aload_n (pc' := 86) 0 hC dX10_mirrors_85 rfl rfl rfl ?_
  refine gX10_m_at (pc' := 89) hC dX10_mirrors_86 rfl ?_
  refine pX10_m_ended (pc' := 92) hC dX10_mirrors_89 rfl hf (fun σ6 hf => ?_)
  refine xr_iconst (pc' := 93) (0 : Int32) hC dX10_mirrors_92 rfl (by decide) ?_
  refine xr_istore_n (pc' := 94) (lv' := [(0, .ref (E.2.2.1 0)), (1, .int l1), (2, .int (0 : Int32))]) hC dX10_mirrors_93 rfl rfl (by decide) [1, 2, 0] rfl ?_
  exact w_m_mirrors_b94 hC N _ _ _ hf

set_option maxRecDepth 100000 in
set_option maxHeartbeats 4000000 in
theorem w_m_mirrors_b23 {C : xT} {E : mE} {N : Nat} {r : Int32} {σ' : xS} (hC : xc C (GM E) RX10 cX10_mirrors 5 none (k2_rm 1 22)) : ∀ (l1 : Int32) (σ : xS), m_mirrors_b23 N l1 σ = some (r, σ') → xw C (GM E) 5 (xq C (GM E) none σ') σ 23 [(0, .ref (E.2.2.1 0)), (1, .int l1)] [] := by
  intro l1 σ hf
  unfold m_mirrors_b23 at hf
  refine xr_aload_n (pc' := 24) 0 hC dX10_mirrors_23 rfl rfl rfl ?_
  refine gX10_m_at (pc' := 27) hC dX10_mirrors_24 rfl ?_
  refine xr_aload_n (pc' := 28) 0 hC dX10_mirrors_27 rfl rfl rfl ?_
  refine gX10_m_ended (pc' := 31) hC dX10_mirrors_28 rfl ?_
  refine xr_icmp_eq (pc' := 34) 64 hC dX10_mirrors_31 rfl (by decide) hf (fun hf => ?_) (fun hf => ?_)
  · refine xr_aload_n (pc' := 65) 0 hC dX10_mirrors_64 rfl rfl rfl ?_
    refine xr_iconst (pc' := 66) (1 : Int32) hC dX10_mirrors_65 rfl (by decide) ?_
    refine xr_aload_n (pc' := 67) 0 hC dX10_mirrors_66 rfl rfl rfl ?_
    refine gX10_m_at (pc' := 70) hC dX10_mirrors_67 rfl ?_
    refine xr_callVv (pc' := 73) (rmy := k2_rm 0 0) [.int (1 : Int32), .int (σ.1 1)] 0 hC dX10_mirrors_70 rfl kX10_144 rfl rfl rfl rfl rfl ⟨Nat.le_of_ble_eq_true rfl, Nat.le_of_ble_eq_true rfl⟩ rfl (Nat.le_of_ble_eq_true rfl) hf (fun _ _ h => c_m_fail (xc_ok hC) h) (fun v3 σ4 hf => ?_)
    exact xr_return hC dX10_mirrors_73 hf
  refine xr_aload_n (pc' := 35) 0 hC dX10_mirrors_34 rfl rfl rfl ?_
  refine gX10_m_at (pc' := 38) hC dX10_mirrors_35 rfl ?_
  refine xr_iconst (pc' := 39) (1 : Int32) hC dX10_mirrors_38 rfl (by decide) ?_
  refine xr_iadd (pc' := 40) hC dX10_mirrors_39 rfl ?_
  refine xr_aload_n (pc' := 41) 0 hC dX10_mirrors_40 rfl rfl rfl ?_
  refine gX10_m_size (pc' := 44) hC dX10_mirrors_41 rfl ?_
  refine xr_icmp_ge (pc' := 47) 74 hC dX10_mirrors_44 rfl (by decide) hf (fun hf => ?_) (fun hf => ?_)
  · exact w_m_mirrors_b74 hC _ _ hf
  refine xr_aload_n (pc' := 48) 0 hC dX10_mirrors_47 rfl rfl rfl ?_
  refine gX10_m_tape (pc' := 51) hC dX10_mirrors_48 rfl ?_
  refine xr_aload_n (pc' := 52) 0 hC dX10_mirrors_51 rfl rfl rfl ?_
  refine gX10_m_at (pc' := 55) hC dX10_mirrors_52 rfl ?_
  refine xr_iconst (pc' := 56) (1 : Int32) hC dX10_mirrors_55 rfl (by decide) ?_
  refine xr_iadd (pc' := 57) hC dX10_mirrors_56 rfl ?_
  refine lM_0 (pc' := 58) hC dX10_mirrors_57 rfl hf (fun v24 hf => ?_)
  refine xr_callS (pc' := 61) (rmy := k2_rm 0 0) [.int v24] hC dX10_mirrors_58 rfl kX10_148 rfl rfl rfl ⟨Nat.le_of_ble_eq_true rfl, Nat.le_of_ble_eq_true rfl⟩ rfl (Nat.le_of_ble_eq_true rfl) hf (fun _ _ h => c_m_isLetter (xc_ok hC) h) (fun v25 σ26 hf => ?_)
  refine xr_if_eq (pc' := 64) 74 hC dX10_mirrors_61 rfl (by decide) hf (fun hf => ?_) (fun hf => ?_)
  · exact w_m_mirrors_b74 hC _ _ hf
  refine xr_aload_n (pc' := 65) 0 hC dX10_mirrors_64 rfl rfl rfl ?_
  refine xr_iconst (pc' := 66) (1 : Int32) hC dX10_mirrors_65 rfl (by decide) ?_
  refine xr_aload_n (pc' := 67) 0 hC dX10_mirrors_66 rfl rfl rfl ?_
  refine gX10_m_at (pc' := 70) hC dX10_mirrors_67 rfl ?_
  refine xr_callVv (pc' := 73) (rmy := k2_rm 0 0) [.int (1 : Int32), .int (σ26.1 1)] 0 hC dX10_mirrors_70 rfl kX10_144 rfl rfl rfl rfl rfl ⟨Nat.le_of_ble_eq_true rfl, Nat.le_of_ble_eq_true rfl⟩ rfl (Nat.le_of_ble_eq_true rfl) hf (fun _ _ h => c_m_fail (xc_ok hC) h) (fun v27 σ28 hf => ?_)
  exact xr_return hC dX10_mirrors_73 hf

set_option maxRecDepth 100000 in
set_option maxHeartbeats 4000000 in
theorem c_m_mirrors {l : Launch} {E : mE} {N : Nat} (hG : xOk (GM E)) {σ : xS} {r : Int32} {σ' : xS} (hf : m_mirrors N σ = some (r, σ')) : xMet l (GM E) yX10_mirrors cX10_mirrors 5 none (k2_rm 1 22) [.ref (E.2.2.1 0)] σ none σ' := by
  refine x_met (own := RX10) (by decide +kernel) hG rfl (Nat.le_of_ble_eq_true rfl) (fun C hl hC => ?_)
  subst hl
  show xw C (GM E) 5 (xq C (GM E) none σ') σ 0 [(0, .ref (E.2.2.1 0))] []
  unfold m_mirrors at hf
  refine xr_aload_n (pc' := 1) 0 hC dX10_mirrors_0 rfl rfl rfl ?_
  refine xr_callV (pc' := 4) (rmy := k2_rm 0 0) [] 0 hC dX10_mirrors_1 rfl kX10_133 rfl rfl rfl rfl rfl ⟨Nat.le_of_ble_eq_true rfl, Nat.le_of_ble_eq_true rfl⟩ rfl (Nat.le_of_ble_eq_true rfl) hf (fun _ _ h => c_m_next (xc_ok hC) h) (fun v1 σ2 hf => ?_)
  refine xr_istore_n (pc' := 5) (lv' := [(0, .ref (E.2.2.1 0)), (1, .int v1)]) hC dX10_mirrors_4 rfl rfl (by decide) [1, 0] rfl ?_
  refine xr_iload_n (pc' := 6) 1 hC dX10_mirrors_5 rfl rfl rfl ?_
  refine xr_bipush (pc' := 8) (120 : Int32) hC dX10_mirrors_6 rfl (by decide) ?_
  refine xr_icmp_eq (pc' := 11) 23 hC dX10_mirrors_8 rfl (by decide) hf (fun hf => ?_) (fun hf => ?_)
  · exact w_m_mirrors_b23 hC _ _ hf
  refine xr_iload_n (pc' := 12) 1 hC dX10_mirrors_11 rfl rfl rfl ?_
  refine xr_bipush (pc' := 14) (121 : Int32) hC dX10_mirrors_12 rfl (by decide) ?_
  refine xr_icmp_eq (pc' := 17) 23 hC dX10_mirrors_14 rfl (by decide) hf (fun hf => ?_) (fun hf => ?_)
  · exact w_m_mirrors_b23 hC _ _ hf
  refine xr_iload_n (pc' := 18) 1 hC dX10_mirrors_17 rfl rfl rfl ?_
  refine xr_bipush (pc' := 20) (122 : Int32) hC dX10_mirrors_18 rfl (by decide) ?_
  refine xr_icmp_ne (pc' := 23) 64 hC dX10_mirrors_20 rfl (by decide) hf (fun hf => ?_) (fun hf => ?_)
  · refine xr_aload_n (pc' := 65) 0 hC dX10_mirrors_64 rfl rfl rfl ?_
    refine xr_iconst (pc' := 66) (1 : Int32) hC dX10_mirrors_65 rfl (by decide) ?_
    refine xr_aload_n (pc' := 67) 0 hC dX10_mirrors_66 rfl rfl rfl ?_
    refine gX10_m_at (pc' := 70) hC dX10_mirrors_67 rfl ?_
    refine xr_callVv (pc' := 73) (rmy := k2_rm 0 0) [.int (1 : Int32), .int (σ2.1 1)] 0 hC dX10_mirrors_70 rfl kX10_144 rfl rfl rfl rfl rfl ⟨Nat.le_of_ble_eq_true rfl, Nat.le_of_ble_eq_true rfl⟩ rfl (Nat.le_of_ble_eq_true rfl) hf (fun _ _ h => c_m_fail (xc_ok hC) h) (fun v29 σ30 hf => ?_)
    exact xr_return hC dX10_mirrors_73 hf
  exact w_m_mirrors_b23 hC _ _ hf

set_option maxRecDepth 100000 in
set_option maxHeartbeats 4000000 in
theorem c_m_isDigit {l : Launch} {E : mE} {N : Nat} (hG : xOk (GM E)) {l0 : Int32} {σ : xS} {r : Int32} {σ' : xS} (hf : m_isDigit N l0 σ = some (r, σ')) : xMet l (GM E) yX10_isDigit cX10_isDigit 1 (some .boolean) (k2_rm 0 0) [.int l0] σ (some (.int r)) σ' := by
  refine x_met (own := RX10) (by decide +kernel) hG rfl (Nat.le_of_ble_eq_true rfl) (fun C hl hC => ?_)
  subst hl
  show xw C (GM E) 1 (xq C (GM E) (some (.int r)) σ') σ 0 [(0, .int l0)] []
  unfold m_isDigit at hf
  refine xr_iload_n (pc' := 1) 0 hC dX10_isDigit_0 rfl rfl rfl ?_
  refine xr_bipush (pc' := 3) (48 : Int32) hC dX10_isDigit_1 rfl (by decide) ?_
  refine xr_icmp_lt (pc' := 6) 16 hC dX10_isDigit_3 rfl (by decide) hf (fun hf => ?_) (fun hf => ?_)
  · refine xr_iconst (pc' := 17) (0 : Int32) hC dX10_isDigit_16 rfl (by decide) ?_
    exact xr_zreturn hC dX10_isDigit_17 rfl hf
  refine xr_iload_n (pc' := 7) 0 hC dX10_isDigit_6 rfl rfl rfl ?_
  refine xr_bipush (pc' := 9) (57 : Int32) hC dX10_isDigit_7 rfl (by decide) ?_
  refine xr_icmp_gt (pc' := 12) 16 hC dX10_isDigit_9 rfl (by decide) hf (fun hf => ?_) (fun hf => ?_)
  · refine xr_iconst (pc' := 17) (0 : Int32) hC dX10_isDigit_16 rfl (by decide) ?_
    exact xr_zreturn hC dX10_isDigit_17 rfl hf
  refine xr_iconst (pc' := 13) (1 : Int32) hC dX10_isDigit_12 rfl (by decide) ?_
  refine xr_goto 17 hC dX10_isDigit_13 (by decide) ?_
  exact xr_zreturn hC dX10_isDigit_17 rfl hf

set_option maxRecDepth 100000 in
set_option maxHeartbeats 4000000 in
theorem w_m_number_b59 {C : xT} {E : mE} {N : Nat} {r : Int32} {σ' : xS} (hC : xc C (GM E) RX10 cX10_number 3 (some .int) (k2_rm 1 22)) : ∀ (l2 : Int32) (σ : xS), m_number_b59 N l2 σ = some (r, σ') → xw C (GM E) 3 (xq C (GM E) (some (.int r)) σ') σ 59 [(0, .ref (E.2.2.1 0)), (2, .int l2)] [] := by
  intro l2 σ hf
  unfold m_number_b59 at hf
  refine xr_aload_n (pc' := 60) 0 hC dX10_number_59 rfl rfl rfl ?_
  refine xr_dup (pc' := 61) hC dX10_number_60 rfl rfl ?_
  refine gX10_m_at (pc' := 64) hC dX10_number_61 rfl ?_
  refine xr_iconst (pc' := 65) (1 : Int32) hC dX10_number_64 rfl (by decide) ?_
  refine xr_iadd (pc' := 66) hC dX10_number_65 rfl ?_
  refine pX10_m_at (pc' := 69) hC dX10_number_66 rfl hf (fun σ9 hf => ?_)
  refine xr_aload_n (pc' := 70) 0 hC dX10_number_69 rfl rfl rfl ?_
  refine gX10_m_at (pc' := 73) hC dX10_number_70 rfl ?_
  refine xr_aload_n (pc' := 74) 0 hC dX10_number_73 rfl rfl rfl ?_
  refine gX10_m_size (pc' := 77) hC dX10_number_74 rfl ?_
  refine xr_icmp_ge (pc' := 80) 104 hC dX10_number_77 rfl (by decide) hf (fun hf => ?_) (fun hf => ?_)
  · refine xr_aload_n (pc' := 105) 0 hC dX10_number_104 rfl rfl rfl ?_
    refine xr_aload_n (pc' := 106) 0 hC dX10_number_105 rfl rfl rfl ?_
    refine gX10_m_at (pc' := 109) hC dX10_number_106 rfl ?_
    refine pX10_m_ended (pc' := 112) hC dX10_number_109 rfl hf (fun σ10 hf => ?_)
    refine xr_iload_n (pc' := 113) 1 hC dX10_number_112 rfl rfl rfl ?_
    exact xr_ireturn hC dX10_number_113 hf
  refine xr_aload_n (pc' := 81) 0 hC dX10_number_80 rfl rfl rfl ?_
  refine gX10_m_tape (pc' := 84) hC dX10_number_81 rfl ?_
  refine xr_aload_n (pc' := 85) 0 hC dX10_number_84 rfl rfl rfl ?_
  refine gX10_m_at (pc' := 88) hC dX10_number_85 rfl ?_
  refine lM_0 (pc' := 89) hC dX10_number_88 rfl hf (fun v11 hf => ?_)
  refine xr_callS (pc' := 92) (rmy := k2_rm 0 0) [.int v11] hC dX10_number_89 rfl kX10_137 rfl rfl rfl ⟨Nat.le_of_ble_eq_true rfl, Nat.le_of_ble_eq_true rfl⟩ rfl (Nat.le_of_ble_eq_true rfl) hf (fun _ _ h => c_m_isDigit (xc_ok hC) h) (fun v12 σ13 hf => ?_)
  refine xr_if_eq (pc' := 95) 104 hC dX10_number_92 rfl (by decide) hf (fun hf => ?_) (fun hf => ?_)
  · refine xr_aload_n (pc' := 105) 0 hC dX10_number_104 rfl rfl rfl ?_
    refine xr_aload_n (pc' := 106) 0 hC dX10_number_105 rfl rfl rfl ?_
    refine gX10_m_at (pc' := 109) hC dX10_number_106 rfl ?_
    refine pX10_m_ended (pc' := 112) hC dX10_number_109 rfl hf (fun σ14 hf => ?_)
    refine xr_iload_n (pc' := 113) 1 hC dX10_number_112 rfl rfl rfl ?_
    exact xr_ireturn hC dX10_number_113 hf
  refine xr_aload_n (pc' := 96) 0 hC dX10_number_95 rfl rfl rfl ?_
  refine xr_iconst (pc' := 97) (1 : Int32) hC dX10_number_96 rfl (by decide) ?_
  refine xr_aload_n (pc' := 98) 0 hC dX10_number_97 rfl rfl rfl ?_
  refine gX10_m_at (pc' := 101) hC dX10_number_98 rfl ?_
  refine xr_callVv (pc' := 104) (rmy := k2_rm 0 0) [.int (1 : Int32), .int (σ13.1 1)] 0 hC dX10_number_101 rfl kX10_144 rfl rfl rfl rfl rfl ⟨Nat.le_of_ble_eq_true rfl, Nat.le_of_ble_eq_true rfl⟩ rfl (Nat.le_of_ble_eq_true rfl) hf (fun _ _ h => c_m_fail (xc_ok hC) h) (fun v15 σ16 hf => ?_)
  refine xr_aload_n (pc' := 105) 0 hC dX10_number_104 rfl rfl rfl ?_
  refine xr_aload_n (pc' := 106) 0 hC dX10_number_105 rfl rfl rfl ?_
  refine gX10_m_at (pc' := 109) hC dX10_number_106 rfl ?_
  refine pX10_m_ended (pc' := 112) hC dX10_number_109 rfl hf (fun σ17 hf => ?_)
  refine xr_iload_n (pc' := 113) 1 hC dX10_number_112 rfl rfl rfl ?_
  exact xr_ireturn hC dX10_number_113 hf

set_option maxRecDepth 100000 in
set_option maxHeartbeats 4000000 in
theorem c_m_number {l : Launch} {E : mE} {N : Nat} (hG : xOk (GM E)) {l1 : Int32} {σ : xS} {r : Int32} {σ' : xS} (hf : m_number N l1 σ = some (r, σ')) : xMet l (GM E) yX10_number cX10_number 3 (some .int) (k2_rm 1 22) [.ref (E.2.2.1 0), .int l1] σ (some (.int r)) σ' := by
  refine x_met (own := RX10) (by decide +kernel) hG rfl (Nat.le_of_ble_eq_true rfl) (fun C hl hC => ?_)
  subst hl
  show xw C (GM E) 3 (xq C (GM E) (some (.int r)) σ') σ 0 [(0, .ref (E.2.2.1 0)), (1, .int l1)] []
  unfold m_number at hf
  refine xr_aload_n (pc' := 1) 0 hC dX10_number_0 rfl rfl rfl ?_
  refine xr_callV (pc' := 4) (rmy := k2_rm 0 0) [] 0 hC dX10_number_1 rfl kX10_133 rfl rfl rfl rfl rfl ⟨Nat.le_of_ble_eq_true rfl, Nat.le_of_ble_eq_true rfl⟩ rfl (Nat.le_of_ble_eq_true rfl) hf (fun _ _ h => c_m_next (xc_ok hC) h) (fun v1 σ2 hf => ?_)
  refine xr_callS (pc' := 7) (rmy := k2_rm 0 0) [.int v1] hC dX10_number_4 rfl kX10_137 rfl rfl rfl ⟨Nat.le_of_ble_eq_true rfl, Nat.le_of_ble_eq_true rfl⟩ rfl (Nat.le_of_ble_eq_true rfl) hf (fun _ _ h => c_m_isDigit (xc_ok hC) h) (fun v3 σ4 hf => ?_)
  refine xr_if_eq (pc' := 10) 21 hC dX10_number_7 rfl (by decide) hf (fun hf => ?_) (fun hf => ?_)
  · refine xr_aload_n (pc' := 22) 0 hC dX10_number_21 rfl rfl rfl ?_
    refine xr_iconst (pc' := 23) (1 : Int32) hC dX10_number_22 rfl (by decide) ?_
    refine xr_aload_n (pc' := 24) 0 hC dX10_number_23 rfl rfl rfl ?_
    refine gX10_m_at (pc' := 27) hC dX10_number_24 rfl ?_
    refine xr_callVv (pc' := 30) (rmy := k2_rm 0 0) [.int (1 : Int32), .int (σ4.1 1)] 0 hC dX10_number_27 rfl kX10_144 rfl rfl rfl rfl rfl ⟨Nat.le_of_ble_eq_true rfl, Nat.le_of_ble_eq_true rfl⟩ rfl (Nat.le_of_ble_eq_true rfl) hf (fun _ _ h => c_m_fail (xc_ok hC) h) (fun v5 σ6 hf => ?_)
    refine xr_iconst (pc' := 31) (0 : Int32) hC dX10_number_30 rfl (by decide) ?_
    exact xr_ireturn hC dX10_number_31 hf
  refine xr_aload_n (pc' := 11) 0 hC dX10_number_10 rfl rfl rfl ?_
  refine gX10_m_at (pc' := 14) hC dX10_number_11 rfl ?_
  refine xr_aload_n (pc' := 15) 0 hC dX10_number_14 rfl rfl rfl ?_
  refine gX10_m_ended (pc' := 18) hC dX10_number_15 rfl ?_
  refine xr_icmp_ne (pc' := 21) 32 hC dX10_number_18 rfl (by decide) hf (fun hf => ?_) (fun hf => ?_)
  · refine xr_aload_n (pc' := 33) 0 hC dX10_number_32 rfl rfl rfl ?_
    refine gX10_m_tape (pc' := 36) hC dX10_number_33 rfl ?_
    refine xr_aload_n (pc' := 37) 0 hC dX10_number_36 rfl rfl rfl ?_
    refine gX10_m_at (pc' := 40) hC dX10_number_37 rfl ?_
    refine lM_0 (pc' := 41) hC dX10_number_40 rfl hf (fun v7 hf => ?_)
    refine xr_bipush (pc' := 43) (48 : Int32) hC dX10_number_41 rfl (by decide) ?_
    refine xr_isub (pc' := 44) hC dX10_number_43 rfl ?_
    refine xr_istoreb_n (pc' := 45) hC dX10_number_44 rfl hf rfl (by decide) [1, 2, 0] (fun l2_8 => [(0, .ref (E.2.2.1 0)), (1, .int l1), (2, .int l2_8)]) (fun _ => rfl) (fun l2_8 hf => ?_)
    refine xr_iload_n (pc' := 46) 2 hC dX10_number_45 rfl rfl rfl ?_
    refine xr_iload_n (pc' := 47) 1 hC dX10_number_46 rfl rfl rfl ?_
    refine xr_icmp_ge (pc' := 50) 59 hC dX10_number_47 rfl (by decide) hf (fun hf => ?_) (fun hf => ?_)
    · refine x_lv [0, 2] rfl ?_
      exact w_m_number_b59 hC _ _ hf
    refine xr_aload_n (pc' := 51) 0 hC dX10_number_50 rfl rfl rfl ?_
    refine xr_iconst (pc' := 52) (2 : Int32) hC dX10_number_51 rfl (by decide) ?_
    refine xr_aload_n (pc' := 53) 0 hC dX10_number_52 rfl rfl rfl ?_
    refine gX10_m_at (pc' := 56) hC dX10_number_53 rfl ?_
    refine xr_callVv (pc' := 59) (rmy := k2_rm 0 0) [.int (2 : Int32), .int (σ4.1 1)] 0 hC dX10_number_56 rfl kX10_144 rfl rfl rfl rfl rfl ⟨Nat.le_of_ble_eq_true rfl, Nat.le_of_ble_eq_true rfl⟩ rfl (Nat.le_of_ble_eq_true rfl) hf (fun _ _ h => c_m_fail (xc_ok hC) h) (fun v18 σ19 hf => ?_)
    refine x_lv [0, 2] rfl ?_
    exact w_m_number_b59 hC _ _ hf
  refine xr_aload_n (pc' := 22) 0 hC dX10_number_21 rfl rfl rfl ?_
  refine xr_iconst (pc' := 23) (1 : Int32) hC dX10_number_22 rfl (by decide) ?_
  refine xr_aload_n (pc' := 24) 0 hC dX10_number_23 rfl rfl rfl ?_
  refine gX10_m_at (pc' := 27) hC dX10_number_24 rfl ?_
  refine xr_callVv (pc' := 30) (rmy := k2_rm 0 0) [.int (1 : Int32), .int (σ4.1 1)] 0 hC dX10_number_27 rfl kX10_144 rfl rfl rfl rfl rfl ⟨Nat.le_of_ble_eq_true rfl, Nat.le_of_ble_eq_true rfl⟩ rfl (Nat.le_of_ble_eq_true rfl) hf (fun _ _ h => c_m_fail (xc_ok hC) h) (fun v20 σ21 hf => ?_)
  refine xr_iconst (pc' := 31) (0 : Int32) hC dX10_number_30 rfl (by decide) ?_
  exact xr_ireturn hC dX10_number_31 hf

set_option maxRecDepth 100000 in
set_option maxHeartbeats 4000000 in
theorem w_m_boxes_b121 {C : xT} {E : mE} {N : Nat} {r : Int32} {σ' : xS} (hC : xc C (GM E) RX10 cX10_boxes 5 none (k2_rm 2 44)) (K56 : Int32 → Int32 → xS → Option (Int32 × xS)) (hK56 : ∀ (l1 l2 : Int32) (σ : xS), K56 l1 l2 σ = some (r, σ') → xw C (GM E) 5 (xq C (GM E) none σ') σ 56 [(0, .ref (E.2.2.1 0)), (1, .int l1), (2, .int l2)] []) (K88 : Int32 → Int32 → Int32 → xS → Option (Int32 × xS)) (hK88 : ∀ (l1 l2 l3 : Int32) (σ : xS), K88 l1 l2 l3 σ = some (r, σ') → xw C (GM E) 5 (xq C (GM E) none σ') σ 88 [(0, .ref (E.2.2.1 0)), (1, .int l1), (2, .int l2), (3, .int l3)] []) : ∀ (n : Nat) (l1 l2 l3 l4 : Int32) (σ : xS), m_boxes_b121 N K56 K88 n l1 l2 l3 l4 σ = some (r, σ') → xw C (GM E) 5 (xq C (GM E) none σ') σ 121 [(0, .ref (E.2.2.1 0)), (1, .int l1), (2, .int l2), (3, .int l3), (4, .int l4)] [] := by
  intro n
  induction n with
  | zero =>
    intro l1 l2 l3 l4 σ hf
    rw [m_boxes_b121] at hf
    cases hf
  | succ n ih =>
    intro l1 l2 l3 l4 σ hf
    rw [m_boxes_b121] at hf
    refine xr_iload (pc' := 123) 4 hC dX10_boxes_121 rfl rfl ?_
    refine xr_aload_n (pc' := 124) 0 hC dX10_boxes_123 rfl rfl rfl ?_
    refine gX10_m_told (pc' := 127) hC dX10_boxes_124 rfl ?_
    refine xr_iconst (pc' := 128) (0 : Int32) hC dX10_boxes_127 rfl (by decide) ?_
    refine lM_7 (pc' := 129) hC dX10_boxes_128 rfl hf (fun v10 hf => ?_)
    refine xr_aload_n (pc' := 130) 0 hC dX10_boxes_129 rfl rfl rfl ?_
    refine gX10_m_told (pc' := 133) hC dX10_boxes_130 rfl ?_
    refine xr_iconst (pc' := 134) (3 : Int32) hC dX10_boxes_133 rfl (by decide) ?_
    refine lM_7 (pc' := 135) hC dX10_boxes_134 rfl hf (fun v11 hf => ?_)
    refine xr_iadd (pc' := 136) hC dX10_boxes_135 rfl ?_
    refine xr_icmp_ge (pc' := 139) 167 hC dX10_boxes_136 rfl (by decide) hf (fun hf => ?_) (fun hf => ?_)
    · refine xr_iinc (pc' := 170) hC dX10_boxes_167 rfl _ rfl hf 3 rfl (by decide) [1, 2, 3, 0, 4] (fun l3_12 => [(0, .ref (E.2.2.1 0)), (1, .int l1), (2, .int l2), (3, .int l3_12), (4, .int l4)]) (fun _ => rfl) (fun l3_12 hf => ?_)
      refine xr_goto 88 hC dX10_boxes_170 (by decide) ?_
      refine x_lv [0, 1, 2, 3] rfl ?_
      exact hK88 _ _ _ _ hf
    refine xr_iload (pc' := 141) 4 hC dX10_boxes_139 rfl rfl ?_
    refine xr_aload_n (pc' := 142) 0 hC dX10_boxes_141 rfl rfl rfl ?_
    refine gX10_m_newWide (pc' := 145) hC dX10_boxes_142 rfl ?_
    refine xr_icmp_ge (pc' := 148) 167 hC dX10_boxes_145 rfl (by decide) hf (fun hf => ?_) (fun hf => ?_)
    · refine xr_iinc (pc' := 170) hC dX10_boxes_167 rfl _ rfl hf 3 rfl (by decide) [1, 2, 3, 0, 4] (fun l3_13 => [(0, .ref (E.2.2.1 0)), (1, .int l1), (2, .int l2), (3, .int l3_13), (4, .int l4)]) (fun _ => rfl) (fun l3_13 hf => ?_)
      refine xr_goto 88 hC dX10_boxes_170 (by decide) ?_
      refine x_lv [0, 1, 2, 3] rfl ?_
      exact hK88 _ _ _ _ hf
    refine xr_aload_n (pc' := 149) 0 hC dX10_boxes_148 rfl rfl rfl ?_
    refine gX10_m_made (pc' := 152) hC dX10_boxes_149 rfl ?_
    refine xr_iload (pc' := 154) 4 hC dX10_boxes_152 rfl rfl ?_
    refine xr_iload_n (pc' := 155) 3 hC dX10_boxes_154 rfl rfl rfl ?_
    refine xr_iload_n (pc' := 156) 2 hC dX10_boxes_155 rfl rfl rfl ?_
    refine xr_callS (pc' := 159) (rmy := k2_rm 0 0) [.int l4, .int l3, .int l2] hC dX10_boxes_156 rfl kX10_164 rfl rfl rfl ⟨Nat.le_of_ble_eq_true rfl, Nat.le_of_ble_eq_true rfl⟩ rfl (Nat.le_of_ble_eq_true rfl) hf (fun _ _ h => c_m_cell (xc_ok hC) h) (fun v14 σ15 hf => ?_)
    refine xr_iload_n (pc' := 160) 1 hC dX10_boxes_159 rfl rfl rfl ?_
    refine sM_5 (pc' := 161) hC dX10_boxes_160 rfl hf (fun σ16 hf => ?_)
    refine xr_iinc (pc' := 164) hC dX10_boxes_161 rfl _ rfl hf 4 rfl (by decide) [1, 2, 3, 4, 0] (fun l4_17 => [(0, .ref (E.2.2.1 0)), (1, .int l1), (2, .int l2), (3, .int l3), (4, .int l4_17)]) (fun _ => rfl) (fun l4_17 hf => ?_)
    refine xr_goto 121 hC dX10_boxes_164 (by decide) ?_
    exact ih _ _ _ _ _ hf

set_option maxRecDepth 100000 in
set_option maxHeartbeats 4000000 in
theorem w_m_boxes_b88 {C : xT} {E : mE} {N : Nat} {r : Int32} {σ' : xS} (hC : xc C (GM E) RX10 cX10_boxes 5 none (k2_rm 2 44)) (K56 : Int32 → Int32 → xS → Option (Int32 × xS)) (hK56 : ∀ (l1 l2 : Int32) (σ : xS), K56 l1 l2 σ = some (r, σ') → xw C (GM E) 5 (xq C (GM E) none σ') σ 56 [(0, .ref (E.2.2.1 0)), (1, .int l1), (2, .int l2)] []) : ∀ (n : Nat) (l1 l2 l3 : Int32) (σ : xS), m_boxes_b88 N K56 n l1 l2 l3 σ = some (r, σ') → xw C (GM E) 5 (xq C (GM E) none σ') σ 88 [(0, .ref (E.2.2.1 0)), (1, .int l1), (2, .int l2), (3, .int l3)] [] := by
  intro n
  induction n with
  | zero =>
    intro l1 l2 l3 σ hf
    rw [m_boxes_b88] at hf
    cases hf
  | succ n ih =>
    intro l1 l2 l3 σ hf
    rw [m_boxes_b88] at hf
    refine xr_iload_n (pc' := 89) 3 hC dX10_boxes_88 rfl rfl rfl ?_
    refine xr_aload_n (pc' := 90) 0 hC dX10_boxes_89 rfl rfl rfl ?_
    refine gX10_m_told (pc' := 93) hC dX10_boxes_90 rfl ?_
    refine xr_iconst (pc' := 94) (1 : Int32) hC dX10_boxes_93 rfl (by decide) ?_
    refine lM_7 (pc' := 95) hC dX10_boxes_94 rfl hf (fun v5 hf => ?_)
    refine xr_aload_n (pc' := 96) 0 hC dX10_boxes_95 rfl rfl rfl ?_
    refine gX10_m_told (pc' := 99) hC dX10_boxes_96 rfl ?_
    refine xr_iconst (pc' := 100) (4 : Int32) hC dX10_boxes_99 rfl (by decide) ?_
    refine lM_7 (pc' := 101) hC dX10_boxes_100 rfl hf (fun v6 hf => ?_)
    refine xr_iadd (pc' := 102) hC dX10_boxes_101 rfl ?_
    refine xr_icmp_ge (pc' := 105) 173 hC dX10_boxes_102 rfl (by decide) hf (fun hf => ?_) (fun hf => ?_)
    · refine xr_iinc (pc' := 176) hC dX10_boxes_173 rfl _ rfl hf 2 rfl (by decide) [1, 2, 0, 3] (fun l2_7 => [(0, .ref (E.2.2.1 0)), (1, .int l1), (2, .int l2_7), (3, .int l3)]) (fun _ => rfl) (fun l2_7 hf => ?_)
      refine xr_goto 56 hC dX10_boxes_176 (by decide) ?_
      refine x_lv [0, 1, 2] rfl ?_
      exact hK56 _ _ _ hf
    refine xr_iload_n (pc' := 106) 3 hC dX10_boxes_105 rfl rfl rfl ?_
    refine xr_aload_n (pc' := 107) 0 hC dX10_boxes_106 rfl rfl rfl ?_
    refine gX10_m_newHigh (pc' := 110) hC dX10_boxes_107 rfl ?_
    refine xr_icmp_ge (pc' := 113) 173 hC dX10_boxes_110 rfl (by decide) hf (fun hf => ?_) (fun hf => ?_)
    · refine xr_iinc (pc' := 176) hC dX10_boxes_173 rfl _ rfl hf 2 rfl (by decide) [1, 2, 0, 3] (fun l2_8 => [(0, .ref (E.2.2.1 0)), (1, .int l1), (2, .int l2_8), (3, .int l3)]) (fun _ => rfl) (fun l2_8 hf => ?_)
      refine xr_goto 56 hC dX10_boxes_176 (by decide) ?_
      refine x_lv [0, 1, 2] rfl ?_
      exact hK56 _ _ _ hf
    refine xr_aload_n (pc' := 114) 0 hC dX10_boxes_113 rfl rfl rfl ?_
    refine gX10_m_told (pc' := 117) hC dX10_boxes_114 rfl ?_
    refine xr_iconst (pc' := 118) (0 : Int32) hC dX10_boxes_117 rfl (by decide) ?_
    refine lM_7 (pc' := 119) hC dX10_boxes_118 rfl hf (fun v9 hf => ?_)
    refine xr_istore (pc' := 121) (lv' := [(0, .ref (E.2.2.1 0)), (1, .int l1), (2, .int l2), (3, .int l3), (4, .int v9)]) hC dX10_boxes_119 rfl (by decide) [1, 2, 3, 4, 0] rfl ?_
    exact w_m_boxes_b121 hC (K56) hK56 (m_boxes_b88 N K56 n) ih N _ _ _ _ _ hf

set_option maxRecDepth 100000 in
set_option maxHeartbeats 4000000 in
theorem w_m_boxes_b56 {C : xT} {E : mE} {N : Nat} {r : Int32} {σ' : xS} (hC : xc C (GM E) RX10 cX10_boxes 5 none (k2_rm 2 44)) : ∀ (n : Nat) (l1 l2 : Int32) (σ : xS), m_boxes_b56 N n l1 l2 σ = some (r, σ') → xw C (GM E) 5 (xq C (GM E) none σ') σ 56 [(0, .ref (E.2.2.1 0)), (1, .int l1), (2, .int l2)] [] := by
  intro n
  induction n with
  | zero =>
    intro l1 l2 σ hf
    rw [m_boxes_b56] at hf
    cases hf
  | succ n ih =>
    intro l1 l2 σ hf
    rw [m_boxes_b56] at hf
    refine xr_iload_n (pc' := 57) 2 hC dX10_boxes_56 rfl rfl rfl ?_
    refine xr_aload_n (pc' := 58) 0 hC dX10_boxes_57 rfl rfl rfl ?_
    refine gX10_m_told (pc' := 61) hC dX10_boxes_58 rfl ?_
    refine xr_iconst (pc' := 62) (2 : Int32) hC dX10_boxes_61 rfl (by decide) ?_
    refine lM_7 (pc' := 63) hC dX10_boxes_62 rfl hf (fun v2 hf => ?_)
    refine xr_aload_n (pc' := 64) 0 hC dX10_boxes_63 rfl rfl rfl ?_
    refine gX10_m_told (pc' := 67) hC dX10_boxes_64 rfl ?_
    refine xr_iconst (pc' := 68) (5 : Int32) hC dX10_boxes_67 rfl (by decide) ?_
    refine lM_7 (pc' := 69) hC dX10_boxes_68 rfl hf (fun v3 hf => ?_)
    refine xr_iadd (pc' := 70) hC dX10_boxes_69 rfl ?_
    refine xr_icmp_ge (pc' := 73) 179 hC dX10_boxes_70 rfl (by decide) hf (fun hf => ?_) (fun hf => ?_)
    · exact xr_return hC dX10_boxes_179 hf
    refine xr_iload_n (pc' := 74) 2 hC dX10_boxes_73 rfl rfl rfl ?_
    refine xr_aload_n (pc' := 75) 0 hC dX10_boxes_74 rfl rfl rfl ?_
    refine gX10_m_newDeep (pc' := 78) hC dX10_boxes_75 rfl ?_
    refine xr_icmp_ge (pc' := 81) 179 hC dX10_boxes_78 rfl (by decide) hf (fun hf => ?_) (fun hf => ?_)
    · exact xr_return hC dX10_boxes_179 hf
    refine xr_aload_n (pc' := 82) 0 hC dX10_boxes_81 rfl rfl rfl ?_
    refine gX10_m_told (pc' := 85) hC dX10_boxes_82 rfl ?_
    refine xr_iconst (pc' := 86) (1 : Int32) hC dX10_boxes_85 rfl (by decide) ?_
    refine lM_7 (pc' := 87) hC dX10_boxes_86 rfl hf (fun v4 hf => ?_)
    refine xr_istore_n (pc' := 88) (lv' := [(0, .ref (E.2.2.1 0)), (1, .int l1), (2, .int l2), (3, .int v4)]) hC dX10_boxes_87 rfl rfl (by decide) [1, 2, 3, 0] rfl ?_
    exact w_m_boxes_b88 hC (m_boxes_b56 N n) ih N _ _ _ _ hf

set_option maxRecDepth 100000 in
set_option maxHeartbeats 4000000 in
theorem w_m_boxes_b2 {C : xT} {E : mE} {N : Nat} {r : Int32} {σ' : xS} (hC : xc C (GM E) RX10 cX10_boxes 5 none (k2_rm 2 44)) : ∀ (n : Nat) (l1 l2 : Int32) (σ : xS), m_boxes_b2 N n l1 l2 σ = some (r, σ') → xw C (GM E) 5 (xq C (GM E) none σ') σ 2 [(0, .ref (E.2.2.1 0)), (1, .int l1), (2, .int l2)] [] := by
  intro n
  induction n with
  | zero =>
    intro l1 l2 σ hf
    rw [m_boxes_b2] at hf
    cases hf
  | succ n ih =>
    intro l1 l2 σ hf
    rw [m_boxes_b2] at hf
    refine xr_iload_n (pc' := 3) 2 hC dX10_boxes_2 rfl rfl rfl ?_
    refine xr_bipush (pc' := 5) (6 : Int32) hC dX10_boxes_3 rfl (by decide) ?_
    refine xr_icmp_ge (pc' := 8) 41 hC dX10_boxes_5 rfl (by decide) hf (fun hf => ?_) (fun hf => ?_)
    · refine xr_aload_n (pc' := 42) 0 hC dX10_boxes_41 rfl rfl rfl ?_
      refine gX10_m_bad (pc' := 45) hC dX10_boxes_42 rfl ?_
      refine xr_if_eq (pc' := 48) 49 hC dX10_boxes_45 rfl (by decide) hf (fun hf => ?_) (fun hf => ?_)
      · refine xr_aload_n (pc' := 50) 0 hC dX10_boxes_49 rfl rfl rfl ?_
        refine gX10_m_told (pc' := 53) hC dX10_boxes_50 rfl ?_
        refine xr_iconst (pc' := 54) (2 : Int32) hC dX10_boxes_53 rfl (by decide) ?_
        refine lM_7 (pc' := 55) hC dX10_boxes_54 rfl hf (fun v1 hf => ?_)
        refine xr_istore_n (pc' := 56) (lv' := [(0, .ref (E.2.2.1 0)), (1, .int l1), (2, .int v1)]) hC dX10_boxes_55 rfl rfl (by decide) [1, 2, 0] rfl ?_
        exact w_m_boxes_b56 hC N _ _ _ hf
      exact xr_return hC dX10_boxes_48 hf
    refine xr_aload_n (pc' := 9) 0 hC dX10_boxes_8 rfl rfl rfl ?_
    refine gX10_m_bad (pc' := 12) hC dX10_boxes_9 rfl ?_
    refine xr_if_ne (pc' := 15) 41 hC dX10_boxes_12 rfl (by decide) hf (fun hf => ?_) (fun hf => ?_)
    · refine xr_aload_n (pc' := 42) 0 hC dX10_boxes_41 rfl rfl rfl ?_
      refine gX10_m_bad (pc' := 45) hC dX10_boxes_42 rfl ?_
      refine xr_if_eq (pc' := 48) 49 hC dX10_boxes_45 rfl (by decide) hf (fun hf => ?_) (fun hf => ?_)
      · refine xr_aload_n (pc' := 50) 0 hC dX10_boxes_49 rfl rfl rfl ?_
        refine gX10_m_told (pc' := 53) hC dX10_boxes_50 rfl ?_
        refine xr_iconst (pc' := 54) (2 : Int32) hC dX10_boxes_53 rfl (by decide) ?_
        refine lM_7 (pc' := 55) hC dX10_boxes_54 rfl hf (fun v18 hf => ?_)
        refine xr_istore_n (pc' := 56) (lv' := [(0, .ref (E.2.2.1 0)), (1, .int l1), (2, .int v18)]) hC dX10_boxes_55 rfl rfl (by decide) [1, 2, 0] rfl ?_
        exact w_m_boxes_b56 hC N _ _ _ hf
      exact xr_return hC dX10_boxes_48 hf
    refine xr_aload_n (pc' := 16) 0 hC dX10_boxes_15 rfl rfl rfl ?_
    refine gX10_m_told (pc' := 19) hC dX10_boxes_16 rfl ?_
    refine xr_iload_n (pc' := 20) 2 hC dX10_boxes_19 rfl rfl rfl ?_
    refine xr_aload_n (pc' := 21) 0 hC dX10_boxes_20 rfl rfl rfl ?_
    refine xr_iload_n (pc' := 22) 2 hC dX10_boxes_21 rfl rfl rfl ?_
    refine xr_iconst (pc' := 23) (2 : Int32) hC dX10_boxes_22 rfl (by decide) ?_
    refine xr_icmp_le (pc' := 26) 30 hC dX10_boxes_23 rfl (by decide) hf (fun hf => ?_) (fun hf => ?_)
    · refine xr_iconst (pc' := 31) (0 : Int32) hC dX10_boxes_30 rfl (by decide) ?_
      refine xr_callV (pc' := 34) (rmy := k2_rm 1 22) [.int (0 : Int32)] 0 hC dX10_boxes_31 rfl kX10_151 rfl rfl rfl rfl rfl ⟨Nat.le_of_ble_eq_true rfl, Nat.le_of_ble_eq_true rfl⟩ rfl (Nat.le_of_ble_eq_true rfl) hf (fun _ _ h => c_m_number (xc_ok hC) h) (fun v19 σ20 hf => ?_)
      refine sM_7 (pc' := 35) hC dX10_boxes_34 rfl hf (fun σ21 hf => ?_)
      refine xr_iinc (pc' := 38) hC dX10_boxes_35 rfl _ rfl hf 2 rfl (by decide) [1, 2, 0] (fun l2_22 => [(0, .ref (E.2.2.1 0)), (1, .int l1), (2, .int l2_22)]) (fun _ => rfl) (fun l2_22 hf => ?_)
      refine xr_goto 2 hC dX10_boxes_38 (by decide) ?_
      exact ih _ _ _ hf
    refine xr_iconst (pc' := 27) (1 : Int32) hC dX10_boxes_26 rfl (by decide) ?_
    refine xr_goto 31 hC dX10_boxes_27 (by decide) ?_
    refine xr_callV (pc' := 34) (rmy := k2_rm 1 22) [.int (1 : Int32)] 0 hC dX10_boxes_31 rfl kX10_151 rfl rfl rfl rfl rfl ⟨Nat.le_of_ble_eq_true rfl, Nat.le_of_ble_eq_true rfl⟩ rfl (Nat.le_of_ble_eq_true rfl) hf (fun _ _ h => c_m_number (xc_ok hC) h) (fun v23 σ24 hf => ?_)
    refine sM_7 (pc' := 35) hC dX10_boxes_34 rfl hf (fun σ25 hf => ?_)
    refine xr_iinc (pc' := 38) hC dX10_boxes_35 rfl _ rfl hf 2 rfl (by decide) [1, 2, 0] (fun l2_26 => [(0, .ref (E.2.2.1 0)), (1, .int l1), (2, .int l2_26)]) (fun _ => rfl) (fun l2_26 hf => ?_)
    refine xr_goto 2 hC dX10_boxes_38 (by decide) ?_
    exact ih _ _ _ hf

set_option maxRecDepth 100000 in
set_option maxHeartbeats 4000000 in
theorem c_m_boxes {l : Launch} {E : mE} {N : Nat} (hG : xOk (GM E)) {l1 : Int32} {σ : xS} {r : Int32} {σ' : xS} (hf : m_boxes N l1 σ = some (r, σ')) : xMet l (GM E) yX10_boxes cX10_boxes 5 none (k2_rm 2 44) [.ref (E.2.2.1 0), .int l1] σ none σ' := by
  refine x_met (own := RX10) (by decide +kernel) hG rfl (Nat.le_of_ble_eq_true rfl) (fun C hl hC => ?_)
  subst hl
  show xw C (GM E) 5 (xq C (GM E) none σ') σ 0 [(0, .ref (E.2.2.1 0)), (1, .int l1)] []
  unfold m_boxes at hf
  refine xr_iconst (pc' := 1) (0 : Int32) hC dX10_boxes_0 rfl (by decide) ?_
  refine xr_istore_n (pc' := 2) (lv' := [(0, .ref (E.2.2.1 0)), (1, .int l1), (2, .int (0 : Int32))]) hC dX10_boxes_1 rfl rfl (by decide) [1, 2, 0] rfl ?_
  exact w_m_boxes_b2 hC N _ _ _ hf

set_option maxRecDepth 100000 in
set_option maxHeartbeats 4000000 in
theorem w_m_reads_b104 {C : xT} {E : mE} {N : Nat} {r : Int32} {σ' : xS} (hC : xc C (GM E) RX10 cX10_reads 2 none (k2_rm 3 68)) (K0 : xS → Option (Int32 × xS)) (hK0 : ∀ (σ : xS), K0 σ = some (r, σ') → xw C (GM E) 2 (xq C (GM E) none σ') σ 0 [(0, .ref (E.2.2.1 0))] []) : ∀ (σ : xS), m_reads_b104 N K0 σ = some (r, σ') → xw C (GM E) 2 (xq C (GM E) none σ') σ 104 [(0, .ref (E.2.2.1 0))] [] := by
  intro σ hf
  unfold m_reads_b104 at hf
  refine xr_aload_n (pc' := 105) 0 hC dX10_reads_104 rfl rfl rfl ?_
  refine gX10_m_bad (pc' := 108) hC dX10_reads_105 rfl ?_
  refine xr_if_ne (pc' := 111) 129 hC dX10_reads_108 rfl (by decide) hf (fun hf => ?_) (fun hf => ?_)
  · refine xr_aload_n (pc' := 130) 0 hC dX10_reads_129 rfl rfl rfl ?_
    refine xr_dup (pc' := 131) hC dX10_reads_130 rfl rfl ?_
    refine gX10_m_at (pc' := 134) hC dX10_reads_131 rfl ?_
    refine xr_iconst (pc' := 135) (1 : Int32) hC dX10_reads_134 rfl (by decide) ?_
    refine xr_iadd (pc' := 136) hC dX10_reads_135 rfl ?_
    refine pX10_m_at (pc' := 139) hC dX10_reads_136 rfl hf (fun σ14 hf => ?_)
    refine xr_goto 0 hC dX10_reads_139 (by decide) ?_
    exact hK0 _ hf
  refine xr_aload_n (pc' := 112) 0 hC dX10_reads_111 rfl rfl rfl ?_
  refine xr_callV (pc' := 115) (rmy := k2_rm 0 0) [] 0 hC dX10_reads_112 rfl kX10_133 rfl rfl rfl rfl rfl ⟨Nat.le_of_ble_eq_true rfl, Nat.le_of_ble_eq_true rfl⟩ rfl (Nat.le_of_ble_eq_true rfl) hf (fun _ _ h => c_m_next (xc_ok hC) h) (fun v15 σ16 hf => ?_)
  refine xr_bipush (pc' := 117) (59 : Int32) hC dX10_reads_115 rfl (by decide) ?_
  refine xr_icmp_eq (pc' := 120) 129 hC dX10_reads_117 rfl (by decide) hf (fun hf => ?_) (fun hf => ?_)
  · refine xr_aload_n (pc' := 130) 0 hC dX10_reads_129 rfl rfl rfl ?_
    refine xr_dup (pc' := 131) hC dX10_reads_130 rfl rfl ?_
    refine gX10_m_at (pc' := 134) hC dX10_reads_131 rfl ?_
    refine xr_iconst (pc' := 135) (1 : Int32) hC dX10_reads_134 rfl (by decide) ?_
    refine xr_iadd (pc' := 136) hC dX10_reads_135 rfl ?_
    refine pX10_m_at (pc' := 139) hC dX10_reads_136 rfl hf (fun σ17 hf => ?_)
    refine xr_goto 0 hC dX10_reads_139 (by decide) ?_
    exact hK0 _ hf
  refine xr_aload_n (pc' := 121) 0 hC dX10_reads_120 rfl rfl rfl ?_
  refine xr_iconst (pc' := 122) (1 : Int32) hC dX10_reads_121 rfl (by decide) ?_
  refine xr_aload_n (pc' := 123) 0 hC dX10_reads_122 rfl rfl rfl ?_
  refine gX10_m_at (pc' := 126) hC dX10_reads_123 rfl ?_
  refine xr_callVv (pc' := 129) (rmy := k2_rm 0 0) [.int (1 : Int32), .int (σ16.1 1)] 0 hC dX10_reads_126 rfl kX10_144 rfl rfl rfl rfl rfl ⟨Nat.le_of_ble_eq_true rfl, Nat.le_of_ble_eq_true rfl⟩ rfl (Nat.le_of_ble_eq_true rfl) hf (fun _ _ h => c_m_fail (xc_ok hC) h) (fun v18 σ19 hf => ?_)
  refine xr_aload_n (pc' := 130) 0 hC dX10_reads_129 rfl rfl rfl ?_
  refine xr_dup (pc' := 131) hC dX10_reads_130 rfl rfl ?_
  refine gX10_m_at (pc' := 134) hC dX10_reads_131 rfl ?_
  refine xr_iconst (pc' := 135) (1 : Int32) hC dX10_reads_134 rfl (by decide) ?_
  refine xr_iadd (pc' := 136) hC dX10_reads_135 rfl ?_
  refine pX10_m_at (pc' := 139) hC dX10_reads_136 rfl hf (fun σ20 hf => ?_)
  refine xr_goto 0 hC dX10_reads_139 (by decide) ?_
  exact hK0 _ hf

set_option maxRecDepth 100000 in
set_option maxHeartbeats 4000000 in
theorem w_m_reads_b0 {C : xT} {E : mE} {N : Nat} {r : Int32} {σ' : xS} (hC : xc C (GM E) RX10 cX10_reads 2 none (k2_rm 3 68)) : ∀ (n : Nat) (σ : xS), m_reads_b0 N n σ = some (r, σ') → xw C (GM E) 2 (xq C (GM E) none σ') σ 0 [(0, .ref (E.2.2.1 0))] [] := by
  intro n
  induction n with
  | zero =>
    intro σ hf
    rw [m_reads_b0] at hf
    cases hf
  | succ n ih =>
    intro σ hf
    rw [m_reads_b0] at hf
    refine xr_aload_n (pc' := 1) 0 hC dX10_reads_0 rfl rfl rfl ?_
    refine gX10_m_bad (pc' := 4) hC dX10_reads_1 rfl ?_
    refine xr_if_ne (pc' := 7) 142 hC dX10_reads_4 rfl (by decide) hf (fun hf => ?_) (fun hf => ?_)
    · exact xr_return hC dX10_reads_142 hf
    refine xr_aload_n (pc' := 8) 0 hC dX10_reads_7 rfl rfl rfl ?_
    refine xr_callV (pc' := 11) (rmy := k2_rm 0 0) [] 0 hC dX10_reads_8 rfl kX10_133 rfl rfl rfl rfl rfl ⟨Nat.le_of_ble_eq_true rfl, Nat.le_of_ble_eq_true rfl⟩ rfl (Nat.le_of_ble_eq_true rfl) hf (fun _ _ h => c_m_next (xc_ok hC) h) (fun v1 σ2 hf => ?_)
    refine xr_iconst (pc' := 12) (-1 : Int32) hC dX10_reads_11 rfl (by decide) ?_
    refine xr_icmp_eq (pc' := 15) 142 hC dX10_reads_12 rfl (by decide) hf (fun hf => ?_) (fun hf => ?_)
    · exact xr_return hC dX10_reads_142 hf
    refine xr_aload_n (pc' := 16) 0 hC dX10_reads_15 rfl rfl rfl ?_
    refine gX10_m_at (pc' := 19) hC dX10_reads_16 rfl ?_
    refine xr_istoreb_n (pc' := 20) hC dX10_reads_19 rfl hf rfl (by decide) [1, 0] (fun l1_3 => [(0, .ref (E.2.2.1 0)), (1, .int l1_3)]) (fun _ => rfl) (fun l1_3 hf => ?_)
    refine xr_aload_n (pc' := 21) 0 hC dX10_reads_20 rfl rfl rfl ?_
    refine xr_aload_n (pc' := 22) 0 hC dX10_reads_21 rfl rfl rfl ?_
    refine gX10_m_boxWord (pc' := 25) hC dX10_reads_22 rfl ?_
    refine xr_callV (pc' := 28) (rmy := k2_rm 1 20) [.ref (E.2.2.1 2)] 0 hC dX10_reads_25 rfl kX10_168 rfl rfl rfl rfl rfl ⟨Nat.le_of_ble_eq_true rfl, Nat.le_of_ble_eq_true rfl⟩ rfl (Nat.le_of_ble_eq_true rfl) hf (fun _ _ h => c_m_isWord_boxWord (xc_ok hC) h) (fun v4 σ5 hf => ?_)
    refine xr_if_eq (pc' := 31) 39 hC dX10_reads_28 rfl (by decide) hf (fun hf => ?_) (fun hf => ?_)
    · refine xr_aload_n (pc' := 40) 0 hC dX10_reads_39 rfl rfl rfl ?_
      refine xr_aload_n (pc' := 41) 0 hC dX10_reads_40 rfl rfl rfl ?_
      refine gX10_m_holeWord (pc' := 44) hC dX10_reads_41 rfl ?_
      refine xr_callV (pc' := 47) (rmy := k2_rm 1 20) [.ref (E.2.2.1 3)] 0 hC dX10_reads_44 rfl kX10_168 rfl rfl rfl rfl rfl ⟨Nat.le_of_ble_eq_true rfl, Nat.le_of_ble_eq_true rfl⟩ rfl (Nat.le_of_ble_eq_true rfl) hf (fun _ _ h => c_m_isWord_holeWord (xc_ok hC) h) (fun v6 σ7 hf => ?_)
      refine xr_if_eq (pc' := 50) 58 hC dX10_reads_47 rfl (by decide) hf (fun hf => ?_) (fun hf => ?_)
      · refine xr_aload_n (pc' := 59) 0 hC dX10_reads_58 rfl rfl rfl ?_
        refine xr_aload_n (pc' := 60) 0 hC dX10_reads_59 rfl rfl rfl ?_
        refine gX10_m_mirrorWord (pc' := 63) hC dX10_reads_60 rfl ?_
        refine xr_callV (pc' := 66) (rmy := k2_rm 1 20) [.ref (E.2.2.1 4)] 0 hC dX10_reads_63 rfl kX10_168 rfl rfl rfl rfl rfl ⟨Nat.le_of_ble_eq_true rfl, Nat.le_of_ble_eq_true rfl⟩ rfl (Nat.le_of_ble_eq_true rfl) hf (fun _ _ h => c_m_isWord_mirrorWord (xc_ok hC) h) (fun v8 σ9 hf => ?_)
        refine xr_if_eq (pc' := 69) 76 hC dX10_reads_66 rfl (by decide) hf (fun hf => ?_) (fun hf => ?_)
        · refine xr_aload_n (pc' := 77) 0 hC dX10_reads_76 rfl rfl rfl ?_
          refine xr_aload_n (pc' := 78) 0 hC dX10_reads_77 rfl rfl rfl ?_
          refine gX10_m_turnWord (pc' := 81) hC dX10_reads_78 rfl ?_
          refine xr_callV (pc' := 84) (rmy := k2_rm 1 20) [.ref (E.2.2.1 5)] 0 hC dX10_reads_81 rfl kX10_168 rfl rfl rfl rfl rfl ⟨Nat.le_of_ble_eq_true rfl, Nat.le_of_ble_eq_true rfl⟩ rfl (Nat.le_of_ble_eq_true rfl) hf (fun _ _ h => c_m_isWord_turnWord (xc_ok hC) h) (fun v10 σ11 hf => ?_)
          refine xr_if_eq (pc' := 87) 95 hC dX10_reads_84 rfl (by decide) hf (fun hf => ?_) (fun hf => ?_)
          · refine xr_aload_n (pc' := 96) 0 hC dX10_reads_95 rfl rfl rfl ?_
            refine xr_iconst (pc' := 97) (1 : Int32) hC dX10_reads_96 rfl (by decide) ?_
            refine xr_aload_n (pc' := 98) 0 hC dX10_reads_97 rfl rfl rfl ?_
            refine gX10_m_at (pc' := 101) hC dX10_reads_98 rfl ?_
            refine xr_callVv (pc' := 104) (rmy := k2_rm 0 0) [.int (1 : Int32), .int (σ11.1 1)] 0 hC dX10_reads_101 rfl kX10_144 rfl rfl rfl rfl rfl ⟨Nat.le_of_ble_eq_true rfl, Nat.le_of_ble_eq_true rfl⟩ rfl (Nat.le_of_ble_eq_true rfl) hf (fun _ _ h => c_m_fail (xc_ok hC) h) (fun v12 σ13 hf => ?_)
            refine x_lv [0] rfl ?_
            exact w_m_reads_b104 hC (m_reads_b0 N n) ih _ hf
          refine xr_aload_n (pc' := 88) 0 hC dX10_reads_87 rfl rfl rfl ?_
          refine xr_iload_n (pc' := 89) 1 hC dX10_reads_88 rfl rfl rfl ?_
          refine xr_callVv (pc' := 92) (rmy := k2_rm 1 22) [.int l1_3] 0 hC dX10_reads_89 rfl kX10_179 rfl rfl rfl rfl rfl ⟨Nat.le_of_ble_eq_true rfl, Nat.le_of_ble_eq_true rfl⟩ rfl (Nat.le_of_ble_eq_true rfl) hf (fun _ _ h => c_m_turns (xc_ok hC) h) (fun v21 σ22 hf => ?_)
          refine xr_goto 104 hC dX10_reads_92 (by decide) ?_
          refine x_lv [0] rfl ?_
          exact w_m_reads_b104 hC (m_reads_b0 N n) ih _ hf
        refine xr_aload_n (pc' := 70) 0 hC dX10_reads_69 rfl rfl rfl ?_
        refine xr_callVv (pc' := 73) (rmy := k2_rm 1 22) [] 0 hC dX10_reads_70 rfl kX10_176 rfl rfl rfl rfl rfl ⟨Nat.le_of_ble_eq_true rfl, Nat.le_of_ble_eq_true rfl⟩ rfl (Nat.le_of_ble_eq_true rfl) hf (fun _ _ h => c_m_mirrors (xc_ok hC) h) (fun v23 σ24 hf => ?_)
        refine xr_goto 104 hC dX10_reads_73 (by decide) ?_
        refine x_lv [0] rfl ?_
        exact w_m_reads_b104 hC (m_reads_b0 N n) ih _ hf
      refine xr_aload_n (pc' := 51) 0 hC dX10_reads_50 rfl rfl rfl ?_
      refine xr_iconst (pc' := 52) (0 : Int32) hC dX10_reads_51 rfl (by decide) ?_
      refine xr_callVv (pc' := 55) (rmy := k2_rm 2 44) [.int (0 : Int32)] 0 hC dX10_reads_52 rfl kX10_172 rfl rfl rfl rfl rfl ⟨Nat.le_of_ble_eq_true rfl, Nat.le_of_ble_eq_true rfl⟩ rfl (Nat.le_of_ble_eq_true rfl) hf (fun _ _ h => c_m_boxes (xc_ok hC) h) (fun v25 σ26 hf => ?_)
      refine xr_goto 104 hC dX10_reads_55 (by decide) ?_
      refine x_lv [0] rfl ?_
      exact w_m_reads_b104 hC (m_reads_b0 N n) ih _ hf
    refine xr_aload_n (pc' := 32) 0 hC dX10_reads_31 rfl rfl rfl ?_
    refine xr_iconst (pc' := 33) (1 : Int32) hC dX10_reads_32 rfl (by decide) ?_
    refine xr_callVv (pc' := 36) (rmy := k2_rm 2 44) [.int (1 : Int32)] 0 hC dX10_reads_33 rfl kX10_172 rfl rfl rfl rfl rfl ⟨Nat.le_of_ble_eq_true rfl, Nat.le_of_ble_eq_true rfl⟩ rfl (Nat.le_of_ble_eq_true rfl) hf (fun _ _ h => c_m_boxes (xc_ok hC) h) (fun v27 σ28 hf => ?_)
    refine xr_goto 104 hC dX10_reads_36 (by decide) ?_
    refine x_lv [0] rfl ?_
    exact w_m_reads_b104 hC (m_reads_b0 N n) ih _ hf

set_option maxRecDepth 100000 in
set_option maxHeartbeats 4000000 in
theorem c_m_reads {l : Launch} {E : mE} {N : Nat} (hG : xOk (GM E)) {σ : xS} {r : Int32} {σ' : xS} (hf : m_reads N σ = some (r, σ')) : xMet l (GM E) yX10_reads cX10_reads 2 none (k2_rm 3 68) [.ref (E.2.2.1 0)] σ none σ' := by
  refine x_met (own := RX10) (by decide +kernel) hG rfl (Nat.le_of_ble_eq_true rfl) (fun C hl hC => ?_)
  subst hl
  show xw C (GM E) 2 (xq C (GM E) none σ') σ 0 [(0, .ref (E.2.2.1 0))] []
  unfold m_reads at hf
  exact w_m_reads_b0 hC N _ hf

set_option maxRecDepth 100000 in
set_option maxHeartbeats 4000000 in
theorem c_m_place {l : Launch} {E : mE} {N : Nat} (hG : xOk (GM E)) {l0 l1 l2 : Int32} {σ : xS} {r : Int32} {σ' : xS} (hf : m_place N l0 l1 l2 σ = some (r, σ')) : xMet l (GM E) yX10_place cX10_place 3 (some .int) (k2_rm 0 0) [.int l0, .int l1, .int l2] σ (some (.int r)) σ' := by
  refine x_met (own := RX10) (by decide +kernel) hG rfl (Nat.le_of_ble_eq_true rfl) (fun C hl hC => ?_)
  subst hl
  show xw C (GM E) 3 (xq C (GM E) (some (.int r)) σ') σ 0 [(0, .int l0), (1, .int l1), (2, .int l2)] []
  unfold m_place at hf
  refine xr_iload_n (pc' := 1) 2 hC dX10_place_0 rfl rfl rfl ?_
  refine xr_iconst (pc' := 2) (1 : Int32) hC dX10_place_1 rfl (by decide) ?_
  refine xr_iadd (pc' := 3) hC dX10_place_2 rfl ?_
  refine xr_bipush (pc' := 5) (10 : Int32) hC dX10_place_3 rfl (by decide) ?_
  refine xr_imul (pc' := 6) hC dX10_place_5 rfl ?_
  refine xr_iload_n (pc' := 7) 1 hC dX10_place_6 rfl rfl rfl ?_
  refine xr_iadd (pc' := 8) hC dX10_place_7 rfl ?_
  refine xr_iconst (pc' := 9) (1 : Int32) hC dX10_place_8 rfl (by decide) ?_
  refine xr_iadd (pc' := 10) hC dX10_place_9 rfl ?_
  refine xr_bipush (pc' := 12) (10 : Int32) hC dX10_place_10 rfl (by decide) ?_
  refine xr_imul (pc' := 13) hC dX10_place_12 rfl ?_
  refine xr_iload_n (pc' := 14) 0 hC dX10_place_13 rfl rfl rfl ?_
  refine xr_iadd (pc' := 15) hC dX10_place_14 rfl ?_
  refine xr_iconst (pc' := 16) (1 : Int32) hC dX10_place_15 rfl (by decide) ?_
  refine xr_iadd (pc' := 17) hC dX10_place_16 rfl ?_
  exact xr_ireturn hC dX10_place_17 hf

set_option maxRecDepth 100000 in
set_option maxHeartbeats 4000000 in
theorem c_m_isMould {l : Launch} {E : mE} {N : Nat} (hG : xOk (GM E)) {l1 l2 l3 : Int32} {σ : xS} {r : Int32} {σ' : xS} (hf : m_isMould N l1 l2 l3 σ = some (r, σ')) : xMet l (GM E) yX10_isMould cX10_isMould 4 (some .boolean) (k2_rm 0 0) [.ref (E.2.2.1 0), .int l1, .int l2, .int l3] σ (some (.int r)) σ' := by
  refine x_met (own := RX10) (by decide +kernel) hG rfl (Nat.le_of_ble_eq_true rfl) (fun C hl hC => ?_)
  subst hl
  show xw C (GM E) 4 (xq C (GM E) (some (.int r)) σ') σ 0 [(0, .ref (E.2.2.1 0)), (1, .int l1), (2, .int l2), (3, .int l3)] []
  unfold m_isMould at hf
  refine xr_aload_n (pc' := 1) 0 hC dX10_isMould_0 rfl rfl rfl ?_
  refine gX10_m_hasForm (pc' := 4) hC dX10_isMould_1 rfl ?_
  refine xr_if_eq (pc' := 7) 50 hC dX10_isMould_4 rfl (by decide) hf (fun hf => ?_) (fun hf => ?_)
  · refine xr_iconst (pc' := 51) (0 : Int32) hC dX10_isMould_50 rfl (by decide) ?_
    exact xr_zreturn hC dX10_isMould_51 rfl hf
  refine xr_iload_n (pc' := 8) 1 hC dX10_isMould_7 rfl rfl rfl ?_
  refine xr_iconst (pc' := 9) (-1 : Int32) hC dX10_isMould_8 rfl (by decide) ?_
  refine xr_icmp_lt (pc' := 12) 50 hC dX10_isMould_9 rfl (by decide) hf (fun hf => ?_) (fun hf => ?_)
  · refine xr_iconst (pc' := 51) (0 : Int32) hC dX10_isMould_50 rfl (by decide) ?_
    exact xr_zreturn hC dX10_isMould_51 rfl hf
  refine xr_iload_n (pc' := 13) 1 hC dX10_isMould_12 rfl rfl rfl ?_
  refine xr_aload_n (pc' := 14) 0 hC dX10_isMould_13 rfl rfl rfl ?_
  refine gX10_m_wide (pc' := 17) hC dX10_isMould_14 rfl ?_
  refine xr_icmp_gt (pc' := 20) 50 hC dX10_isMould_17 rfl (by decide) hf (fun hf => ?_) (fun hf => ?_)
  · refine xr_iconst (pc' := 51) (0 : Int32) hC dX10_isMould_50 rfl (by decide) ?_
    exact xr_zreturn hC dX10_isMould_51 rfl hf
  refine xr_iload_n (pc' := 21) 2 hC dX10_isMould_20 rfl rfl rfl ?_
  refine xr_iconst (pc' := 22) (-1 : Int32) hC dX10_isMould_21 rfl (by decide) ?_
  refine xr_icmp_lt (pc' := 25) 50 hC dX10_isMould_22 rfl (by decide) hf (fun hf => ?_) (fun hf => ?_)
  · refine xr_iconst (pc' := 51) (0 : Int32) hC dX10_isMould_50 rfl (by decide) ?_
    exact xr_zreturn hC dX10_isMould_51 rfl hf
  refine xr_iload_n (pc' := 26) 2 hC dX10_isMould_25 rfl rfl rfl ?_
  refine xr_aload_n (pc' := 27) 0 hC dX10_isMould_26 rfl rfl rfl ?_
  refine gX10_m_high (pc' := 30) hC dX10_isMould_27 rfl ?_
  refine xr_icmp_gt (pc' := 33) 50 hC dX10_isMould_30 rfl (by decide) hf (fun hf => ?_) (fun hf => ?_)
  · refine xr_iconst (pc' := 51) (0 : Int32) hC dX10_isMould_50 rfl (by decide) ?_
    exact xr_zreturn hC dX10_isMould_51 rfl hf
  refine xr_iload_n (pc' := 34) 3 hC dX10_isMould_33 rfl rfl rfl ?_
  refine xr_iconst (pc' := 35) (-1 : Int32) hC dX10_isMould_34 rfl (by decide) ?_
  refine xr_icmp_lt (pc' := 38) 50 hC dX10_isMould_35 rfl (by decide) hf (fun hf => ?_) (fun hf => ?_)
  · refine xr_iconst (pc' := 51) (0 : Int32) hC dX10_isMould_50 rfl (by decide) ?_
    exact xr_zreturn hC dX10_isMould_51 rfl hf
  refine xr_iload_n (pc' := 39) 3 hC dX10_isMould_38 rfl rfl rfl ?_
  refine xr_aload_n (pc' := 40) 0 hC dX10_isMould_39 rfl rfl rfl ?_
  refine gX10_m_deep (pc' := 43) hC dX10_isMould_40 rfl ?_
  refine xr_icmp_gt (pc' := 46) 50 hC dX10_isMould_43 rfl (by decide) hf (fun hf => ?_) (fun hf => ?_)
  · refine xr_iconst (pc' := 51) (0 : Int32) hC dX10_isMould_50 rfl (by decide) ?_
    exact xr_zreturn hC dX10_isMould_51 rfl hf
  refine xr_iconst (pc' := 47) (1 : Int32) hC dX10_isMould_46 rfl (by decide) ?_
  refine xr_goto 51 hC dX10_isMould_47 (by decide) ?_
  exact xr_zreturn hC dX10_isMould_51 rfl hf

