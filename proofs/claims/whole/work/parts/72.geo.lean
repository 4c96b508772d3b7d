/-! the mould: ways -/
abbrev bx (w h d i : Nat) : Prop := i % 10 ≤ w + 1 ∧ i / 10 % 10 ≤ h + 1 ∧ i / 100 ≤ d + 1
def ed (w h d k i : Nat) : Nat := if k = 0 then w + 1 - i % 10 else if k = 1 then i % 10 else if k = 2 then h + 1 - i / 10 % 10 else if k = 3 then i / 10 % 10 else if k = 4 then d + 1 - i / 100 else i / 100
def nx (k i : Nat) : Nat := if k = 0 then i + 1 else if k = 1 then i - 1 else if k = 2 then i + 10 else if k = 3 then i - 10 else if k = 4 then i + 100 else i - 100
def eg (w h d k i : Nat) : Nat := if k = 0 then i + (w + 1 - i % 10) else if k = 1 then i - i % 10 else if k = 2 then i + 10 * (h + 1 - i / 10 % 10) else if k = 3 then i - 10 * (i / 10 % 10) else if k = 4 then i + 100 * (d + 1 - i / 100) else i % 100
def ov (k : Nat) : Nat := if k % 2 = 0 then k + 1 else k - 1
def sx_ (k : Nat) : Int := if k = 0 then 1 else if k = 1 then -1 else 0
def sy_ (k : Nat) : Int := if k = 2 then 1 else if k = 3 then -1 else 0
def sz_ (k : Nat) : Int := if k = 4 then 1 else if k = 5 then -1 else 0
theorem ed_0 (w h d i : Nat) : ed w h d 0 i = w + 1 - i % 10 := rfl
theorem nx_0 (i : Nat) : nx 0 i = i + 1 := rfl
theorem eg_0 (w h d i : Nat) : eg w h d 0 i = i + (w + 1 - i % 10) := rfl
theorem ov_0 : ov 0 = 1 := rfl
theorem sx_0 : sx_ 0 = 1 := rfl
theorem sy_0 : sy_ 0 = 0 := rfl
theorem sz_0 : sz_ 0 = 0 := rfl
theorem ed_1 (w h d i : Nat) : ed w h d 1 i = i % 10 := rfl
theorem nx_1 (i : Nat) : nx 1 i = i - 1 := rfl
theorem eg_1 (w h d i : Nat) : eg w h d 1 i = i - i % 10 := rfl
theorem ov_1 : ov 1 = 0 := rfl
theorem sx_1 : sx_ 1 = -1 := rfl
theorem sy_1 : sy_ 1 = 0 := rfl
theorem sz_1 : sz_ 1 = 0 := rfl
theorem ed_2 (w h d i : Nat) : ed w h d 2 i = h + 1 - i / 10 % 10 := rfl
theorem nx_2 (i : Nat) : nx 2 i = i + 10 := rfl
theorem eg_2 (w h d i : Nat) : eg w h d 2 i = i + 10 * (h + 1 - i / 10 % 10) := rfl
theorem ov_2 : ov 2 = 3 := rfl
theorem sx_2 : sx_ 2 = 0 := rfl
theorem sy_2 : sy_ 2 = 1 := rfl
theorem sz_2 : sz_ 2 = 0 := rfl
theorem ed_3 (w h d i : Nat) : ed w h d 3 i = i / 10 % 10 := rfl
theorem nx_3 (i : Nat) : nx 3 i = i - 10 := rfl
theorem eg_3 (w h d i : Nat) : eg w h d 3 i = i - 10 * (i / 10 % 10) := rfl
theorem ov_3 : ov 3 = 2 := rfl
theorem sx_3 : sx_ 3 = 0 := rfl
theorem sy_3 : sy_ 3 = -1 := rfl
theorem sz_3 : sz_ 3 = 0 := rfl
theorem ed_4 (w h d i : Nat) : ed w h d 4 i = d + 1 - i / 100 := rfl
theorem nx_4 (i : Nat) : nx 4 i = i + 100 := rfl
theorem eg_4 (w h d i : Nat) : eg w h d 4 i = i + 100 * (d + 1 - i / 100) := rfl
theorem ov_4 : ov 4 = 5 := rfl
theorem sx_4 : sx_ 4 = 0 := rfl
theorem sy_4 : sy_ 4 = 0 := rfl
theorem sz_4 : sz_ 4 = 1 := rfl
theorem ed_5 (w h d i : Nat) : ed w h d 5 i = i / 100 := rfl
theorem nx_5 (i : Nat) : nx 5 i = i - 100 := rfl
theorem eg_5 (w h d i : Nat) : eg w h d 5 i = i % 100 := rfl
theorem ov_5 : ov 5 = 4 := rfl
theorem sx_5 : sx_ 5 = 0 := rfl
theorem sy_5 : sy_ 5 = 0 := rfl
theorem sz_5 : sz_ 5 = -1 := rfl
theorem k6 {k : Nat} (h : k < 6) : k = 0 ∨ k = 1 ∨ k = 2 ∨ k = 3 ∨ k = 4 ∨ k = 5 := by omega
theorem bx_lt {w h d i : Nat} (hd : dOk w h d) (hi : bx w h d i) : i < 1000 := by omega
theorem dex (i : Nat) : ∃ a b c : Nat, a < 10 ∧ b < 10 ∧ i = c * 100 + b * 10 + a ∧ i % 10 = a ∧ i / 10 % 10 = b ∧ i / 100 = c := ⟨i % 10, i / 10 % 10, i / 100, by omega, by omega, by omega, rfl, rfl, rfl⟩
theorem geo1 {w h d k i : Nat} (hd : dOk w h d) (hk : k < 6) (hi : bx w h d i) : bx w h d (eg w h d k i) ∧ ed w h d k (eg w h d k i) = 0 ∧ ed w h d k i ≤ 9 ∧ (ed w h d k i = 0 → eg w h d k i = i) := by
  obtain ⟨a, b, c, ha, hb, hc, e1, e2, e3⟩ := dex i
  rcases k6 hk with rfl | rfl | rfl | rfl | rfl | rfl <;> simp only [ed_0, ed_1, ed_2, ed_3, ed_4, ed_5, nx_0, nx_1, nx_2, nx_3, nx_4, nx_5, eg_0, eg_1, eg_2, eg_3, eg_4, eg_5, ov_0, ov_1, ov_2, ov_3, ov_4, ov_5, sx_0, sx_1, sx_2, sx_3, sx_4, sx_5, sy_0, sy_1, sy_2, sy_3, sy_4, sy_5, sz_0, sz_1, sz_2, sz_3, sz_4, sz_5] <;> omega
theorem geo2 {w h d k i : Nat} (hd : dOk w h d) (hk : k < 6) (hi : bx w h d i) (hp : 0 < ed w h d k i) : bx w h d (nx k i) ∧ ed w h d k (nx k i) + 1 = ed w h d k i ∧ eg w h d k (nx k i) = eg w h d k i := by
  obtain ⟨a, b, c, ha, hb, hc, e1, e2, e3⟩ := dex i
  rcases k6 hk with rfl | rfl | rfl | rfl | rfl | rfl <;> simp only [ed_0, ed_1, ed_2, ed_3, ed_4, ed_5, nx_0, nx_1, nx_2, nx_3, nx_4, nx_5, eg_0, eg_1, eg_2, eg_3, eg_4, eg_5, ov_0, ov_1, ov_2, ov_3, ov_4, ov_5, sx_0, sx_1, sx_2, sx_3, sx_4, sx_5, sy_0, sy_1, sy_2, sy_3, sy_4, sy_5, sz_0, sz_1, sz_2, sz_3, sz_4, sz_5] at * <;> omega
theorem geo3 {w h d k i : Nat} (hd : dOk w h d) (hk : k < 6) (hi : bx w h d i) (hp : 0 < ed w h d (ov k) i) : bx w h d (nx (ov k) i) ∧ ed w h d k (nx (ov k) i) = ed w h d k i + 1 ∧ eg w h d k (nx (ov k) i) = eg w h d k i ∧ nx k (nx (ov k) i) = i := by
  obtain ⟨a, b, c, ha, hb, hc, e1, e2, e3⟩ := dex i
  rcases k6 hk with rfl | rfl | rfl | rfl | rfl | rfl <;> simp only [ed_0, ed_1, ed_2, ed_3, ed_4, ed_5, nx_0, nx_1, nx_2, nx_3, nx_4, nx_5, eg_0, eg_1, eg_2, eg_3, eg_4, eg_5, ov_0, ov_1, ov_2, ov_3, ov_4, ov_5, sx_0, sx_1, sx_2, sx_3, sx_4, sx_5, sy_0, sy_1, sy_2, sy_3, sy_4, sy_5, sz_0, sz_1, sz_2, sz_3, sz_4, sz_5] at * <;> omega
theorem geo4 {w h d k i j : Nat} (hd : dOk w h d) (hk : k < 6) (hi : bx w h d i) (hj : bx w h d j) (he : eg w h d k i = eg w h d k j) (hl : ed w h d k i = ed w h d k j) : i = j := by
  rcases k6 hk with rfl | rfl | rfl | rfl | rfl | rfl <;> simp only [ed_0, ed_1, ed_2, ed_3, ed_4, ed_5, nx_0, nx_1, nx_2, nx_3, nx_4, nx_5, eg_0, eg_1, eg_2, eg_3, eg_4, eg_5, ov_0, ov_1, ov_2, ov_3, ov_4, ov_5, sx_0, sx_1, sx_2, sx_3, sx_4, sx_5, sy_0, sy_1, sy_2, sy_3, sy_4, sy_5, sz_0, sz_1, sz_2, sz_3, sz_4, sz_5] at * <;> omega
theorem geo5 {w h d k i j : Nat} (hd : dOk w h d) (hk : k < 6) (hi : bx w h d i) (hj : bx w h d j) (he : eg w h d k j = eg w h d k i) (hp : ed w h d (ov k) i = 0) : ed w h d k j ≤ ed w h d k i := by
  rcases k6 hk with rfl | rfl | rfl | rfl | rfl | rfl <;> simp only [ed_0, ed_1, ed_2, ed_3, ed_4, ed_5, nx_0, nx_1, nx_2, nx_3, nx_4, nx_5, eg_0, eg_1, eg_2, eg_3, eg_4, eg_5, ov_0, ov_1, ov_2, ov_3, ov_4, ov_5, sx_0, sx_1, sx_2, sx_3, sx_4, sx_5, sy_0, sy_1, sy_2, sy_3, sy_4, sy_5, sz_0, sz_1, sz_2, sz_3, sz_4, sz_5] at * <;> omega
theorem geo6 {w h d k i : Nat} (hd : dOk w h d) (hk : k < 6) (hi : bx w h d i) : (0 < ed w h d k i → ((nx k i % 10 : Nat) : Int) - 1 = ((i % 10 : Nat) : Int) - 1 + sx_ k ∧ ((nx k i / 10 % 10 : Nat) : Int) - 1 = ((i / 10 % 10 : Nat) : Int) - 1 + sy_ k ∧ ((nx k i / 100 : Nat) : Int) - 1 = ((i / 100 : Nat) : Int) - 1 + sz_ k) ∧ (ed w h d k i = 0 → ¬ (-1 ≤ ((i % 10 : Nat) : Int) - 1 + sx_ k ∧ ((i % 10 : Nat) : Int) - 1 + sx_ k ≤ w ∧ -1 ≤ ((i / 10 % 10 : Nat) : Int) - 1 + sy_ k ∧ ((i / 10 % 10 : Nat) : Int) - 1 + sy_ k ≤ h ∧ -1 ≤ ((i / 100 : Nat) : Int) - 1 + sz_ k ∧ ((i / 100 : Nat) : Int) - 1 + sz_ k ≤ d)) := by
  obtain ⟨a, b, c, ha, hb, hc, e1, e2, e3⟩ := dex i
  rcases k6 hk with rfl | rfl | rfl | rfl | rfl | rfl <;> simp only [ed_0, ed_1, ed_2, ed_3, ed_4, ed_5, nx_0, nx_1, nx_2, nx_3, nx_4, nx_5, eg_0, eg_1, eg_2, eg_3, eg_4, eg_5, ov_0, ov_1, ov_2, ov_3, ov_4, ov_5, sx_0, sx_1, sx_2, sx_3, sx_4, sx_5, sy_0, sy_1, sy_2, sy_3, sy_4, sy_5, sz_0, sz_1, sz_2, sz_3, sz_4, sz_5] <;> omega
theorem ov_lt {k : Nat} (hk : k < 6) : ov k < 6 ∧ ov (ov k) = k := by
  rcases k6 hk with rfl | rfl | rfl | rfl | rfl | rfl <;> decide
