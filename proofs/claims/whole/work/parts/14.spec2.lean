/-! meanings, the second part: moving bookings, giving seats, small calls -/
theorem zsum_z : ∀ n, zsum (fun _ => 0) n = 0
  | 0 => rfl
  | n + 1 => by rw [zsum, zsum_z n]
theorem zz_bit1b {f : Nat} (h : f ≤ 6) : nI 1 <<< (nI f &&& 31) = nI (2 ^ f) := by
  by_cases q : f = 6
  · subst q; decide
  · exact zz_bit1 (by omega)
theorem zplan_b {N : zN} (h : zq N) : zplan N < 2 ^ 31 := by
  have h1 := zbt_le N (2 ^ N 0 0)
  have h2 : 2 ^ N 0 0 ≤ 64 := Nat.le_trans (Nat.pow_le_pow_right (by decide) h.f) (by decide)
  unfold zplan; split <;> omega
theorem zfb_le (N : zN) (q : Nat) : ∀ n, zfb N q n ≤ n
  | 0 => Nat.le_refl _
  | n + 1 => by
    have := zfb_le N q n
    rw [zfb]; split <;> (try split) <;> omega
theorem zsp_0 (N : zN) (a : Nat) : zsp N a a = N := by
  funext k j
  unfold zsp
  rw [if_neg (by omega)]
theorem zsp_s (N : zN) {a i : Nat} (h : a ≤ i) : zu (zu (zsp N a i) 9 i (zsp N a i 9 (i + 1))) 10 i (zsp N a i 10 (i + 1)) = zsp N a (i + 1) := by
  funext k j
  have e9 : zsp N a i 9 (i + 1) = N 9 (i + 1) := by unfold zsp; rw [if_neg (by omega)]
  have e10 : zsp N a i 10 (i + 1) = N 10 (i + 1) := by unfold zsp; rw [if_neg (by omega)]
  rw [e9, e10]
  by_cases hk9 : k = 9
  · subst hk9
    rw [zu_k (by decide)]
    by_cases hj : j = i
    · subst hj
      rw [zu_s]; unfold zsp; rw [if_pos ⟨Or.inl rfl, h, by omega⟩]
    · rw [zu_i hj]; unfold zsp
      by_cases q : a ≤ j ∧ j < i
      · rw [if_pos ⟨Or.inl rfl, q.1, q.2⟩, if_pos ⟨Or.inl rfl, q.1, by omega⟩]
      · rw [if_neg (fun z => q z.2), if_neg (fun z => q ⟨z.2.1, by omega⟩)]
  · by_cases hk10 : k = 10
    · subst hk10
      by_cases hj : j = i
      · subst hj
        rw [zu_s]; unfold zsp; rw [if_pos ⟨Or.inr rfl, h, by omega⟩]
      · rw [zu_i hj, zu_k (by decide)]; unfold zsp
        by_cases q : a ≤ j ∧ j < i
        · rw [if_pos ⟨Or.inr rfl, q.1, q.2⟩, if_pos ⟨Or.inr rfl, q.1, by omega⟩]
        · rw [if_neg (fun z => q z.2), if_neg (fun z => q ⟨z.2.1, by omega⟩)]
    · rw [zu_k hk10, zu_k hk9]; unfold zsp
      rw [if_neg (fun z => z.1.elim hk9 hk10), if_neg (fun z => z.1.elim hk9 hk10)]
/-- the reference doesn't hold who wants what by person, the class not by booking -/
theorem zm_g11 (K : zz_G) (ad : Nat → Nat → Nat) (th : Int32) (N : zN) (G : Nat → Nat → Int32) (L : Nat → Int64) (q v : Nat) : zm_c K ad th (zu N 11 q v) G L = zm_c K ad th N G L := by
  funext k i
  match k with
  | 0 => rfl
  | 1 =>
    match i with
    | 0 | 1 | 2 | 3 | 4 | 5 | 6 | 7 | 8 | 9 | 10 | 11 | 12 => rfl
    | j + 13 => rfl
  | k + 2 => rfl
theorem fb_holes : ∀ (m n : Nat) (f : Nat → Nat), (∀ i, i < n → f i < m) → (∀ i j, i < j → j < n → f i ≠ f j) → n ≤ m := by
  intro m
  induction m with
  | zero =>
    intro n f h1 _
    rcases Nat.eq_zero_or_pos n with h | h
    · omega
    · exact absurd (h1 0 h) (Nat.not_lt_zero _)
  | succ m ih =>
    intro n f h1 h2
    by_cases hx : ∃ i, i < n ∧ f i = m
    · obtain ⟨a, ha, hfa⟩ := hx
      have hg := ih (n - 1) (fun i => if i < a then f i else f (i + 1)) (by
        intro i hi
        by_cases q : i < a
        · simp only [if_pos q]
          have b1 := h1 i (by omega)
          have b2 := h2 i a q ha
          omega
        · simp only [if_neg q]
          have b1 := h1 (i + 1) (by omega)
          have b2 := h2 a (i + 1) (by omega) (by omega)
          omega) (by
        intro i j hij hj
        by_cases q : i < a
        · by_cases r : j < a
          · simp only [if_pos q, if_pos r]
            exact h2 i j hij (by omega)
          · simp only [if_pos q, if_neg r]
            exact h2 i (j + 1) (by omega) (by omega)
        · have r : ¬ j < a := by omega
          simp only [if_neg q, if_neg r]
          exact h2 (i + 1) (j + 1) (by omega) (by omega))
      omega
    · have hg := ih n f (fun i hi => by
        have b1 := h1 i hi
        have b2 : f i ≠ m := fun e => hx ⟨i, hi, e⟩
        omega) h2
      omega
theorem zq.room {N : zN} (h : zq N) {q : Nat} (hq : q < N 0 1) (h0 : N 11 q = 0) : N 0 2 < N 0 1 := by
  have := fb_holes (N 0 1) (N 0 2 + 1) (fun k => if k < N 0 2 then N 9 k else q) (fun i hi => by
    by_cases c : i < N 0 2
    · simp only [if_pos c]; exact h.bk i c
    · simp only [if_neg c]; exact hq) (fun i j hij hj => by
    have hi : i < N 0 2 := by omega
    simp only [if_pos hi]
    by_cases c : j < N 0 2
    · simp only [if_pos c]
      intro e
      have := h.ij i j hi c e
      omega
    · simp only [if_neg c]
      intro e
      have := h.bw i hi
      rw [e, h0] at this
      omega)
  omega
theorem z63 : ∀ f, f < 6 → Nat.testBit 63 f = true := by decide
theorem zss_63 {N : zN} (h : zq N) : zss N 63 = zsum (fun f => N 1 f) (N 0 0) := zss_all 63 fun f hf => z63 f (by have := h.f; omega)
abbrev zner (N : zN) (k f t : Nat) : Prop := t = 0 ∨ zd f (N 10 k) < zd (t - 1) (N 10 k) ∨ zd f (N 10 k) = zd (t - 1) (N 10 k) ∧ zsit N (t - 1) (N 4 (N 9 k) + 1) < zsit N f (N 4 (N 9 k) + 1)
/-- the best floor for booking k among the first ones, as a code -/
def zgv (N : zN) (k : Nat) : Nat → Nat
  | 0 => 0
  | f + 1 => if N 3 f ≠ 0 ∧ zsit N f 0 < N 1 f ∧ zner N k f (zgv N k f) then f + 1 else zgv N k f
theorem zgv_le (N : zN) (k : Nat) : ∀ n, zgv N k n ≤ n
  | 0 => Nat.le_refl _
  | n + 1 => by
    have := zgv_le N k n
    rw [zgv]; split <;> omega
theorem zsit_b {N : zN} (h : zq N) (f c : Nat) : zsit N f c ≤ 12 := Nat.le_trans (zc_le _ _) h.p
/-- the standings behind a day's end, for the first n people -/
def zj5 (N : zN) (i : Nat) : Nat := if N 8 i = 0 then N 5 i - 1 else min (N 5 i + 1) 10
def zjn (N : zN) (n : Nat) : zN := fun k i => if k = 5 ∧ i < n ∧ N 6 i ≠ 0 then zj5 N i else N k i
theorem zjn_0 (N : zN) : zjn N 0 = N := by
  funext k i; unfold zjn; rw [if_neg (by omega)]
theorem zjn_i (N : zN) (i : Nat) : zjn N i 5 i = N 5 i := by unfold zjn; rw [if_neg (by omega)]
theorem zjn_none {N : zN} {i : Nat} (h : N 6 i = 0) : zjn N i = zjn N (i + 1) := by
  funext k j; unfold zjn
  by_cases q : k = 5 ∧ j < i ∧ N 6 j ≠ 0
  · rw [if_pos q, if_pos ⟨q.1, by omega, q.2.2⟩]
  · by_cases hj : j = i
    · subst hj; rw [if_neg q, if_neg (fun z => z.2.2 h)]
    · rw [if_neg q, if_neg (fun z => q ⟨z.1, by omega, z.2.2⟩)]
theorem zjn_some {N : zN} {i : Nat} (h : N 6 i ≠ 0) : zu (zjn N i) 5 i (zj5 N i) = zjn N (i + 1) := by
  funext k j
  by_cases hk : k = 5 ∧ j = i
  · obtain ⟨rfl, rfl⟩ := hk
    rw [zu_s]; unfold zjn; rw [if_pos ⟨rfl, by omega, h⟩]
  · rw [zu_n hk]; unfold zjn
    by_cases q : k = 5 ∧ j < i ∧ N 6 j ≠ 0
    · rw [if_pos q, if_pos ⟨q.1, by omega, q.2.2⟩]
    · rw [if_neg q, if_neg (fun z => q ⟨z.1, by have := z.2.1; by_cases e : j = i; exact absurd ⟨z.1, e⟩ hk; omega, z.2.2⟩)]
abbrev zmiss (N : zN) : Nat → Nat := zc (fun q => N 6 q ≠ 0 ∧ N 8 q = 0)
/-- the minutes behind the cleaning of the first n floors -/
def zgc (N : zN) (f : Nat) : Nat := zc (fun q => N 6 q = f + 1 ∧ N 8 q ≠ 0) (N 0 1)
def zcl (N : zN) (l0 : Int64) : Nat → Int64
  | 0 => l0
  | f + 1 => if N 3 f = 0 then zcl N l0 f else zcl N l0 f + lN (10 + 5 * zgc N f)
def zs_comeIn (N : zN) (x : Int32) : Nat × Int32 × zN :=
  if ¬ zin x (N 0 1) then (1, nI 0, N) else if N 6 x.toNatClampNeg = 0 then (1, nI 0, N) else if N 7 x.toNatClampNeg ≠ 0 then (2, nI 0, N) else (0, nI (N 6 x.toNatClampNeg) - 1, zu (zu N 7 x.toNatClampNeg 1) 8 x.toNatClampNeg 1)
def zs_leave (N : zN) (x : Int32) : Nat × Int32 × zN :=
  if ¬ zin x (N 0 1) then (1, nI 0, N) else if N 7 x.toNatClampNeg = 0 then (2, nI 0, N) else (0, nI (zc (fun q => zu N 7 x.toNatClampNeg 0 7 q ≠ 0) (N 0 1)), zu N 7 x.toNatClampNeg 0)
def zs_seatOf (N : zN) (x : Int32) : Nat × Int32 := if ¬ zin x (N 0 1) then (1, nI 0) else (0, nI (N 6 x.toNatClampNeg) - 1)
def zs_isIn (N : zN) (x : Int32) : Nat := if ¬ zin x (N 0 1) then 1 else 0
abbrev zp_isIn (N : zN) (x : Int32) : Prop := zin x (N 0 1) ∧ N 7 x.toNatClampNeg ≠ 0
def zs_isOpen (N : zN) (x : Int32) : Nat := if ¬ zin x (N 0 0) then 1 else 0
abbrev zp_isOpen (N : zN) (x : Int32) : Prop := zin x (N 0 0) ∧ N 3 x.toNatClampNeg ≠ 0
def zs_seated (N : zN) (x y : Int32) : Nat × Int32 := if ¬ zin y (N 0 0) then (1, nI 0) else if ¬ zbw x 0 3 then (2, nI 0) else (0, nI (zsit N y.toNatClampNeg (x.toNatClampNeg + 1)))
def zs_warmth (N : zN) (G : Nat → Nat → Int32) (k : Nat) (x : Int32) : Nat × Int32 := if ¬ zin x (N 0 0) then (1, nI 0) else (0, G k x.toNatClampNeg)
