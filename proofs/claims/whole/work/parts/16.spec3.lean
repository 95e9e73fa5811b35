/-! meanings, the third part: hours, shares, a new day -/
theorem zu_b {N : zN} {k i v a b c : Nat} (h : N a b < c) (hv : v < c) : zu N k i v a b < c := by
  by_cases q : a = k ∧ b = i
  · obtain ⟨rfl, rfl⟩ := q
    rw [zu_s]; exact hv
  · rw [zu_n q]; exact h
theorem zl_zl (L : Nat → Int64) (k : Nat) (a b : Int64) : zl (zl L k a) k b = zl L k b := by
  funext j; unfold zl; split <;> rfl
theorem zl_id (L : Nat → Int64) (k : Nat) : zl L k (L k) = L := by
  funext j; unfold zl; split
  · next h => rw [h]
  · rfl
theorem zl5 (x : Int64) (c : Nat) : x + lN (5 * c) + 5 = x + lN (5 * (c + 1)) := by
  rw [Int64.add_assoc]
  exact congrArg (fun z => x + z) (lN_add (5 * c) 5)
theorem zl10 (x : Int64) (c : Nat) : x + 10 + lN (5 * c) = x + lN (10 + 5 * c) := by
  rw [Int64.add_assoc]
  exact congrArg (fun z => x + z) (lN_add 10 (5 * c))
theorem zl00 (x : Int64) : x + lN (5 * 0) = x := by
  show x + lN 0 = x
  rw [show lN 0 = 0 from rfl]; simp
/-- people in the building with the seat on a floor -/
def zins (N : zN) (f : Nat) : Nat := zc (fun q => N 7 q ≠ 0 ∧ N 6 q = f + 1) (N 0 1)
theorem zins_b {N : zN} (h : zq N) (f : Nat) : zins N f ≤ 12 := Nat.le_trans (zc_le _ _) h.p
/-- the warmths that can be -/
def zgi (N : zN) (G : Nat → Nat → Int32) : Prop := ∀ f, f < N 0 0 → ∃ n, n < 109 ∧ G 0 f = nI (150 + n)
abbrev zG : Type := (Nat → Nat → Int32) × (Nat → Int64) × Int32
/-- an hour on a floor: warmth and air, discomfort, the energy so far -/
def zh1 (N : zN) (f : Nat) (σ : zG) : zG :=
  (zg (zg σ.1 0 f (σ.1 0 f + zw_chg (N 3 f) (zins N f) (σ.1 0 f))) 1 f (zw_air (N 3 f) (zins N f) (σ.1 1 f)),
   zl σ.2.1 1 (σ.2.1 1 + (nI (zins N f) * zw_one (σ.1 0 f + zw_chg (N 3 f) (zins N f) (σ.1 0 f)) (zw_air (N 3 f) (zins N f) (σ.1 1 f))).toInt64),
   σ.2.2 + zw_use (N 3 f) (zins N f) (σ.1 0 f))
def zhf (N : zN) (σ : zG) : Nat → zG
  | 0 => σ
  | f + 1 => zh1 N f (zhf N σ f)
def zhh (N : zN) (σ : zG) : Nat → zG
  | 0 => σ
  | h + 1 => zhf N (zhh N σ h) (N 0 0)
def zs_pass (N : zN) (G : Nat → Nat → Int32) (L : Nat → Int64) (x : Int32) : Nat × Int32 × (Nat → Nat → Int32) × (Nat → Int64) :=
  if ¬ zbw x 1 24 then (1, nI 0, G, L) else
    (0, (zhh N (G, L, nI 0) x.toNatClampNeg).2.2, (zhh N (G, L, nI 0) x.toNatClampNeg).1, zl (zhh N (G, L, nI 0) x.toNatClampNeg).2.1 0 ((zhh N (G, L, nI 0) x.toNatClampNeg).2.1 0 + ((zhh N (G, L, nI 0) x.toNatClampNeg).2.2).toInt64))
def zw_nx (a b : Nat) : Nat := if a ≤ b then a + (b - a) / 4 else a - (a - b) / 4
theorem zw_step : ∀ a, a < 109 → ∀ b, b < 109 → nI (150 + a) + (nI (150 + b) - nI (150 + a)) / nI 4 = nI (150 + zw_nx a b) := by decide +kernel
theorem zw_nxb {a b : Nat} (ha : a < 109) (hb : b < 109) : zw_nx a b < 109 := by unfold zw_nx; split <;> omega
theorem zw_wb {o n : Nat} (h : n ≤ 12) : ∃ b, b < 109 ∧ zw_want o n = nI (150 + b) := by
  unfold zw_want
  by_cases q : o = 0
  · exact ⟨0, by decide, by rw [if_pos q]⟩
  · exact ⟨60 + 4 * n, by omega, by rw [if_neg q]; congr 1; omega⟩
theorem zw_gb {o n : Nat} {w : Int32} (h : n ≤ 12) (hw : ∃ a, a < 109 ∧ w = nI (150 + a)) : ∃ a, a < 109 ∧ w + zw_chg o n w = nI (150 + a) := by
  obtain ⟨a, ha, rfl⟩ := hw
  obtain ⟨b, hb, e⟩ := zw_wb (o := o) h
  exact ⟨zw_nx a b, zw_nxb ha hb, by unfold zw_chg; rw [e]; exact zw_step a ha b hb⟩
theorem zw_abs1 : ∀ a, a < 109 → (if nI 215 < nI (150 + a) then nI (150 + a) - nI 215 else nI 215 - nI (150 + a)) = (if 0 ≤ nI (150 + a) - nI 215 then nI (150 + a) - nI 215 else 0 - (nI (150 + a) - nI 215)) := by decide +kernel
theorem zw_abs {w : Int32} (hw : ∃ a, a < 109 ∧ w = nI (150 + a)) : (if nI 215 < w then w - nI 215 else nI 215 - w) = (if 0 ≤ w - nI 215 then w - nI 215 else 0 - (w - nI 215)) := by
  obtain ⟨a, ha, rfl⟩ := hw
  exact zw_abs1 a ha
theorem zw_use0 (x : Int32) : (if nI 0 < x then x - nI 0 else nI 0 - x) = (if 0 ≤ x then x else 0 - x) := by
  have h0 : nI 0 = 0 := rfl
  rw [h0]
  by_cases h : (0 : Int32) < x
  · rw [if_pos h, if_pos (Int32.le_of_lt h)]; simp
  · rw [if_neg h]
    by_cases h2 : (0 : Int32) ≤ x
    · have : x = 0 := Int32.le_antisymm (Int32.not_lt.mp h) h2
      subst this; simp
    · rw [if_neg h2]
theorem zh1_gi {N : zN} {σ : zG} {f : Nat} (h : zq N) (hg : zgi N σ.1) : zgi N (zh1 N f σ).1 := by
  intro f2 hf2
  unfold zh1
  dsimp only
  rw [zg_n (by omega)]
  by_cases e : f2 = f
  · subst e
    rw [zg_s]
    exact zw_gb (zins_b h f2) (hg f2 hf2)
  · rw [zg_n (by omega)]; exact hg f2 hf2
theorem zhf_gi {N : zN} {σ : zG} (h : zq N) (hg : zgi N σ.1) : ∀ n, zgi N (zhf N σ n).1
  | 0 => hg
  | n + 1 => zh1_gi h (zhf_gi h hg n)
theorem zhh_gi {N : zN} {σ : zG} (h : zq N) (hg : zgi N σ.1) : ∀ n, zgi N (zhh N σ n).1
  | 0 => hg
  | n + 1 => zhf_gi h (zhh_gi h hg n) _
/-! shares of the machine's own numbers -/
def zsm (N : zN) : Nat := zsum (fun q => N 5 q) (N 0 1)
def zgv2 (N : zN) : Nat := zsum (fun f => zsit N f 0) (N 0 0)
def zos (N : zN) : Nat := zsum (fun f => if N 3 f = 0 then 0 else N 1 f) (N 0 0)
theorem zsm_b {N : zN} (h : zq N) : zsm N ≤ 120 := by
  have h1 : zsm N ≤ N 0 1 * 10 := zsum_b fun q _ => (h.sm q).2.2.2.1
  have := h.p
  omega
theorem zgv2_b {N : zN} (h : zq N) : zgv2 N ≤ 72 := by
  have h1 : zgv2 N ≤ N 0 0 * 12 := zsum_b fun f _ => zsit_b h f 0
  have := h.f
  omega
theorem zos_b {N : zN} (h : zq N) : zos N ≤ 72 := by
  have h1 : zos N ≤ N 0 0 * 12 := zsum_b fun f hf => by
    have := (h.fl f hf).2.1
    show (if _ then _ else _) ≤ 12
    split <;> omega
  have := h.f
  omega
def zmean (N : zN) : UInt64 := FP.ddiv (FP.i2d (nI (zsm N))) (FP.i2d (nI (N 0 1)))
def zshare (N : zN) : UInt32 := FP.fdiv (FP.i2f (nI (zgv2 N))) (FP.i2f (nI (zos N)))
theorem zmean_f : ∀ a, a < 121 → ∀ b, b < 12 → vf_n64 (FP.ddiv (FP.i2d (nI a)) (FP.i2d (nI (b + 1)))) := by unfold vf_n64; decide +kernel
theorem zmean_n {N : zN} (h : zq N) (h0 : N 0 1 ≠ 0) : vf_n64 (FP.ddiv (FP.i2d (nI (zsum (fun q => N 5 q) (N 0 1)))) (FP.i2d (nI (N 0 1)))) := by
  have h1 := zsm_b h
  have h2 := h.p
  have := zmean_f (zsm N) (by omega) (N 0 1 - 1) (by omega)
  rw [show N 0 1 - 1 + 1 = N 0 1 by omega] at this
  exact this
theorem zshare_f : ∀ a, a < 73 → ∀ b, b < 72 → vf_n32 (FP.fdiv (FP.i2f (nI a)) (FP.i2f (nI (b + 1)))) := by unfold vf_n32; decide +kernel
theorem zshare_n {N : zN} (h : zq N) (h0 : zos N ≠ 0) : vf_n32 (FP.fdiv (FP.i2f (nI (zsum (fun f => zsit N f 0) (N 0 0)))) (FP.i2f (nI (zos N)))) := by
  have h1 := zgv2_b h
  have h2 := zos_b h
  have := zshare_f (zgv2 N) (by omega) (zos N - 1) (by omega)
  rw [show zos N - 1 + 1 = zos N by omega] at this
  exact this
