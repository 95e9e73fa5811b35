/-! the plan floor by floor: its table and why it finds the plan -/
/-- what the bookings strictly between two floors lose -/
def zlbs (N : zN) (lo hi : Int32) : Nat → Int32
  | 0 => nI 0
  | k + 1 => if lo < nI (N 10 k) ∧ nI (N 10 k) < hi then zlbs N lo hi k + (if hi - nI (N 10 k) < nI (N 10 k) - lo then hi - nI (N 10 k) else nI (N 10 k) - lo) else zlbs N lo hi k
def zb1 (N : zN) (h : Nat) : Nat → Nat := fun k => if N 10 k < h then h - N 10 k else 0
def zb2 (N : zN) (i h : Nat) : Nat → Nat := fun k => if i < N 10 k ∧ N 10 k < h then min (N 10 k - i) (h - N 10 k) else 0
def zb3 (N : zN) (i : Nat) : Nat → Nat := fun k => if i < N 10 k then N 10 k - i else 0
theorem zmn {a b : Nat} (ha : a < 2 ^ 31) (hb : b < 2 ^ 31) : (if nI b < nI a then nI b else nI a) = nI (min a b) := zz_minNX ha hb
theorem zlbs_2 {N : zN} {i h : Nat} (hi : i < 6) (hh : h < 6) : ∀ n, (∀ k, k < n → N 10 k < 6) → zlbs N (nI i) (nI h) n = nI (zsum (zb2 N i h) n)
  | 0, _ => rfl
  | n + 1, hw => by
    have w := hw n (by omega)
    rw [zlbs, zlbs_2 hi hh n (fun k hk => hw k (by omega)), zsum, zb2]
    have e1 := nI_ltI (a := i) (b := N 10 n) (by omega) (by omega)
    have e2 := nI_ltI (a := N 10 n) (b := h) (by omega) (by omega)
    by_cases q : i < N 10 n ∧ N 10 n < h
    · rw [if_pos ⟨e1.mpr q.1, e2.mpr q.2⟩, if_pos q, pk_sub (by omega), pk_sub (by omega), zmn (by omega) (by omega), nI_add]
    · rw [if_neg (fun z => q ⟨e1.mp z.1, e2.mp z.2⟩), if_neg q, Nat.add_zero]
theorem zlb1_d : ∀ w, w < 6 → ∀ h, h < 6 → (-100 : Int32) < nI w ∧ (w < h → (if nI h - nI w < nI w - (-100) then nI h - nI w else nI w - (-100)) = nI (h - w)) := by decide +kernel
theorem zlbs_1 {N : zN} {h : Nat} (hh : h < 6) : ∀ n, (∀ k, k < n → N 10 k < 6) → zlbs N (-100) (nI h) n = nI (zsum (zb1 N h) n)
  | 0, _ => rfl
  | n + 1, hw => by
    have w := hw n (by omega)
    have d := zlb1_d _ w h hh
    rw [zlbs, zlbs_1 hh n (fun k hk => hw k (by omega)), zsum, zb1]
    have e2 := nI_ltI (a := N 10 n) (b := h) (by omega) (by omega)
    by_cases q : N 10 n < h
    · rw [if_pos ⟨d.1, e2.mpr q⟩, if_pos q, d.2 q, nI_add]
    · rw [if_neg (fun z => q (e2.mp z.2)), if_neg q, Nat.add_zero]
theorem zlb3_d : ∀ w, w < 6 → ∀ i, i < 6 → nI w < nI 100 ∧ (i < w → (if nI 100 - nI w < nI w - nI i then nI 100 - nI w else nI w - nI i) = nI (w - i)) := by decide +kernel
theorem zlbs_3 {N : zN} {i : Nat} (hi : i < 6) : ∀ n, (∀ k, k < n → N 10 k < 6) → zlbs N (nI i) (nI 100) n = nI (zsum (zb3 N i) n)
  | 0, _ => rfl
  | n + 1, hw => by
    have w := hw n (by omega)
    have d := zlb3_d _ w i hi
    rw [zlbs, zlbs_3 hi n (fun k hk => hw k (by omega)), zsum, zb3]
    have e1 := nI_ltI (a := i) (b := N 10 n) (by omega) (by omega)
    by_cases q : i < N 10 n
    · rw [if_pos ⟨e1.mpr q, d.1⟩, if_pos q, d.2 q, nI_add]
    · rw [if_neg (fun z => q (e1.mp z.1)), if_neg q, Nat.add_zero]
/-- a set whose highest floor is h -/
abbrev ztop (h T : Nat) : Prop := T < 2 ^ (h + 1) ∧ T.testBit h = true
theorem zt_dec : ∀ h : Nat, h < 6 → ∀ T : Nat, T < 64 → ztop h T → T = 2 ^ h ∨ ∃ i, i < h ∧ ztop i (T - 2 ^ h) ∧ T = T - 2 ^ h + 2 ^ h := by decide +kernel
theorem zt_alone : ∀ h : Nat, h < 6 → ztop h (2 ^ h) := by decide +kernel
theorem zt_ext : ∀ h : Nat, h < 6 → ∀ i : Nat, i < h → ∀ T : Nat, T < 64 → ztop i T → ztop h (T + 2 ^ h) := by decide +kernel
def zt_bitsB (h T : Nat) : Bool := decide (∀ f : Nat, f < 6 → (T + 2 ^ h).testBit f = (T.testBit f || f == h)) && !T.testBit h
theorem zt_bits0 : ∀ h : Nat, h < 6 → ∀ i : Nat, i < h → ∀ T : Nat, T < 64 → ztop i T → zt_bitsB h T = true := by decide +kernel
theorem zt_bits (h : Nat) (hh : h < 6) (i : Nat) (hi : i < h) (T : Nat) (hT : T < 64) (t : ztop i T) (f : Nat) (hf : f < 6) : ((T + 2 ^ h).testBit f = true ↔ T.testBit f = true ∨ f = h) ∧ (f = h → ¬ T.testBit f = true) := by
  have b := zt_bits0 h hh i hi T hT t
  unfold zt_bitsB at b
  rw [Bool.and_eq_true, decide_eq_true_eq] at b
  refine ⟨?_, fun e => ?_⟩
  · rw [b.1 f hf, Bool.or_eq_true, beq_iff_eq]
  · subst e
    have := b.2
    simpa using this
theorem zt_bit1 : ∀ h : Nat, h < 6 → ∀ f : Nat, f < 6 → ((2 ^ h).testBit f = true ↔ f = h) := by decide +kernel
theorem zn_ext : ∀ h : Nat, h < 6 → ∀ i : Nat, i < h → ∀ T : Nat, T < 64 → ztop i T → ∀ w : Nat, w ≤ i → znr 100 (T + 2 ^ h) w (h + 1) = znr 100 T w (i + 1) := by decide +kernel
def zn_midB (h i T : Nat) : Bool := decide (∀ w : Nat, w ≤ h → i < w → znr 100 (T + 2 ^ h) w (h + 1) = min (w - i) (h - w))
theorem zn_mid0 : ∀ h : Nat, h < 6 → ∀ i : Nat, i < h → ∀ T : Nat, T < 64 → ztop i T → zn_midB h i T = true := by decide +kernel
theorem zn_mid (h : Nat) (hh : h < 6) (i : Nat) (hi : i < h) (T : Nat) (hT : T < 64) (t : ztop i T) (w : Nat) (hw : w ≤ h) (iw : i < w) : znr 100 (T + 2 ^ h) w (h + 1) = min (w - i) (h - w) := of_decide_eq_true (zn_mid0 h hh i hi T hT t) w hw iw
theorem zn_alone : ∀ h : Nat, h < 6 → ∀ w : Nat, w ≤ h → znr 100 (2 ^ h) w (h + 1) = h - w := by decide +kernel
def zn_finA (h F T : Nat) : Bool := decide (∀ w : Nat, w < 6 → w ≤ h → znr 100 T w F = znr 100 T w (h + 1))
def zn_finB (h F T : Nat) : Bool := decide (∀ w : Nat, w < 6 → h < w → znr 100 T w F = w - h)
def zn_finC (h F : Nat) : Bool := decide (∀ T : Nat, T < 64 → ztop h T → (zn_finA h F T && zn_finB h F T) = true)
theorem zn_fin0 : ∀ F : Nat, F < 7 → ∀ h : Nat, h < F → zn_finC h F = true := by decide +kernel
theorem zn_fin (h : Nat) (hh : h < 6) (F : Nat) (hF : F ≤ 6) (hf : h < F) (T : Nat) (hT : T < 64) (t : ztop h T) (w : Nat) (hw : w < 6) : znr 100 T w F = if w ≤ h then znr 100 T w (h + 1) else w - h := by
  have b := of_decide_eq_true (zn_fin0 F (by omega) h hf) T hT t
  rw [Bool.and_eq_true] at b
  by_cases a : w ≤ h
  · rw [if_pos a]; exact of_decide_eq_true b.1 w hw a
  · rw [if_neg a]; exact of_decide_eq_true b.2 w hw (by omega)
theorem zt_ne : ∀ T : Nat, T < 64 → T ≠ 0 → ∃ h, h < 6 ∧ ztop h T := by decide +kernel
theorem zt_64 {h T : Nat} (hh : h < 6) (t : ztop h T) : T < 64 := Nat.lt_of_lt_of_le t.1 (Nat.le_trans (Nat.pow_le_pow_right (by decide) (show h + 1 ≤ 6 by omega)) (by decide))
theorem zsum_or {A B : Nat → Prop} [DecidablePred A] [DecidablePred B] {g : Nat → Nat} {h : Nat} : ∀ {n : Nat}, (∀ f, f < n → (B f ↔ A f ∨ f = h) ∧ (f = h → ¬ A f)) → zsum (fun f => if B f then g f else 0) n = zsum (fun f => if A f then g f else 0) n + (if h < n then g h else 0)
  | 0, _ => by simp [zsum]
  | n + 1, hb => by
    have ih := zsum_or (g := g) (n := n) (fun f hf => hb f (by omega))
    have b := hb n (by omega)
    rw [zsum, zsum, ih]
    by_cases e : n = h
    · subst e
      rw [if_pos (b.1.mpr (Or.inr rfl)), if_neg (b.2 rfl), if_neg (Nat.lt_irrefl _), if_pos (Nat.lt_succ_self _)]
    · by_cases a : A n
      · rw [if_pos (b.1.mpr (Or.inl a)), if_pos a]
        by_cases c : h < n
        · rw [if_pos c, if_pos (by omega)]; omega
        · rw [if_neg c, if_neg (by omega)]; omega
      · rw [if_neg (fun z => (b.1.mp z).elim a e), if_neg a]
        by_cases c : h < n
        · rw [if_pos c, if_pos (by omega)]; omega
        · rw [if_neg c, if_neg (by omega)]
theorem zsum_1 {B : Nat → Prop} [DecidablePred B] {g : Nat → Nat} {h n : Nat} (hb : ∀ f, f < n → (B f ↔ f = h)) (hh : h < n) : zsum (fun f => if B f then g f else 0) n = g h := by
  have := zsum_or (A := fun _ => False) (B := B) (g := g) (h := h) (n := n) (fun f hf => ⟨⟨fun z => Or.inr ((hb f hf).mp z), fun z => (hb f hf).mpr (z.resolve_left id)⟩, fun _ z => z⟩)
  rw [this, if_pos hh, zsum_c (g := fun _ => 0) (fun f _ => if_neg id), zsum_z, Nat.zero_add]
theorem zsum_a {f g : Nat → Nat} : ∀ n, zsum (fun k => f k + g k) n = zsum f n + zsum g n
  | 0 => rfl
  | n + 1 => by rw [zsum, zsum, zsum, zsum_a n]; omega
theorem zsum_m {f : Nat → Nat} (c : Nat) : ∀ n, zsum (fun k => c * f k) n = c * zsum f n
  | 0 => rfl
  | n + 1 => by rw [zsum, zsum, zsum_m c n, Nat.mul_add]
/-- the loss of the bookings that want floor h or one below it -/
def zlp (N : zN) (h T : Nat) : Nat := zsum (fun k => if N 10 k ≤ h then 3 * znr 100 T (N 10 k) (h + 1) else 0) (N 0 2)
def zpk (N : zN) (h T : Nat) : Nat := 64 * (zcs N T + zlp N h T) + T
def zsB (N : zN) (T : Nat) : Nat := min (zss N T) (N 0 2)
def zfk (N : zN) (T : Nat) : Nat := 64 * zls 100 N T + T
section ZDP
variable {N : zN}
theorem zss_ext (hq : zq N) {h i T : Nat} (hh : h < N 0 0) (hi : i < h) (t : ztop i T) : zss N (T + 2 ^ h) = zss N T + N 1 h := by
  have := hq.f
  have r := zsum_or (g := N 1) (n := N 0 0) (fun f hf => zt_bits h (by omega) i hi T (zt_64 (by omega) t) t f (by omega))
  rw [if_pos hh] at r
  exact r
theorem zcs_ext (hq : zq N) {h i T : Nat} (hh : h < N 0 0) (hi : i < h) (t : ztop i T) : zcs N (T + 2 ^ h) = zcs N T + N 2 h := by
  have := hq.f
  have r := zsum_or (g := N 2) (n := N 0 0) (fun f hf => zt_bits h (by omega) i hi T (zt_64 (by omega) t) t f (by omega))
  rw [if_pos hh] at r
  exact r
theorem zss_1 (hq : zq N) {h : Nat} (hh : h < N 0 0) : zss N (2 ^ h) = N 1 h := by
  have := hq.f
  exact zsum_1 (g := N 1) (fun f hf => zt_bit1 h (by omega) f (by omega)) hh
theorem zcs_1 (hq : zq N) {h : Nat} (hh : h < N 0 0) : zcs N (2 ^ h) = N 2 h := by
  have := hq.f
  exact zsum_1 (g := N 2) (fun f hf => zt_bit1 h (by omega) f (by omega)) hh
theorem zlp_ext (hq : zq N) {h i T : Nat} (hh : h < N 0 0) (hi : i < h) (t : ztop i T) : zlp N h (T + 2 ^ h) = zlp N i T + 3 * zsum (zb2 N i h) (N 0 2) := by
  have h0 := hq.f
  unfold zlp
  rw [← zsum_m, ← zsum_a]
  refine zsum_c fun k hk => ?_
  have hw := hq.bf k hk
  have t6 := zt_64 (by omega) t
  show (if N 10 k ≤ h then 3 * znr 100 (T + 2 ^ h) (N 10 k) (h + 1) else 0) = (if N 10 k ≤ i then 3 * znr 100 T (N 10 k) (i + 1) else 0) + 3 * (if i < N 10 k ∧ N 10 k < h then min (N 10 k - i) (h - N 10 k) else 0)
  by_cases a : N 10 k ≤ i
  · rw [if_pos (by omega), if_pos a, if_neg (by omega), zn_ext h (by omega) i hi T t6 t _ a]
    omega
  · rw [if_neg a]
    by_cases b : N 10 k ≤ h
    · rw [if_pos b, zn_mid h (by omega) i hi T t6 t _ b (by omega)]
      by_cases c : N 10 k < h
      · rw [if_pos ⟨by omega, c⟩]; omega
      · rw [if_neg (fun z => c z.2)]
        have : N 10 k = h := by omega
        rw [this]; omega
    · rw [if_neg b, if_neg (by omega)]
theorem zlp_1 (hq : zq N) {h : Nat} (hh : h < N 0 0) : zlp N h (2 ^ h) = 3 * zsum (zb1 N h) (N 0 2) := by
  have h0 := hq.f
  unfold zlp
  rw [← zsum_m]
  refine zsum_c fun k hk => ?_
  have hw := hq.bf k hk
  show (if N 10 k ≤ h then 3 * znr 100 (2 ^ h) (N 10 k) (h + 1) else 0) = 3 * (if N 10 k < h then h - N 10 k else 0)
  by_cases b : N 10 k ≤ h
  · rw [if_pos b, zn_alone h (by omega) _ b]
    by_cases c : N 10 k < h
    · rw [if_pos c]
    · rw [if_neg c]; omega
  · rw [if_neg b, if_neg (by omega)]
theorem zls_top (hq : zq N) {h T : Nat} (hh : h < N 0 0) (t : ztop h T) : zls 100 N T = zcs N T + zlp N h T + 3 * zsum (zb3 N h) (N 0 2) := by
  have h0 := hq.f
  unfold zls zlp
  rw [← zsum_m, Nat.add_assoc, ← zsum_a]
  congr 1
  refine zsum_c fun k hk => ?_
  have hw := hq.bf k hk
  show 3 * znr 100 T (N 10 k) (N 0 0) = (if N 10 k ≤ h then 3 * znr 100 T (N 10 k) (h + 1) else 0) + 3 * (if h < N 10 k then N 10 k - h else 0)
  rw [zn_fin h (by omega) (N 0 0) h0 hh T (zt_64 (by omega) t) t _ (by omega)]
  by_cases a : N 10 k ≤ h
  · rw [if_pos a, if_pos a, if_neg (by omega)]; omega
  · rw [if_neg a, if_neg a, if_pos (by omega)]; omega
theorem zpk_ext (hq : zq N) {h i T : Nat} (hh : h < N 0 0) (hi : i < h) (t : ztop i T) : zpk N h (T + 2 ^ h) = zpk N i T + 64 * (N 2 h + 3 * zsum (zb2 N i h) (N 0 2)) + 2 ^ h := by
  unfold zpk; rw [zcs_ext hq hh hi t, zlp_ext hq hh hi t]; omega
theorem zpk_1 (hq : zq N) {h : Nat} (hh : h < N 0 0) : zpk N h (2 ^ h) = 64 * (N 2 h + 3 * zsum (zb1 N h) (N 0 2)) + 2 ^ h := by
  unfold zpk; rw [zcs_1 hq hh, zlp_1 hq hh]
theorem zfk_top (hq : zq N) {h T : Nat} (hh : h < N 0 0) (t : ztop h T) : zfk N T = zpk N h T + 64 * (3 * zsum (zb3 N h) (N 0 2)) := by
  unfold zfk zpk; rw [zls_top hq hh t]; omega
theorem zsB_ext (hq : zq N) {h i T : Nat} (hh : h < N 0 0) (hi : i < h) (t : ztop i T) : zsB N (T + 2 ^ h) = min (zsB N T + N 1 h) (N 0 2) := by
  unfold zsB; rw [zss_ext hq hh hi t]; omega
theorem zsB_1 (hq : zq N) {h : Nat} (hh : h < N 0 0) : zsB N (2 ^ h) = min (N 1 h) (N 0 2) := by
  unfold zsB; rw [zss_1 hq hh]
theorem zfk_b (hq : zq N) {T : Nat} (hT : T < 64) : zfk N T < 400000 := by
  have := zls_b hq (c := 100) T (by decide)
  unfold zfk; omega
theorem zpk_b (hq : zq N) {h T : Nat} (hh : h < N 0 0) (t : ztop h T) : zpk N h T < 400000 := by
  have h0 := hq.f
  have a := zfk_b hq (zt_64 (by omega) t)
  rw [zfk_top hq hh t] at a
  omega
end ZDP
