/-! a new day: opening floors, going home, giving seats -/
theorem zm_n11 {K : zz_G} {ad : Nat → Nat → Nat} {th : Int32} {N N' : zN} {G : Nat → Nat → Int32} {L : Nat → Int64} (h : ∀ k i, k ≠ 11 → N' k i = N k i) : zm_c K ad th N' G L = zm_c K ad th N G L := by
  have e : N' = fun k i => if k = 11 then N' 11 i else N k i := by
    funext k i
    by_cases q : k = 11
    · subst q; rw [if_pos rfl]
    · rw [if_neg q]; exact h k i q
  generalize N' 11 = g at e
  subst e
  funext k i
  match k with
  | 0 => rfl
  | 1 =>
    match i with
    | 0 | 1 | 2 | 3 | 4 | 5 | 6 | 7 | 8 | 9 | 10 | 11 | 12 => rfl
    | j + 13 => rfl
  | k + 2 => rfl
theorem zq_up {N N' : zN} (h : zq N) (hk : ∀ k i, k ≠ 3 → k ≠ 5 → k ≠ 6 → k ≠ 7 → k ≠ 8 → k ≠ 12 → N' k i = N k i) (hd : N' 12 0 ≤ 365) (hn : N' 12 1 ≤ 12 * N' 12 0 + 12) (hB12 : ∀ i, N' 12 i < 2 ^ 31) (h6 : ∀ q, q < N 0 1 → N' 6 q ≤ N 0 0) (hB6 : ∀ q, N' 6 q < 2 ^ 31) (hs : ∀ i, N' 3 i ≤ 1 ∧ N' 7 i ≤ 1 ∧ N' 8 i ≤ 1 ∧ N' 5 i ≤ 10) : zq N' := by
  have k0 : ∀ i, N' 0 i = N 0 i := fun i => hk 0 i (by decide) (by decide) (by decide) (by decide) (by decide) (by decide)
  have k1 : N' 1 = N 1 := funext fun i => hk 1 i (by decide) (by decide) (by decide) (by decide) (by decide) (by decide)
  have k2 : ∀ i, N' 2 i = N 2 i := fun i => hk 2 i (by decide) (by decide) (by decide) (by decide) (by decide) (by decide)
  have k4 : ∀ i, N' 4 i = N 4 i := fun i => hk 4 i (by decide) (by decide) (by decide) (by decide) (by decide) (by decide)
  have k9 : ∀ i, N' 9 i = N 9 i := fun i => hk 9 i (by decide) (by decide) (by decide) (by decide) (by decide) (by decide)
  have k10 : ∀ i, N' 10 i = N 10 i := fun i => hk 10 i (by decide) (by decide) (by decide) (by decide) (by decide) (by decide)
  have k11 : ∀ i, N' 11 i = N 11 i := fun i => hk 11 i (by decide) (by decide) (by decide) (by decide) (by decide) (by decide)
  obtain ⟨⟨⟨a1, a2, a3, a4, a5⟩, aB⟩, ⟨b1, b2⟩, ⟨c1, c2, c3⟩, ⟨d1, d2, d3⟩⟩ := h
  refine ⟨⟨⟨by rw [k0]; exact a1, by rw [k0]; exact a2, by rw [k0]; exact a3, hd, hn⟩, fun k i => ?_⟩, ⟨fun q hq => ?_, fun q hq => ?_⟩, ⟨fun k hk2 => ?_, fun q hq h0 => ?_, fun k k' h1 h2 => ?_⟩, ⟨fun f hf => ?_, fun i => ?_, ?_⟩⟩
  · by_cases q3 : k = 3
    · subst q3; have := (hs i).1; omega
    by_cases q5 : k = 5
    · subst q5; have := (hs i).2.2.2; omega
    by_cases q6 : k = 6
    · subst q6; exact hB6 i
    by_cases q7 : k = 7
    · subst q7; have := (hs i).2.1; omega
    by_cases q8 : k = 8
    · subst q8; have := (hs i).2.2.1; omega
    by_cases q12 : k = 12
    · subst q12; exact hB12 i
    rw [hk k i q3 q5 q6 q7 q8 q12]; exact aB k i
  · rw [k0] at hq ⊢; exact h6 q hq
  · rw [k0] at hq ⊢; rw [k11]; exact b2 q hq
  · rw [k0] at hk2; rw [k9, k10, k0, k0, k11]; exact c1 k hk2
  · rw [k0] at hq; rw [k11] at h0; rw [k0]
    obtain ⟨k, x, y⟩ := c2 q hq h0
    exact ⟨k, x, by rw [k9]; exact y⟩
  · rw [k0] at h1 h2; rw [k9, k9]; exact c3 k k' h1 h2
  · rw [k0] at hf; rw [k1, k2]; exact d1 f hf
  · rw [k4]; exact ⟨(hs i).1, (hs i).2.1, (hs i).2.2.1, (hs i).2.2.2, (d2 i).2.2.2.2⟩
  · rw [k0, k0, k1]; exact d3
/-- open floors: those of the set -/
def zso (N : zN) (S n : Nat) : zN := fun k i => if k = 3 ∧ i < n then (if S.testBit i = true then 1 else 0) else N k i
theorem zso_0 (N : zN) (S : Nat) : zso N S 0 = N := by
  funext k i; unfold zso; rw [if_neg (by omega)]
theorem zso_s (N : zN) (S n : Nat) : zu (zso N S n) 3 n (if S.testBit n = true then 1 else 0) = zso N S (n + 1) := by
  funext k i
  by_cases q : k = 3 ∧ i = n
  · obtain ⟨rfl, rfl⟩ := q
    rw [zu_s]; unfold zso; rw [if_pos (show 3 = 3 ∧ i < i + 1 from ⟨rfl, by omega⟩)]
  · rw [zu_n q]; unfold zso
    by_cases q2 : k = 3 ∧ i < n
    · rw [if_pos q2, if_pos (show k = 3 ∧ i < n + 1 from ⟨q2.1, by omega⟩)]
    · rw [if_neg q2, if_neg (fun z => q2 ⟨z.1, by have := z.2; by_cases e : i = n; exact absurd ⟨z.1, e⟩ q; omega⟩)]
theorem zso_k {N : zN} {S n k i : Nat} (h : k ≠ 3) : zso N S n k i = N k i := by unfold zso; rw [if_neg (fun z => h z.1)]
/-- everybody is at home -/
def zho (N : zN) (n : Nat) : zN := fun k i => if (k = 6 ∨ k = 7 ∨ k = 8) ∧ i < n then 0 else N k i
theorem zho_0 (N : zN) : zho N 0 = N := by
  funext k i; unfold zho; rw [if_neg (by omega)]
theorem zho_s (N : zN) (n : Nat) : zu (zu (zu (zho N n) 6 n 0) 7 n 0) 8 n 0 = zho N (n + 1) := by
  funext k i
  by_cases q8 : k = 8 ∧ i = n
  · obtain ⟨rfl, rfl⟩ := q8
    rw [zu_s]; unfold zho; rw [if_pos ⟨by omega, by omega⟩]
  rw [zu_n q8]
  by_cases q7 : k = 7 ∧ i = n
  · obtain ⟨rfl, rfl⟩ := q7
    rw [zu_s]; unfold zho; rw [if_pos ⟨by omega, by omega⟩]
  rw [zu_n q7]
  by_cases q6 : k = 6 ∧ i = n
  · obtain ⟨rfl, rfl⟩ := q6
    rw [zu_s]; unfold zho; rw [if_pos ⟨by omega, by omega⟩]
  rw [zu_n q6]; unfold zho
  by_cases q : (k = 6 ∨ k = 7 ∨ k = 8) ∧ i < n
  · rw [if_pos q, if_pos ⟨q.1, by omega⟩]
  · rw [if_neg q, if_neg (by omega)]
theorem zho_k {N : zN} {n k i : Nat} (h6 : k ≠ 6) (h7 : k ≠ 7) (h8 : k ≠ 8) : zho N n k i = N k i := by unfold zho; rw [if_neg (by omega)]
theorem zso_zho (N : zN) (S n m : Nat) : zho (zso N S n) m = zso (zho N m) S n := by
  funext k i
  unfold zho zso
  by_cases q3 : k = 3
  · subst q3; simp
  · simp [q3]
theorem zjn_k {N : zN} {n k i : Nat} (h : k ≠ 5) : zjn N n k i = N k i := by unfold zjn; rw [if_neg (fun z => h z.1)]
theorem zj5_b {N : zN} (h : zq N) (i : Nat) : zj5 N i ≤ 10 := by
  have := (h.sm i).2.2.2.1
  unfold zj5; split <;> omega
theorem zjn_b {N : zN} (h : zq N) (n i : Nat) : zjn N n 5 i ≤ 10 := by
  have := (h.sm i).2.2.2.1
  have := zj5_b h i
  unfold zjn; split <;> omega
theorem zjn_q {N : zN} (h : zq N) (n : Nat) : zq (zjn N n) := by
  refine zq_up h (fun k i _ h5 _ _ _ _ => zjn_k h5) ?_ ?_ (fun i => ?_) (fun q hq => ?_) (fun q => ?_) (fun i => ?_)
  · rw [zjn_k (by decide)]; exact h.d
  · rw [zjn_k (by decide), zjn_k (by decide)]; exact h.n
  · rw [zjn_k (by decide)]; exact h.B _ _
  · rw [zjn_k (by decide)]; exact h.st q hq
  · rw [zjn_k (by decide)]; exact h.B _ _
  · rw [zjn_k (by decide), zjn_k (by decide), zjn_k (by decide)]
    have := h.sm i
    exact ⟨this.1, this.2.1, this.2.2.1, zjn_b h n i⟩
theorem zso_q {N : zN} (h : zq N) (S n : Nat) : zq (zso N S n) := by
  refine zq_up h (fun k i h3 _ _ _ _ _ => zso_k h3) ?_ ?_ (fun i => ?_) (fun q hq => ?_) (fun q => ?_) (fun i => ?_)
  · rw [zso_k (by decide)]; exact h.d
  · rw [zso_k (by decide), zso_k (by decide)]; exact h.n
  · rw [zso_k (by decide)]; exact h.B _ _
  · rw [zso_k (by decide)]; exact h.st q hq
  · rw [zso_k (by decide)]; exact h.B _ _
  · rw [zso_k (by decide : 7 ≠ 3), zso_k (by decide : 8 ≠ 3), zso_k (by decide : 5 ≠ 3)]
    have := h.sm i
    refine ⟨?_, this.2.1, this.2.2.1, this.2.2.2.1⟩
    unfold zso; split
    · split <;> omega
    · exact this.1
theorem zho_q {N : zN} (h : zq N) (n : Nat) : zq (zho N n) := by
  have hz : ∀ k i c, N k i ≤ c → zho N n k i ≤ c := fun k i c hc => by unfold zho; split <;> omega
  refine zq_up h (fun k i _ _ h6 h7 h8 _ => zho_k h6 h7 h8) ?_ ?_ (fun i => ?_) (fun q hq => ?_) (fun q => ?_) (fun i => ?_)
  · rw [zho_k (by decide) (by decide) (by decide)]; exact h.d
  · rw [zho_k (by decide) (by decide) (by decide), zho_k (by decide) (by decide) (by decide)]; exact h.n
  · rw [zho_k (by decide) (by decide) (by decide)]; exact h.B _ _
  · exact hz 6 q _ (h.st q hq)
  · have := hz 6 q _ (Nat.le_of_lt_succ (h.B 6 q)); omega
  · have := h.sm i
    exact ⟨hz 3 i _ this.1, hz 7 i _ this.2.1, hz 8 i _ this.2.2.1, hz 5 i _ this.2.2.2.1⟩
theorem zn12_q {N : zN} (h : zq N) {i v : Nat} (hv : v < 2 ^ 31) (h0 : i = 0 → v ≤ 365 ∧ N 12 1 ≤ 12 * v + 12) (h1 : i = 1 → v ≤ 12 * N 12 0 + 12) : zq (zu N 12 i v) := by
  refine zq_up h (fun k i _ _ _ _ _ h12 => zu_k h12) ?_ ?_ (fun i => zu_b (h.B _ _) hv) (fun q hq => ?_) (fun q => ?_) (fun i => ?_)
  · by_cases q : (0 : Nat) = i
    · subst q; rw [zu_s]; exact (h0 rfl).1
    · rw [zu_i q]; exact h.d
  · by_cases q : (0 : Nat) = i
    · subst q; rw [zu_s, zu_i (by decide)]; exact (h0 rfl).2
    · rw [zu_i q]
      by_cases q1 : (1 : Nat) = i
      · subst q1; rw [zu_s]; exact h1 rfl
      · rw [zu_i q1]; exact h.n
  · rw [zu_k (by decide)]; exact h.st q hq
  · rw [zu_k (by decide)]; exact h.B _ _
  · rw [zu_k (by decide), zu_k (by decide), zu_k (by decide), zu_k (by decide)]
    have := h.sm i
    exact ⟨this.1, this.2.1, this.2.2.1, this.2.2.2.1⟩
theorem zmiss_b {N : zN} (h : zq N) : zmiss N (N 0 1) ≤ 12 := Nat.le_trans (zc_le _ _) h.p
theorem zcl_co {N N' : zN} (h0 : N' 0 = N 0) (h3 : N' 3 = N 3) (h6 : N' 6 = N 6) (h8 : N' 8 = N 8) (l0 : Int64) : ∀ n, zcl N' l0 n = zcl N l0 n
  | 0 => rfl
  | n + 1 => by
    have e : zgc N' n = zgc N n := by unfold zgc; rw [h0, h6, h8]
    rw [zcl, zcl, zcl_co h0 h3 h6 h8 l0 n, e, h3]
theorem zls_co {N N' : zN} (h0 : N' 0 = N 0) (h2 : N' 2 = N 2) (h10 : N' 10 = N 10) (c S : Nat) : zls c N' S = zls c N S := by
  unfold zls zcs; rw [h0, h2, h10]
theorem zss_co {N N' : zN} (h0 : N' 0 = N 0) (h1 : N' 1 = N 1) (S : Nat) : zss N' S = zss N S := by
  unfold zss; rw [h0, h1]
theorem zbt_co {N N' : zN} (h0 : N' 0 = N 0) (h1 : N' 1 = N 1) (h2 : N' 2 = N 2) (h10 : N' 10 = N 10) : ∀ n, zbt N' n = zbt N n
  | 0 => rfl
  | n + 1 => by
    have ih := zbt_co h0 h1 h2 h10 n
    unfold zbt zfit
    rw [ih, zls_co h0 h2 h10, zls_co h0 h2 h10, zss_co h0 h1, h0]
theorem zplan_co {N N' : zN} (h0 : N' 0 = N 0) (h1 : N' 1 = N 1) (h2 : N' 2 = N 2) (h10 : N' 10 = N 10) : zplan N' = zplan N := by
  unfold zplan; rw [zbt_co h0 h1 h2 h10, h0]
/-- booking k gets its seat if its person's standing is s -/
def zs_g1 (N : zN) (s k : Nat) : zN := if N 5 (N 9 k) = s then zu N 6 (N 9 k) (zgv N k (N 0 0)) else N
def zs_gk (N : zN) (s : Nat) : Nat → zN
  | 0 => N
  | k + 1 => zs_g1 (zs_gk N s k) s k
def zs_gd (N : zN) : Nat → zN
  | 0 => N
  | j + 1 => zs_gk (zs_gd N j) (10 - j) (N 0 2)
theorem zs_g1_k {N : zN} {s k k' i : Nat} (h : k' ≠ 6) : zs_g1 N s k k' i = N k' i := by
  unfold zs_g1; split
  · exact zu_k h
  · rfl
theorem zs_gk_k {N : zN} {s k' i : Nat} (h : k' ≠ 6) : ∀ k, zs_gk N s k k' i = N k' i
  | 0 => rfl
  | k + 1 => by rw [zs_gk, zs_g1_k h, zs_gk_k h k]
theorem zs_gd_k {N : zN} {k' i : Nat} (h : k' ≠ 6) : ∀ j, zs_gd N j k' i = N k' i
  | 0 => rfl
  | j + 1 => by rw [zs_gd, zs_gk_k h, zs_gd_k h j]
theorem zs_g1_q {N : zN} (h : zq N) (s k : Nat) : zq (zs_g1 N s k) := by
  unfold zs_g1; split
  · have hg := zgv_le N k (N 0 0)
    have hf := h.f
    refine zq_up h (fun k i _ _ h6 _ _ _ => zu_k h6) ?_ ?_ (fun i => ?_) (fun q hq => ?_) (fun q => zu_b (h.B _ _) (by omega)) (fun i => ?_)
    · rw [zu_k (by decide)]; exact h.d
    · rw [zu_k (by decide), zu_k (by decide)]; exact h.n
    · rw [zu_k (by decide)]; exact h.B _ _
    · by_cases e : q = N 9 k
      · rw [e, zu_s]; exact hg
      · rw [zu_i e]; exact h.st q hq
    · rw [zu_k (by decide), zu_k (by decide), zu_k (by decide), zu_k (by decide)]
      have := h.sm i
      exact ⟨this.1, this.2.1, this.2.2.1, this.2.2.2.1⟩
  · exact h
theorem zs_gk_q {N : zN} (h : zq N) (s : Nat) : ∀ k, zq (zs_gk N s k)
  | 0 => h
  | k + 1 => zs_g1_q (zs_gk_q h s k) s k
theorem zs_gd_q {N : zN} (h : zq N) : ∀ j, zq (zs_gd N j)
  | 0 => h
  | j + 1 => zs_gk_q (zs_gd_q h j) _ _
/-- two states that agree beside the days and the wanted floors -/
def zag (N N' : zN) : Prop := ∀ k, k ≠ 11 → k ≠ 12 → N' k = N k
theorem zgv_co {N N' : zN} (h : zag N N') (k : Nat) : ∀ n, zgv N' k n = zgv N k n
  | 0 => rfl
  | n + 1 => by
    have ih := zgv_co h k n
    have hs : ∀ f c, zsit N' f c = zsit N f c := fun f c => by unfold zsit; rw [h 6 (by decide) (by decide), h 4 (by decide) (by decide), h 0 (by decide) (by decide)]
    unfold zgv zner
    rw [ih]
    simp only [hs, h 1 (by decide) (by decide), h 3 (by decide) (by decide), h 4 (by decide) (by decide), h 9 (by decide) (by decide), h 10 (by decide) (by decide)]
theorem zs_g1_co {N N' : zN} (h : zag N N') (s k : Nat) : zag (zs_g1 N s k) (zs_g1 N' s k) := by
  intro a h11 h12
  unfold zs_g1
  rw [h 5 (by decide) (by decide), h 9 (by decide) (by decide), h 0 (by decide) (by decide), zgv_co h]
  split
  · funext i
    by_cases e : a = 6 ∧ i = N 9 k
    · obtain ⟨rfl, rfl⟩ := e
      rw [zu_s, zu_s]
    · rw [zu_n e, zu_n e, h a h11 h12]
  · exact h a h11 h12
theorem zs_gk_co {N N' : zN} (h : zag N N') (s : Nat) : ∀ k, zag (zs_gk N s k) (zs_gk N' s k)
  | 0 => h
  | k + 1 => zs_g1_co (zs_gk_co h s k) s k
theorem zs_gd_co {N N' : zN} (h : zag N N') : ∀ j, zag (zs_gd N j) (zs_gd N' j)
  | 0 => h
  | j + 1 => by
    have e : N' 0 2 = N 0 2 := by rw [h 0 (by decide) (by decide)]
    show zag (zs_gk (zs_gd N j) (10 - j) (N 0 2)) (zs_gk (zs_gd N' j) (10 - j) (N' 0 2))
    rw [e]
    exact zs_gk_co (zs_gd_co h j) _ _
/-- a new day's state before the seats are given -/
def zdM (N : zN) : zN := zho (zso (zjn N (N 0 1)) (zplan N) (N 0 0)) (N 0 1)
def zs_dayN (N : zN) : zN := fun k i => if k = 11 ∧ i < N 0 1 then 0 else zu (zu (zu (zs_gd (zdM N) 11) 0 2 0) 12 0 (N 12 0 + 1)) 12 1 (N 12 1 + zmiss N (N 0 1)) k i
def zs_day (N : zN) (L : Nat → Int64) : Nat × Int32 × zN × (Nat → Int64) :=
  if N 12 0 = 365 then (1, nI 0, N, L) else (0, nI (zmiss N (N 0 1)), zs_dayN N, zl L 2 (zcl N (L 2) (N 0 0)))
theorem zdM_q {N : zN} (h : zq N) : zq (zdM N) := zho_q (zso_q (zjn_q h _) _ _) _
theorem zdM_k {N : zN} {k i : Nat} (h3 : k ≠ 3) (h5 : k ≠ 5) (h6 : k ≠ 6) (h7 : k ≠ 7) (h8 : k ≠ 8) : zdM N k i = N k i := by
  unfold zdM; rw [zho_k h6 h7 h8, zso_k h3, zjn_k h5]
theorem zk_lt {a : Nat} (ha : a < 2 ^ 30) : nI a - 1 < 0 ↔ a = 0 := by
  have h : (nI a - 1).toInt = (a : Int) - 1 := pk_sub_toInt (b := 1) ha (by decide)
  rw [Int32.lt_iff_toInt_lt, h]
  have h0 : (0 : Int32).toInt = 0 := by decide
  rw [h0]; omega
