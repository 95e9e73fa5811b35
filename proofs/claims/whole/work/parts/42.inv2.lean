/-! the invariant is kept by every call -/
theorem zc_0 {p : Nat → Prop} [DecidablePred p] : ∀ {n : Nat}, (∀ k, k < n → ¬ p k) → zc p n = 0
  | 0, _ => rfl
  | n + 1, h => by rw [zc, zc_0 fun k hk => h k (by omega), if_neg (h n (by omega))]
theorem zi_split {N : zN} (h : zi N) : (((N 0 0 ≤ 6 ∧ N 0 1 ≤ 12 ∧ N 0 2 ≤ 12 ∧ N 12 0 ≤ 365 ∧ N 12 1 ≤ 12 * N 12 0 + 12) ∧ (∀ k i, N k i < 2 ^ 31)) ∧
  ((∀ q, q < N 0 1 → N 6 q ≤ N 0 0) ∧ (∀ q, q < N 0 1 → N 11 q ≤ N 0 0)) ∧
  ((∀ k, k < N 0 2 → N 9 k < N 0 1 ∧ N 10 k < N 0 0 ∧ N 11 (N 9 k) = N 10 k + 1) ∧ (∀ q, q < N 0 1 → N 11 q ≠ 0 → ∃ k, k < N 0 2 ∧ N 9 k = q) ∧ (∀ k k', k < N 0 2 → k' < N 0 2 → N 9 k = N 9 k' → k = k')) ∧
  ((∀ f, f < N 0 0 → 1 ≤ N 1 f ∧ N 1 f ≤ 12 ∧ N 2 f ≤ 99) ∧ (∀ i, N 3 i ≤ 1 ∧ N 7 i ≤ 1 ∧ N 8 i ≤ 1 ∧ N 5 i ≤ 10 ∧ N 4 i ≤ 3) ∧ N 0 2 ≤ zsum (fun f => N 1 f) (N 0 0))) ∧
  ((∀ q, q < N 0 1 → N 6 q = 0 → N 7 q = 0) ∧ (∀ q f, q < N 0 1 → N 6 q = f + 1 → N 3 f = 1) ∧ (∀ f, f < N 0 0 → zc (fun q => N 6 q = f + 1) (N 0 1) ≤ N 1 f)) ∧
  ((∀ f, N 0 0 ≤ f → N 3 f = 0) ∧ (∀ q, N 0 1 ≤ q → N 7 q = 0 ∧ N 8 q = 0 ∧ N 11 q = 0) ∧ N 12 1 ≤ 12 * N 12 0) := h
theorem zi_cost {N : zN} (h : zi N) {j v : Nat} (hv : v ≤ 99) : zi (zu N 2 j v) := by
  have hk : ∀ k, k ≠ 2 → zu N 2 j v k = N k := fun k hk => funext fun i => zu_k hk
  obtain ⟨⟨⟨a, aB⟩, b, c, ⟨d1, d2, d3⟩⟩, e, f⟩ := zi_split h
  unfold zi zq
  simp only [hk 0 (by decide), hk 1 (by decide), hk 3 (by decide), hk 4 (by decide), hk 5 (by decide), hk 6 (by decide), hk 7 (by decide), hk 8 (by decide), hk 9 (by decide), hk 10 (by decide), hk 11 (by decide), hk 12 (by decide)]
  refine ⟨⟨⟨a, fun k i => zu_b (aB k i) (by omega)⟩, b, c, ⟨fun x hx => ⟨(d1 x hx).1, (d1 x hx).2.1, ?_⟩, d2, d3⟩⟩, e, f⟩
  have := (d1 x hx).2.2
  by_cases q : x = j
  · subst q; rw [zu_s]; exact hv
  · rw [zu_i q]; exact this
theorem zi_floor {N : zN} (h : zi N) {a b : Nat} (ha1 : 1 ≤ a) (ha : a ≤ 12) (hb : b ≤ 99) (hn : N 0 0 < 6) : zi (zu (zu (zu N 1 (N 0 0) a) 2 (N 0 0) b) 0 0 (N 0 0 + 1)) := by
  obtain ⟨⟨⟨⟨a1, a2, a3, a4, a5⟩, aB⟩, ⟨b1, b2⟩, ⟨c1, c2, c3⟩, ⟨d1, d2, d3⟩⟩, ⟨e1, e2, e3⟩, ⟨f1, f2, f3⟩⟩ := zi_split h
  generalize hm : N 0 0 = n at *
  have N00 : (zu (zu (zu N 1 n a) 2 n b) 0 0 (n + 1)) 0 0 = n + 1 := zu_s ..
  have N01 : (zu (zu (zu N 1 n a) 2 n b) 0 0 (n + 1)) 0 1 = N 0 1 := by rw [zu_i (by decide), zu_k (by decide), zu_k (by decide)]
  have N02 : (zu (zu (zu N 1 n a) 2 n b) 0 0 (n + 1)) 0 2 = N 0 2 := by rw [zu_i (by decide), zu_k (by decide), zu_k (by decide)]
  have Nk : ∀ k, k ≠ 0 → k ≠ 1 → k ≠ 2 → (zu (zu (zu N 1 n a) 2 n b) 0 0 (n + 1)) k = N k := fun k h0 h1 h2 => funext fun i => by rw [zu_k h0, zu_k h2, zu_k h1]
  have N1 : ∀ i, (zu (zu (zu N 1 n a) 2 n b) 0 0 (n + 1)) 1 i = if i = n then a else N 1 i := fun i => by
    rw [zu_k (by decide), zu_k (by decide)]
    by_cases q : i = n
    · subst q; rw [zu_s, if_pos rfl]
    · rw [zu_i q, if_neg q]
  have N2 : ∀ i, (zu (zu (zu N 1 n a) 2 n b) 0 0 (n + 1)) 2 i = if i = n then b else N 2 i := fun i => by
    rw [zu_k (by decide)]
    by_cases q : i = n
    · subst q; rw [zu_s, if_pos rfl]
    · rw [zu_i q, if_neg q, zu_k (by decide)]
  have nB : ∀ k i, (zu (zu (zu N 1 n a) 2 n b) 0 0 (n + 1)) k i < 2 ^ 31 := fun k i => zu_b (zu_b (zu_b (aB k i) (by omega)) (by omega)) (by omega)
  generalize zu (zu (zu N 1 n a) 2 n b) 0 0 (n + 1) = N' at *
  unfold zi zq
  simp only [N00, N01, N02, Nk 3 (by decide) (by decide) (by decide), Nk 4 (by decide) (by decide) (by decide), Nk 5 (by decide) (by decide) (by decide), Nk 6 (by decide) (by decide) (by decide), Nk 7 (by decide) (by decide) (by decide), Nk 8 (by decide) (by decide) (by decide), Nk 9 (by decide) (by decide) (by decide), Nk 10 (by decide) (by decide) (by decide), Nk 11 (by decide) (by decide) (by decide), Nk 12 (by decide) (by decide) (by decide)]
  refine ⟨⟨⟨⟨by omega, a2, a3, a4, a5⟩, nB⟩, ⟨fun q hq => by have := b1 q hq; omega, fun q hq => by have := b2 q hq; omega⟩, ⟨fun k hk => ?_, c2, c3⟩, ⟨fun f hf => ?_, d2, ?_⟩⟩, ⟨e1, e2, fun f hf => ?_⟩, ⟨fun f hf => f1 f (by omega), f2, f3⟩⟩
  · have := c1 k hk
    exact ⟨this.1, by omega, this.2.2⟩
  · rw [N1, N2]
    by_cases q : f = n
    · rw [if_pos q, if_pos q]; omega
    · rw [if_neg q, if_neg q]; exact d1 f (by omega)
  · rw [zsum, zsum_c (g := fun f => N 1 f) (fun k hk => by rw [N1, if_neg (by omega)])]
    omega
  · rw [N1]
    by_cases q : f = n
    · rw [if_pos q, zc_0 fun k hk => by have := b1 k hk; omega]; omega
    · rw [if_neg q]; exact e3 f (by omega)
theorem zi_person {N : zN} (h : zi N) {a : Nat} (ha : a ≤ 3) (hn : N 0 1 < 12) : zi (zu (zu (zu (zu N 4 (N 0 1) a) 5 (N 0 1) 5) 6 (N 0 1) 0) 0 1 (N 0 1 + 1)) := by
  obtain ⟨⟨⟨⟨a1, a2, a3, a4, a5⟩, aB⟩, ⟨b1, b2⟩, ⟨c1, c2, c3⟩, ⟨d1, d2, d3⟩⟩, ⟨e1, e2, e3⟩, ⟨f1, f2, f3⟩⟩ := zi_split h
  generalize hm : N 0 1 = n at *
  have N01 : (zu (zu (zu (zu N 4 n a) 5 n 5) 6 n 0) 0 1 (n + 1)) 0 1 = n + 1 := zu_s ..
  have N00 : (zu (zu (zu (zu N 4 n a) 5 n 5) 6 n 0) 0 1 (n + 1)) 0 0 = N 0 0 := by rw [zu_i (by decide), zu_k (by decide), zu_k (by decide), zu_k (by decide)]
  have N02 : (zu (zu (zu (zu N 4 n a) 5 n 5) 6 n 0) 0 1 (n + 1)) 0 2 = N 0 2 := by rw [zu_i (by decide), zu_k (by decide), zu_k (by decide), zu_k (by decide)]
  have Nk : ∀ k, k ≠ 0 → k ≠ 4 → k ≠ 5 → k ≠ 6 → (zu (zu (zu (zu N 4 n a) 5 n 5) 6 n 0) 0 1 (n + 1)) k = N k := fun k h0 h1 h2 h3 => funext fun i => by rw [zu_k h0, zu_k h3, zu_k h2, zu_k h1]
  have N4 : ∀ i, (zu (zu (zu (zu N 4 n a) 5 n 5) 6 n 0) 0 1 (n + 1)) 4 i = if i = n then a else N 4 i := fun i => by
    rw [zu_k (by decide), zu_k (by decide), zu_k (by decide)]
    by_cases q : i = n
    · subst q; rw [zu_s, if_pos rfl]
    · rw [zu_i q, if_neg q]
  have N5 : ∀ i, (zu (zu (zu (zu N 4 n a) 5 n 5) 6 n 0) 0 1 (n + 1)) 5 i = if i = n then 5 else N 5 i := fun i => by
    rw [zu_k (by decide), zu_k (by decide)]
    by_cases q : i = n
    · subst q; rw [zu_s, if_pos rfl]
    · rw [zu_i q, if_neg q, zu_k (by decide)]
  have N6 : ∀ i, (zu (zu (zu (zu N 4 n a) 5 n 5) 6 n 0) 0 1 (n + 1)) 6 i = if i = n then 0 else N 6 i := fun i => by
    rw [zu_k (by decide)]
    by_cases q : i = n
    · subst q; rw [zu_s, if_pos rfl]
    · rw [zu_i q, if_neg q, zu_k (by decide), zu_k (by decide)]
  have nB : ∀ k i, (zu (zu (zu (zu N 4 n a) 5 n 5) 6 n 0) 0 1 (n + 1)) k i < 2 ^ 31 := fun k i => zu_b (zu_b (zu_b (zu_b (aB k i) (by omega)) (by omega)) (by omega)) (by omega)
  generalize zu (zu (zu (zu N 4 n a) 5 n 5) 6 n 0) 0 1 (n + 1) = N' at *
  unfold zi zq
  simp only [N00, N01, N02, Nk 1 (by decide) (by decide) (by decide) (by decide), Nk 2 (by decide) (by decide) (by decide) (by decide), Nk 3 (by decide) (by decide) (by decide) (by decide), Nk 7 (by decide) (by decide) (by decide) (by decide), Nk 8 (by decide) (by decide) (by decide) (by decide), Nk 9 (by decide) (by decide) (by decide) (by decide), Nk 10 (by decide) (by decide) (by decide) (by decide), Nk 11 (by decide) (by decide) (by decide) (by decide), Nk 12 (by decide) (by decide) (by decide) (by decide)]
  have hp := f2 n (Nat.le_refl _)
  refine ⟨⟨⟨⟨a1, by omega, a3, a4, a5⟩, nB⟩, ⟨fun q hq => ?_, fun q hq => ?_⟩, ⟨fun k hk => ?_, fun q hq h0 => ?_, c3⟩, ⟨d1, fun i => ?_, d3⟩⟩, ⟨fun q hq h6 => ?_, fun q f hq h6 => ?_, fun f hf => ?_⟩, ⟨f1, fun q hq => f2 q (by omega), f3⟩⟩
  · rw [N6]
    by_cases c : q = n
    · rw [if_pos c]; omega
    · rw [if_neg c]; exact b1 q (by omega)
  · by_cases c : q = n
    · subst c; omega
    · exact b2 q (by omega)
  · have := c1 k hk
    exact ⟨by omega, this.2⟩
  · by_cases c : q = n
    · subst c; omega
    · exact c2 q (by omega) h0
  · rw [N4, N5]
    have := d2 i
    refine ⟨this.1, this.2.1, this.2.2.1, ?_, ?_⟩
    · split <;> omega
    · split <;> omega
  · rw [N6] at h6
    by_cases c : q = n
    · subst c; exact hp.1
    · rw [if_neg c] at h6; exact e1 q (by omega) h6
  · rw [N6] at h6
    by_cases c : q = n
    · rw [if_pos c] at h6; omega
    · rw [if_neg c] at h6; exact e2 q f (by omega) h6
  · rw [zc, N6, if_pos rfl, if_neg (by omega), zc_c (q := fun q => N 6 q = f + 1) (fun k hk => by rw [N6, if_neg (by omega)])]
    exact e3 f hf
theorem zi_book {N : zN} (h : zi N) {q f : Nat} (hq : q < N 0 1) (hf : f < N 0 0) (h11 : N 11 q = 0) (hr : N 0 2 < zsum (fun f => N 1 f) (N 0 0)) : zi (zu (zu (zu (zu N 9 (N 0 2) q) 10 (N 0 2) f) 0 2 (N 0 2 + 1)) 11 q (f + 1)) := by
  have hroom := h.q.room hq h11
  obtain ⟨⟨⟨⟨a1, a2, a3, a4, a5⟩, aB⟩, ⟨b1, b2⟩, ⟨c1, c2, c3⟩, ⟨d1, d2, d3⟩⟩, ⟨e1, e2, e3⟩, ⟨f1, f2, f3⟩⟩ := zi_split h
  generalize hm : N 0 2 = m at *
  have N02 : (zu (zu (zu (zu N 9 m q) 10 m f) 0 2 (m + 1)) 11 q (f + 1)) 0 2 = m + 1 := by rw [zu_k (by decide), zu_s]
  have N00 : (zu (zu (zu (zu N 9 m q) 10 m f) 0 2 (m + 1)) 11 q (f + 1)) 0 0 = N 0 0 := by rw [zu_k (by decide), zu_i (by decide), zu_k (by decide), zu_k (by decide)]
  have N01 : (zu (zu (zu (zu N 9 m q) 10 m f) 0 2 (m + 1)) 11 q (f + 1)) 0 1 = N 0 1 := by rw [zu_k (by decide), zu_i (by decide), zu_k (by decide), zu_k (by decide)]
  have Nk : ∀ k, k ≠ 0 → k ≠ 9 → k ≠ 10 → k ≠ 11 → (zu (zu (zu (zu N 9 m q) 10 m f) 0 2 (m + 1)) 11 q (f + 1)) k = N k := fun k h0 h1 h2 h3 => funext fun i => by rw [zu_k h3, zu_k h0, zu_k h2, zu_k h1]
  have N9 : ∀ i, (zu (zu (zu (zu N 9 m q) 10 m f) 0 2 (m + 1)) 11 q (f + 1)) 9 i = if i = m then q else N 9 i := fun i => by
    rw [zu_k (by decide), zu_k (by decide), zu_k (by decide)]
    by_cases c : i = m
    · subst c; rw [zu_s, if_pos rfl]
    · rw [zu_i c, if_neg c]
  have N10 : ∀ i, (zu (zu (zu (zu N 9 m q) 10 m f) 0 2 (m + 1)) 11 q (f + 1)) 10 i = if i = m then f else N 10 i := fun i => by
    rw [zu_k (by decide), zu_k (by decide)]
    by_cases c : i = m
    · subst c; rw [zu_s, if_pos rfl]
    · rw [zu_i c, if_neg c, zu_k (by decide)]
  have N11 : ∀ i, (zu (zu (zu (zu N 9 m q) 10 m f) 0 2 (m + 1)) 11 q (f + 1)) 11 i = if i = q then f + 1 else N 11 i := fun i => by
    by_cases c : i = q
    · subst c; rw [zu_s, if_pos rfl]
    · rw [zu_i c, if_neg c, zu_k (by decide), zu_k (by decide), zu_k (by decide)]
  have nB : ∀ k i, (zu (zu (zu (zu N 9 m q) 10 m f) 0 2 (m + 1)) 11 q (f + 1)) k i < 2 ^ 31 := fun k i => zu_b (zu_b (zu_b (zu_b (aB k i) (by omega)) (by omega)) (by omega)) (by omega)
  generalize zu (zu (zu (zu N 9 m q) 10 m f) 0 2 (m + 1)) 11 q (f + 1) = N' at *
  unfold zi zq
  simp only [N00, N01, N02, Nk 1 (by decide) (by decide) (by decide) (by decide), Nk 2 (by decide) (by decide) (by decide) (by decide), Nk 3 (by decide) (by decide) (by decide) (by decide), Nk 4 (by decide) (by decide) (by decide) (by decide), Nk 5 (by decide) (by decide) (by decide) (by decide), Nk 6 (by decide) (by decide) (by decide) (by decide), Nk 7 (by decide) (by decide) (by decide) (by decide), Nk 8 (by decide) (by decide) (by decide) (by decide), Nk 12 (by decide) (by decide) (by decide) (by decide)]
  have hne : ∀ k, k < m → N 9 k ≠ q := fun k hk e => by
    have := (c1 k hk).2.2
    rw [e] at this; omega
  refine ⟨⟨⟨⟨a1, a2, by omega, a4, a5⟩, nB⟩, ⟨b1, fun x hx => ?_⟩, ⟨fun k hk => ?_, fun x hx h0 => ?_, fun k k' hk hk' e => ?_⟩, ⟨d1, d2, by omega⟩⟩, ⟨e1, e2, e3⟩, ⟨f1, fun x hx => ?_, f3⟩⟩
  · rw [N11]
    by_cases c : x = q
    · rw [if_pos c]; omega
    · rw [if_neg c]; exact b2 x hx
  · rw [N9, N10]
    by_cases c : k = m
    · rw [if_pos c, if_pos c, N11, if_pos rfl]; exact ⟨hq, hf, rfl⟩
    · have := c1 k (by omega)
      rw [if_neg c, if_neg c, N11, if_neg (hne k (by omega))]; exact this
  · rw [N11] at h0
    by_cases c : x = q
    · exact ⟨m, by omega, by rw [N9, if_pos rfl, c]⟩
    · rw [if_neg c] at h0
      obtain ⟨k, hk, e⟩ := c2 x hx h0
      exact ⟨k, by omega, by rw [N9, if_neg (by omega)]; exact e⟩
  · rw [N9, N9] at e
    by_cases c : k = m
    · by_cases c' : k' = m
      · omega
      · rw [if_pos c, if_neg c'] at e
        exact absurd e.symm (hne k' (by omega))
    · by_cases c' : k' = m
      · rw [if_neg c, if_pos c'] at e
        exact absurd e (hne k (by omega))
      · rw [if_neg c, if_neg c'] at e
        exact c3 k k' (by omega) (by omega) e
  · rw [N11, if_neg (by omega)]; exact f2 x hx
theorem zi_cancel {N : zN} (h : zi N) {q a : Nat} (ha : a < N 0 2) (haq : N 9 a = q) : zi (zu (zsp (zu N 0 2 (N 0 2 - 1)) a (N 0 2 - 1)) 11 q 0) := by
  obtain ⟨⟨⟨⟨a1, a2, a3, a4, a5⟩, aB⟩, ⟨b1, b2⟩, ⟨c1, c2, c3⟩, ⟨d1, d2, d3⟩⟩, ⟨e1, e2, e3⟩, ⟨f1, f2, f3⟩⟩ := zi_split h
  generalize hm : N 0 2 = m at *
  have N02 : (zu (zsp (zu N 0 2 (m - 1)) a (m - 1)) 11 q 0) 0 2 = m - 1 := by
    rw [zu_k (by decide)]; unfold zsp; rw [if_neg (by omega), zu_s]
  have N0 : ∀ i, i ≠ 2 → (zu (zsp (zu N 0 2 (m - 1)) a (m - 1)) 11 q 0) 0 i = N 0 i := fun i hi => by
    rw [zu_k (by decide)]; unfold zsp; rw [if_neg (by omega), zu_i hi]
  have Nk : ∀ k, k ≠ 0 → k ≠ 9 → k ≠ 10 → k ≠ 11 → (zu (zsp (zu N 0 2 (m - 1)) a (m - 1)) 11 q 0) k = N k := fun k h0 h1 h2 h3 => funext fun i => by
    rw [zu_k h3]; unfold zsp; rw [if_neg (by omega), zu_k h0]
  have N9 : ∀ k, k = 9 ∨ k = 10 → ∀ i, (zu (zsp (zu N 0 2 (m - 1)) a (m - 1)) 11 q 0) k i = if a ≤ i ∧ i < m - 1 then N k (i + 1) else N k i := fun k hk i => by
    rw [zu_k (by omega)]; unfold zsp
    by_cases c : a ≤ i ∧ i < m - 1
    · rw [if_pos ⟨hk, c.1, c.2⟩, if_pos c, zu_k (by omega)]
    · rw [if_neg (fun z => c z.2), if_neg c, zu_k (by omega)]
  have N11 : ∀ i, (zu (zsp (zu N 0 2 (m - 1)) a (m - 1)) 11 q 0) 11 i = if i = q then 0 else N 11 i := fun i => by
    by_cases c : i = q
    · subst c; rw [zu_s, if_pos rfl]
    · rw [zu_i c, if_neg c]; unfold zsp; rw [if_neg (by omega), zu_k (by decide)]
  have nB : ∀ k i, (zu (zsp (zu N 0 2 (m - 1)) a (m - 1)) 11 q 0) k i < 2 ^ 31 := fun k i => by
    refine zu_b ?_ (by decide)
    unfold zsp
    split
    · exact zu_b (aB _ _) (by omega)
    · exact zu_b (aB _ _) (by omega)
  generalize zu (zsp (zu N 0 2 (m - 1)) a (m - 1)) 11 q 0 = N' at *
  unfold zi zq
  simp only [N0 0 (by decide), N0 1 (by decide), N02, Nk 1 (by decide) (by decide) (by decide) (by decide), Nk 2 (by decide) (by decide) (by decide) (by decide), Nk 3 (by decide) (by decide) (by decide) (by decide), Nk 4 (by decide) (by decide) (by decide) (by decide), Nk 5 (by decide) (by decide) (by decide) (by decide), Nk 6 (by decide) (by decide) (by decide) (by decide), Nk 7 (by decide) (by decide) (by decide) (by decide), Nk 8 (by decide) (by decide) (by decide) (by decide), Nk 12 (by decide) (by decide) (by decide) (by decide)]
  -- where booking i comes from
  have hs : ∀ i, i < m - 1 → ∃ j, j < m ∧ j ≠ a ∧ (j = if a ≤ i then i + 1 else i) ∧ N' 9 i = N 9 j ∧ N' 10 i = N 10 j := fun i hi => by
    rw [N9 9 (Or.inl rfl), N9 10 (Or.inr rfl)]
    by_cases c : a ≤ i
    · exact ⟨i + 1, by omega, by omega, by rw [if_pos c], by rw [if_pos ⟨c, hi⟩], by rw [if_pos ⟨c, hi⟩]⟩
    · exact ⟨i, by omega, by omega, by rw [if_neg c], by rw [if_neg (fun z => c z.1)], by rw [if_neg (fun z => c z.1)]⟩
  have hne : ∀ j, j < m → j ≠ a → N 9 j ≠ q := fun j hj hja e => hja (c3 j a hj ha (e.trans haq.symm))
  refine ⟨⟨⟨⟨a1, a2, by omega, a4, a5⟩, nB⟩, ⟨b1, fun x hx => ?_⟩, ⟨fun k hk => ?_, fun x hx h0 => ?_, fun k k' hk hk' e => ?_⟩, ⟨d1, d2, by omega⟩⟩, ⟨e1, e2, e3⟩, ⟨f1, fun x hx => ?_, f3⟩⟩
  · rw [N11]
    by_cases c : x = q
    · rw [if_pos c]; omega
    · rw [if_neg c]; exact b2 x hx
  · obtain ⟨j, hj, hja, -, s9, s10⟩ := hs k hk
    rw [s9, s10, N11, if_neg (hne j hj hja)]
    exact c1 j hj
  · rw [N11] at h0
    by_cases c : x = q
    · rw [if_pos c] at h0; exact absurd rfl h0
    · rw [if_neg c] at h0
      obtain ⟨k, hk, e⟩ := c2 x hx h0
      have hka : k ≠ a := fun z => c (by rw [← e, z, haq])
      by_cases d : k < a
      · refine ⟨k, by omega, ?_⟩
        rw [N9 9 (Or.inl rfl), if_neg (by omega)]; exact e
      · refine ⟨k - 1, by omega, ?_⟩
        rw [N9 9 (Or.inl rfl), if_pos ⟨by omega, by omega⟩, show k - 1 + 1 = k by omega]; exact e
  · obtain ⟨j, hj, hja, je, s9, -⟩ := hs k hk
    obtain ⟨j', hj', hja', je', s9', -⟩ := hs k' hk'
    rw [s9, s9'] at e
    have := c3 j j' hj hj' e
    rw [je, je'] at this
    split at this <;> split at this <;> omega
  · rw [N11]
    have := f2 x hx
    refine ⟨this.1, this.2.1, ?_⟩
    split
    · rfl
    · exact this.2.2
theorem zi_in {N : zN} (h : zi N) {q : Nat} (hq : q < N 0 1) (h6 : N 6 q ≠ 0) : zi (zu (zu N 7 q 1) 8 q 1) := by
  obtain ⟨⟨⟨a, aB⟩, b, c, ⟨d1, d2, d3⟩⟩, ⟨e1, e2, e3⟩, ⟨f1, f2, f3⟩⟩ := zi_split h
  have Nk : ∀ k, k ≠ 7 → k ≠ 8 → (zu (zu N 7 q 1) 8 q 1) k = N k := fun k h7 h8 => funext fun i => by rw [zu_k h8, zu_k h7]
  have N7 : ∀ i, (zu (zu N 7 q 1) 8 q 1) 7 i = if i = q then 1 else N 7 i := fun i => by
    rw [zu_k (by decide)]
    by_cases c : i = q
    · subst c; rw [zu_s, if_pos rfl]
    · rw [zu_i c, if_neg c]
  have N8 : ∀ i, (zu (zu N 7 q 1) 8 q 1) 8 i = if i = q then 1 else N 8 i := fun i => by
    by_cases c : i = q
    · subst c; rw [zu_s, if_pos rfl]
    · rw [zu_i c, if_neg c, zu_k (by decide)]
  have nB : ∀ k i, (zu (zu N 7 q 1) 8 q 1) k i < 2 ^ 31 := fun k i => zu_b (zu_b (aB k i) (by decide)) (by decide)
  generalize zu (zu N 7 q 1) 8 q 1 = N' at *
  unfold zi zq
  simp only [Nk 0 (by decide) (by decide), Nk 1 (by decide) (by decide), Nk 2 (by decide) (by decide), Nk 3 (by decide) (by decide), Nk 4 (by decide) (by decide), Nk 5 (by decide) (by decide), Nk 6 (by decide) (by decide), Nk 9 (by decide) (by decide), Nk 10 (by decide) (by decide), Nk 11 (by decide) (by decide), Nk 12 (by decide) (by decide)]
  refine ⟨⟨⟨a, nB⟩, b, c, ⟨d1, fun i => ?_, d3⟩⟩, ⟨fun x hx h0 => ?_, e2, e3⟩, ⟨f1, fun x hx => ?_, f3⟩⟩
  · have := d2 i
    rw [N7, N8]
    refine ⟨this.1, ?_, ?_, this.2.2.2⟩
    · split <;> omega
    · split <;> omega
  · rw [N7]
    by_cases c : x = q
    · subst c; exact absurd h0 h6
    · rw [if_neg c]; exact e1 x hx h0
  · rw [N7, N8, if_neg (by omega), if_neg (by omega)]; exact f2 x hx
theorem zi_out {N : zN} (h : zi N) {q : Nat} : zi (zu N 7 q 0) := by
  obtain ⟨⟨⟨a, aB⟩, b, c, ⟨d1, d2, d3⟩⟩, ⟨e1, e2, e3⟩, ⟨f1, f2, f3⟩⟩ := zi_split h
  have Nk : ∀ k, k ≠ 7 → (zu N 7 q 0) k = N k := fun k h7 => funext fun i => zu_k h7
  have N7 : ∀ i, (zu N 7 q 0) 7 i = if i = q then 0 else N 7 i := fun i => by
    by_cases c : i = q
    · subst c; rw [zu_s, if_pos rfl]
    · rw [zu_i c, if_neg c]
  have nB : ∀ k i, (zu N 7 q 0) k i < 2 ^ 31 := fun k i => zu_b (aB k i) (by decide)
  generalize zu N 7 q 0 = N' at *
  unfold zi zq
  simp only [Nk 0 (by decide), Nk 1 (by decide), Nk 2 (by decide), Nk 3 (by decide), Nk 4 (by decide), Nk 5 (by decide), Nk 6 (by decide), Nk 8 (by decide), Nk 9 (by decide), Nk 10 (by decide), Nk 11 (by decide), Nk 12 (by decide)]
  refine ⟨⟨⟨a, nB⟩, b, c, ⟨d1, fun i => ?_, d3⟩⟩, ⟨fun x hx h0 => ?_, e2, e3⟩, ⟨f1, fun x hx => ?_, f3⟩⟩
  · have := d2 i
    rw [N7]
    refine ⟨this.1, ?_, this.2.2⟩
    split <;> omega
  · rw [N7]
    have := e1 x hx h0
    split
    · rfl
    · exact this
  · rw [N7]
    have := f2 x hx
    refine ⟨?_, this.2⟩
    split
    · rfl
    · exact this.1
/-! a new day -/
/-- seats are on open floors, and no more than there are -/
def zse (N : zN) : Prop := (∀ q f, q < N 0 1 → N 6 q = f + 1 → N 3 f = 1) ∧ (∀ f, f < N 0 0 → zc (fun q => N 6 q = f + 1) (N 0 1) ≤ N 1 f)
theorem zgv_ok {N : zN} {k : Nat} : ∀ {n f : Nat}, zgv N k n = f + 1 → f < n ∧ N 3 f ≠ 0 ∧ zsit N f 0 < N 1 f
  | 0, f, h => by simp [zgv] at h
  | n + 1, f, h => by
    rw [zgv] at h
    by_cases c : N 3 n ≠ 0 ∧ zsit N n 0 < N 1 n ∧ zner N k n (zgv N k n)
    · rw [if_pos c] at h
      have e : n = f := by omega
      subst e
      exact ⟨by omega, c.1, c.2.1⟩
    · rw [if_neg c] at h
      obtain ⟨x, y⟩ := zgv_ok h
      exact ⟨by omega, y⟩
theorem zc_up {N : zN} {p v g : Nat} : ∀ n, zc (fun q => zu N 6 p v 6 q = g) n ≤ zc (fun q => N 6 q = g) n + (if v = g ∧ p < n then 1 else 0)
  | 0 => by simp [zc]
  | n + 1 => by
    have ih := zc_up (N := N) (p := p) (v := v) (g := g) n
    rw [zc, zc]
    by_cases e : n = p
    · subst e
      rw [if_neg (by omega)] at ih
      rw [zu_s]
      split <;> split <;> split <;> omega
    · rw [zu_i e]
      have : (if v = g ∧ p < n then 1 else 0) ≤ (if v = g ∧ p < n + 1 then 1 else 0) := by
        by_cases c : v = g ∧ p < n
        · rw [if_pos c, if_pos ⟨c.1, by omega⟩]; omega
        · rw [if_neg c]; omega
      omega
theorem zse_g1 {N : zN} (hq : zq N) (h : zse N) (s k : Nat) : zse (zs_g1 N s k) := by
  unfold zs_g1
  split
  · have hz : ∀ f, zgv N k (N 0 0) = f + 1 → N 3 f = 1 ∧ zsit N f 0 < N 1 f := fun f hf => by
      obtain ⟨x, y, z⟩ := zgv_ok hf
      have := (hq.sm f).1
      exact ⟨by omega, z⟩
    obtain ⟨h1, h2⟩ := h
    refine ⟨fun q f hq2 h6 => ?_, fun f hf => ?_⟩
    · rw [zu_k (by decide)] at hq2
      rw [zu_k (by decide)]
      by_cases e : q = N 9 k
      · subst e; rw [zu_s] at h6; exact (hz f h6).1
      · rw [zu_i e] at h6; exact h1 q f hq2 h6
    · rw [zu_k (by decide)] at hf
      rw [zu_k (by decide), zu_k (by decide)]
      have hu := zc_up (N := N) (p := N 9 k) (v := zgv N k (N 0 0)) (g := f + 1) (N 0 1)
      have ho := h2 f hf
      by_cases c : zgv N k (N 0 0) = f + 1 ∧ N 9 k < N 0 1
      · have := (hz f c.1).2
        rw [zsit_0] at this
        rw [if_pos c] at hu
        omega
      · rw [if_neg c] at hu
        omega
  · exact h
theorem zse_gk {N : zN} (hq : zq N) (h : zse N) (s : Nat) : ∀ k, zse (zs_gk N s k)
  | 0 => h
  | k + 1 => zse_g1 (zs_gk_q hq s k) (zse_gk hq h s k) s k
theorem zse_gd {N : zN} (hq : zq N) (h : zse N) : ∀ j, zse (zs_gd N j)
  | 0 => h
  | j + 1 => zse_gk (zs_gd_q hq j) (zse_gd hq h j) _ _
theorem zdM_6 {N : zN} {k q : Nat} (hk : k = 6 ∨ k = 7 ∨ k = 8) (hq : q < N 0 1) : zdM N k q = 0 := by
  unfold zdM zho
  rw [if_pos ⟨hk, hq⟩]
theorem zdM_se {N : zN} : zse (zdM N) := by
  have e01 : zdM N 0 1 = N 0 1 := zdM_k (by decide) (by decide) (by decide) (by decide) (by decide)
  refine ⟨fun q f hq h6 => ?_, fun f hf => ?_⟩
  · rw [e01] at hq
    rw [zdM_6 (Or.inl rfl) hq] at h6; omega
  · rw [e01, zc_0 fun q hq => by rw [zdM_6 (Or.inl rfl) hq]; omega]
    omega
theorem zi_day {N : zN} (h : zi N) (hd : N 12 0 ≠ 365) : zi (zs_dayN N) := by
  have hq := h.q
  have hM := zdM_q hq
  have hD := zs_gd_q hM 11
  obtain ⟨se1, se2⟩ := zse_gd hM zdM_se 11
  have hms := zmiss_b hq
  have hnn := h.nn
  have h365 := hq.d
  have Dk : ∀ k i, k ≠ 3 → k ≠ 5 → k ≠ 6 → k ≠ 7 → k ≠ 8 → zs_gd (zdM N) 11 k i = N k i := fun k i h3 h5 h6 h7 h8 => by rw [zs_gd_k h6, zdM_k h3 h5 h6 h7 h8]
  have D7 : ∀ k q, k = 7 ∨ k = 8 → q < N 0 1 → zs_gd (zdM N) 11 k q = 0 := fun k q hk hq2 => by rw [zs_gd_k (by omega), zdM_6 (by omega) hq2]
  have D7' : ∀ k q, k = 7 ∨ k = 8 → N 0 1 ≤ q → zs_gd (zdM N) 11 k q = N k q := fun k q hk hq2 => by
    rw [zs_gd_k (by omega)]; unfold zdM; unfold zho; rw [if_neg (by omega), zso_k (by omega), zjn_k (by omega)]
  have D3' : ∀ f, N 0 0 ≤ f → zs_gd (zdM N) 11 3 f = N 3 f := fun f hf => by
    rw [zs_gd_k (by decide)]; unfold zdM; rw [zho_k (by decide) (by decide) (by decide)]; unfold zso; rw [if_neg (by omega), zjn_k (by decide)]
  have Z : ∀ k i, zs_dayN N k i = if k = 11 ∧ i < N 0 1 then 0 else if k = 12 ∧ i = 1 then N 12 1 + zmiss N (N 0 1) else if k = 12 ∧ i = 0 then N 12 0 + 1 else if k = 0 ∧ i = 2 then 0 else zs_gd (zdM N) 11 k i := fun k i => by
    unfold zs_dayN
    by_cases c : k = 11 ∧ i < N 0 1
    · rw [if_pos c, if_pos c]
    · rw [if_neg c, if_neg c]
      by_cases c1 : k = 12 ∧ i = 1
      · rw [if_pos c1, c1.1, c1.2, zu_s]
      · rw [if_neg c1, zu_n c1]
        by_cases c2 : k = 12 ∧ i = 0
        · rw [if_pos c2, c2.1, c2.2, zu_s]
        · rw [if_neg c2, zu_n c2]
          by_cases c3 : k = 0 ∧ i = 2
          · rw [if_pos c3, c3.1, c3.2, zu_s]
          · rw [if_neg c3, zu_n c3]
  have Z00 : zs_dayN N 0 0 = N 0 0 := by rw [Z, if_neg (by omega), if_neg (by omega), if_neg (by omega), if_neg (by omega), Dk _ _ (by decide) (by decide) (by decide) (by decide) (by decide)]
  have Z01 : zs_dayN N 0 1 = N 0 1 := by rw [Z, if_neg (by omega), if_neg (by omega), if_neg (by omega), if_neg (by omega), Dk _ _ (by decide) (by decide) (by decide) (by decide) (by decide)]
  have Z02 : zs_dayN N 0 2 = 0 := by rw [Z, if_neg (by omega), if_neg (by omega), if_neg (by omega), if_pos ⟨rfl, rfl⟩]
  have Z120 : zs_dayN N 12 0 = N 12 0 + 1 := by rw [Z, if_neg (by omega), if_neg (by omega), if_pos ⟨rfl, rfl⟩]
  have Z121 : zs_dayN N 12 1 = N 12 1 + zmiss N (N 0 1) := by rw [Z, if_neg (by omega), if_pos ⟨rfl, rfl⟩]
  have Z11 : ∀ i, zs_dayN N 11 i = if i < N 0 1 then 0 else N 11 i := fun i => by
    rw [Z]
    by_cases c : i < N 0 1
    · rw [if_pos ⟨rfl, c⟩, if_pos c]
    · rw [if_neg (fun z => c z.2), if_neg (by omega), if_neg (by omega), if_neg (by omega), if_neg c, Dk _ _ (by decide) (by decide) (by decide) (by decide) (by decide)]
  have ZD : ∀ k, k ≠ 0 → k ≠ 11 → k ≠ 12 → zs_dayN N k = zs_gd (zdM N) 11 k := fun k h0 h11 h12 => funext fun i => by rw [Z, if_neg (by omega), if_neg (by omega), if_neg (by omega), if_neg (by omega)]
  have D0 : ∀ i, zs_gd (zdM N) 11 0 i = N 0 i := fun i => Dk _ _ (by decide) (by decide) (by decide) (by decide) (by decide)
  have nB : ∀ k i, zs_dayN N k i < 2 ^ 31 := fun k i => by
    rw [Z]
    have := hD.B k i
    have := hq.B 12 1
    split
    · omega
    · split
      · omega
      · split
        · omega
        · split <;> omega
  generalize zs_dayN N = N' at *
  unfold zi zq
  simp only [Z00, Z01, Z02, Z120, Z121, ZD 1 (by decide) (by decide) (by decide), ZD 2 (by decide) (by decide) (by decide), ZD 3 (by decide) (by decide) (by decide), ZD 4 (by decide) (by decide) (by decide), ZD 5 (by decide) (by decide) (by decide), ZD 6 (by decide) (by decide) (by decide), ZD 7 (by decide) (by decide) (by decide), ZD 8 (by decide) (by decide) (by decide), ZD 9 (by decide) (by decide) (by decide), ZD 10 (by decide) (by decide) (by decide)]
  rw [D0] at se1 se2
  rw [D0] at se2
  refine ⟨⟨⟨⟨hq.f, hq.p, by omega, by omega, by omega⟩, nB⟩, ⟨fun q hq2 => ?_, fun q hq2 => ?_⟩, ⟨fun k hk => by omega, fun q hq2 h0 => ?_, fun k k' hk => by omega⟩, ⟨fun f hf => ?_, hD.sm, by omega⟩⟩, ⟨fun q hq2 _ => D7 7 q (Or.inl rfl) hq2, se1, se2⟩, ⟨fun f hf => ?_, fun q hq2 => ?_, by omega⟩⟩
  · have := hD.st q (by rw [D0]; exact hq2)
    rw [D0] at this; exact this
  · rw [Z11, if_pos hq2]; omega
  · rw [Z11, if_pos hq2] at h0; exact absurd rfl h0
  · exact hD.fl f (by rw [D0]; exact hf)
  · rw [D3' f hf]; exact h.cf f hf
  · rw [D7' 7 q (Or.inl rfl) hq2, D7' 8 q (Or.inr rfl) hq2, Z11, if_neg (by omega)]
    exact h.cp q hq2
/-! the calls -/
theorem zx_clamp {x : Int32} {n : Nat} (hn : n < 2 ^ 30) (h : zin x n) : x.toNatClampNeg < n := by
  obtain ⟨j, hj, rfl⟩ := zz_rng (by omega) h.1 h.2
  rw [nI_clamp (by omega)]; exact hj
theorem zx_clamp2 {x : Int32} {a b : Nat} (ha : a < 2 ^ 30) (hb : b < 2 ^ 30) (h : zbw x a b) : a ≤ x.toNatClampNeg ∧ x.toNatClampNeg ≤ b := by
  obtain ⟨j, hj, rfl⟩ := zz_rng2 (by omega) (by omega) h
  rw [nI_clamp (by omega)]
  exact ⟨((zbw_nI (by omega) (by omega) (by omega)).mp h).1, hj⟩
theorem ki_addFloor {N : zN} {G : Nat → Nat → Int32} (h : zi N) (hg : zgi N G) (x y : Int32) : zi (zs_addFloor N G x y).2.2.1 ∧ zgi (zs_addFloor N G x y).2.2.1 (zs_addFloor N G x y).2.2.2 := by
  have h6 := h.q.f
  unfold zs_addFloor
  split
  · exact ⟨h, hg⟩
  · next c =>
    split
    · exact ⟨h, hg⟩
    · next c2 =>
      have c := Decidable.not_not.mp c
      have cx := zx_clamp2 (by decide) (by decide) c.1
      have cy := zx_clamp2 (by decide) (by decide) c.2
      refine ⟨zi_floor h cx.1 cx.2 cy.2 (by omega), fun f hf => ?_⟩
      dsimp only at hf ⊢
      rw [zu_s] at hf
      rw [zg_n (by omega)]
      by_cases e : f = N 0 0
      · subst e; rw [zg_s]; exact ⟨30, by decide, rfl⟩
      · rw [zg_n (by omega)]; exact hg f (by omega)
theorem ki_setCost {N : zN} (h : zi N) (x y : Int32) : zi (zs_setCost N x y).2.2 := by
  unfold zs_setCost
  split
  · exact h
  · split
    · exact h
    · next c => exact zi_cost h (zx_clamp2 (by decide) (by decide) (Decidable.not_not.mp c)).2
theorem ki_addPerson {N : zN} (h : zi N) (x : Int32) : zi (zs_addPerson N x).2.2 := by
  have h12 := h.q.p
  unfold zs_addPerson
  split
  · exact h
  · next c =>
    split
    · exact h
    · exact zi_person h (zx_clamp2 (by decide) (by decide) (Decidable.not_not.mp c)).2 (by omega)
theorem ki_book {N : zN} (h : zi N) (x y : Int32) : zi (zs_book N x y).2.2 := by
  have h6 := h.q.f
  have h12 := h.q.p
  unfold zs_book
  split
  · exact h
  · next c1 =>
    split
    · exact h
    · next c2 =>
      split
      · exact h
      · next c3 =>
        split
        · exact h
        · next c4 => exact zi_book h (zx_clamp (by omega) (Decidable.not_not.mp c1)) (zx_clamp (by omega) (Decidable.not_not.mp c2)) (by omega) (by omega)
theorem ki_cancel {N : zN} (h : zi N) (x : Int32) : zi (zs_cancel N x).2.2 := by
  have h12 := h.q.p
  unfold zs_cancel
  split
  · exact h
  · next c1 =>
    split
    · exact h
    · next c2 =>
      have hq := zx_clamp (by omega) (Decidable.not_not.mp c1)
      have hz : zfb N x.toNatClampNeg (N 0 2) ≠ 0 := fun z => c2 ((zfb_0 h.q hq).mp z)
      obtain ⟨ha, e⟩ := zfb_at (j := zfb N x.toNatClampNeg (N 0 2) - 1) (show zfb N x.toNatClampNeg (N 0 2) = _ by omega)
      exact zi_cancel h ha e
theorem ki_day {N : zN} {L : Nat → Int64} (h : zi N) : zi (zs_day N L).2.2.1 := by
  unfold zs_day
  split
  · exact h
  · next c => exact zi_day h c
theorem ki_day0 {N : zN} {L : Nat → Int64} : (zs_day N L).2.2.1 0 0 = N 0 0 := by
  unfold zs_day
  split
  · rfl
  · show zs_dayN N 0 0 = N 0 0
    unfold zs_dayN
    rw [if_neg (by omega), zu_k (by decide), zu_k (by decide), zu_i (by decide), zs_gd_k (by decide), zdM_k (by decide) (by decide) (by decide) (by decide) (by decide)]
theorem ki_comeIn {N : zN} (h : zi N) (x : Int32) : zi (zs_comeIn N x).2.2 := by
  have h12 := h.q.p
  unfold zs_comeIn
  split
  · exact h
  · next c1 =>
    split
    · exact h
    · next c2 =>
      split
      · exact h
      · exact zi_in h (zx_clamp (by omega) (Decidable.not_not.mp c1)) c2
theorem ki_leave {N : zN} (h : zi N) (x : Int32) : zi (zs_leave N x).2.2 := by
  unfold zs_leave
  split
  · exact h
  · split
    · exact h
    · exact zi_out h
theorem ki_pass {N : zN} {G : Nat → Nat → Int32} {L : Nat → Int64} (h : zi N) (hg : zgi N G) (x : Int32) : zgi N (zs_pass N G L x).2.2.1 := by
  unfold zs_pass
  split
  · exact hg
  · exact zhh_gi h.q hg _
theorem zgi_co {N N' : zN} {G : Nat → Nat → Int32} (e : N' 0 0 = N 0 0) (hg : zgi N G) : zgi N' G := fun f hf => hg f (by rw [← e]; exact hf)
theorem kg_setCost {N : zN} {x y : Int32} : (zs_setCost N x y).2.2 0 0 = N 0 0 := by
  unfold zs_setCost
  split
  · rfl
  · split
    · rfl
    · dsimp only; rw [zu_k (by decide)]
theorem kg_addPerson {N : zN} {x : Int32} : (zs_addPerson N x).2.2 0 0 = N 0 0 := by
  unfold zs_addPerson
  split
  · rfl
  · split
    · rfl
    · dsimp only
      rw [zu_i (by decide), zu_k (by decide), zu_k (by decide), zu_k (by decide)]
theorem kg_book {N : zN} {x y : Int32} : (zs_book N x y).2.2 0 0 = N 0 0 := by
  unfold zs_book
  split
  · rfl
  · split
    · rfl
    · split
      · rfl
      · split
        · rfl
        · dsimp only
          rw [zu_k (by decide), zu_i (by decide), zu_k (by decide), zu_k (by decide)]
theorem kg_cancel {N : zN} {x : Int32} : (zs_cancel N x).2.2 0 0 = N 0 0 := by
  unfold zs_cancel
  split
  · rfl
  · split
    · rfl
    · dsimp only
      rw [zu_k (by decide)]; unfold zsp; rw [if_neg (by omega), zu_i (by decide)]
theorem kg_comeIn {N : zN} {x : Int32} : (zs_comeIn N x).2.2 0 0 = N 0 0 := by
  unfold zs_comeIn
  split
  · rfl
  · split
    · rfl
    · split
      · rfl
      · dsimp only
        rw [zu_k (by decide), zu_k (by decide)]
theorem kg_leave {N : zN} {x : Int32} : (zs_leave N x).2.2 0 0 = N 0 0 := by
  unfold zs_leave
  split
  · rfl
  · split
    · rfl
    · dsimp only; rw [zu_k (by decide)]
/-! the beginning -/
def zN0 : zN := fun k _ => if k = 6 then 1 else 0
theorem zi_0 : zi zN0 := by
  have e : ∀ k i, zN0 k i = if k = 6 then 1 else 0 := fun _ _ => rfl
  have z : ∀ k i, k ≠ 6 → zN0 k i = 0 := fun k i h => by rw [e, if_neg h]
  unfold zi zq
  simp only [z 0 _ (by decide), z 1 _ (by decide), z 2 _ (by decide), z 3 _ (by decide), z 4 _ (by decide), z 5 _ (by decide), z 7 _ (by decide), z 8 _ (by decide), z 9 _ (by decide), z 10 _ (by decide), z 11 _ (by decide), z 12 _ (by decide)]
  refine ⟨⟨⟨⟨by omega, by omega, by omega, by omega, by omega⟩, fun k i => by rw [e]; split <;> omega⟩, ⟨fun q h => by omega, fun q h => by omega⟩, ⟨fun q h => by omega, fun q h => by omega, fun q h => by omega⟩, ⟨fun q h => by omega, fun i => by omega, by omega⟩⟩, ⟨fun q h => by omega, fun q f h => by omega, fun q h => by omega⟩, ⟨by intros; first | trivial | simp [zN0], by intros; first | trivial | simp [zN0], by omega⟩⟩
