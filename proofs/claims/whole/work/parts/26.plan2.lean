/-! the plan's table, second half: what the class writes, and that its least key is the plan's -/
abbrev zE : Type := Nat → Nat → Int32
theorem zz_3 {x : Int32} {n : Nat} (h : x = nI n) : nI 3 * x = nI (3 * n) := by rw [h, pk_mul]
def za1 (N : zN) (i h : Nat) (E : zE) (s : Nat) : zE := if E (1 + i) s = 2147483647 then E else zk_of E h (min (s + N 1 h) (N 0 2)) (E (1 + i) s + nI (64 * (N 2 h + 3 * zsum (zb2 N i h) (N 0 2))) + nI (2 ^ h))
def zas (N : zN) (i h : Nat) (E : zE) : Nat → zE
  | 0 => E
  | s + 1 => za1 N i h (zas N i h E s) s
def zau (N : zN) (h : Nat) (E : zE) : Nat → zE
  | 0 => E
  | i + 1 => zas N i h (zau N h E i) (N 0 2 + 1)
def zal (N : zN) (h : Nat) (E : zE) : zE := zk_of (zk_fo E h 13) h (min (N 1 h) (N 0 2)) (nI (64 * (N 2 h + 3 * zsum (zb1 N h) (N 0 2)) + 2 ^ h))
def zku (N : zN) (h : Nat) (E : zE) : zE := zau N h (zal N h E) h
def zfm (x y : Int32) : Int32 := if y < x then y else x
def zfp (N : zN) (E : zE) : Nat → zE × Int32
  | 0 => (E, 2147483647)
  | h + 1 => (zku N h (zfp N E h).1, if zku N h (zfp N E h).1 (1 + h) (N 0 2) = 2147483647 then (zfp N E h).2 else zfm (zfp N E h).2 (zku N h (zfp N E h).1 (1 + h) (N 0 2) + nI (64 * (3 * zsum (zb3 N h) (N 0 2)))))
def zfE (N : zN) (E : zE) : zE := if N 0 2 = 0 then E else (zfp N E (N 0 0)).1
theorem zk_of_row {E : zE} {h a k : Nat} {v : Int32} (hk : k ≠ 1 + h) : zk_of E h a v k = E k := by
  unfold zk_of; split
  · funext j; exact zg_n (fun z => hk z.1)
  · rfl
theorem zk_of_at {E : zE} {h a s : Nat} {v : Int32} (ha : a < 13) : zk_of E h a v (1 + h) s = if s = a ∧ v < E (1 + h) a then v else E (1 + h) s := by
  unfold zk_of
  by_cases q : v < E (1 + h) a
  · rw [if_pos ⟨ha, q⟩]
    by_cases e : s = a
    · subst e; rw [zg_s, if_pos ⟨rfl, q⟩]
    · rw [zg_n (fun z => e z.2), if_neg (fun z => e z.1)]
  · rw [if_neg (fun z => q z.2), if_neg (fun z => q z.2)]
theorem zk_fo_row {E : zE} {h n k : Nat} (hk : k ≠ 1 + h) : zk_fo E h n k = E k := by
  funext j; unfold zk_fo; rw [if_neg (fun z => hk z.1)]
theorem za1_row {N : zN} {i h s k : Nat} {E : zE} (hk : k ≠ 1 + h) : za1 N i h E s k = E k := by
  unfold za1; split
  · rfl
  · exact zk_of_row hk
theorem zas_row {N : zN} {i h k : Nat} {E : zE} (hk : k ≠ 1 + h) : ∀ s, zas N i h E s k = E k
  | 0 => rfl
  | s + 1 => by rw [zas, za1_row hk, zas_row hk s]
theorem zau_row {N : zN} {h k : Nat} {E : zE} (hk : k ≠ 1 + h) : ∀ i, zau N h E i k = E k
  | 0 => rfl
  | i + 1 => by rw [zau, zas_row hk, zau_row hk i]
theorem zku_row {N : zN} {h k : Nat} {E : zE} (hk : k ≠ 1 + h) : zku N h E k = E k := by
  unfold zku zal; rw [zau_row hk, zk_of_row hk, zk_fo_row hk]
/-- a row holds by seats the least key of the sets with P whose highest floor is h -/
def zkp (N : zN) (h : Nat) (P : Nat → Prop) (e : Nat → Int32) : Prop := ∀ s, s ≤ N 0 2 → (∀ T, P T → ztop h T → zsB N T = s → e s ≤ nI (zpk N h T)) ∧ (e s = 2147483647 ∨ ∃ T, P T ∧ ztop h T ∧ zsB N T = s ∧ e s = nI (zpk N h T))
theorem zkp.c {N : zN} {h : Nat} {P P' : Nat → Prop} {e : Nat → Int32} (k : zkp N h P e) (hp : ∀ T, ztop h T → (P T ↔ P' T)) : zkp N h P' e := fun s hs => by
  obtain ⟨a, b⟩ := k s hs
  refine ⟨fun T p t z => a T ((hp T t).mpr p) t z, b.imp id (fun ⟨T, p, t, z⟩ => ⟨T, (hp T t).mp p, t, z⟩)⟩
theorem zkp.of {N : zN} {h a : Nat} {P Q : Nat → Prop} {E : zE} {v : Int32} (k : zkp N h P (E (1 + h))) (ha : a < 13) (h0 : ∃ T, Q T ∧ ztop h T ∧ zsB N T = a ∧ v = nI (zpk N h T)) (hm : ∀ T, Q T → ztop h T → zsB N T = a ∧ v ≤ nI (zpk N h T)) : zkp N h (fun T => P T ∨ Q T) (zk_of E h a v (1 + h)) := fun s hs => by
  obtain ⟨c, d⟩ := k s hs
  rw [zk_of_at ha]
  by_cases e : s = a
  · subst e
    by_cases q : v < E (1 + h) s
    · rw [if_pos ⟨rfl, q⟩]
      refine ⟨fun T p t z => ?_, Or.inr ?_⟩
      · rcases p with p | p
        · exact Int32.le_trans (Int32.le_of_lt q) (c T p t z)
        · exact (hm T p t).2
      · obtain ⟨T, p, t, z, w⟩ := h0
        exact ⟨T, Or.inr p, t, z, w⟩
    · rw [if_neg (fun z => q z.2)]
      refine ⟨fun T p t z => ?_, d.imp id (fun ⟨T, p, t⟩ => ⟨T, Or.inl p, t⟩)⟩
      rcases p with p | p
      · exact c T p t z
      · exact Int32.le_trans (Int32.not_lt.mp q) (hm T p t).2
  · rw [if_neg (fun z => e z.1)]
    refine ⟨fun T p t z => ?_, d.imp id (fun ⟨T, p, t⟩ => ⟨T, Or.inl p, t⟩)⟩
    rcases p with p | p
    · exact c T p t z
    · exact absurd ((hm T p t).1.symm.trans z).symm e
theorem zmx {n : Nat} (hn : n < 2000000000) : ¬ (2147483647 : Int32) ≤ nI n := by
  rw [Int32.le_iff_toInt_le, nI_toInt (by omega)]
  have e : (2147483647 : Int32).toInt = 2147483647 := by decide
  rw [e]; omega
theorem zas_p {N : zN} (hq : zq N) {i h : Nat} (hi : i < h) (hh : h < N 0 0) {E : zE} {P : Nat → Prop} (hr : zkp N i (fun _ => True) (E (1 + i))) (hk : zkp N h P (E (1 + h))) : ∀ n, n ≤ N 0 2 + 1 → zkp N h (fun T => P T ∨ ∃ T', ztop i T' ∧ zsB N T' < n ∧ T = T' + 2 ^ h) (zas N i h E n (1 + h))
  | 0, _ => hk.c fun T _ => ⟨Or.inl, fun z => z.elim id fun ⟨_, _, z, _⟩ => by omega⟩
  | n + 1, hn => by
    have ih := zas_p hq hi hh hr hk n (by omega)
    have hf := hq.f
    have hb := hq.b
    have er : zas N i h E n (1 + i) = E (1 + i) := zas_row (by omega) n
    obtain ⟨r1, r2⟩ := hr n (by omega)
    rw [zas, za1, er]
    by_cases e : E (1 + i) n = 2147483647
    · rw [if_pos e]
      refine ih.c fun T _ => ?_
      refine ⟨fun z => z.imp id fun ⟨T', t, l, x⟩ => ⟨T', t, by omega, x⟩, fun z => z.imp id fun ⟨T', t, l, x⟩ => ⟨T', t, ?_, x⟩⟩
      by_cases l2 : zsB N T' = n
      · have := r1 T' trivial t l2
        rw [e] at this
        exact absurd this (zmx (by have := zpk_b hq (by omega) t; omega))
      · omega
    · rw [if_neg e]
      obtain ⟨T0, -, t0, s0, v0⟩ := r2.resolve_left e
      have p0 := zpk_b hq (show i < N 0 0 by omega) t0
      have hv : E (1 + i) n + nI (64 * (N 2 h + 3 * zsum (zb2 N i h) (N 0 2))) + nI (2 ^ h) = nI (zpk N h (T0 + 2 ^ h)) := by
        rw [v0, nI_add, nI_add, zpk_ext hq hh hi t0]
      rw [hv]
      have k2 := ih.of (Q := fun T => ∃ T', ztop i T' ∧ zsB N T' = n ∧ T = T' + 2 ^ h) (a := min (n + N 1 h) (N 0 2)) (v := nI (zpk N h (T0 + 2 ^ h))) (by omega) ⟨T0 + 2 ^ h, ⟨T0, t0, s0, rfl⟩, zt_ext h (by omega) i hi T0 (zt_64 (by omega) t0) t0, by rw [zsB_ext hq hh hi t0, s0], rfl⟩ (fun T ⟨T', t', s', x⟩ tt => by
        subst x
        have a1 := zpk_b hq hh (zt_ext h (by omega) i hi T0 (zt_64 (by omega) t0) t0)
        have a2 := zpk_b hq hh tt
        have a3 := zpk_b hq (show i < N 0 0 by omega) t'
        refine ⟨by rw [zsB_ext hq hh hi t', s'], ?_⟩
        have b1 := r1 T' trivial t' s'
        rw [v0, nI_leI (by omega) (by omega)] at b1
        rw [nI_leI (by omega) (by omega), zpk_ext hq hh hi t0, zpk_ext hq hh hi t']
        omega)
      refine k2.c fun T _ => ?_
      constructor
      · rintro ((z | ⟨T', t, l, x⟩) | ⟨T', t, l, x⟩)
        · exact Or.inl z
        · exact Or.inr ⟨T', t, by omega, x⟩
        · exact Or.inr ⟨T', t, by omega, x⟩
      · rintro (z | ⟨T', t, l, x⟩)
        · exact Or.inl (Or.inl z)
        · by_cases l2 : zsB N T' = n
          · exact Or.inr ⟨T', t, l2, x⟩
          · exact Or.inl (Or.inr ⟨T', t, by omega, x⟩)
theorem zau_p {N : zN} (hq : zq N) {h : Nat} (hh : h < N 0 0) {E : zE} (hr : ∀ i, i < h → zkp N i (fun _ => True) (E (1 + i))) (hk : zkp N h (fun T => T = 2 ^ h) (E (1 + h))) : ∀ n, n ≤ h → zkp N h (fun T => T = 2 ^ h ∨ ∃ i T', i < n ∧ ztop i T' ∧ T = T' + 2 ^ h) (zau N h E n (1 + h))
  | 0, _ => hk.c fun T _ => ⟨Or.inl, fun z => z.elim id fun ⟨_, _, z, _⟩ => by omega⟩
  | n + 1, hn => by
    have ih := zau_p hq hh hr hk n (by omega)
    have k2 := zas_p hq (show n < h by omega) hh (E := zau N h E n) (by rw [zau_row (by omega)]; exact hr n (by omega)) ih (N 0 2 + 1) (Nat.le_refl _)
    refine k2.c fun T _ => ?_
    constructor
    · rintro ((z | ⟨i, T', l, t, x⟩) | ⟨T', t, l, x⟩)
      · exact Or.inl z
      · exact Or.inr ⟨i, T', by omega, t, x⟩
      · exact Or.inr ⟨n, T', by omega, t, x⟩
    · rintro (z | ⟨i, T', l, t, x⟩)
      · exact Or.inl (Or.inl z)
      · by_cases e : i = n
        · subst e
          exact Or.inr ⟨T', t, by unfold zsB; omega, x⟩
        · exact Or.inl (Or.inr ⟨i, T', by omega, t, x⟩)
theorem zal_p {N : zN} (hq : zq N) {h : Nat} (hh : h < N 0 0) (E : zE) : zkp N h (fun T => T = 2 ^ h) (zal N h E (1 + h)) := by
  have hf := hq.f
  have hb := hq.b
  have k0 : zkp N h (fun _ => False) (zk_fo E h 13 (1 + h)) := fun s hs => ⟨fun _ z => z.elim, Or.inl (by unfold zk_fo; rw [if_pos ⟨rfl, by omega⟩])⟩
  unfold zal
  rw [← zpk_1 hq hh]
  have k1 := k0.of (Q := fun T => T = 2 ^ h) (a := min (N 1 h) (N 0 2)) (v := nI (zpk N h (2 ^ h))) (by omega) ⟨2 ^ h, rfl, zt_alone h (by omega), zsB_1 hq hh, rfl⟩ (fun T x t => by subst x; exact ⟨zsB_1 hq hh, Int32.le_refl _⟩)
  exact k1.c fun T _ => ⟨fun z => z.resolve_left id, Or.inr⟩
theorem zku_p {N : zN} (hq : zq N) {h : Nat} (hh : h < N 0 0) {E : zE} (hr : ∀ i, i < h → zkp N i (fun _ => True) (E (1 + i))) : zkp N h (fun _ => True) (zku N h E (1 + h)) := by
  have hf := hq.f
  have k := zau_p hq hh (E := zal N h E) (fun i hi => by
    have e : zal N h E (1 + i) = E (1 + i) := by unfold zal; rw [zk_of_row (by omega), zk_fo_row (by omega)]
    rw [e]; exact hr i hi) (zal_p hq hh E) h (Nat.le_refl _)
  refine k.c fun T t => ⟨fun _ => trivial, fun _ => ?_⟩
  rcases zt_dec h (by omega) T (zt_64 (by omega) t) t with x | ⟨i, l, t', x⟩
  · exact Or.inl x
  · exact Or.inr ⟨i, _, l, t', x⟩
theorem zsB_fit {N : zN} {T : Nat} : zsB N T = N 0 2 ↔ zfit N T := by unfold zsB zfit; omega
theorem zfp_p {N : zN} (hq : zq N) (E : zE) : ∀ n, n ≤ N 0 0 → (∀ i, i < n → zkp N i (fun _ => True) ((zfp N E n).1 (1 + i))) ∧ (∀ h T, h < n → ztop h T → zfit N T → (zfp N E n).2 ≤ nI (zfk N T)) ∧ ((zfp N E n).2 = 2147483647 ∨ ∃ h T, h < n ∧ ztop h T ∧ zfit N T ∧ (zfp N E n).2 = nI (zfk N T))
  | 0, _ => ⟨fun i hi => by omega, fun h T hh => by omega, Or.inl rfl⟩
  | n + 1, hn => by
    obtain ⟨i1, i2, i3⟩ := zfp_p hq E n (by omega)
    have hf := hq.f
    have hk := zku_p hq (show n < N 0 0 by omega) (E := (zfp N E n).1) i1
    refine ⟨fun i hi => ?_, ?_⟩
    · show zkp N i _ (zku N n (zfp N E n).1 (1 + i))
      by_cases e : i = n
      · subst e; exact hk
      · rw [zku_row (by omega)]; exact i1 i (by omega)
    · obtain ⟨k1, k2⟩ := hk (N 0 2) (Nat.le_refl _)
      rw [zfp]
      dsimp only
      by_cases e : zku N n (zfp N E n).1 (1 + n) (N 0 2) = 2147483647
      · rw [if_pos e]
        refine ⟨fun h T hh t ft => ?_, i3.imp id fun ⟨h, T, hh, z⟩ => ⟨h, T, by omega, z⟩⟩
        by_cases en : h = n
        · subst en
          have := k1 T trivial t (zsB_fit.mpr ft)
          rw [e] at this
          exact absurd this (zmx (by have := zpk_b hq (show h < N 0 0 by omega) t; omega))
        · exact i2 h T (by omega) t ft
      · rw [if_neg e]
        obtain ⟨T0, -, t0, s0, v0⟩ := k2.resolve_left e
        have f0 := zfk_b hq (zt_64 (by omega) t0)
        have hv : zku N n (zfp N E n).1 (1 + n) (N 0 2) + nI (64 * (3 * zsum (zb3 N n) (N 0 2))) = nI (zfk N T0) := by
          rw [v0, nI_add, ← zfk_top hq (by omega) t0]
        rw [hv]
        have m0 : ∀ T, ztop n T → zfit N T → nI (zfk N T0) ≤ nI (zfk N T) := fun T t ft => by
          have a1 := zpk_b hq (show n < N 0 0 by omega) t0
          have a2 := zpk_b hq (show n < N 0 0 by omega) t
          have a3 := zfk_b hq (zt_64 (by omega) t)
          have b1 := k1 T trivial t (zsB_fit.mpr ft)
          rw [v0, nI_leI (by omega) (by omega)] at b1
          rw [nI_leI (by omega) (by omega), zfk_top hq (by omega) t0, zfk_top hq (by omega) t]
          omega
        unfold zfm
        by_cases l : nI (zfk N T0) < (zfp N E n).2
        · rw [if_pos l]
          refine ⟨fun h T hh t ft => ?_, Or.inr ⟨n, T0, by omega, t0, zsB_fit.mp s0, rfl⟩⟩
          by_cases en : h = n
          · subst en; exact m0 T t ft
          · exact Int32.le_trans (Int32.le_of_lt l) (i2 h T (by omega) t ft)
        · rw [if_neg l]
          refine ⟨fun h T hh t ft => ?_, i3.imp id fun ⟨h, T, hh, z⟩ => ⟨h, T, by omega, z⟩⟩
          by_cases en : h = n
          · subst en; exact Int32.le_trans (Int32.not_lt.mp l) (m0 T t ft)
          · exact i2 h T (by omega) t ft
theorem zbt_min {N : zN} : ∀ n, n ≤ 64 → ∀ T, T < n → zfit N T → zbt N n ≠ 0 ∧ 64 * zls 6 N (zbt N n - 1) + (zbt N n - 1) ≤ 64 * zls 6 N T + T
  | 0, _, T, hT, _ => by omega
  | n + 1, hn, T, hT, ft => by
    have hb := zbt_le N n
    by_cases e : T = n
    · subst e
      rw [zbt]
      by_cases q : zfit N T ∧ (zbt N T = 0 ∨ zls 6 N T < zls 6 N (zbt N T - 1))
      · rw [if_pos q]; refine ⟨by omega, ?_⟩
        simp only [Nat.add_sub_cancel]; omega
      · rw [if_neg q]
        have q2 : ¬ (zbt N T = 0 ∨ zls 6 N T < zls 6 N (zbt N T - 1)) := fun z => q ⟨ft, z⟩
        exact ⟨fun z => q2 (Or.inl z), by omega⟩
    · obtain ⟨a, b⟩ := zbt_min n (by omega) T (by omega) ft
      rw [zbt]
      by_cases q : zfit N n ∧ (zbt N n = 0 ∨ zls 6 N n < zls 6 N (zbt N n - 1))
      · rw [if_pos q]
        refine ⟨by omega, ?_⟩
        have := q.2.resolve_left a
        simp only [Nat.add_sub_cancel]
        omega
      · rw [if_neg q]; exact ⟨a, b⟩
theorem zfp_plan {N : zN} (hq : zq N) (h0 : N 0 2 ≠ 0) (E : zE) : (zfp N E (N 0 0)).2 = nI (64 * zls 6 N (zplan N) + zplan N) := by
  have hf := hq.f
  have p6 : 2 ^ N 0 0 ≤ 64 := Nat.le_trans (Nat.pow_le_pow_right (by decide) hf) (by decide)
  obtain ⟨-, i2, i3⟩ := zfp_p hq E (N 0 0) (Nat.le_refl _)
  have hb := zbt_all hq
  have hbl := zbt_le N (2 ^ N 0 0)
  have fp : zfit N (zplan N) := by unfold zplan; rw [if_neg h0]; exact zbt_fit _ hb
  have ep : zplan N = zbt N (2 ^ N 0 0) - 1 := by unfold zplan; rw [if_neg h0]
  have ne : ∀ T, zfit N T → T ≠ 0 := fun T ft e => by
    subst e
    have : zss N 0 = 0 := by
      unfold zss
      rw [zsum_c (g := fun _ => 0) (fun f _ => by simp), zsum_z]
    unfold zfit at ft
    omega
  have top : ∀ T, T < 2 ^ N 0 0 → zfit N T → ∃ h, h < N 0 0 ∧ ztop h T := fun T hT ft => by
    obtain ⟨h, h6, t⟩ := zt_ne T (by omega) (ne T ft)
    refine ⟨h, ?_, t⟩
    by_cases l : h < N 0 0
    · exact l
    · have h1 := Nat.pow_le_pow_right (n := 2) (by decide) (show N 0 0 ≤ h by omega)
      have h2 : 2 ^ h ≤ T := Nat.ge_two_pow_of_testBit t.2
      omega
  have e6 : ∀ T, zfit N T → zfk N T = 64 * zls 6 N T + T := fun T ft => by unfold zfk; rw [zls_cl hq ft]
  obtain ⟨hp, hp1, tp⟩ := top (zplan N) (by omega) fp
  have b1 := i2 hp (zplan N) hp1 tp fp
  have bp := zfk_b hq (show zplan N < 64 by omega)
  rcases i3 with z | ⟨h, T, hh, t, ft, z⟩
  · rw [z] at b1
    exact absurd b1 (zmx (by omega))
  · have bT := zfk_b hq (zt_64 (by omega) t)
    rw [z, nI_leI (by omega) (by omega)] at b1
    have tl : T < 2 ^ N 0 0 := Nat.lt_of_lt_of_le t.1 (Nat.pow_le_pow_right (by decide) (by omega))
    have m := (zbt_min (2 ^ N 0 0) p6 T tl ft).2
    rw [← ep, ← e6 _ fp, ← e6 _ ft] at m
    rw [z, ← e6 _ fp]
    congr 1
    omega
