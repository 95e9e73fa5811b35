/-! a list of the class by itself, and back -/
theorem zz_patch {K : zz_G} {A : Nat → Prop} {ad ad' : Nat → Nat → Nat} {w w' : Nat → Nat → Option va_E} {H H1 : Heap} (S : Nat → Nat → Prop) (h : zz_W K A ad w H)
    (h1 : ∀ k i e, w' k i = some e → ¬ S k i → w k i = some e ∧ ad' k i = ad k i ∧ H1[ad k i]? = H[ad k i]?)
    (h2 : ∀ k i e, w' k i = some e → S k i → zz_at K (ad' k i) e H1 ∧ A (ad' k i))
    (h3 : ∀ k i e k' i' e', w' k i = some e → S k i → w' k' i' = some e' → ad' k i = ad' k' i' → k = k' ∧ i = i') : zz_W K A ad' w' H1 := by
  refine ⟨fun k i e he => ?_, fun k i e k' i' e' he he' ha => ?_⟩
  · by_cases q : S k i
    · exact h2 k i e he q
    · obtain ⟨a, b, c⟩ := h1 k i e he q
      rw [b]
      exact ⟨va_at.kept (h.1 k i e a).1 c, (h.1 k i e a).2⟩
  · by_cases q : S k i
    · exact h3 k i e k' i' e' he q he' ha
    · by_cases q' : S k' i'
      · obtain ⟨x, y⟩ := h3 k' i' e' k i e he' q' he ha.symm
        exact ⟨x.symm, y.symm⟩
      · obtain ⟨a, b, c⟩ := h1 k i e he q
        obtain ⟨a', b', c'⟩ := h1 k' i' e' he' q'
        rw [b, b'] at ha
        exact h.2 k i e k' i' e' a a' ha
/-- what a call on list t may write -/
def zxA (ad : Nat → Nat → Nat) (cap : Nat → Nat) (t : Nat) (H : Heap) : Nat → Prop := fun q => q = ad 1 t ∨ (cap t ≠ 0 ∧ q = ad 2 t) ∨ H.size ≤ q
def zadp (ad : Nat → Nat → Nat) (t b : Nat) : Nat → Nat → Nat := fun k i => if k = 2 ∧ i = t then b else ad k i
def zcp (cap : Nat → Nat) (t c : Nat) : Nat → Nat := fun i => if i = t then c else cap i
theorem zc_fl : Cond.castable "OpenFloors$Floor" "java/lang/Object" ∈ zz_ng := by decide +kernel
theorem zc_pe : Cond.castable "OpenFloors$Person" "java/lang/Object" ∈ zz_ng := by decide +kernel
section ZXT
variable {K : zz_G} {A : Nat → Prop} {s : State} {ad : Nat → Nat → Nat} {E : Nat → Nat → Int32} {cap : Nat → Nat} {N N' : Nat → Nat → Nat} {G : Nat → Nat → Int32} {L : Nat → Int64} {H H1 : Heap} {t : Nat}
theorem zxA_sub (h : zz_Z K A s ad (zx_c K ad E cap N G L) H) (ht : t < 3) : ∀ q, zxA ad cap t H q → A q := fun q z => by
  rcases z with rfl | ⟨c, rfl⟩ | z
  · exact (zx_li h.W ht).2
  · exact (zx_ar h.W ht c).2
  · exact h.A q z
theorem zx_el_ob (h : zz_W K A ad (zx_c K ad E cap N G L) H) (hbk : ∀ k, k < N 0 2 → N 9 k < N 0 1) (ht : t < 3) {i y : Nat} (hy : zx_el ad N t i = some y) : zz_ob K H y ∧ ∃ k j e, 3 ≤ k ∧ zx_c K ad E cap N G L k j = some e ∧ y = ad k j := by
  unfold zx_el at hy
  by_cases c : i < N 0 t
  · rw [if_pos c] at hy
    by_cases t0 : t = 0
    · subst t0
      rw [if_pos rfl] at hy; cases hy
      exact ⟨⟨3, _, _, (zx_fl h c).1, rfl, zc_fl⟩, 3, i, _, by omega, by simp only [zx_c]; rw [if_pos c], rfl⟩
    · rw [if_neg t0] at hy
      by_cases t1 : t = 1
      · subst t1
        rw [if_pos rfl] at hy; cases hy
        exact ⟨⟨4, _, _, (zx_pe h c).1, rfl, zc_pe⟩, 5, i, _, by omega, by simp only [zx_c]; rw [if_pos c], rfl⟩
      · rw [if_neg t1] at hy; cases hy
        obtain rfl : t = 2 := by omega
        have hb := hbk i c
        exact ⟨⟨4, _, _, (zx_pe h hb).1, rfl, zc_pe⟩, 5, N 9 i, _, by omega, by simp only [zx_c]; rw [if_pos hb], rfl⟩
  · rw [if_neg c] at hy; cases hy
theorem zx_notA (h : zz_W K A ad (zx_c K ad E cap N G L) H) (ht : t < 3) {k j : Nat} {e : va_E} (hk : k ≠ 1 ∨ j ≠ t) (hk2 : k ≠ 2 ∨ j ≠ t) (he : zx_c K ad E cap N G L k j = some e) : ¬ zxA ad cap t H (ad k j) := fun z => by
  rcases z with z | ⟨c, z⟩ | z
  · obtain ⟨x, y⟩ := h.2 k j e 1 t _ he (by simp only [zx_c]; rw [if_pos ht]) z
    omega
  · obtain ⟨x, y⟩ := h.2 k j e 2 t _ he (by simp only [zx_c]; rw [if_pos ⟨ht, c⟩]) z
    omega
  · have := va_at.lt (h.1 k j e he).1
    have h9 : ad k j < H.size := this
    omega
theorem zx_T (h : zz_Z K A s ad (zx_c K ad E cap N G L) H) (hk : zk K ad cap N) (hbk : ∀ k, k < N 0 2 → N 9 k < N 0 1) (ht : t < 3) : zt_W K (zxA ad cap t H) (ad 1 t) (ad 2 t) (E 0 t) (N 0 t) (cap t) (zx_el ad N t) H := by
  obtain ⟨k1, k2, k3⟩ := hk t ht
  refine ⟨⟨(zx_li h.W ht).1, Or.inl rfl⟩, fun c => ⟨(zx_ar h.W ht c).1, Or.inr (Or.inl ⟨c, rfl⟩), fun e => ?_⟩, k3, ⟨k1, k2⟩, fun i _ y hy => ?_⟩
  · have := h.W.2 1 t _ 2 t _ (by simp only [zx_c]; rw [if_pos ht]) (by simp only [zx_c]; rw [if_pos ⟨ht, c⟩]) e
    omega
  · obtain ⟨o, k, j, e, hk3, he, rfl⟩ := zx_el_ob h.W hbk ht hy
    exact ⟨o, zx_notA h.W ht (Or.inl (by omega)) (Or.inl (by omega)) he⟩
/-- a list has changed -/
theorem zx_relist {b9 n' cp9 : Nat} {mo' : Int32} {g' : Nat → Option Nat} (h : zz_Z K A s ad (zx_c K ad E cap N G L) H) (ht : t < 3) (hT : zt_W K (zxA ad cap t H) (ad 1 t) b9 mo' n' cp9 g' H1) (f : zz_fr (zxA ad cap t H) H H1) (hn : n' = N' 0 t) (hg : g' = zx_el ad N' t)
    (hw : ∀ k i, ¬ (k = 1 ∧ i = t) → ¬ (k = 2 ∧ i = t) → zx_c K (zadp ad t b9) (zg E 0 t mo') (zcp cap t cp9) N' G L k i = zx_c K ad E cap N G L k i) : zz_W K A (zadp ad t b9) (zx_c K (zadp ad t b9) (zg E 0 t mo') (zcp cap t cp9) N' G L) H1 := by
  have hsub := zxA_sub h ht
  have e1 : zadp ad t b9 1 t = ad 1 t := by unfold zadp; rw [if_neg (by omega)]
  have e2 : zadp ad t b9 2 t = b9 := by unfold zadp; rw [if_pos ⟨rfl, rfl⟩]
  have ec : zcp cap t cp9 t = cp9 := by unfold zcp; rw [if_pos rfl]
  have en : ∀ k i, ¬ (k = 2 ∧ i = t) → zadp ad t b9 k i = ad k i := fun k i z => by unfold zadp; rw [if_neg z]
  have el : zx_el (zadp ad t b9) N' t = zx_el ad N' t := by
    funext i; unfold zx_el; rw [en 3 i (by omega), en 5 i (by omega), en 5 (N' 9 i) (by omega)]
  have key : ∀ k i e, zx_c K (zadp ad t b9) (zg E 0 t mo') (zcp cap t cp9) N' G L k i = some e → ¬ ((k = 1 ∨ k = 2) ∧ i = t) → zx_c K ad E cap N G L k i = some e ∧ zadp ad t b9 k i = ad k i ∧ H1[ad k i]? = H[ad k i]? := fun k i e he z => by
    have h0 : zx_c K ad E cap N G L k i = some e := by rw [← hw k i (fun q => z ⟨Or.inl q.1, q.2⟩) (fun q => z ⟨Or.inr q.1, q.2⟩)]; exact he
    refine ⟨h0, en k i (fun q => z ⟨Or.inr q.1, q.2⟩), f.2 _ (va_at.lt (h.W.1 k i e h0).1) (zx_notA h.W ht ?_ ?_ h0)⟩
    · by_cases q : k = 1
      · exact Or.inr (fun y => z ⟨Or.inl q, y⟩)
      · exact Or.inl q
    · by_cases q : k = 2
      · exact Or.inr (fun y => z ⟨Or.inr q, y⟩)
      · exact Or.inl q
  refine zz_patch (fun k i => (k = 1 ∨ k = 2) ∧ i = t) h.W key (fun k i e he z => ?_) (fun k i e k' i' e' he z he' ha => ?_)
  · obtain ⟨rfl | rfl, rfl⟩ := z
    · rw [e1]
      simp only [zx_c] at he
      rw [if_pos ht] at he
      cases he
      rw [zg_s, e2, ← hn]
      exact ⟨hT.1.1, hsub _ hT.1.2⟩
    · rw [e2]
      simp only [zx_c] at he
      by_cases c : cp9 = 0
      · rw [if_neg (by rw [ec]; exact fun z => z.2 c)] at he; cases he
      · rw [if_pos ⟨ht, by rw [ec]; exact c⟩] at he
        cases he
        rw [ec, el, ← hg]
        exact ⟨(hT.2.1 c).1, hsub _ (hT.2.1 c).2.1⟩
  · have hc : ∀ e, zx_c K (zadp ad t b9) (zg E 0 t mo') (zcp cap t cp9) N' G L 2 t = some e → cp9 ≠ 0 := fun e he c => by
      simp only [zx_c] at he
      rw [if_neg (by rw [ec]; exact fun z => z.2 c)] at he; cases he
    by_cases q : (k' = 1 ∨ k' = 2) ∧ i' = t
    · obtain ⟨rfl | rfl, rfl⟩ := z
      · obtain ⟨rfl | rfl, q2⟩ := q
        · exact ⟨rfl, q2.symm⟩
        · subst q2
          rw [e1, e2] at ha
          exact absurd ha (hT.2.1 (hc _ he')).2.2
      · obtain ⟨rfl | rfl, q2⟩ := q
        · subst q2
          rw [e1, e2] at ha
          exact absurd ha.symm (hT.2.1 (hc _ he)).2.2
        · exact ⟨rfl, q2.symm⟩
    · obtain ⟨k0, k1, k2⟩ := key k' i' e' he' q
      have na : ¬ zxA ad cap t H (ad k' i') := zx_notA h.W ht (by
        by_cases x : k' = 1
        · exact Or.inr (fun y => q ⟨Or.inl x, y⟩)
        · exact Or.inl x) (by
        by_cases x : k' = 2
        · exact Or.inr (fun y => q ⟨Or.inr x, y⟩)
        · exact Or.inl x) k0
      rw [k1] at ha
      obtain ⟨rfl | rfl, rfl⟩ := z
      · rw [e1] at ha
        exact absurd (ha ▸ hT.1.2) na
      · rw [e2] at ha
        exact absurd (ha ▸ (hT.2.1 (hc _ he)).2.1) na
end ZXT
