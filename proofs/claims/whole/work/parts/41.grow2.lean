/-! by program (gen.py): contracts of methods -/
/-! a floor, a person more -/
theorem zz_Z.grow {K : zz_G} {A : Nat → Prop} {s : State} {ad : Nat → Nat → Nat} {w : Nat → Nat → Option va_E} {H H1 : Heap} (h : zz_Z K A s ad w H) (hz : H.size ≤ H1.size) (ho : ∀ q : Nat, q < H.size → H1[q]? = H[q]?) : zz_Z K A s ad w H1 :=
  h.mut ⟨hz, fun q h1 _ => ho q h1⟩ ⟨fun k i e he => ⟨va_at.kept (h.W.1 k i e he).1 (ho _ (va_at.lt (h.W.1 k i e he).1)), (h.W.1 k i e he).2⟩, h.W.2⟩
theorem zz_Z.beside {K : zz_G} {A : Nat → Prop} {s : State} {ad : Nat → Nat → Nat} {w : Nat → Nat → Option va_E} {H H1 : Heap} {r : Nat} (h : zz_Z K A s ad w H) (hr : A r) (hw : ∀ k i e, w k i = some e → ad k i < r) (f : zz_fr (fun q => q = r ∨ H.size ≤ q) H H1) : zz_Z K A s ad w H1 :=
  h.mut (f.mono fun q z => z.elim (fun e => e ▸ hr) (h.A q)) ⟨fun k i e he => ⟨va_at.kept (h.W.1 k i e he).1 (f.2 _ (va_at.lt (h.W.1 k i e he).1) (fun z => by
    have h1 := hw k i e he
    have h2 : ad k i < H.size := va_at.lt (h.W.1 k i e he).1
    rcases z with z | z <;> omega)), (h.W.1 k i e he).2⟩, h.W.2⟩
theorem zz_W.under {K : zz_G} {A : Nat → Prop} {ad : Nat → Nat → Nat} {w : Nat → Nat → Option va_E} {H : Heap} (h : zz_W K A ad w H) {r : Nat} (hr : H.size ≤ r) : ∀ k i e, w k i = some e → ad k i < r := fun k i e he => Nat.lt_of_lt_of_le (va_at.lt (h.1 k i e he).1) hr
section ZXN
variable {K : zz_G} {A : Nat → Prop} {s : State} {ad ad' : Nat → Nat → Nat} {E : Nat → Nat → Int32} {cap : Nat → Nat} {N N' : Nat → Nat → Nat} {G : Nat → Nat → Int32} {L : Nat → Int64} {H H1 : Heap} {t r : Nat} {w' : Nat → Nat → Option va_E}
theorem zx_fresh (hw : ∀ k i e, zx_c K ad E cap N G L k i = some e → ad k i < r) (ht : t < 3) (hr : r < H.size) : ¬ zxA ad cap t H r := fun z => by
  rcases z with z | ⟨c, z⟩ | z
  · have := hw 1 t _ (by simp only [zx_c]; rw [if_pos ht])
    omega
  · have := hw 2 t _ (by simp only [zx_c]; rw [if_pos ⟨ht, c⟩])
    omega
  · omega
/-- a list has changed, and new cells (P) stand beside -/
theorem zx_regrow (P : Nat → Nat → Prop) {b9 n' cp9 : Nat} {mo' : Int32} {g' : Nat → Option Nat} (h : zz_Z K A s ad (zx_c K ad E cap N G L) H) (hw : ∀ k i e, zx_c K ad E cap N G L k i = some e → ad k i < r) (ht : t < 3) (hT : zt_W K (zxA ad cap t H) (ad 1 t) b9 mo' n' cp9 g' H1) (f : zz_fr (zxA ad cap t H) H H1)
    (hP : ∀ k i e, P k i → w' k i = some e → zz_at K (ad' k i) e H ∧ A (ad' k i) ∧ r ≤ ad' k i) (hPd : ∀ k i k' i', P k i → P k' i' → ad' k i = ad' k' i' → k = k' ∧ i = i') (e1 : ad' 1 t = ad 1 t) (e2 : ad' 2 t = b9)
    (w1 : w' 1 t = some (.inr (2, [.int mo', .ref b9, .int (nI n')]))) (w2 : w' 2 t = if cp9 = 0 then none else some (.inl (K.2.1 2, cp9, .inr (.inr (.inr (.inr g')))))) (hn1 : ¬ P 1 t) (hn2 : ¬ P 2 t)
    (key : ∀ k i e, w' k i = some e → ¬ P k i → ¬ (k = 1 ∧ i = t) → ¬ (k = 2 ∧ i = t) → zx_c K ad E cap N G L k i = some e ∧ ad' k i = ad k i) : zz_W K A ad' w' H1 := by
  have hsub := zxA_sub h ht
  have hb1 : ad 1 t < r := hw 1 t _ (by simp only [zx_c]; rw [if_pos ht])
  have hb2 : ∀ q, zxA ad cap t H q → q < r ∨ H.size ≤ q := fun q z => by
    rcases z with z | ⟨c, z⟩ | z
    · subst z; exact Or.inl hb1
    · subst z; exact Or.inl (hw 2 t _ (by simp only [zx_c]; rw [if_pos ⟨ht, c⟩]))
    · exact Or.inr z
  -- the four kinds of cells
  have cls : ∀ k i e, w' k i = some e → (zz_at K (ad' k i) e H1 ∧ A (ad' k i)) ∧ ((P k i ∧ r ≤ ad' k i ∧ ad' k i < H.size) ∨ ((k = 1 ∧ i = t) ∧ ad' k i = ad 1 t) ∨ ((k = 2 ∧ i = t) ∧ ad' k i = b9 ∧ cp9 ≠ 0) ∨ (ad' k i = ad k i ∧ zx_c K ad E cap N G L k i = some e ∧ ¬ zxA ad cap t H (ad k i))) := fun k i e he => by
    by_cases p : P k i
    · obtain ⟨a, b, c⟩ := hP k i e p he
      have hl : ad' k i < H.size := va_at.lt a
      have hx : ¬ zxA ad cap t H (ad' k i) := fun z => by
        rcases hb2 _ z with z | z <;> omega
      exact ⟨⟨zz_at.fr a f hx, b⟩, Or.inl ⟨p, c, hl⟩⟩
    · by_cases q1 : k = 1 ∧ i = t
      · obtain ⟨rfl, rfl⟩ := q1
        rw [w1] at he
        cases he
        rw [e1]
        exact ⟨⟨hT.1.1, hsub _ hT.1.2⟩, Or.inr (Or.inl ⟨⟨rfl, rfl⟩, rfl⟩)⟩
      · by_cases q2 : k = 2 ∧ i = t
        · obtain ⟨rfl, rfl⟩ := q2
          rw [w2] at he
          by_cases c : cp9 = 0
          · rw [if_pos c] at he; cases he
          · rw [if_neg c] at he
            cases he
            rw [e2]
            exact ⟨⟨(hT.2.1 c).1, hsub _ (hT.2.1 c).2.1⟩, Or.inr (Or.inr (Or.inl ⟨⟨rfl, rfl⟩, rfl, c⟩))⟩
        · obtain ⟨a, b⟩ := key k i e he p q1 q2
          have hx : ¬ zxA ad cap t H (ad k i) := zx_notA h.W ht (by
            by_cases x : k = 1
            · exact Or.inr (fun y => q1 ⟨x, y⟩)
            · exact Or.inl x) (by
            by_cases x : k = 2
            · exact Or.inr (fun y => q2 ⟨x, y⟩)
            · exact Or.inl x) a
          rw [b]
          exact ⟨⟨zz_at.fr (h.W.1 k i e a).1 f hx, (h.W.1 k i e a).2⟩, Or.inr (Or.inr (Or.inr ⟨rfl, a, hx⟩))⟩
  refine ⟨fun k i e he => (cls k i e he).1, fun k i e k' i' e' he he' ha => ?_⟩
  have c0 := (cls k i e he).2
  have c1 := (cls k' i' e' he').2
  rcases c0 with ⟨p, x1, x2⟩ | ⟨⟨rfl, rfl⟩, x⟩ | ⟨⟨rfl, rfl⟩, x, xc⟩ | ⟨x, x2, x3⟩
  · rcases c1 with ⟨p', y1, y2⟩ | ⟨⟨rfl, rfl⟩, y⟩ | ⟨⟨rfl, rfl⟩, y, yc⟩ | ⟨y, y2, y3⟩
    · exact hPd k i k' i' p p' ha
    · omega
    · rcases hb2 _ (hT.2.1 yc).2.1 with z | z <;> omega
    · have := hw k' i' e' y2
      omega
  · rcases c1 with ⟨p', y1, y2⟩ | ⟨⟨rfl, y0⟩, y⟩ | ⟨⟨rfl, y0⟩, y, yc⟩ | ⟨y, y2, y3⟩
    · omega
    · exact ⟨rfl, y0.symm⟩
    · rw [x, y] at ha
      exact absurd ha (hT.2.1 yc).2.2
    · rw [x, y] at ha
      exact absurd (ha ▸ hT.1.2) y3
  · rcases c1 with ⟨p', y1, y2⟩ | ⟨⟨rfl, y0⟩, y⟩ | ⟨⟨rfl, y0⟩, y, yc⟩ | ⟨y, y2, y3⟩
    · rcases hb2 _ (hT.2.1 xc).2.1 with z | z <;> omega
    · rw [x, y] at ha
      exact absurd ha.symm (hT.2.1 xc).2.2
    · exact ⟨rfl, y0.symm⟩
    · rw [x, y] at ha
      exact absurd (ha ▸ (hT.2.1 xc).2.1) y3
  · rcases c1 with ⟨p', y1, y2⟩ | ⟨⟨rfl, rfl⟩, y⟩ | ⟨⟨rfl, rfl⟩, y, yc⟩ | ⟨y, y2, y3⟩
    · have := hw k i e x2
      omega
    · rw [x, y] at ha
      exact absurd (ha.symm ▸ hT.1.2) x3
    · rw [x, y] at ha
      exact absurd (ha.symm ▸ (hT.2.1 yc).2.1) x3
    · rw [x, y] at ha
      exact h.W.2 k i e k' i' e' x2 y2 ha
def zadf (ad : Nat → Nat → Nat) (n b r k : Nat) : Nat → Nat → Nat := fun x i => if x = 3 ∧ i = n then r else if x = 4 ∧ i = n then k else zadp ad 0 b x i
def zadg (ad : Nat → Nat → Nat) (n b r : Nat) : Nat → Nat → Nat := fun x i => if x = 5 ∧ i = n then r else zadp ad 1 b x i
def zEf (E : Nat → Nat → Int32) (n : Nat) (mo : Int32) : Nat → Nat → Int32 := fun x i => if x = 1 + n then nI 0 else zg E 0 0 mo x i
theorem zadf_n {n b k x i : Nat} (h3 : ¬ (x = 3 ∧ i = n)) (h4 : ¬ (x = 4 ∧ i = n)) (h2 : ¬ (x = 2 ∧ i = 0)) : zadf ad n b r k x i = ad x i := by unfold zadf zadp; rw [if_neg h3, if_neg h4, if_neg h2]
theorem zadg_n {n b x i : Nat} (h5 : ¬ (x = 5 ∧ i = n)) (h2 : ¬ (x = 2 ∧ i = 1)) : zadg ad n b r x i = ad x i := by unfold zadg zadp; rw [if_neg h5, if_neg h2]
theorem zz_roc {f g : Nat → Nat} {x : Nat} (h : ∀ j, j < x → f j = g j) : zz_ro f x = zz_ro g x := by
  cases x with
  | zero => rfl
  | succ j => simp only [zz_ro]; rw [h j (by omega)]
theorem zz_rfc {f g : Nat → Nat} {x : Nat} (h : ∀ j, j < x → f j = g j) : zz_rf f x = zz_rf g x := congrArg va_rf (zz_roc h)
theorem zx_newfl {n k b9 cp9 a b : Nat} {mo' : Int32} (hI : zq N) (hn : N 0 0 = n) (hN3 : N 3 n = 0) (h : zz_Z K A s ad (zx_c K ad E cap N G L) H) (hw : ∀ k i e, zx_c K ad E cap N G L k i = some e → ad k i < r) (hrk : r < k) (hAr : A r) (hAk : A k)
    (hr : zz_at K r (.inr (3, [.int (nI n), .int (nI a), .int (nI b), .int (nI 0), .int (nI 180), .int (nI 400), .ref k])) H) (hks : zz_at K k (.inl (K.2.1 0, 13, .inl (fun _ => nI 0))) H)
    (hT : zt_W K (zxA ad cap 0 H) (ad 1 0) b9 mo' (n + 1) cp9 (va_up (zx_el ad N 0) n (some r)) H1) (f : zz_fr (zxA ad cap 0 H) H H1) :
    zz_W K A (zadf ad n b9 r k) (zx_c K (zadf ad n b9 r k) (zEf E n mo') (zcp cap 0 cp9) (zu (zu (zu N 1 n a) 2 n b) 0 0 (n + 1)) (zg (zg G 0 n (nI 180)) 1 n (nI 400)) L) H1 := by
  have N00 : (zu (zu (zu N 1 n a) 2 n b) 0 0 (n + 1)) 0 0 = n + 1 := zu_s ..
  have N0 : ∀ i, i ≠ 0 → (zu (zu (zu N 1 n a) 2 n b) 0 0 (n + 1)) 0 i = N 0 i := fun i hi => by rw [zu_i hi, zu_k (by decide), zu_k (by decide)]
  have Nk : ∀ k i, k ≠ 0 → k ≠ 1 → k ≠ 2 → (zu (zu (zu N 1 n a) 2 n b) 0 0 (n + 1)) k i = N k i := fun k i h0 h1 h2 => by rw [zu_k h0, zu_k h2, zu_k h1]
  have N1 : (zu (zu (zu N 1 n a) 2 n b) 0 0 (n + 1)) 1 n = a := by rw [zu_k (by decide), zu_k (by decide), zu_s]
  have N2 : (zu (zu (zu N 1 n a) 2 n b) 0 0 (n + 1)) 2 n = b := by rw [zu_k (by decide), zu_s]
  have N1' : ∀ i, i ≠ n → (zu (zu (zu N 1 n a) 2 n b) 0 0 (n + 1)) 1 i = N 1 i := fun i hi => by rw [zu_k (by decide), zu_k (by decide), zu_i hi]
  have N2' : ∀ i, i ≠ n → (zu (zu (zu N 1 n a) 2 n b) 0 0 (n + 1)) 2 i = N 2 i := fun i hi => by rw [zu_k (by decide), zu_i hi, zu_k (by decide)]
  generalize hN' : zu (zu (zu N 1 n a) 2 n b) 0 0 (n + 1) = N' at N00 N0 Nk N1 N2 N1' N2' ⊢
  have a3 : zadf ad n b9 r k 3 n = r := by unfold zadf; rw [if_pos ⟨rfl, rfl⟩]
  have a4 : zadf ad n b9 r k 4 n = k := by unfold zadf; rw [if_neg (by omega), if_pos ⟨rfl, rfl⟩]
  have a2 : zadf ad n b9 r k 2 0 = b9 := by unfold zadf zadp; rw [if_neg (by omega), if_neg (by omega), if_pos ⟨rfl, rfl⟩]
  have ao : ∀ x i, ¬ (x = 3 ∧ i = n) → ¬ (x = 4 ∧ i = n) → ¬ (x = 2 ∧ i = 0) → zadf ad n b9 r k x i = ad x i := fun x i h3 h4 h2 => zadf_n h3 h4 h2
  generalize hAd : zadf ad n b9 r k = ad' at a3 a4 a2 ao ⊢
  have el0 : zx_el ad' N' 0 = va_up (zx_el ad N 0) n (some r) := by
    funext j
    unfold va_up zx_el
    rw [N00, if_pos rfl, if_pos rfl, hn]
    by_cases c : j = n
    · subst c; rw [if_pos rfl, if_pos (by omega), a3]
    · rw [if_neg c]
      by_cases d : j < n
      · rw [if_pos d, if_pos (by omega), ao 3 j (fun z => c z.2) (by omega) (by omega)]
      · rw [if_neg d, if_neg (by omega)]
  have elt : ∀ i, i < 3 → i ≠ 0 → zx_el ad' N' i = zx_el ad N i := fun i h3 h0 => by
    funext j
    unfold zx_el
    rw [N0 i h0, if_neg h0, if_neg h0, Nk 9 j (by decide) (by decide) (by decide), ao 5 j (by omega) (by omega) (by omega), ao 5 (N 9 j) (by omega) (by omega) (by omega)]
  refine zx_regrow (fun k i => (k = 3 ∨ k = 4) ∧ i = n) h hw (by decide) hT f ?_ ?_ (ao 1 0 (by omega) (by omega) (by omega)) a2 ?_ ?_ (by omega) (by omega) ?_
  · intro k' i e p he
    obtain ⟨rfl | rfl, rfl⟩ := p
    · simp only [zx_c] at he
      rw [N00, if_pos (by omega), N1, N2, Nk 3 i (by decide) (by decide) (by decide), hN3, zg_n (by omega), zg_s, zg_s, a4] at he
      cases he
      rw [a3]
      exact ⟨hr, hAr, Nat.le_refl _⟩
    · simp only [zx_c] at he
      rw [N00, if_pos (by omega), show zEf E i mo' (1 + i) = fun _ => nI 0 from by funext j; unfold zEf; rw [if_pos rfl]] at he
      cases he
      rw [a4]
      exact ⟨hks, hAk, by omega⟩
  · intro k1 i1 k2 i2 p1 p2 he
    obtain ⟨rfl | rfl, rfl⟩ := p1 <;> obtain ⟨rfl | rfl, rfl⟩ := p2
    · exact ⟨rfl, rfl⟩
    · rw [a3, a4] at he; omega
    · rw [a3, a4] at he; omega
    · exact ⟨rfl, rfl⟩
  · simp only [zx_c]
    rw [if_pos (by decide), a2, N00]
    unfold zEf
    rw [if_neg (by omega), zg_s]
  · simp only [zx_c]
    have ec : zcp cap 0 cp9 0 = cp9 := by unfold zcp; rw [if_pos rfl]
    rw [ec, el0]
    by_cases c : cp9 = 0
    · rw [if_pos c, if_neg (fun z => z.2 c)]
    · rw [if_neg c, if_pos ⟨by decide, c⟩]
  · intro k' i e he p q1 q2
    match k' with
    | 0 =>
      refine ⟨?_, ao 0 i (by omega) (by omega) (by omega)⟩
      simp only [zx_c] at he ⊢
      rw [ao 1 0 (by omega) (by omega) (by omega), ao 1 1 (by omega) (by omega) (by omega), ao 1 2 (by omega) (by omega) (by omega), Nk 12 0 (by decide) (by decide) (by decide), Nk 12 1 (by decide) (by decide) (by decide)] at he
      exact he
    | 1 =>
      have hi : i ≠ 0 := fun z => q1 ⟨rfl, z⟩
      refine ⟨?_, ao 1 i (by omega) (by omega) (by omega)⟩
      simp only [zx_c] at he ⊢
      rw [ao 2 i (by omega) (by omega) (by omega), N0 i hi, show zEf E n mo' 0 i = E 0 i from by unfold zEf; rw [if_neg (by omega), zg_n (by omega)]] at he
      exact he
    | 2 =>
      have hi : i ≠ 0 := fun z => q2 ⟨rfl, z⟩
      refine ⟨?_, ao 2 i (by omega) (by omega) (by omega)⟩
      have ec : zcp cap 0 cp9 i = cap i := by unfold zcp; rw [if_neg hi]
      simp only [zx_c, ec] at he ⊢
      by_cases c : i < 3 ∧ cap i ≠ 0
      · rw [if_pos c, elt i c.1 hi] at he; rw [if_pos c]; exact he
      · rw [if_neg c] at he; cases he
    | 3 =>
      have hi : i ≠ n := fun z => p ⟨Or.inl rfl, z⟩
      refine ⟨?_, ao 3 i (by omega) (by omega) (by omega)⟩
      simp only [zx_c] at he ⊢
      rw [N00] at he
      by_cases c : i < N 0 0
      · rw [if_pos (by omega), N1' i hi, N2' i hi, Nk 3 i (by decide) (by decide) (by decide), ao 4 i (by omega) (by omega) (by omega), zg_n (by omega), zg_n (by omega), zg_n (by omega), zg_n (by omega)] at he
        rw [if_pos c]; exact he
      · rw [if_neg (by omega)] at he; cases he
    | 4 =>
      have hi : i ≠ n := fun z => p ⟨Or.inr rfl, z⟩
      refine ⟨?_, ao 4 i (by omega) (by omega) (by omega)⟩
      simp only [zx_c] at he ⊢
      rw [N00] at he
      by_cases c : i < N 0 0
      · rw [if_pos (by omega), show zEf E n mo' (1 + i) = E (1 + i) from by funext j; unfold zEf; rw [if_neg (by omega), zg_n (by omega)]] at he
        rw [if_pos c]; exact he
      · rw [if_neg (by omega)] at he; cases he
    | 5 =>
      refine ⟨?_, ao 5 i (by omega) (by omega) (by omega)⟩
      simp only [zx_c] at he ⊢
      rw [N0 1 (by decide)] at he
      by_cases c : i < N 0 1
      · have r11 := hI.wt i c
        have r6 := hI.st i c
        rw [if_pos c, Nk 4 i (by decide) (by decide) (by decide), Nk 5 i (by decide) (by decide) (by decide), Nk 6 i (by decide) (by decide) (by decide), Nk 7 i (by decide) (by decide) (by decide), Nk 8 i (by decide) (by decide) (by decide), Nk 11 i (by decide) (by decide) (by decide),
          zz_rfc (f := ad' 3) (g := ad 3) (x := N 11 i) (fun j hj => ao 3 j (by omega) (by omega) (by omega)), zz_rfc (f := ad' 3) (g := ad 3) (x := N 6 i) (fun j hj => ao 3 j (by omega) (by omega) (by omega))] at he
        rw [if_pos c]; exact he
      · rw [if_neg c] at he; cases he
    | k' + 6 => simp only [zx_c] at he; cases he
theorem zx_newpe {n b9 cp9 a : Nat} {mo' : Int32} (hI : zq N) (hn : N 0 1 = n) (hN7 : N 7 n = 0 ∧ N 8 n = 0 ∧ N 11 n = 0) (h : zz_Z K A s ad (zx_c K ad E cap N G L) H) (hw : ∀ k i e, zx_c K ad E cap N G L k i = some e → ad k i < r) (hAr : A r)
    (hr : zz_at K r (.inr (4, [.int (nI n), .int (nI a), .int (nI 5), .null, .null, .int (nI 0), .int (nI 0)])) H)
    (hT : zt_W K (zxA ad cap 1 H) (ad 1 1) b9 mo' (n + 1) cp9 (va_up (zx_el ad N 1) n (some r)) H1) (f : zz_fr (zxA ad cap 1 H) H H1) :
    zz_W K A (zadg ad n b9 r) (zx_c K (zadg ad n b9 r) (zg E 0 1 mo') (zcp cap 1 cp9) (zu (zu (zu (zu N 4 n a) 5 n 5) 6 n 0) 0 1 (n + 1)) G L) H1 := by
  have N01 : (zu (zu (zu (zu N 4 n a) 5 n 5) 6 n 0) 0 1 (n + 1)) 0 1 = n + 1 := zu_s ..
  have N0 : ∀ i, i ≠ 1 → (zu (zu (zu (zu N 4 n a) 5 n 5) 6 n 0) 0 1 (n + 1)) 0 i = N 0 i := fun i hi => by rw [zu_i hi, zu_k (by decide), zu_k (by decide), zu_k (by decide)]
  have Nk : ∀ k i, k ≠ 0 → ¬ (k = 4 ∧ i = n) → ¬ (k = 5 ∧ i = n) → ¬ (k = 6 ∧ i = n) → (zu (zu (zu (zu N 4 n a) 5 n 5) 6 n 0) 0 1 (n + 1)) k i = N k i := fun k i h0 h4 h5 h6 => by rw [zu_k h0, zu_n h6, zu_n h5, zu_n h4]
  have N4 : (zu (zu (zu (zu N 4 n a) 5 n 5) 6 n 0) 0 1 (n + 1)) 4 n = a := by rw [zu_k (by decide), zu_k (by decide), zu_k (by decide), zu_s]
  have N5 : (zu (zu (zu (zu N 4 n a) 5 n 5) 6 n 0) 0 1 (n + 1)) 5 n = 5 := by rw [zu_k (by decide), zu_k (by decide), zu_s]
  have N6 : (zu (zu (zu (zu N 4 n a) 5 n 5) 6 n 0) 0 1 (n + 1)) 6 n = 0 := by rw [zu_k (by decide), zu_s]
  generalize hN' : zu (zu (zu (zu N 4 n a) 5 n 5) 6 n 0) 0 1 (n + 1) = N' at N01 N0 Nk N4 N5 N6 ⊢
  have a5 : zadg ad n b9 r 5 n = r := by unfold zadg; rw [if_pos ⟨rfl, rfl⟩]
  have a2 : zadg ad n b9 r 2 1 = b9 := by unfold zadg zadp; rw [if_neg (by omega), if_pos ⟨rfl, rfl⟩]
  have ao : ∀ x i, ¬ (x = 5 ∧ i = n) → ¬ (x = 2 ∧ i = 1) → zadg ad n b9 r x i = ad x i := fun x i h3 h2 => zadg_n h3 h2
  generalize hAd : zadg ad n b9 r = ad' at a5 a2 ao ⊢
  have a3 : ad' 3 = ad 3 := funext fun j => ao 3 j (by omega) (by omega)
  have el1 : zx_el ad' N' 1 = va_up (zx_el ad N 1) n (some r) := by
    funext j
    unfold va_up zx_el
    simp only [N01, hn, show ¬ ((1 : Nat) = 0) by decide, if_false, if_true]
    by_cases c : j = n
    · subst c; rw [if_pos rfl, if_pos (by omega), a5]
    · rw [if_neg c]
      by_cases d : j < n
      · rw [if_pos d, if_pos (by omega), ao 5 j (fun z => c z.2) (by omega)]
      · rw [if_neg d, if_neg (by omega)]
  have elt : ∀ i, i < 3 → i ≠ 1 → zx_el ad' N' i = zx_el ad N i := fun i h3 h1 => by
    funext j
    unfold zx_el
    rw [N0 i h1, a3, if_neg h1, if_neg h1]
    by_cases c : j < N 0 i
    · rw [if_pos c, if_pos c]
      by_cases c0 : i = 0
      · rw [if_pos c0, if_pos c0]
      · rw [if_neg c0, if_neg c0, Nk 9 j (by omega) (by omega) (by omega) (by omega)]
        have i2 : i = 2 := by omega
        subst i2
        have hb := hI.bk j c
        rw [ao 5 (N 9 j) (by omega) (by omega)]
    · rw [if_neg c, if_neg c]
  refine zx_regrow (fun k i => k = 5 ∧ i = n) h hw (by decide) hT f ?_ ?_ (ao 1 1 (by omega) (by omega)) a2 ?_ ?_ (by omega) (by omega) ?_
  · intro k' i e p he
    obtain ⟨rfl, rfl⟩ := p
    simp only [zx_c] at he
    rw [N01, if_pos (by omega), N4, N5, N6, Nk 7 i (by omega) (by omega) (by omega) (by omega), Nk 8 i (by omega) (by omega) (by omega) (by omega), Nk 11 i (by omega) (by omega) (by omega) (by omega), hN7.1, hN7.2.1, hN7.2.2] at he
    cases he
    rw [a5]
    exact ⟨hr, hAr, Nat.le_refl _⟩
  · intro k1 i1 k2 i2 p1 p2 he
    obtain ⟨rfl, rfl⟩ := p1
    obtain ⟨rfl, rfl⟩ := p2
    exact ⟨rfl, rfl⟩
  · simp only [zx_c]
    rw [if_pos (by decide), a2, N01, zg_s]
  · simp only [zx_c]
    have ec : zcp cap 1 cp9 1 = cp9 := by unfold zcp; rw [if_pos rfl]
    rw [ec, el1]
    by_cases c : cp9 = 0
    · rw [if_pos c, if_neg (fun z => z.2 c)]
    · rw [if_neg c, if_pos ⟨by decide, c⟩]
  · intro k' i e he p q1 q2
    match k' with
    | 0 =>
      refine ⟨?_, ao 0 i (by omega) (by omega)⟩
      simp only [zx_c] at he ⊢
      rw [ao 1 0 (by omega) (by omega), ao 1 1 (by omega) (by omega), ao 1 2 (by omega) (by omega), Nk 12 0 (by decide) (by omega) (by omega) (by omega), Nk 12 1 (by decide) (by omega) (by omega) (by omega)] at he
      exact he
    | 1 =>
      have hi : i ≠ 1 := fun z => q1 ⟨rfl, z⟩
      refine ⟨?_, ao 1 i (by omega) (by omega)⟩
      simp only [zx_c] at he ⊢
      rw [ao 2 i (by omega) (by omega), N0 i hi, zg_n (by omega)] at he
      exact he
    | 2 =>
      have hi : i ≠ 1 := fun z => q2 ⟨rfl, z⟩
      refine ⟨?_, ao 2 i (by omega) (by omega)⟩
      have ec : zcp cap 1 cp9 i = cap i := by unfold zcp; rw [if_neg hi]
      simp only [zx_c, ec] at he ⊢
      by_cases c : i < 3 ∧ cap i ≠ 0
      · rw [if_pos c, elt i c.1 hi] at he; rw [if_pos c]; exact he
      · rw [if_neg c] at he; cases he
    | 3 =>
      refine ⟨?_, ao 3 i (by omega) (by omega)⟩
      simp only [zx_c] at he ⊢
      rw [N0 0 (by decide)] at he
      by_cases c : i < N 0 0
      · rw [if_pos c, Nk 1 i (by omega) (by omega) (by omega) (by omega), Nk 2 i (by omega) (by omega) (by omega) (by omega), Nk 3 i (by omega) (by omega) (by omega) (by omega), ao 4 i (by omega) (by omega)] at he
        rw [if_pos c]; exact he
      · rw [if_neg c] at he; cases he
    | 4 =>
      refine ⟨?_, ao 4 i (by omega) (by omega)⟩
      simp only [zx_c] at he ⊢
      rw [N0 0 (by decide)] at he
      by_cases c : i < N 0 0
      · rw [if_pos c, show zg E 0 1 mo' (1 + i) = E (1 + i) from by funext j; rw [zg_n (by omega)]] at he
        rw [if_pos c]; exact he
      · rw [if_neg c] at he; cases he
    | 5 =>
      have hi : i ≠ n := fun z => p ⟨rfl, z⟩
      refine ⟨?_, ao 5 i (by omega) (by omega)⟩
      simp only [zx_c] at he ⊢
      rw [N01] at he
      by_cases c : i < N 0 1
      · rw [if_pos (by omega), Nk 4 i (by omega) (by omega) (by omega) (by omega), Nk 5 i (by omega) (by omega) (by omega) (by omega), Nk 6 i (by omega) (by omega) (by omega) (by omega), Nk 7 i (by omega) (by omega) (by omega) (by omega), Nk 8 i (by omega) (by omega) (by omega) (by omega), Nk 11 i (by omega) (by omega) (by omega) (by omega), a3] at he
        rw [if_pos c]; exact he
      · rw [if_neg (by omega)] at he; cases he
    | k' + 6 => simp only [zx_c] at he; cases he
theorem zk_new {n b9 cp9 : Nat} (hk : zk K ad cap N) (ht : t < 3) (h1 : n ≤ cp9) (h2 : cp9 ≤ 40) (h3 : cp9 = 0 → b9 = K.2.2 0) (hn : N' 0 t = n) (hN : ∀ j, j < 3 → j ≠ t → N' 0 j = N 0 j) (e2 : ad' 2 t = b9) (eo : ∀ j, j < 3 → j ≠ t → ad' 2 j = ad 2 j) : zk K ad' (zcp cap t cp9) N' := fun j hj => by
  obtain ⟨a, b, c⟩ := hk j hj
  by_cases q : j = t
  · subst q
    have e1 : zcp cap j cp9 j = cp9 := by unfold zcp; rw [if_pos rfl]
    rw [e1, e2, hn]; exact ⟨h1, h2, h3⟩
  · have e1 : zcp cap t cp9 j = cap j := by unfold zcp; rw [if_neg q]
    rw [e1, eo j hj q, hN j hj q]; exact ⟨a, b, c⟩
end ZXN
theorem zx_el_none {ad : Nat → Nat → Nat} {N : zN} {t : Nat} : ∀ i, N 0 t ≤ i → zx_el ad N t i = none := fun i hi => by unfold zx_el; rw [if_neg (by omega)]
theorem zd_X0_init : yX0_init.cls ≠ "java/lang/invoke/MethodHandle" ∧ yX0_init.cls ≠ "java/lang/invoke/VarHandle" ∧ (parseMethodDescriptor yX0_init.desc).map (fun d => d.parameters.length) = some 3 := by decide +kernel
theorem zd_X1_init : yX1_init.cls ≠ "java/lang/invoke/MethodHandle" ∧ yX1_init.cls ≠ "java/lang/invoke/VarHandle" ∧ (parseMethodDescriptor yX1_init.desc).map (fun d => d.parameters.length) = some 2 := by decide +kernel
set_option maxHeartbeats 4000000 in
set_option maxRecDepth 100000 in
theorem c_X2_addFloor (l : Launch) (hfl : l.stackTraces = false) {K : zz_G} {A : Nat → Prop} {ad : Nat → Nat → Nat} {E : Nat → Nat → Int32} {cap : Nat → Nat} {N : Nat → Nat → Nat} {G : Nat → Nat → Int32} {L : Nat → Int64} (hzi : zi N) (hI : zq N) (hk : zk K ad cap N) (x y : Int32) : zz_C l yX2_addFloor cX2_addFloor 4 (Option.some FieldType.int) ({ frames := 7, cells := 4, slots := 66, locals := 171 } : Room) K A [.ref (ad 0 0), .int x, .int y] (fun H => zz_W K A ad (zx_c K ad E cap N G L) H) (fun v9 _ H9 => (zs_addFloor N G x y).1 = 0 ∧ v9 = some (.int (zs_addFloor N G x y).2.1) ∧ ∃ ad9 E9 cap9, ad9 0 0 = ad 0 0 ∧ zk K ad9 cap9 (zs_addFloor N G x y).2.2.1 ∧ zz_W K A ad9 (zx_c K ad9 E9 cap9 (zs_addFloor N G x y).2.2.1 (zs_addFloor N G x y).2.2.2 L) H9) (fun E9 _ _ => (E9 = "java/lang/IllegalArgumentException" ∧ (zs_addFloor N G x y).1 = 1) ∨ (E9 = "java/lang/IllegalStateException" ∧ (zs_addFloor N G x y).1 = 2)) A := by
  refine zz_body (by decide +kernel) (Nat.le_of_ble_eq_true rfl) ?_
  intro p e s m below meth c ls hx hb hr hml hts hown hlocks hmn htab hE hA hP hl
  have hN := hE.N
  have hK := hE.K
  have hown : s.vm.findClass RX2 = some m.cls := hown
  have hl : lv_has ls 4 [(0, .ref (ad 0 0)), (1, .int x), (2, .int y)] := hl
  have hZ : zz_Z K A s ad (zx_c K ad E cap N G L) s.heap := ⟨hE, hA, hP⟩
  have hS : va_S zz_no s.heap s.heap [] := va_S.rf
  obtain ⟨H, hH⟩ : ∃ z, z = s.heap := ⟨_, rfl⟩
  have hS0 : va_S zz_no s.heap H [] := by rw [hH]; exact hS
  rw [← hH] at hZ
  have hE0 := hE
  clear hS
  have hS := hS0
  have hB := hI.B
  have hbk := hI.bk
  have h00 := hI.f
  have h01 := hI.p
  have h02 := hI.b
  have hk0 := hk 0 (by decide)
  have hk1 := hk 1 (by decide)
  have hk2 := hk 2 (by decide)
  have h0012 : N 0 0 ≤ 12 := by have := hI.f; omega
  show W p l e _ s m _ below meth c s.heap [] 0 0 _ (F0 m 0 ls [])
  rw [← hH]
  refine lv_iload_n hx hb dX2_addFloor_0 rfl (lv_at hl 1 rfl) ?_
  refine zz_con 1 hx hb dX2_addFloor_1 (by decide) ?_
  refine lv_icmp_lt (tgt := 11) hx hb dX2_addFloor_2 (by decide) (fun c_1 => ?_) (fun c_1 => ?_)
  · skip
    refine zz_throw (cls := "java/lang/IllegalArgumentException") (is := 43) hx hb hfl hown hts hE0 zx_45 zw_236 zw_9 zt_43 hS (fun _ h => h) hl.1 hml dX2_addFloor_11 dX2_addFloor_14 dX2_addFloor_15 dX2_addFloor_17 dX2_addFloor_20 htab (Nat.le_of_ble_eq_true rfl) (Nat.le_of_ble_eq_true rfl) (Nat.le_of_ble_eq_true rfl) (Nat.le_of_ble_eq_true rfl) hlocks (fun H9 hf9 => ?_) (Nat.le_of_ble_eq_true rfl) (Nat.le_of_ble_eq_true rfl)
    exact Or.inl ⟨rfl, by unfold zs_addFloor; rw [if_pos (fun h => by have h1 := Int32.not_lt.mpr h.1.1; have h2 := h.1.2; contradiction)]⟩
  · skip
    refine lv_iload_n hx hb dX2_addFloor_5 rfl (lv_at hl 1 rfl) ?_
    refine lv_bipush (v := nI 12) hx hb dX2_addFloor_6 (by decide) ?_
    refine lv_icmp_le (tgt := 21) hx hb dX2_addFloor_8 (by decide) (fun c_2 => ?_) (fun c_2 => ?_)
    · skip
      have hz1 : zbw x 1 12 := ⟨Int32.not_lt.mp c_1, c_2⟩
      obtain ⟨a1, ha1, rfl⟩ := zz_rng2 (a := 1) (b := 12) (by decide) (by decide) hz1
      have ha1c : (nI a1).toNatClampNeg = a1 := nI_clamp (by omega)
      have ha1b : a1 < 2 ^ 31 := by omega
      refine lv_iload_n hx hb dX2_addFloor_21 rfl (lv_at hl 2 rfl) ?_
      refine zz_afterX (A := zz_no) (pc := 22) rfl (zz_runS (As := [.int y]) (rest := []) hx hb hml hown hts (c_X2_checkCost l hfl (K := K) (A := A) y) zw_308 zw_309 zw_1 zw_310 zd_X2_checkCost ⟨Nat.le_of_ble_eq_true rfl, Nat.le_of_ble_eq_true rfl⟩ hZ.E hZ.A trivial hl.1 (Nat.le_of_ble_eq_true rfl) dX2_addFloor_22 ⟨Nat.le_of_ble_eq_true rfl, Nat.le_of_ble_eq_true rfl⟩) hS (fun _ h => h.elim) htab hlocks (Nat.le_of_ble_eq_true rfl) (Nat.le_of_ble_eq_true rfl) (fun E9 H9 hx9 hf9 => Or.inl ⟨hx9.1, by unfold zs_addFloor; rw [if_pos (fun h => hx9.2 h.2)]⟩) (fun v_6 H locs hq_4 hF_5 hS => ?_) (fun _ h => h.elim)
      refine W.widen (k := 1) (n := 6) (Nat.le_of_ble_eq_true rfl) (Nat.le_of_ble_eq_true rfl) ?_
      obtain ⟨rfl, hzt_3⟩ := hq_4
      obtain ⟨t_3, ht_3, rfl⟩ := zz_rng2 (a := 0) (b := 99) (by decide) (by decide) hzt_3
      have ht_3c : (nI t_3).toNatClampNeg = t_3 := nI_clamp (by omega)
      have hZ := hZ.ro hF_5
      refine W.eq (g2 := F0 m 25 ls []) rfl ?_
      refine lv_aload_n hx hb dX2_addFloor_25 rfl (lv_at hl 0 rfl) ?_
      refine zz_get (ci := 5) (C := RX2) (T := TX2) (N := 8) (v := .ref (ad 1 0)) hx hb hts hown hK (zx_ob hZ.W).1 rfl zf_X2 0 (by decide) zw_59 (fun _ h9 => h9) rfl dX2_addFloor_26 ?_
      refine zz_after (pc := 29) rfl (zz_runV (ci := 2) (q0 := (RJx4a65c, TJx4a65c, 3)) (b := ad 1 0) (As := []) (rest := []) hx hb hml hown hts (c_Jx4a65c_size_8abf5 l (K := K) (A := A) (ad := ad) (E := E) (cap := cap) (N := N) (G := G) (L := L) hk (by decide)) zw_88 zw_89 zw_90 zw_4 zw_91 zd_Jx4a65c_size_8abf5 ⟨Nat.le_of_ble_eq_true rfl, Nat.le_of_ble_eq_true rfl⟩ hZ.E hZ.A (zx_li hZ.W (t := 0) (by decide)).1 rfl rfl hZ.W hl.1 (Nat.le_of_ble_eq_true rfl) dX2_addFloor_29 ⟨Nat.le_of_ble_eq_true rfl, Nat.le_of_ble_eq_true rfl⟩) hS (fun _ h => h.elim) (fun v_9 H locs hq_7 hF_8 hS => ?_)
      refine W.widen (k := 1) (n := 6) (Nat.le_of_ble_eq_true rfl) (Nat.le_of_ble_eq_true rfl) ?_
      obtain rfl := hq_7
      have hZ := hZ.ro hF_8
      refine W.eq (g2 := F0 m 32 ls [.int (nI (N 0 0))]) rfl ?_
      refine lv_istore_n (lv' := [(3, .int (nI (N 0 0))), (0, .ref (ad 0 0)), (1, .int (nI a1)), (2, .int (nI t_3))]) hx hb dX2_addFloor_32 rfl hl (Nat.le_of_ble_eq_true rfl) rfl (fun ls hl => ?_)
      refine lv_iload_n hx hb dX2_addFloor_33 rfl (lv_at hl 0 rfl) ?_
      refine lv_bipush (v := nI 6) hx hb dX2_addFloor_34 (by decide) ?_
      refine zz_ic_lt (tgt := 49) (by first | exact hB _ _ | exact hUa _ | exact hUb _ | exact hUc _ | exact hUd _ | omega) (by decide) hx hb dX2_addFloor_36 (by decide) (fun c_10 => ?_) (fun c_10 => ?_)
      · skip
        refine lv_aload_n hx hb dX2_addFloor_49 rfl (lv_at hl 1 rfl) ?_
        refine zz_get (ci := 5) (C := RX2) (T := TX2) (N := 8) (v := .ref (ad 1 0)) hx hb hts hown hK (zx_ob hZ.W).1 rfl zf_X2 0 (by decide) zw_59 (fun _ h9 => h9) rfl dX2_addFloor_50 ?_
        have hS : va_S A s.heap H _ := zz_Smono hS (fun _ h => h.elim)
        obtain ⟨r0, hr0e⟩ : ∃ z, z = H.size := ⟨_, rfl⟩
        have hwl := hZ.W.under (r := r0) (by omega)
        refine zz_new (ci := 3) (C := RX0) (T := TX0) (N := 7) (fs := [.int 0, .int 0, .int 0, .int 0, .int 0, .int 0, .null]) hx hb hts hown hK hS rfl zf_X0 tyX0_ok zw_115 zw_328 zw_11 (fun j hj => by match j, hj with | 0, _ => rfl | 1, _ => rfl | 2, _ => rfl | 3, _ => rfl | 4, _ => rfl | 5, _ => rfl | 6, _ => rfl) (Nat.le_of_ble_eq_true rfl) (Nat.le_of_ble_eq_true rfl) dX2_addFloor_53 (fun H1 hr0 hs0 ho0 hS => ?_)
        rw [← hr0e] at hr0 ⊢
        have hAr0 : A r0 := hZ.A _ (by omega)
        have hZ := hZ.grow (by omega) ho0
        rename Heap => H
        refine W.eq (g2 := F0 m 56 ls [.ref r0, .ref (ad 1 0)]) rfl ?_
        refine lv_dup hx hb dX2_addFloor_56 rfl ?_
        refine lv_iload_n hx hb dX2_addFloor_57 rfl (lv_at hl 0 rfl) ?_
        refine lv_iload_n hx hb dX2_addFloor_58 rfl (lv_at hl 2 rfl) ?_
        refine lv_iload_n hx hb dX2_addFloor_59 rfl (lv_at hl 3 rfl) ?_
        have hsub9 : ∀ q, (q = r0 ∨ H.size ≤ q) → A q := fun q h => h.elim (fun e => e ▸ hAr0) (hZ.A q)
        obtain ⟨k0, hk0e⟩ : ∃ z, z = H.size := ⟨_, rfl⟩
        have hrk : r0 < k0 := by (have h9 : r0 < H.size := va_at.lt hr0; omega)
        have hAk0 : A k0 := hZ.A _ (by omega)
        refine zz_after (pc := 60) rfl (zz_runI (b := r0) (As := [.int (nI (N 0 0)), .int (nI a1), .int (nI t_3)]) (rest := [.ref r0, .ref (ad 1 0)]) hx hb hml hown hts (c_X0_init l (K := K) (A := fun q => q = r0 ∨ H.size ≤ q) (r := r0) (a1 := N 0 0) (a2 := a1) (a3 := t_3)) rfl rfl zw_329 zw_330 zw_11 zw_331 zd_X0_init ⟨Nat.le_of_ble_eq_true rfl, Nat.le_of_ble_eq_true rfl⟩ (hZ.E.narrow hsub9) (fun q h => Or.inr h) ⟨hr0, Or.inl rfl⟩ hl.1 (Nat.le_of_ble_eq_true rfl) dX2_addFloor_60 ⟨Nat.le_of_ble_eq_true rfl, Nat.le_of_ble_eq_true rfl⟩) hS hsub9 (fun v_13 H locs hq_11 hF_12 hS => ?_)
        refine W.widen (k := 3) (n := 26) (Nat.le_of_ble_eq_true rfl) (Nat.le_of_ble_eq_true rfl) ?_
        obtain ⟨rfl, hzk, hr0, hk0⟩ := hq_11
        rw [← hk0e] at hk0 hr0
        have hZ := hZ.beside hAr0 hwl hF_12
        refine W.eq (g2 := F0 m 63 ls [.ref r0, .ref (ad 1 0)]) rfl ?_
        have hsub9 := zxA_sub hZ (t := 0) (by decide)
        have hT9 := zx_T hZ hk hbk (t := 0) (by decide)
        have hob9 : zz_ob K H r0 ∧ ¬ zxA ad cap 0 H r0 := ⟨⟨3, _, _, hr0, rfl, zc_fl⟩, zx_fresh hwl (by decide) (va_at.lt hr0)⟩
        refine zz_after (pc := 63) rfl (zz_runV (ci := 2) (q0 := (RJx4a65c, TJx4a65c, 3)) (b := ad 1 0) (As := [.ref r0]) (rest := []) hx hb hml hown hts (c_Jx4a65c_add_9ea2d l (K := K) (A := zxA ad cap 0 H) (a := ad 1 0) (b := ad 2 0) (mo := E 0 0) (n := N 0 0) (cp := cap 0) (g := zx_el ad N 0) (r := r0) h0012 zx_el_none) zw_362 zw_363 zw_364 zw_4 zw_365 zd_Jx4a65c_add_9ea2d ⟨Nat.le_of_ble_eq_true rfl, Nat.le_of_ble_eq_true rfl⟩ (hZ.E.narrow hsub9) (fun q h => Or.inr (Or.inr h)) (zx_li hZ.W (t := 0) (by decide)).1 rfl rfl ⟨hT9, hob9.1, hob9.2⟩ hl.1 (Nat.le_of_ble_eq_true rfl) dX2_addFloor_63 ⟨Nat.le_of_ble_eq_true rfl, Nat.le_of_ble_eq_true rfl⟩) hS hsub9 (fun v_16 H locs hq_14 hF_15 hS => ?_)
        refine W.widen (k := 4) (n := 66) (Nat.le_of_ble_eq_true rfl) (Nat.le_of_ble_eq_true rfl) ?_
        obtain ⟨rfl, b9, cp9, hW9⟩ := hq_14
        have hW8 := zx_newfl hI rfl (hzi.cf _ (Nat.le_refl _)) hZ hwl hrk hAr0 hAk0 hr0 hk0 hW9 hF_15
        have hZ : zz_Z K A s (zadf ad (N 0 0) b9 r0 k0) (zx_c K (zadf ad (N 0 0) b9 r0 k0) (zEf E (N 0 0) (E 0 0 + nI 1)) (zcp cap 0 cp9) (zu (zu (zu N 1 (N 0 0) a1) 2 (N 0 0) t_3) 0 0 (N 0 0 + 1)) (zg (zg G 0 (N 0 0) (nI 180)) 1 (N 0 0) (nI 400)) L) H := hZ.mut (zz_fr.mono hF_15 hsub9) hW8
        have hk : zk K (zadf ad (N 0 0) b9 r0 k0) (zcp cap 0 cp9) (zu (zu (zu N 1 (N 0 0) a1) 2 (N 0 0) t_3) 0 0 (N 0 0 + 1)) := zk_new hk (by decide) hW9.2.2.2.1.1 hW9.2.2.2.1.2 hW9.2.2.1 (zu_s ..) (fun j hj h2 => by rw [zu_i h2, zu_k (by decide), zu_k (by decide)]) (by unfold zadf zadp; rw [if_neg (by omega), if_neg (by omega), if_pos ⟨rfl, rfl⟩]) (fun j hj h2 => zadf_n (by omega) (by omega) (by omega))
        refine W.eq (g2 := F0 m 66 ls [.int (nI 1)]) rfl ?_
        refine lv_pop hx hb dX2_addFloor_66 rfl ?_
        refine lv_iload_n hx hb dX2_addFloor_67 rfl (lv_at hl 0 rfl) ?_
        refine zz_iret hx hb hr hlocks hS (Nat.le_of_ble_eq_true rfl) (Nat.le_of_ble_eq_true rfl) dX2_addFloor_68 ?_
        have e9 : zs_addFloor N G (nI a1) (nI t_3) = (0, nI (N 0 0), (zu (zu (zu N 1 (N 0 0) a1) 2 (N 0 0) t_3) 0 0 (N 0 0 + 1)), (zg (zg G 0 (N 0 0) (nI 180)) 1 (N 0 0) (nI 400))) := by (unfold zs_addFloor; rw [if_neg (fun h => h ⟨hz1, by assumption⟩), if_neg (by omega), ha1c, ht_3c])
        rw [e9]; exact ⟨rfl, rfl, _, _, _, zadf_n (by omega) (by omega) (by omega), hk, hZ.W⟩
      · skip
        refine zz_throw (cls := "java/lang/IllegalStateException") (is := 58) hx hb hfl hown hts hE0 zx_60 zw_312 zw_10 zt_58 hS (fun _ h => h) hl.1 hml dX2_addFloor_39 dX2_addFloor_42 dX2_addFloor_43 dX2_addFloor_45 dX2_addFloor_48 htab (Nat.le_of_ble_eq_true rfl) (Nat.le_of_ble_eq_true rfl) (Nat.le_of_ble_eq_true rfl) (Nat.le_of_ble_eq_true rfl) hlocks (fun H9 hf9 => ?_) (Nat.le_of_ble_eq_true rfl) (Nat.le_of_ble_eq_true rfl)
        exact Or.inr ⟨rfl, by unfold zs_addFloor; rw [if_neg (fun h => h ⟨hz1, by assumption⟩), if_pos (by have := hI.f; omega)]⟩
    · skip
      refine zz_throw (cls := "java/lang/IllegalArgumentException") (is := 43) hx hb hfl hown hts hE0 zx_45 zw_236 zw_9 zt_43 hS (fun _ h => h) hl.1 hml dX2_addFloor_11 dX2_addFloor_14 dX2_addFloor_15 dX2_addFloor_17 dX2_addFloor_20 htab (Nat.le_of_ble_eq_true rfl) (Nat.le_of_ble_eq_true rfl) (Nat.le_of_ble_eq_true rfl) (Nat.le_of_ble_eq_true rfl) hlocks (fun H9 hf9 => ?_) (Nat.le_of_ble_eq_true rfl) (Nat.le_of_ble_eq_true rfl)
      exact Or.inl ⟨rfl, by unfold zs_addFloor; rw [if_pos (fun h => by have h1 := Int32.not_lt.mpr h.1.1; have h2 := h.1.2; contradiction)]⟩

set_option maxHeartbeats 4000000 in
set_option maxRecDepth 100000 in
theorem c_X2_addPerson (l : Launch) (hfl : l.stackTraces = false) {K : zz_G} {A : Nat → Prop} {ad : Nat → Nat → Nat} {E : Nat → Nat → Int32} {cap : Nat → Nat} {N : Nat → Nat → Nat} {G : Nat → Nat → Int32} {L : Nat → Int64} (hzi : zi N) (hI : zq N) (hk : zk K ad cap N) (x : Int32) : zz_C l yX2_addPerson cX2_addPerson 3 (Option.some FieldType.int) ({ frames := 7, cells := 3, slots := 53, locals := 171 } : Room) K A [.ref (ad 0 0), .int x] (fun H => zz_W K A ad (zx_c K ad E cap N G L) H) (fun v9 _ H9 => (zs_addPerson N x).1 = 0 ∧ v9 = some (.int (zs_addPerson N x).2.1) ∧ ∃ ad9 E9 cap9, ad9 0 0 = ad 0 0 ∧ zk K ad9 cap9 (zs_addPerson N x).2.2 ∧ zz_W K A ad9 (zx_c K ad9 E9 cap9 (zs_addPerson N x).2.2 G L) H9) (fun E9 _ _ => (E9 = "java/lang/IllegalArgumentException" ∧ (zs_addPerson N x).1 = 1) ∨ (E9 = "java/lang/IllegalStateException" ∧ (zs_addPerson N x).1 = 2)) A := by
  refine zz_body (by decide +kernel) (Nat.le_of_ble_eq_true rfl) ?_
  intro p e s m below meth c ls hx hb hr hml hts hown hlocks hmn htab hE hA hP hl
  have hN := hE.N
  have hK := hE.K
  have hown : s.vm.findClass RX2 = some m.cls := hown
  have hl : lv_has ls 3 [(0, .ref (ad 0 0)), (1, .int x)] := hl
  have hZ : zz_Z K A s ad (zx_c K ad E cap N G L) s.heap := ⟨hE, hA, hP⟩
  have hS : va_S zz_no s.heap s.heap [] := va_S.rf
  obtain ⟨H, hH⟩ : ∃ z, z = s.heap := ⟨_, rfl⟩
  have hS0 : va_S zz_no s.heap H [] := by rw [hH]; exact hS
  rw [← hH] at hZ
  have hE0 := hE
  clear hS
  have hS := hS0
  have hB := hI.B
  have hbk := hI.bk
  have h00 := hI.f
  have h01 := hI.p
  have h02 := hI.b
  have hk0 := hk 0 (by decide)
  have hk1 := hk 1 (by decide)
  have hk2 := hk 2 (by decide)
  have h0112 : N 0 1 ≤ 12 := hI.p
  show W p l e _ s m _ below meth c s.heap [] 0 0 _ (F0 m 0 ls [])
  rw [← hH]
  refine lv_iload_n hx hb dX2_addPerson_0 rfl (lv_at hl 1 rfl) ?_
  refine zz_afterX (A := zz_no) (pc := 1) rfl (zz_runS (As := [.int x]) (rest := []) hx hb hml hown hts (c_X2_checkTeam l hfl (K := K) (A := A) x) zw_474 zw_475 zw_1 zw_476 zd_X2_checkTeam ⟨Nat.le_of_ble_eq_true rfl, Nat.le_of_ble_eq_true rfl⟩ hZ.E hZ.A trivial hl.1 (Nat.le_of_ble_eq_true rfl) dX2_addPerson_1 ⟨Nat.le_of_ble_eq_true rfl, Nat.le_of_ble_eq_true rfl⟩) hS (fun _ h => h.elim) htab hlocks (Nat.le_of_ble_eq_true rfl) (Nat.le_of_ble_eq_true rfl) (fun E9 H9 hx9 hf9 => Or.inl ⟨hx9.1, by unfold zs_addPerson; rw [if_pos hx9.2]⟩) (fun v_4 H locs hq_2 hF_3 hS => ?_) (fun _ h => h.elim)
  refine W.widen (k := 1) (n := 6) (Nat.le_of_ble_eq_true rfl) (Nat.le_of_ble_eq_true rfl) ?_
  obtain ⟨rfl, hzt_1⟩ := hq_2
  obtain ⟨t_1, ht_1, rfl⟩ := zz_rng2 (a := 0) (b := 3) (by decide) (by decide) hzt_1
  have ht_1c : (nI t_1).toNatClampNeg = t_1 := nI_clamp (by omega)
  have hZ := hZ.ro hF_3
  refine W.eq (g2 := F0 m 4 ls []) rfl ?_
  refine lv_aload_n hx hb dX2_addPerson_4 rfl (lv_at hl 0 rfl) ?_
  refine zz_get (ci := 5) (C := RX2) (T := TX2) (N := 8) (v := .ref (ad 1 1)) hx hb hts hown hK (zx_ob hZ.W).1 rfl zf_X2 1 (by decide) zw_60 (fun _ h9 => h9) rfl dX2_addPerson_5 ?_
  refine zz_after (pc := 8) rfl (zz_runV (ci := 2) (q0 := (RJx4a65c, TJx4a65c, 3)) (b := ad 1 1) (As := []) (rest := []) hx hb hml hown hts (c_Jx4a65c_size_8abf5 l (K := K) (A := A) (ad := ad) (E := E) (cap := cap) (N := N) (G := G) (L := L) hk (by decide)) zw_88 zw_89 zw_90 zw_4 zw_91 zd_Jx4a65c_size_8abf5 ⟨Nat.le_of_ble_eq_true rfl, Nat.le_of_ble_eq_true rfl⟩ hZ.E hZ.A (zx_li hZ.W (t := 1) (by decide)).1 rfl rfl hZ.W hl.1 (Nat.le_of_ble_eq_true rfl) dX2_addPerson_8 ⟨Nat.le_of_ble_eq_true rfl, Nat.le_of_ble_eq_true rfl⟩) hS (fun _ h => h.elim) (fun v_7 H locs hq_5 hF_6 hS => ?_)
  refine W.widen (k := 1) (n := 6) (Nat.le_of_ble_eq_true rfl) (Nat.le_of_ble_eq_true rfl) ?_
  obtain rfl := hq_5
  have hZ := hZ.ro hF_6
  refine W.eq (g2 := F0 m 11 ls [.int (nI (N 0 1))]) rfl ?_
  refine lv_istore_n (lv' := [(2, .int (nI (N 0 1))), (0, .ref (ad 0 0)), (1, .int (nI t_1))]) hx hb dX2_addPerson_11 rfl hl (Nat.le_of_ble_eq_true rfl) rfl (fun ls hl => ?_)
  refine lv_iload_n hx hb dX2_addPerson_12 rfl (lv_at hl 0 rfl) ?_
  refine lv_bipush (v := nI 12) hx hb dX2_addPerson_13 (by decide) ?_
  refine zz_ic_lt (tgt := 28) (by first | exact hB _ _ | exact hUa _ | exact hUb _ | exact hUc _ | exact hUd _ | omega) (by decide) hx hb dX2_addPerson_15 (by decide) (fun c_8 => ?_) (fun c_8 => ?_)
  · skip
    refine lv_aload_n hx hb dX2_addPerson_28 rfl (lv_at hl 1 rfl) ?_
    refine zz_get (ci := 5) (C := RX2) (T := TX2) (N := 8) (v := .ref (ad 1 1)) hx hb hts hown hK (zx_ob hZ.W).1 rfl zf_X2 1 (by decide) zw_60 (fun _ h9 => h9) rfl dX2_addPerson_29 ?_
    have hS : va_S A s.heap H _ := zz_Smono hS (fun _ h => h.elim)
    obtain ⟨r0, hr0e⟩ : ∃ z, z = H.size := ⟨_, rfl⟩
    have hwl := hZ.W.under (r := r0) (by omega)
    refine zz_new (ci := 4) (C := RX1) (T := TX1) (N := 7) (fs := [.int 0, .int 0, .int 0, .null, .null, .int 0, .int 0]) hx hb hts hown hK hS rfl zf_X1 tyX1_ok zw_129 zw_479 zw_21 (fun j hj => by match j, hj with | 0, _ => rfl | 1, _ => rfl | 2, _ => rfl | 3, _ => rfl | 4, _ => rfl | 5, _ => rfl | 6, _ => rfl) (Nat.le_of_ble_eq_true rfl) (Nat.le_of_ble_eq_true rfl) dX2_addPerson_32 (fun H1 hr0 hs0 ho0 hS => ?_)
    rw [← hr0e] at hr0 ⊢
    have hAr0 : A r0 := hZ.A _ (by omega)
    have hZ := hZ.grow (by omega) ho0
    rename Heap => H
    refine W.eq (g2 := F0 m 35 ls [.ref r0, .ref (ad 1 1)]) rfl ?_
    refine lv_dup hx hb dX2_addPerson_35 rfl ?_
    refine lv_iload_n hx hb dX2_addPerson_36 rfl (lv_at hl 0 rfl) ?_
    refine lv_iload_n hx hb dX2_addPerson_37 rfl (lv_at hl 2 rfl) ?_
    have hsub9 : ∀ q, (q = r0 ∨ H.size ≤ q) → A q := fun q h => h.elim (fun e => e ▸ hAr0) (hZ.A q)
    obtain ⟨k0, hk0e⟩ : ∃ z, z = H.size := ⟨_, rfl⟩
    have hrk : r0 < k0 := by (have h9 : r0 < H.size := va_at.lt hr0; omega)
    have hAk0 : A k0 := hZ.A _ (by omega)
    refine zz_after (pc := 38) rfl (zz_runI (b := r0) (As := [.int (nI (N 0 1)), .int (nI t_1)]) (rest := [.ref r0, .ref (ad 1 1)]) hx hb hml hown hts (c_X1_init l (K := K) (A := fun q => q = r0 ∨ H.size ≤ q) (r := r0) (a1 := N 0 1) (a2 := t_1)) rfl rfl zw_480 zw_481 zw_21 zw_482 zd_X1_init ⟨Nat.le_of_ble_eq_true rfl, Nat.le_of_ble_eq_true rfl⟩ (hZ.E.narrow hsub9) (fun q h => Or.inr h) ⟨hr0, Or.inl rfl⟩ hl.1 (Nat.le_of_ble_eq_true rfl) dX2_addPerson_38 ⟨Nat.le_of_ble_eq_true rfl, Nat.le_of_ble_eq_true rfl⟩) hS hsub9 (fun v_11 H locs hq_9 hF_10 hS => ?_)
    refine W.widen (k := 2) (n := 13) (Nat.le_of_ble_eq_true rfl) (Nat.le_of_ble_eq_true rfl) ?_
    obtain ⟨rfl, hr0⟩ := hq_9
    have hZ := hZ.beside hAr0 hwl hF_10
    refine W.eq (g2 := F0 m 41 ls [.ref r0, .ref (ad 1 1)]) rfl ?_
    have hsub9 := zxA_sub hZ (t := 1) (by decide)
    have hT9 := zx_T hZ hk hbk (t := 1) (by decide)
    have hob9 : zz_ob K H r0 ∧ ¬ zxA ad cap 1 H r0 := ⟨⟨4, _, _, hr0, rfl, zc_pe⟩, zx_fresh hwl (by decide) (va_at.lt hr0)⟩
    refine zz_after (pc := 41) rfl (zz_runV (ci := 2) (q0 := (RJx4a65c, TJx4a65c, 3)) (b := ad 1 1) (As := [.ref r0]) (rest := []) hx hb hml hown hts (c_Jx4a65c_add_9ea2d l (K := K) (A := zxA ad cap 1 H) (a := ad 1 1) (b := ad 2 1) (mo := E 0 1) (n := N 0 1) (cp := cap 1) (g := zx_el ad N 1) (r := r0) h0112 zx_el_none) zw_362 zw_363 zw_364 zw_4 zw_365 zd_Jx4a65c_add_9ea2d ⟨Nat.le_of_ble_eq_true rfl, Nat.le_of_ble_eq_true rfl⟩ (hZ.E.narrow hsub9) (fun q h => Or.inr (Or.inr h)) (zx_li hZ.W (t := 1) (by decide)).1 rfl rfl ⟨hT9, hob9.1, hob9.2⟩ hl.1 (Nat.le_of_ble_eq_true rfl) dX2_addPerson_41 ⟨Nat.le_of_ble_eq_true rfl, Nat.le_of_ble_eq_true rfl⟩) hS hsub9 (fun v_14 H locs hq_12 hF_13 hS => ?_)
    refine W.widen (k := 3) (n := 53) (Nat.le_of_ble_eq_true rfl) (Nat.le_of_ble_eq_true rfl) ?_
    obtain ⟨rfl, b9, cp9, hW9⟩ := hq_12
    have hW8 := zx_newpe hI rfl (hzi.cp _ (Nat.le_refl _)) hZ hwl hAr0 hr0 hW9 hF_13
    have hZ : zz_Z K A s (zadg ad (N 0 1) b9 r0) (zx_c K (zadg ad (N 0 1) b9 r0) (zg E 0 1 (E 0 1 + nI 1)) (zcp cap 1 cp9) (zu (zu (zu (zu N 4 (N 0 1) t_1) 5 (N 0 1) 5) 6 (N 0 1) 0) 0 1 (N 0 1 + 1)) G L) H := hZ.mut (zz_fr.mono hF_13 hsub9) hW8
    have hk : zk K (zadg ad (N 0 1) b9 r0) (zcp cap 1 cp9) (zu (zu (zu (zu N 4 (N 0 1) t_1) 5 (N 0 1) 5) 6 (N 0 1) 0) 0 1 (N 0 1 + 1)) := zk_new hk (by decide) hW9.2.2.2.1.1 hW9.2.2.2.1.2 hW9.2.2.1 (zu_s ..) (fun j hj h2 => by rw [zu_i h2, zu_k (by decide), zu_k (by decide), zu_k (by decide)]) (by unfold zadg zadp; rw [if_neg (by omega), if_pos ⟨rfl, rfl⟩]) (fun j hj h2 => zadg_n (by omega) (by omega))
    refine W.eq (g2 := F0 m 44 ls [.int (nI 1)]) rfl ?_
    refine lv_pop hx hb dX2_addPerson_44 rfl ?_
    refine lv_iload_n hx hb dX2_addPerson_45 rfl (lv_at hl 0 rfl) ?_
    refine zz_iret hx hb hr hlocks hS (Nat.le_of_ble_eq_true rfl) (Nat.le_of_ble_eq_true rfl) dX2_addPerson_46 ?_
    have e9 : zs_addPerson N (nI t_1) = (0, nI (N 0 1), (zu (zu (zu (zu N 4 (N 0 1) t_1) 5 (N 0 1) 5) 6 (N 0 1) 0) 0 1 (N 0 1 + 1))) := by (unfold zs_addPerson; rw [if_neg (fun h => h (by assumption)), if_neg (by omega), ht_1c])
    rw [e9]; exact ⟨rfl, rfl, _, _, _, zadg_n (by omega) (by omega), hk, hZ.W⟩
  · skip
    refine zz_throw (cls := "java/lang/IllegalStateException") (is := 80) hx hb hfl hown hts hE0 zx_60 zw_312 zw_10 zt_80 hS (fun _ h => h) hl.1 hml dX2_addPerson_18 dX2_addPerson_21 dX2_addPerson_22 dX2_addPerson_24 dX2_addPerson_27 htab (Nat.le_of_ble_eq_true rfl) (Nat.le_of_ble_eq_true rfl) (Nat.le_of_ble_eq_true rfl) (Nat.le_of_ble_eq_true rfl) hlocks (fun H9 hf9 => ?_) (Nat.le_of_ble_eq_true rfl) (Nat.le_of_ble_eq_true rfl)
    exact Or.inr ⟨rfl, by unfold zs_addPerson; rw [if_neg (fun h => h (by assumption)), if_pos (by have := hI.p; omega)]⟩
