/-! the worlds: cells by labels (kind, index); one abstract state for the class and for the reference:
 N 0: floors, people, bookings; N 12: day, no-shows; by floor N 1 seats, 2 cost, 3 open; by person 4 team, 5 standing, 6 seat (0 none, else floor + 1), 7 in, 8 came, 11 wanted (0 none, else floor + 1); by booking 9 person, 10 floor. G 0 warmth, G 1 air. L 0 energy, 1 discomfort, 2 cleaning -/
def zu (N : Nat → Nat → Nat) (k i v : Nat) : Nat → Nat → Nat := fun k' i' => if k' = k then (if i' = i then v else N k i') else N k' i'
def zg (G : Nat → Nat → Int32) (k i : Nat) (v : Int32) : Nat → Nat → Int32 := fun k' i' => if k' = k then (if i' = i then v else G k i') else G k' i'
def zl (L : Nat → Int64) (k : Nat) (v : Int64) : Nat → Int64 := fun k' => if k' = k then v else L k'
theorem zu_s (N : Nat → Nat → Nat) (k i v : Nat) : zu N k i v k i = v := by simp [zu]
theorem zu_k {N : Nat → Nat → Nat} {k i v k' i' : Nat} (h : k' ≠ k) : zu N k i v k' i' = N k' i' := by simp [zu, h]
theorem zu_i {N : Nat → Nat → Nat} {k i v i' : Nat} (h : i' ≠ i) : zu N k i v k i' = N k i' := by simp [zu, h]
theorem zu_n {N : Nat → Nat → Nat} {k i v k' i' : Nat} (h : ¬ (k' = k ∧ i' = i)) : zu N k i v k' i' = N k' i' := by
  unfold zu
  by_cases h1 : k' = k
  · subst h1
    rw [if_pos rfl, if_neg (fun e => h ⟨rfl, e⟩)]
  · rw [if_neg h1]
theorem zg_s (N : Nat → Nat → Int32) (k i : Nat) (v : Int32) : zg N k i v k i = v := by simp [zg]
theorem zg_n {N : Nat → Nat → Int32} {k i k' i' : Nat} {v : Int32} (h : ¬ (k' = k ∧ i' = i)) : zg N k i v k' i' = N k' i' := by
  unfold zg
  by_cases h1 : k' = k
  · subst h1
    rw [if_pos rfl, if_neg (fun e => h ⟨rfl, e⟩)]
  · rw [if_neg h1]
def zz_ro (ad : Nat → Nat) : Nat → Option Nat
  | 0 => none
  | j + 1 => some (ad j)
abbrev zz_rf (ad : Nat → Nat) (x : Nat) : Value := va_rf (zz_ro ad x)
def zz_W (K : zz_G) (A : Nat → Prop) (ad : Nat → Nat → Nat) (w : Nat → Nat → Option va_E) (H : Heap) : Prop :=
  (∀ (k i : Nat) (e : va_E), w k i = some e → zz_at K (ad k i) e H ∧ A (ad k i)) ∧ ∀ (k i : Nat) (e : va_E) (k' i' : Nat) (e' : va_E), w k i = some e → w k' i' = some e' → ad k i = ad k' i' → k = k' ∧ i = i'
theorem zz_W.fr {K : zz_G} {A B : Nat → Prop} {ad : Nat → Nat → Nat} {w : Nat → Nat → Option va_E} {H H1 : Heap} (h : zz_W K A ad w H) (g : zz_fr B H H1) (hAB : ∀ q, A q → q < H.size → ¬ B q) : zz_W K A ad w H1 :=
  ⟨fun k i e he => ⟨va_at.kept (h.1 k i e he).1 (g.2 _ (va_at.lt (h.1 k i e he).1) (hAB _ (h.1 k i e he).2 (va_at.lt (h.1 k i e he).1))), (h.1 k i e he).2⟩, h.2⟩
theorem zz_W.ro {K : zz_G} {A : Nat → Prop} {ad : Nat → Nat → Nat} {w : Nat → Nat → Option va_E} {H H1 : Heap} (h : zz_W K A ad w H) (g : zz_fr zz_no H H1) : zz_W K A ad w H1 := h.fr g (fun _ _ _ z => z)
theorem zz_W.put {K : zz_G} {A : Nat → Prop} {ad : Nat → Nat → Nat} {w w' : Nat → Nat → Option va_E} {H H1 : Heap} (h : zz_W K A ad w H) (k i : Nat) {e0 e1 : va_E} (h0 : w k i = some e0) (h1 : w' k i = some e1) (hat : zz_at K (ad k i) e1 H1) (ho : ∀ q : Nat, q ≠ ad k i → H1[q]? = H[q]?) (hw : ∀ k' i', ¬ (k' = k ∧ i' = i) → w' k' i' = w k' i') : zz_W K A ad w' H1 := by
  have key : ∀ (k' i' : Nat) (e : va_E), w' k' i' = some e → ∃ e', w k' i' = some e' := by
    intro k' i' e he
    by_cases hh : k' = k ∧ i' = i
    · obtain ⟨rfl, rfl⟩ := hh
      exact ⟨e0, h0⟩
    · exact ⟨e, by rw [← hw k' i' hh]; exact he⟩
  refine ⟨fun k' i' e he => ?_, fun k1 i1 e k2 i2 e' hb hc hd => ?_⟩
  · by_cases hh : k' = k ∧ i' = i
    · obtain ⟨rfl, rfl⟩ := hh
      cases Option.some.inj (h1.symm.trans he)
      exact ⟨hat, (h.1 _ _ _ h0).2⟩
    · rw [hw k' i' hh] at he
      obtain ⟨g1, g2⟩ := h.1 k' i' e he
      exact ⟨va_at.kept g1 (ho _ (fun z => hh (h.2 _ _ _ _ _ _ he h0 z))), g2⟩
  · obtain ⟨x1, g1⟩ := key _ _ _ hb
    obtain ⟨x2, g2⟩ := key _ _ _ hc
    exact h.2 _ _ _ _ _ _ g1 g2 hd
/-- the heap as a method of one world sees it -/
def zz_Z (K : zz_G) (A : Nat → Prop) (s : State) (ad : Nat → Nat → Nat) (w : Nat → Nat → Option va_E) (H : Heap) : Prop := zz_E K A s H ∧ (∀ q : Nat, H.size ≤ q → A q) ∧ zz_W K A ad w H
theorem zz_Z.ro {K : zz_G} {A : Nat → Prop} {s : State} {ad : Nat → Nat → Nat} {w : Nat → Nat → Option va_E} {H H1 : Heap} (h : zz_Z K A s ad w H) (g : zz_fr zz_no H H1) : zz_Z K A s ad w H1 :=
  ⟨h.1.kept (fun a ha _ => g.2 a ha (fun z => z)), fun q hq => h.2.1 q (Nat.le_trans g.1 hq), h.2.2.ro g⟩
theorem zz_Z.mut {K : zz_G} {A : Nat → Prop} {s : State} {ad ad' : Nat → Nat → Nat} {w w' : Nat → Nat → Option va_E} {H H1 : Heap} (h : zz_Z K A s ad w H) (g : zz_fr A H H1) (hw : zz_W K A ad' w' H1) : zz_Z K A s ad' w' H1 :=
  ⟨h.1.kept (fun a ha hn => g.2 a ha hn), fun q hq => h.2.1 q (Nat.le_trans g.1 hq), hw⟩
theorem zz_Z.put {K : zz_G} {A : Nat → Prop} {s : State} {ad : Nat → Nat → Nat} {w w' : Nat → Nat → Option va_E} {H H1 : Heap} (h : zz_Z K A s ad w H) {a : Nat} (haA : A a) (hz : H1.size = H.size) (ho : ∀ q : Nat, q ≠ a → H1[q]? = H[q]?) (hw : zz_W K A ad w' H1) : zz_Z K A s ad w' H1 :=
  h.mut ⟨by omega, fun q _ h2 => ho q (fun e => h2 (by rw [e]; exact haA))⟩ hw
theorem zz_Z.E {K : zz_G} {A : Nat → Prop} {s : State} {ad : Nat → Nat → Nat} {w : Nat → Nat → Option va_E} {H : Heap} (h : zz_Z K A s ad w H) : zz_E K A s H := h.1
theorem zz_Z.A {K : zz_G} {A : Nat → Prop} {s : State} {ad : Nat → Nat → Nat} {w : Nat → Nat → Option va_E} {H : Heap} (h : zz_Z K A s ad w H) : ∀ q : Nat, H.size ≤ q → A q := h.2.1
theorem zz_Z.W {K : zz_G} {A : Nat → Prop} {s : State} {ad : Nat → Nat → Nat} {w : Nat → Nat → Option va_E} {H : Heap} (h : zz_Z K A s ad w H) : zz_W K A ad w H := h.2.2
def zx_el (ad : Nat → Nat → Nat) (N : Nat → Nat → Nat) (t : Nat) : Nat → Option Nat := fun i => if i < N 0 t then some (if t = 0 then ad 3 i else if t = 1 then ad 5 i else ad 5 (N 9 i)) else none
def zx_c (K : zz_G) (ad : Nat → Nat → Nat) (E : Nat → Nat → Int32) (cap : Nat → Nat) (N : Nat → Nat → Nat) (G : Nat → Nat → Int32) (L : Nat → Int64) : Nat → Nat → Option va_E := fun k => match k with
  | 0 => fun i => if i = 0 then some (.inr (5, [.ref (ad 1 0), .ref (ad 1 1), .ref (ad 1 2), .int (nI (N 12 0)), .int (nI (N 12 1)), .long (L 0), .long (L 1), .long (L 2)])) else none
  | 1 => fun t => if t < 3 then some (.inr (2, [.int (E 0 t), .ref (ad 2 t), .int (nI (N 0 t))])) else none
  | 2 => fun t => if t < 3 ∧ cap t ≠ 0 then some (.inl (K.2.1 2, cap t, .inr (.inr (.inr (.inr (zx_el ad N t)))))) else none
  | 3 => fun f => if f < N 0 0 then some (.inr (3, [.int (nI f), .int (nI (N 1 f)), .int (nI (N 2 f)), .int (nI (N 3 f)), .int (G 0 f), .int (G 1 f), .ref (ad 4 f)])) else none
  | 4 => fun f => if f < N 0 0 then some (.inl (K.2.1 0, 13, .inl (E (1 + f)))) else none
  | 5 => fun q => if q < N 0 1 then some (.inr (4, [.int (nI q), .int (nI (N 4 q)), .int (nI (N 5 q)), zz_rf (ad 3) (N 11 q), zz_rf (ad 3) (N 6 q), .int (nI (N 7 q)), .int (nI (N 8 q))])) else none
  | _ => fun _ => none
theorem zx_el_k {ad : Nat → Nat → Nat} {N : Nat → Nat → Nat} {k i v t : Nat} (h0 : 0 ≠ k) (h9 : 9 ≠ k) : zx_el ad (zu N k i v) t = zx_el ad N t := by
  funext j
  simp [zx_el, zu, h0, h9]
section ZX
variable {K : zz_G} {A : Nat → Prop} {ad : Nat → Nat → Nat} {E : Nat → Nat → Int32} {cap : Nat → Nat} {N : Nat → Nat → Nat} {G : Nat → Nat → Int32} {L : Nat → Int64} {H H1 : Heap}
theorem zx_ob (h : zz_W K A ad (zx_c K ad E cap N G L) H) : zz_at K (ad 0 0) (.inr (5, [.ref (ad 1 0), .ref (ad 1 1), .ref (ad 1 2), .int (nI (N 12 0)), .int (nI (N 12 1)), .long (L 0), .long (L 1), .long (L 2)])) H ∧ A (ad 0 0) := h.1 0 0 _ (by simp [zx_c])
theorem zx_li {t : Nat} (h : zz_W K A ad (zx_c K ad E cap N G L) H) (ht : t < 3) : zz_at K (ad 1 t) (.inr (2, [.int (E 0 t), .ref (ad 2 t), .int (nI (N 0 t))])) H ∧ A (ad 1 t) := h.1 1 t _ (by simp [zx_c, ht])
theorem zx_ar {t : Nat} (h : zz_W K A ad (zx_c K ad E cap N G L) H) (ht : t < 3) (hc : cap t ≠ 0) : zz_at K (ad 2 t) (.inl (K.2.1 2, cap t, .inr (.inr (.inr (.inr (zx_el ad N t)))))) H ∧ A (ad 2 t) := h.1 2 t _ (by simp [zx_c, ht, hc])
theorem zx_fl {f : Nat} (h : zz_W K A ad (zx_c K ad E cap N G L) H) (hf : f < N 0 0) : zz_at K (ad 3 f) (.inr (3, [.int (nI f), .int (nI (N 1 f)), .int (nI (N 2 f)), .int (nI (N 3 f)), .int (G 0 f), .int (G 1 f), .ref (ad 4 f)])) H ∧ A (ad 3 f) := h.1 3 f _ (by simp [zx_c, hf])
theorem zx_ks {f : Nat} (h : zz_W K A ad (zx_c K ad E cap N G L) H) (hf : f < N 0 0) : zz_at K (ad 4 f) (.inl (K.2.1 0, 13, .inl (E (1 + f)))) H ∧ A (ad 4 f) := h.1 4 f _ (by simp [zx_c, hf])
theorem zx_pe {q : Nat} (h : zz_W K A ad (zx_c K ad E cap N G L) H) (hq : q < N 0 1) : zz_at K (ad 5 q) (.inr (4, [.int (nI q), .int (nI (N 4 q)), .int (nI (N 5 q)), zz_rf (ad 3) (N 11 q), zz_rf (ad 3) (N 6 q), .int (nI (N 7 q)), .int (nI (N 8 q))])) H ∧ A (ad 5 q) := h.1 5 q _ (by simp [zx_c, hq])
theorem zx_inj3 (h : zz_W K A ad (zx_c K ad E cap N G L) H) {f g : Nat} (hf : f < N 0 0) (hg : g < N 0 0) (e : ad 3 f = ad 3 g) : f = g := (h.2 3 f _ 3 g _ (by simp [zx_c, hf]; rfl) (by simp [zx_c, hg]; rfl) e).2
theorem zx_inj5 (h : zz_W K A ad (zx_c K ad E cap N G L) H) {f g : Nat} (hf : f < N 0 1) (hg : g < N 0 1) (e : ad 5 f = ad 5 g) : f = g := (h.2 5 f _ 5 g _ (by simp [zx_c, hf]; rfl) (by simp [zx_c, hg]; rfl) e).2
theorem zx_seq (h : zz_W K A ad (zx_c K ad E cap N G L) H) {x f : Nat} (hx : x ≤ N 0 0) (hf : f < N 0 0) : zz_ro (ad 3) x = some (ad 3 f) ↔ x = f + 1 := by
  cases x with
  | zero => simp [zz_ro]
  | succ j =>
    simp only [zz_ro, Option.some.injEq]
    constructor
    · intro e; rw [zx_inj3 h (by omega) hf e]
    · intro e; rw [Nat.succ.inj e]
theorem zx_put_day {v : Nat} (h : zz_W K A ad (zx_c K ad E cap N G L) H) (hat : zz_at K (ad 0 0) (.inr (5, [.ref (ad 1 0), .ref (ad 1 1), .ref (ad 1 2), .int (nI v), .int (nI (N 12 1)), .long (L 0), .long (L 1), .long (L 2)])) H1) (ho : ∀ r : Nat, r ≠ ad 0 0 → H1[r]? = H[r]?) : zz_W K A ad (zx_c K ad E cap (zu N 12 0 v) G L) H1 := by
  refine h.put 0 0 (by simp [zx_c]; rfl) (by simp [zx_c, zu]; try rfl) hat ho (fun k' i' hn => ?_)
  match k' with
  | 0 | 1 | 2 | 3 | 4 | 5 => simp [zx_c, zx_el_k, zu] <;> (try (intros; simp_all)) <;> (try (congr 1; simp_all))
  | k + 6 => rfl
theorem zx_put_noShows {v : Nat} (h : zz_W K A ad (zx_c K ad E cap N G L) H) (hat : zz_at K (ad 0 0) (.inr (5, [.ref (ad 1 0), .ref (ad 1 1), .ref (ad 1 2), .int (nI (N 12 0)), .int (nI (v)), .long (L 0), .long (L 1), .long (L 2)])) H1) (ho : ∀ r : Nat, r ≠ ad 0 0 → H1[r]? = H[r]?) : zz_W K A ad (zx_c K ad E cap (zu N 12 1 v) G L) H1 := by
  refine h.put 0 0 (by simp [zx_c]; rfl) (by simp [zx_c, zu]; try rfl) hat ho (fun k' i' hn => ?_)
  match k' with
  | 0 | 1 | 2 | 3 | 4 | 5 => simp [zx_c, zx_el_k, zu] <;> (try (intros; simp_all)) <;> (try (congr 1; simp_all))
  | k + 6 => rfl
theorem zx_put_energy {v : Int64} (h : zz_W K A ad (zx_c K ad E cap N G L) H) (hat : zz_at K (ad 0 0) (.inr (5, [.ref (ad 1 0), .ref (ad 1 1), .ref (ad 1 2), .int (nI (N 12 0)), .int (nI (N 12 1)), .long (v), .long (L 1), .long (L 2)])) H1) (ho : ∀ r : Nat, r ≠ ad 0 0 → H1[r]? = H[r]?) : zz_W K A ad (zx_c K ad E cap N G (zl L 0 v)) H1 := by
  refine h.put 0 0 (by simp [zx_c]; rfl) (by simp [zx_c, zl]; try rfl) hat ho (fun k' i' hn => ?_)
  match k' with
  | 0 | 1 | 2 | 3 | 4 | 5 => simp [zx_c, zx_el_k, zl] <;> (try (intros; simp_all)) <;> (try (congr 1; simp_all))
  | k + 6 => rfl
theorem zx_put_discomfort {v : Int64} (h : zz_W K A ad (zx_c K ad E cap N G L) H) (hat : zz_at K (ad 0 0) (.inr (5, [.ref (ad 1 0), .ref (ad 1 1), .ref (ad 1 2), .int (nI (N 12 0)), .int (nI (N 12 1)), .long (L 0), .long (v), .long (L 2)])) H1) (ho : ∀ r : Nat, r ≠ ad 0 0 → H1[r]? = H[r]?) : zz_W K A ad (zx_c K ad E cap N G (zl L 1 v)) H1 := by
  refine h.put 0 0 (by simp [zx_c]; rfl) (by simp [zx_c, zl]; try rfl) hat ho (fun k' i' hn => ?_)
  match k' with
  | 0 | 1 | 2 | 3 | 4 | 5 => simp [zx_c, zx_el_k, zl] <;> (try (intros; simp_all)) <;> (try (congr 1; simp_all))
  | k + 6 => rfl
theorem zx_put_cleaning {v : Int64} (h : zz_W K A ad (zx_c K ad E cap N G L) H) (hat : zz_at K (ad 0 0) (.inr (5, [.ref (ad 1 0), .ref (ad 1 1), .ref (ad 1 2), .int (nI (N 12 0)), .int (nI (N 12 1)), .long (L 0), .long (L 1), .long (v)])) H1) (ho : ∀ r : Nat, r ≠ ad 0 0 → H1[r]? = H[r]?) : zz_W K A ad (zx_c K ad E cap N G (zl L 2 v)) H1 := by
  refine h.put 0 0 (by simp [zx_c]; rfl) (by simp [zx_c, zl]; try rfl) hat ho (fun k' i' hn => ?_)
  match k' with
  | 0 | 1 | 2 | 3 | 4 | 5 => simp [zx_c, zx_el_k, zl] <;> (try (intros; simp_all)) <;> (try (congr 1; simp_all))
  | k + 6 => rfl
theorem zx_put_cost {f v : Nat} (h : zz_W K A ad (zx_c K ad E cap N G L) H) (hf : f < N 0 0) (hat : zz_at K (ad 3 f) (.inr (3, [.int (nI f), .int (nI (N 1 f)), .int (nI (v)), .int (nI (N 3 f)), .int (G 0 f), .int (G 1 f), .ref (ad 4 f)])) H1) (ho : ∀ r : Nat, r ≠ ad 3 f → H1[r]? = H[r]?) : zz_W K A ad (zx_c K ad E cap (zu N 2 f v) G L) H1 := by
  refine h.put 3 f (by simp [zx_c, hf]; rfl) (by simp [zx_c, zu, hf]; try rfl) hat ho (fun k' i' hn => ?_)
  match k' with
  | 0 | 1 | 2 | 3 | 4 | 5 => simp [zx_c, zx_el_k, zu] <;> (try (intros; simp_all)) <;> (try (congr 1; simp_all))
  | k + 6 => rfl
theorem zx_put_open {f v : Nat} (h : zz_W K A ad (zx_c K ad E cap N G L) H) (hf : f < N 0 0) (hat : zz_at K (ad 3 f) (.inr (3, [.int (nI f), .int (nI (N 1 f)), .int (nI (N 2 f)), .int (nI (v)), .int (G 0 f), .int (G 1 f), .ref (ad 4 f)])) H1) (ho : ∀ r : Nat, r ≠ ad 3 f → H1[r]? = H[r]?) : zz_W K A ad (zx_c K ad E cap (zu N 3 f v) G L) H1 := by
  refine h.put 3 f (by simp [zx_c, hf]; rfl) (by simp [zx_c, zu, hf]; try rfl) hat ho (fun k' i' hn => ?_)
  match k' with
  | 0 | 1 | 2 | 3 | 4 | 5 => simp [zx_c, zx_el_k, zu] <;> (try (intros; simp_all)) <;> (try (congr 1; simp_all))
  | k + 6 => rfl
theorem zx_put_warmth {f : Nat} {v : Int32} (h : zz_W K A ad (zx_c K ad E cap N G L) H) (hf : f < N 0 0) (hat : zz_at K (ad 3 f) (.inr (3, [.int (nI f), .int (nI (N 1 f)), .int (nI (N 2 f)), .int (nI (N 3 f)), .int (v), .int (G 1 f), .ref (ad 4 f)])) H1) (ho : ∀ r : Nat, r ≠ ad 3 f → H1[r]? = H[r]?) : zz_W K A ad (zx_c K ad E cap N (zg G 0 f v) L) H1 := by
  refine h.put 3 f (by simp [zx_c, hf]; rfl) (by simp [zx_c, zg, hf]; try rfl) hat ho (fun k' i' hn => ?_)
  match k' with
  | 0 | 1 | 2 | 3 | 4 | 5 => simp [zx_c, zx_el_k, zg] <;> (try (intros; simp_all)) <;> (try (congr 1; simp_all))
  | k + 6 => rfl
theorem zx_put_air {f : Nat} {v : Int32} (h : zz_W K A ad (zx_c K ad E cap N G L) H) (hf : f < N 0 0) (hat : zz_at K (ad 3 f) (.inr (3, [.int (nI f), .int (nI (N 1 f)), .int (nI (N 2 f)), .int (nI (N 3 f)), .int (G 0 f), .int (v), .ref (ad 4 f)])) H1) (ho : ∀ r : Nat, r ≠ ad 3 f → H1[r]? = H[r]?) : zz_W K A ad (zx_c K ad E cap N (zg G 1 f v) L) H1 := by
  refine h.put 3 f (by simp [zx_c, hf]; rfl) (by simp [zx_c, zg, hf]; try rfl) hat ho (fun k' i' hn => ?_)
  match k' with
  | 0 | 1 | 2 | 3 | 4 | 5 => simp [zx_c, zx_el_k, zg] <;> (try (intros; simp_all)) <;> (try (congr 1; simp_all))
  | k + 6 => rfl
theorem zx_put_standing {q v : Nat} (h : zz_W K A ad (zx_c K ad E cap N G L) H) (hf : q < N 0 1) (hat : zz_at K (ad 5 q) (.inr (4, [.int (nI q), .int (nI (N 4 q)), .int (nI (v)), zz_rf (ad 3) (N 11 q), zz_rf (ad 3) (N 6 q), .int (nI (N 7 q)), .int (nI (N 8 q))])) H1) (ho : ∀ r : Nat, r ≠ ad 5 q → H1[r]? = H[r]?) : zz_W K A ad (zx_c K ad E cap (zu N 5 q v) G L) H1 := by
  refine h.put 5 q (by simp [zx_c, hf]; rfl) (by simp [zx_c, zu, hf]; try rfl) hat ho (fun k' i' hn => ?_)
  match k' with
  | 0 | 1 | 2 | 3 | 4 | 5 => simp [zx_c, zx_el_k, zu] <;> (try (intros; simp_all)) <;> (try (congr 1; simp_all))
  | k + 6 => rfl
theorem zx_put_wanted {q v : Nat} (h : zz_W K A ad (zx_c K ad E cap N G L) H) (hf : q < N 0 1) (hat : zz_at K (ad 5 q) (.inr (4, [.int (nI q), .int (nI (N 4 q)), .int (nI (N 5 q)), zz_rf (ad 3) (v), zz_rf (ad 3) (N 6 q), .int (nI (N 7 q)), .int (nI (N 8 q))])) H1) (ho : ∀ r : Nat, r ≠ ad 5 q → H1[r]? = H[r]?) : zz_W K A ad (zx_c K ad E cap (zu N 11 q v) G L) H1 := by
  refine h.put 5 q (by simp [zx_c, hf]; rfl) (by simp [zx_c, zu, hf]; try rfl) hat ho (fun k' i' hn => ?_)
  match k' with
  | 0 | 1 | 2 | 3 | 4 | 5 => simp [zx_c, zx_el_k, zu] <;> (try (intros; simp_all)) <;> (try (congr 1; simp_all))
  | k + 6 => rfl
theorem zx_put_seat {q v : Nat} (h : zz_W K A ad (zx_c K ad E cap N G L) H) (hf : q < N 0 1) (hat : zz_at K (ad 5 q) (.inr (4, [.int (nI q), .int (nI (N 4 q)), .int (nI (N 5 q)), zz_rf (ad 3) (N 11 q), zz_rf (ad 3) (v), .int (nI (N 7 q)), .int (nI (N 8 q))])) H1) (ho : ∀ r : Nat, r ≠ ad 5 q → H1[r]? = H[r]?) : zz_W K A ad (zx_c K ad E cap (zu N 6 q v) G L) H1 := by
  refine h.put 5 q (by simp [zx_c, hf]; rfl) (by simp [zx_c, zu, hf]; try rfl) hat ho (fun k' i' hn => ?_)
  match k' with
  | 0 | 1 | 2 | 3 | 4 | 5 => simp [zx_c, zx_el_k, zu] <;> (try (intros; simp_all)) <;> (try (congr 1; simp_all))
  | k + 6 => rfl
theorem zx_put_in {q v : Nat} (h : zz_W K A ad (zx_c K ad E cap N G L) H) (hf : q < N 0 1) (hat : zz_at K (ad 5 q) (.inr (4, [.int (nI q), .int (nI (N 4 q)), .int (nI (N 5 q)), zz_rf (ad 3) (N 11 q), zz_rf (ad 3) (N 6 q), .int (nI (v)), .int (nI (N 8 q))])) H1) (ho : ∀ r : Nat, r ≠ ad 5 q → H1[r]? = H[r]?) : zz_W K A ad (zx_c K ad E cap (zu N 7 q v) G L) H1 := by
  refine h.put 5 q (by simp [zx_c, hf]; rfl) (by simp [zx_c, zu, hf]; try rfl) hat ho (fun k' i' hn => ?_)
  match k' with
  | 0 | 1 | 2 | 3 | 4 | 5 => simp [zx_c, zx_el_k, zu] <;> (try (intros; simp_all)) <;> (try (congr 1; simp_all))
  | k + 6 => rfl
theorem zx_put_came {q v : Nat} (h : zz_W K A ad (zx_c K ad E cap N G L) H) (hf : q < N 0 1) (hat : zz_at K (ad 5 q) (.inr (4, [.int (nI q), .int (nI (N 4 q)), .int (nI (N 5 q)), zz_rf (ad 3) (N 11 q), zz_rf (ad 3) (N 6 q), .int (nI (N 7 q)), .int (nI (v))])) H1) (ho : ∀ r : Nat, r ≠ ad 5 q → H1[r]? = H[r]?) : zz_W K A ad (zx_c K ad E cap (zu N 8 q v) G L) H1 := by
  refine h.put 5 q (by simp [zx_c, hf]; rfl) (by simp [zx_c, zu, hf]; try rfl) hat ho (fun k' i' hn => ?_)
  match k' with
  | 0 | 1 | 2 | 3 | 4 | 5 => simp [zx_c, zx_el_k, zu] <;> (try (intros; simp_all)) <;> (try (congr 1; simp_all))
  | k + 6 => rfl
end ZX
def zm_a (K : zz_G) (N : Nat → Nat → Nat) (G : Nat → Nat → Int32) : Nat → Option va_E := fun j => match j with
  | 0 => some (.inl (K.2.1 0, 6, .inl (fun i => nI (N 1 i))))
  | 1 => some (.inl (K.2.1 0, 6, .inl (fun i => nI (N 2 i))))
  | 2 => some (.inl (K.2.1 0, 6, .inl (fun i => G 0 i)))
  | 3 => some (.inl (K.2.1 0, 6, .inl (fun i => G 1 i)))
  | 4 => some (.inl (K.2.1 1, 6, .inl (fun i => nI (N 3 i))))
  | 5 => some (.inl (K.2.1 0, 12, .inl (fun i => nI (N 4 i))))
  | 6 => some (.inl (K.2.1 0, 12, .inl (fun i => nI (N 5 i))))
  | 7 => some (.inl (K.2.1 0, 12, .inl (fun i => nI (N 6 i) - 1)))
  | 8 => some (.inl (K.2.1 1, 12, .inl (fun i => nI (N 7 i))))
  | 9 => some (.inl (K.2.1 1, 12, .inl (fun i => nI (N 8 i))))
  | 10 => some (.inl (K.2.1 1, 12, .inl (fun _ => 0)))
  | 11 => some (.inl (K.2.1 0, 12, .inl (fun i => nI (N 9 i))))
  | 12 => some (.inl (K.2.1 0, 12, .inl (fun i => nI (N 10 i))))
  | _ => none
def zm_c (K : zz_G) (ad : Nat → Nat → Nat) (th : Int32) (N : Nat → Nat → Nat) (G : Nat → Nat → Int32) (L : Nat → Int64) : Nat → Nat → Option va_E := fun k => match k with
  | 0 => fun i => if i = 0 then some (.inr (6, [.int th, .int (nI (N 0 0)), .int (nI (N 0 1)), .int (nI (N 0 2)), .int (nI (N 12 0)), .int (nI (N 12 1)), .ref (ad 1 0), .ref (ad 1 1), .ref (ad 1 2), .ref (ad 1 3), .ref (ad 1 4), .ref (ad 1 5), .ref (ad 1 6), .ref (ad 1 7), .ref (ad 1 8), .ref (ad 1 9), .ref (ad 1 10), .ref (ad 1 11), .ref (ad 1 12), .long (L 0), .long (L 1), .long (L 2)])) else none
  | 1 => fun j => zm_a K N G j
  | _ => fun _ => none
section ZM
variable {K : zz_G} {A : Nat → Prop} {ad : Nat → Nat → Nat} {th : Int32} {N : Nat → Nat → Nat} {G : Nat → Nat → Int32} {L : Nat → Int64} {H H1 : Heap}
theorem zm_ob (h : zz_W K A ad (zm_c K ad th N G L) H) : zz_at K (ad 0 0) (.inr (6, [.int th, .int (nI (N 0 0)), .int (nI (N 0 1)), .int (nI (N 0 2)), .int (nI (N 12 0)), .int (nI (N 12 1)), .ref (ad 1 0), .ref (ad 1 1), .ref (ad 1 2), .ref (ad 1 3), .ref (ad 1 4), .ref (ad 1 5), .ref (ad 1 6), .ref (ad 1 7), .ref (ad 1 8), .ref (ad 1 9), .ref (ad 1 10), .ref (ad 1 11), .ref (ad 1 12), .long (L 0), .long (L 1), .long (L 2)])) H ∧ A (ad 0 0) := h.1 0 0 _ (by simp [zm_c])
theorem zm_seats (h : zz_W K A ad (zm_c K ad th N G L) H) : zz_at K (ad 1 0) (.inl (K.2.1 0, 6, .inl (fun i => nI (N 1 i)))) H ∧ A (ad 1 0) := h.1 1 0 _ rfl
theorem zm_cost (h : zz_W K A ad (zm_c K ad th N G L) H) : zz_at K (ad 1 1) (.inl (K.2.1 0, 6, .inl (fun i => nI (N 2 i)))) H ∧ A (ad 1 1) := h.1 1 1 _ rfl
theorem zm_warmth (h : zz_W K A ad (zm_c K ad th N G L) H) : zz_at K (ad 1 2) (.inl (K.2.1 0, 6, .inl (fun i => G 0 i))) H ∧ A (ad 1 2) := h.1 1 2 _ rfl
theorem zm_air (h : zz_W K A ad (zm_c K ad th N G L) H) : zz_at K (ad 1 3) (.inl (K.2.1 0, 6, .inl (fun i => G 1 i))) H ∧ A (ad 1 3) := h.1 1 3 _ rfl
theorem zm_isOpen (h : zz_W K A ad (zm_c K ad th N G L) H) : zz_at K (ad 1 4) (.inl (K.2.1 1, 6, .inl (fun i => nI (N 3 i)))) H ∧ A (ad 1 4) := h.1 1 4 _ rfl
theorem zm_team (h : zz_W K A ad (zm_c K ad th N G L) H) : zz_at K (ad 1 5) (.inl (K.2.1 0, 12, .inl (fun i => nI (N 4 i)))) H ∧ A (ad 1 5) := h.1 1 5 _ rfl
theorem zm_standing (h : zz_W K A ad (zm_c K ad th N G L) H) : zz_at K (ad 1 6) (.inl (K.2.1 0, 12, .inl (fun i => nI (N 5 i)))) H ∧ A (ad 1 6) := h.1 1 6 _ rfl
theorem zm_seat (h : zz_W K A ad (zm_c K ad th N G L) H) : zz_at K (ad 1 7) (.inl (K.2.1 0, 12, .inl (fun i => nI (N 6 i) - 1))) H ∧ A (ad 1 7) := h.1 1 7 _ rfl
theorem zm_isIn (h : zz_W K A ad (zm_c K ad th N G L) H) : zz_at K (ad 1 8) (.inl (K.2.1 1, 12, .inl (fun i => nI (N 7 i)))) H ∧ A (ad 1 8) := h.1 1 8 _ rfl
theorem zm_hasCome (h : zz_W K A ad (zm_c K ad th N G L) H) : zz_at K (ad 1 9) (.inl (K.2.1 1, 12, .inl (fun i => nI (N 8 i)))) H ∧ A (ad 1 9) := h.1 1 9 _ rfl
theorem zm_isServed (h : zz_W K A ad (zm_c K ad th N G L) H) : zz_at K (ad 1 10) (.inl (K.2.1 1, 12, .inl (fun _ => 0))) H ∧ A (ad 1 10) := h.1 1 10 _ rfl
theorem zm_booker (h : zz_W K A ad (zm_c K ad th N G L) H) : zz_at K (ad 1 11) (.inl (K.2.1 0, 12, .inl (fun i => nI (N 9 i)))) H ∧ A (ad 1 11) := h.1 1 11 _ rfl
theorem zm_wanted (h : zz_W K A ad (zm_c K ad th N G L) H) : zz_at K (ad 1 12) (.inl (K.2.1 0, 12, .inl (fun i => nI (N 10 i)))) H ∧ A (ad 1 12) := h.1 1 12 _ rfl
theorem zm_put_thrown {v : Int32} (h : zz_W K A ad (zm_c K ad th N G L) H) (hat : zz_at K (ad 0 0) (.inr (6, [.int v, .int (nI (N 0 0)), .int (nI (N 0 1)), .int (nI (N 0 2)), .int (nI (N 12 0)), .int (nI (N 12 1)), .ref (ad 1 0), .ref (ad 1 1), .ref (ad 1 2), .ref (ad 1 3), .ref (ad 1 4), .ref (ad 1 5), .ref (ad 1 6), .ref (ad 1 7), .ref (ad 1 8), .ref (ad 1 9), .ref (ad 1 10), .ref (ad 1 11), .ref (ad 1 12), .long (L 0), .long (L 1), .long (L 2)])) H1) (ho : ∀ q : Nat, q ≠ ad 0 0 → H1[q]? = H[q]?) : zz_W K A ad (zm_c K ad v N G L) H1 := by
  refine h.put 0 0 (by simp [zm_c]; rfl) (by simp [zm_c, zm_c]; try rfl) hat ho (fun k' i' hn => ?_)
  match k' with
  | 0 => simp [zm_c] <;> (try (intros; simp_all))
  | 1 => rfl
  | k + 2 => rfl
theorem zm_put_floors {v : Nat} (h : zz_W K A ad (zm_c K ad th N G L) H) (hat : zz_at K (ad 0 0) (.inr (6, [.int th, .int (nI (v)), .int (nI (N 0 1)), .int (nI (N 0 2)), .int (nI (N 12 0)), .int (nI (N 12 1)), .ref (ad 1 0), .ref (ad 1 1), .ref (ad 1 2), .ref (ad 1 3), .ref (ad 1 4), .ref (ad 1 5), .ref (ad 1 6), .ref (ad 1 7), .ref (ad 1 8), .ref (ad 1 9), .ref (ad 1 10), .ref (ad 1 11), .ref (ad 1 12), .long (L 0), .long (L 1), .long (L 2)])) H1) (ho : ∀ q : Nat, q ≠ ad 0 0 → H1[q]? = H[q]?) : zz_W K A ad (zm_c K ad th (zu N 0 0 v) G L) H1 := by
  refine h.put 0 0 (by simp [zm_c]; rfl) (by simp [zm_c, zu]; try rfl) hat ho (fun k' i' hn => ?_)
  match k' with
  | 0 => simp [zm_c] <;> (try (intros; simp_all))
  | 1 => rfl
  | k + 2 => rfl
theorem zm_put_people {v : Nat} (h : zz_W K A ad (zm_c K ad th N G L) H) (hat : zz_at K (ad 0 0) (.inr (6, [.int th, .int (nI (N 0 0)), .int (nI (v)), .int (nI (N 0 2)), .int (nI (N 12 0)), .int (nI (N 12 1)), .ref (ad 1 0), .ref (ad 1 1), .ref (ad 1 2), .ref (ad 1 3), .ref (ad 1 4), .ref (ad 1 5), .ref (ad 1 6), .ref (ad 1 7), .ref (ad 1 8), .ref (ad 1 9), .ref (ad 1 10), .ref (ad 1 11), .ref (ad 1 12), .long (L 0), .long (L 1), .long (L 2)])) H1) (ho : ∀ q : Nat, q ≠ ad 0 0 → H1[q]? = H[q]?) : zz_W K A ad (zm_c K ad th (zu N 0 1 v) G L) H1 := by
  refine h.put 0 0 (by simp [zm_c]; rfl) (by simp [zm_c, zu]; try rfl) hat ho (fun k' i' hn => ?_)
  match k' with
  | 0 => simp [zm_c] <;> (try (intros; simp_all))
  | 1 => rfl
  | k + 2 => rfl
theorem zm_put_bookings {v : Nat} (h : zz_W K A ad (zm_c K ad th N G L) H) (hat : zz_at K (ad 0 0) (.inr (6, [.int th, .int (nI (N 0 0)), .int (nI (N 0 1)), .int (nI (v)), .int (nI (N 12 0)), .int (nI (N 12 1)), .ref (ad 1 0), .ref (ad 1 1), .ref (ad 1 2), .ref (ad 1 3), .ref (ad 1 4), .ref (ad 1 5), .ref (ad 1 6), .ref (ad 1 7), .ref (ad 1 8), .ref (ad 1 9), .ref (ad 1 10), .ref (ad 1 11), .ref (ad 1 12), .long (L 0), .long (L 1), .long (L 2)])) H1) (ho : ∀ q : Nat, q ≠ ad 0 0 → H1[q]? = H[q]?) : zz_W K A ad (zm_c K ad th (zu N 0 2 v) G L) H1 := by
  refine h.put 0 0 (by simp [zm_c]; rfl) (by simp [zm_c, zu]; try rfl) hat ho (fun k' i' hn => ?_)
  match k' with
  | 0 => simp [zm_c] <;> (try (intros; simp_all))
  | 1 => rfl
  | k + 2 => rfl
theorem zm_put_day {v : Nat} (h : zz_W K A ad (zm_c K ad th N G L) H) (hat : zz_at K (ad 0 0) (.inr (6, [.int th, .int (nI (N 0 0)), .int (nI (N 0 1)), .int (nI (N 0 2)), .int (nI (v)), .int (nI (N 12 1)), .ref (ad 1 0), .ref (ad 1 1), .ref (ad 1 2), .ref (ad 1 3), .ref (ad 1 4), .ref (ad 1 5), .ref (ad 1 6), .ref (ad 1 7), .ref (ad 1 8), .ref (ad 1 9), .ref (ad 1 10), .ref (ad 1 11), .ref (ad 1 12), .long (L 0), .long (L 1), .long (L 2)])) H1) (ho : ∀ q : Nat, q ≠ ad 0 0 → H1[q]? = H[q]?) : zz_W K A ad (zm_c K ad th (zu N 12 0 v) G L) H1 := by
  refine h.put 0 0 (by simp [zm_c]; rfl) (by simp [zm_c, zu]; try rfl) hat ho (fun k' i' hn => ?_)
  match k' with
  | 0 => simp [zm_c] <;> (try (intros; simp_all))
  | 1 => rfl
  | k + 2 => rfl
theorem zm_put_noShows {v : Nat} (h : zz_W K A ad (zm_c K ad th N G L) H) (hat : zz_at K (ad 0 0) (.inr (6, [.int th, .int (nI (N 0 0)), .int (nI (N 0 1)), .int (nI (N 0 2)), .int (nI (N 12 0)), .int (nI (v)), .ref (ad 1 0), .ref (ad 1 1), .ref (ad 1 2), .ref (ad 1 3), .ref (ad 1 4), .ref (ad 1 5), .ref (ad 1 6), .ref (ad 1 7), .ref (ad 1 8), .ref (ad 1 9), .ref (ad 1 10), .ref (ad 1 11), .ref (ad 1 12), .long (L 0), .long (L 1), .long (L 2)])) H1) (ho : ∀ q : Nat, q ≠ ad 0 0 → H1[q]? = H[q]?) : zz_W K A ad (zm_c K ad th (zu N 12 1 v) G L) H1 := by
  refine h.put 0 0 (by simp [zm_c]; rfl) (by simp [zm_c, zu]; try rfl) hat ho (fun k' i' hn => ?_)
  match k' with
  | 0 => simp [zm_c] <;> (try (intros; simp_all))
  | 1 => rfl
  | k + 2 => rfl
theorem zm_put_menergy {v : Int64} (h : zz_W K A ad (zm_c K ad th N G L) H) (hat : zz_at K (ad 0 0) (.inr (6, [.int th, .int (nI (N 0 0)), .int (nI (N 0 1)), .int (nI (N 0 2)), .int (nI (N 12 0)), .int (nI (N 12 1)), .ref (ad 1 0), .ref (ad 1 1), .ref (ad 1 2), .ref (ad 1 3), .ref (ad 1 4), .ref (ad 1 5), .ref (ad 1 6), .ref (ad 1 7), .ref (ad 1 8), .ref (ad 1 9), .ref (ad 1 10), .ref (ad 1 11), .ref (ad 1 12), .long (v), .long (L 1), .long (L 2)])) H1) (ho : ∀ q : Nat, q ≠ ad 0 0 → H1[q]? = H[q]?) : zz_W K A ad (zm_c K ad th N G (zl L 0 v)) H1 := by
  refine h.put 0 0 (by simp [zm_c]; rfl) (by simp [zm_c, zl]; try rfl) hat ho (fun k' i' hn => ?_)
  match k' with
  | 0 => simp [zm_c] <;> (try (intros; simp_all))
  | 1 => rfl
  | k + 2 => rfl
theorem zm_put_mdiscomfort {v : Int64} (h : zz_W K A ad (zm_c K ad th N G L) H) (hat : zz_at K (ad 0 0) (.inr (6, [.int th, .int (nI (N 0 0)), .int (nI (N 0 1)), .int (nI (N 0 2)), .int (nI (N 12 0)), .int (nI (N 12 1)), .ref (ad 1 0), .ref (ad 1 1), .ref (ad 1 2), .ref (ad 1 3), .ref (ad 1 4), .ref (ad 1 5), .ref (ad 1 6), .ref (ad 1 7), .ref (ad 1 8), .ref (ad 1 9), .ref (ad 1 10), .ref (ad 1 11), .ref (ad 1 12), .long (L 0), .long (v), .long (L 2)])) H1) (ho : ∀ q : Nat, q ≠ ad 0 0 → H1[q]? = H[q]?) : zz_W K A ad (zm_c K ad th N G (zl L 1 v)) H1 := by
  refine h.put 0 0 (by simp [zm_c]; rfl) (by simp [zm_c, zl]; try rfl) hat ho (fun k' i' hn => ?_)
  match k' with
  | 0 => simp [zm_c] <;> (try (intros; simp_all))
  | 1 => rfl
  | k + 2 => rfl
theorem zm_put_mcleaning {v : Int64} (h : zz_W K A ad (zm_c K ad th N G L) H) (hat : zz_at K (ad 0 0) (.inr (6, [.int th, .int (nI (N 0 0)), .int (nI (N 0 1)), .int (nI (N 0 2)), .int (nI (N 12 0)), .int (nI (N 12 1)), .ref (ad 1 0), .ref (ad 1 1), .ref (ad 1 2), .ref (ad 1 3), .ref (ad 1 4), .ref (ad 1 5), .ref (ad 1 6), .ref (ad 1 7), .ref (ad 1 8), .ref (ad 1 9), .ref (ad 1 10), .ref (ad 1 11), .ref (ad 1 12), .long (L 0), .long (L 1), .long (v)])) H1) (ho : ∀ q : Nat, q ≠ ad 0 0 → H1[q]? = H[q]?) : zz_W K A ad (zm_c K ad th N G (zl L 2 v)) H1 := by
  refine h.put 0 0 (by simp [zm_c]; rfl) (by simp [zm_c, zl]; try rfl) hat ho (fun k' i' hn => ?_)
  match k' with
  | 0 => simp [zm_c] <;> (try (intros; simp_all))
  | 1 => rfl
  | k + 2 => rfl
theorem zm_put_a_seats {i v : Nat} {x y : Int32} (h : zz_W K A ad (zm_c K ad th N G L) H) (hi : i < 6) (hx : x.toNatClampNeg = i) (hy : y = nI v) (hat : zz_at K (ad 1 0) (.inl (K.2.1 0, 6, .inl (upd (fun i => nI (N 1 i)) x.toNatClampNeg y))) H1) (ho : ∀ q : Nat, q ≠ ad 1 0 → H1[q]? = H[q]?) : zz_W K A ad (zm_c K ad th (zu N 1 i v) G L) H1 := by
  subst hy
  rw [hx] at hat
  refine h.put 1 0 rfl rfl ?_ ho (fun k' i' hn => ?_)
  · refine (congrArg (fun f => zz_at K (ad 1 0) (.inl (K.2.1 0, 6, .inl f)) H1) (funext fun j => ?_)).mp hat
    by_cases hj : j = i
    · subst hj; simp [upd, zu]
    · simp [upd, zu, hj]
  · match k', i' with
    | 0, _ => rfl
    | 1, 0 | 1, 1 | 1, 2 | 1, 3 | 1, 4 | 1, 5 | 1, 6 | 1, 7 | 1, 8 | 1, 9 | 1, 10 | 1, 11 | 1, 12 => first | rfl | exact absurd ⟨rfl, rfl⟩ hn
    | 1, j + 13 => rfl
    | k + 2, _ => rfl
theorem zm_put_a_cost {i v : Nat} {x y : Int32} (h : zz_W K A ad (zm_c K ad th N G L) H) (hi : i < 6) (hx : x.toNatClampNeg = i) (hy : y = nI v) (hat : zz_at K (ad 1 1) (.inl (K.2.1 0, 6, .inl (upd (fun i => nI (N 2 i)) x.toNatClampNeg y))) H1) (ho : ∀ q : Nat, q ≠ ad 1 1 → H1[q]? = H[q]?) : zz_W K A ad (zm_c K ad th (zu N 2 i v) G L) H1 := by
  subst hy
  rw [hx] at hat
  refine h.put 1 1 rfl rfl ?_ ho (fun k' i' hn => ?_)
  · refine (congrArg (fun f => zz_at K (ad 1 1) (.inl (K.2.1 0, 6, .inl f)) H1) (funext fun j => ?_)).mp hat
    by_cases hj : j = i
    · subst hj; simp [upd, zu]
    · simp [upd, zu, hj]
  · match k', i' with
    | 0, _ => rfl
    | 1, 0 | 1, 1 | 1, 2 | 1, 3 | 1, 4 | 1, 5 | 1, 6 | 1, 7 | 1, 8 | 1, 9 | 1, 10 | 1, 11 | 1, 12 => first | rfl | exact absurd ⟨rfl, rfl⟩ hn
    | 1, j + 13 => rfl
    | k + 2, _ => rfl
theorem zm_put_a_warmth {i : Nat} {v : Int32} {x y : Int32} (h : zz_W K A ad (zm_c K ad th N G L) H) (hi : i < 6) (hx : x.toNatClampNeg = i) (hy : y = v) (hat : zz_at K (ad 1 2) (.inl (K.2.1 0, 6, .inl (upd (fun i => G 0 i) x.toNatClampNeg y))) H1) (ho : ∀ q : Nat, q ≠ ad 1 2 → H1[q]? = H[q]?) : zz_W K A ad (zm_c K ad th N (zg G 0 i v) L) H1 := by
  subst hy
  rw [hx] at hat
  refine h.put 1 2 rfl rfl ?_ ho (fun k' i' hn => ?_)
  · refine (congrArg (fun f => zz_at K (ad 1 2) (.inl (K.2.1 0, 6, .inl f)) H1) (funext fun j => ?_)).mp hat
    by_cases hj : j = i
    · subst hj; simp [upd, zg]
    · simp [upd, zg, hj]
  · match k', i' with
    | 0, _ => rfl
    | 1, 0 | 1, 1 | 1, 2 | 1, 3 | 1, 4 | 1, 5 | 1, 6 | 1, 7 | 1, 8 | 1, 9 | 1, 10 | 1, 11 | 1, 12 => first | rfl | exact absurd ⟨rfl, rfl⟩ hn
    | 1, j + 13 => rfl
    | k + 2, _ => rfl
theorem zm_put_a_air {i : Nat} {v : Int32} {x y : Int32} (h : zz_W K A ad (zm_c K ad th N G L) H) (hi : i < 6) (hx : x.toNatClampNeg = i) (hy : y = v) (hat : zz_at K (ad 1 3) (.inl (K.2.1 0, 6, .inl (upd (fun i => G 1 i) x.toNatClampNeg y))) H1) (ho : ∀ q : Nat, q ≠ ad 1 3 → H1[q]? = H[q]?) : zz_W K A ad (zm_c K ad th N (zg G 1 i v) L) H1 := by
  subst hy
  rw [hx] at hat
  refine h.put 1 3 rfl rfl ?_ ho (fun k' i' hn => ?_)
  · refine (congrArg (fun f => zz_at K (ad 1 3) (.inl (K.2.1 0, 6, .inl f)) H1) (funext fun j => ?_)).mp hat
    by_cases hj : j = i
    · subst hj; simp [upd, zg]
    · simp [upd, zg, hj]
  · match k', i' with
    | 0, _ => rfl
    | 1, 0 | 1, 1 | 1, 2 | 1, 3 | 1, 4 | 1, 5 | 1, 6 | 1, 7 | 1, 8 | 1, 9 | 1, 10 | 1, 11 | 1, 12 => first | rfl | exact absurd ⟨rfl, rfl⟩ hn
    | 1, j + 13 => rfl
    | k + 2, _ => rfl
theorem zm_put_a_isOpen {i v : Nat} {x y : Int32} (h : zz_W K A ad (zm_c K ad th N G L) H) (hi : i < 6) (hx : x.toNatClampNeg = i) (hy : y = nI v) (hat : zz_at K (ad 1 4) (.inl (K.2.1 1, 6, .inl (upd (fun i => nI (N 3 i)) x.toNatClampNeg y))) H1) (ho : ∀ q : Nat, q ≠ ad 1 4 → H1[q]? = H[q]?) : zz_W K A ad (zm_c K ad th (zu N 3 i v) G L) H1 := by
  subst hy
  rw [hx] at hat
  refine h.put 1 4 rfl rfl ?_ ho (fun k' i' hn => ?_)
  · refine (congrArg (fun f => zz_at K (ad 1 4) (.inl (K.2.1 1, 6, .inl f)) H1) (funext fun j => ?_)).mp hat
    by_cases hj : j = i
    · subst hj; simp [upd, zu]
    · simp [upd, zu, hj]
  · match k', i' with
    | 0, _ => rfl
    | 1, 0 | 1, 1 | 1, 2 | 1, 3 | 1, 4 | 1, 5 | 1, 6 | 1, 7 | 1, 8 | 1, 9 | 1, 10 | 1, 11 | 1, 12 => first | rfl | exact absurd ⟨rfl, rfl⟩ hn
    | 1, j + 13 => rfl
    | k + 2, _ => rfl
theorem zm_put_a_team {i v : Nat} {x y : Int32} (h : zz_W K A ad (zm_c K ad th N G L) H) (hi : i < 12) (hx : x.toNatClampNeg = i) (hy : y = nI v) (hat : zz_at K (ad 1 5) (.inl (K.2.1 0, 12, .inl (upd (fun i => nI (N 4 i)) x.toNatClampNeg y))) H1) (ho : ∀ q : Nat, q ≠ ad 1 5 → H1[q]? = H[q]?) : zz_W K A ad (zm_c K ad th (zu N 4 i v) G L) H1 := by
  subst hy
  rw [hx] at hat
  refine h.put 1 5 rfl rfl ?_ ho (fun k' i' hn => ?_)
  · refine (congrArg (fun f => zz_at K (ad 1 5) (.inl (K.2.1 0, 12, .inl f)) H1) (funext fun j => ?_)).mp hat
    by_cases hj : j = i
    · subst hj; simp [upd, zu]
    · simp [upd, zu, hj]
  · match k', i' with
    | 0, _ => rfl
    | 1, 0 | 1, 1 | 1, 2 | 1, 3 | 1, 4 | 1, 5 | 1, 6 | 1, 7 | 1, 8 | 1, 9 | 1, 10 | 1, 11 | 1, 12 => first | rfl | exact absurd ⟨rfl, rfl⟩ hn
    | 1, j + 13 => rfl
    | k + 2, _ => rfl
theorem zm_put_a_standing {i v : Nat} {x y : Int32} (h : zz_W K A ad (zm_c K ad th N G L) H) (hi : i < 12) (hx : x.toNatClampNeg = i) (hy : y = nI v) (hat : zz_at K (ad 1 6) (.inl (K.2.1 0, 12, .inl (upd (fun i => nI (N 5 i)) x.toNatClampNeg y))) H1) (ho : ∀ q : Nat, q ≠ ad 1 6 → H1[q]? = H[q]?) : zz_W K A ad (zm_c K ad th (zu N 5 i v) G L) H1 := by
  subst hy
  rw [hx] at hat
  refine h.put 1 6 rfl rfl ?_ ho (fun k' i' hn => ?_)
  · refine (congrArg (fun f => zz_at K (ad 1 6) (.inl (K.2.1 0, 12, .inl f)) H1) (funext fun j => ?_)).mp hat
    by_cases hj : j = i
    · subst hj; simp [upd, zu]
    · simp [upd, zu, hj]
  · match k', i' with
    | 0, _ => rfl
    | 1, 0 | 1, 1 | 1, 2 | 1, 3 | 1, 4 | 1, 5 | 1, 6 | 1, 7 | 1, 8 | 1, 9 | 1, 10 | 1, 11 | 1, 12 => first | rfl | exact absurd ⟨rfl, rfl⟩ hn
    | 1, j + 13 => rfl
    | k + 2, _ => rfl
theorem zm_put_a_seat {i v : Nat} {x y : Int32} (h : zz_W K A ad (zm_c K ad th N G L) H) (hi : i < 12) (hx : x.toNatClampNeg = i) (hy : y = nI v - 1) (hat : zz_at K (ad 1 7) (.inl (K.2.1 0, 12, .inl (upd (fun i => nI (N 6 i) - 1) x.toNatClampNeg y))) H1) (ho : ∀ q : Nat, q ≠ ad 1 7 → H1[q]? = H[q]?) : zz_W K A ad (zm_c K ad th (zu N 6 i v) G L) H1 := by
  subst hy
  rw [hx] at hat
  refine h.put 1 7 rfl rfl ?_ ho (fun k' i' hn => ?_)
  · refine (congrArg (fun f => zz_at K (ad 1 7) (.inl (K.2.1 0, 12, .inl f)) H1) (funext fun j => ?_)).mp hat
    by_cases hj : j = i
    · subst hj; simp [upd, zu]
    · simp [upd, zu, hj]
  · match k', i' with
    | 0, _ => rfl
    | 1, 0 | 1, 1 | 1, 2 | 1, 3 | 1, 4 | 1, 5 | 1, 6 | 1, 7 | 1, 8 | 1, 9 | 1, 10 | 1, 11 | 1, 12 => first | rfl | exact absurd ⟨rfl, rfl⟩ hn
    | 1, j + 13 => rfl
    | k + 2, _ => rfl
theorem zm_put_a_isIn {i v : Nat} {x y : Int32} (h : zz_W K A ad (zm_c K ad th N G L) H) (hi : i < 12) (hx : x.toNatClampNeg = i) (hy : y = nI v) (hat : zz_at K (ad 1 8) (.inl (K.2.1 1, 12, .inl (upd (fun i => nI (N 7 i)) x.toNatClampNeg y))) H1) (ho : ∀ q : Nat, q ≠ ad 1 8 → H1[q]? = H[q]?) : zz_W K A ad (zm_c K ad th (zu N 7 i v) G L) H1 := by
  subst hy
  rw [hx] at hat
  refine h.put 1 8 rfl rfl ?_ ho (fun k' i' hn => ?_)
  · refine (congrArg (fun f => zz_at K (ad 1 8) (.inl (K.2.1 1, 12, .inl f)) H1) (funext fun j => ?_)).mp hat
    by_cases hj : j = i
    · subst hj; simp [upd, zu]
    · simp [upd, zu, hj]
  · match k', i' with
    | 0, _ => rfl
    | 1, 0 | 1, 1 | 1, 2 | 1, 3 | 1, 4 | 1, 5 | 1, 6 | 1, 7 | 1, 8 | 1, 9 | 1, 10 | 1, 11 | 1, 12 => first | rfl | exact absurd ⟨rfl, rfl⟩ hn
    | 1, j + 13 => rfl
    | k + 2, _ => rfl
theorem zm_put_a_hasCome {i v : Nat} {x y : Int32} (h : zz_W K A ad (zm_c K ad th N G L) H) (hi : i < 12) (hx : x.toNatClampNeg = i) (hy : y = nI v) (hat : zz_at K (ad 1 9) (.inl (K.2.1 1, 12, .inl (upd (fun i => nI (N 8 i)) x.toNatClampNeg y))) H1) (ho : ∀ q : Nat, q ≠ ad 1 9 → H1[q]? = H[q]?) : zz_W K A ad (zm_c K ad th (zu N 8 i v) G L) H1 := by
  subst hy
  rw [hx] at hat
  refine h.put 1 9 rfl rfl ?_ ho (fun k' i' hn => ?_)
  · refine (congrArg (fun f => zz_at K (ad 1 9) (.inl (K.2.1 1, 12, .inl f)) H1) (funext fun j => ?_)).mp hat
    by_cases hj : j = i
    · subst hj; simp [upd, zu]
    · simp [upd, zu, hj]
  · match k', i' with
    | 0, _ => rfl
    | 1, 0 | 1, 1 | 1, 2 | 1, 3 | 1, 4 | 1, 5 | 1, 6 | 1, 7 | 1, 8 | 1, 9 | 1, 10 | 1, 11 | 1, 12 => first | rfl | exact absurd ⟨rfl, rfl⟩ hn
    | 1, j + 13 => rfl
    | k + 2, _ => rfl
theorem zm_put_a_booker {i v : Nat} {x y : Int32} (h : zz_W K A ad (zm_c K ad th N G L) H) (hi : i < 12) (hx : x.toNatClampNeg = i) (hy : y = nI v) (hat : zz_at K (ad 1 11) (.inl (K.2.1 0, 12, .inl (upd (fun i => nI (N 9 i)) x.toNatClampNeg y))) H1) (ho : ∀ q : Nat, q ≠ ad 1 11 → H1[q]? = H[q]?) : zz_W K A ad (zm_c K ad th (zu N 9 i v) G L) H1 := by
  subst hy
  rw [hx] at hat
  refine h.put 1 11 rfl rfl ?_ ho (fun k' i' hn => ?_)
  · refine (congrArg (fun f => zz_at K (ad 1 11) (.inl (K.2.1 0, 12, .inl f)) H1) (funext fun j => ?_)).mp hat
    by_cases hj : j = i
    · subst hj; simp [upd, zu]
    · simp [upd, zu, hj]
  · match k', i' with
    | 0, _ => rfl
    | 1, 0 | 1, 1 | 1, 2 | 1, 3 | 1, 4 | 1, 5 | 1, 6 | 1, 7 | 1, 8 | 1, 9 | 1, 10 | 1, 11 | 1, 12 => first | rfl | exact absurd ⟨rfl, rfl⟩ hn
    | 1, j + 13 => rfl
    | k + 2, _ => rfl
theorem zm_put_a_wanted {i v : Nat} {x y : Int32} (h : zz_W K A ad (zm_c K ad th N G L) H) (hi : i < 12) (hx : x.toNatClampNeg = i) (hy : y = nI v) (hat : zz_at K (ad 1 12) (.inl (K.2.1 0, 12, .inl (upd (fun i => nI (N 10 i)) x.toNatClampNeg y))) H1) (ho : ∀ q : Nat, q ≠ ad 1 12 → H1[q]? = H[q]?) : zz_W K A ad (zm_c K ad th (zu N 10 i v) G L) H1 := by
  subst hy
  rw [hx] at hat
  refine h.put 1 12 rfl rfl ?_ ho (fun k' i' hn => ?_)
  · refine (congrArg (fun f => zz_at K (ad 1 12) (.inl (K.2.1 0, 12, .inl f)) H1) (funext fun j => ?_)).mp hat
    by_cases hj : j = i
    · subst hj; simp [upd, zu]
    · simp [upd, zu, hj]
  · match k', i' with
    | 0, _ => rfl
    | 1, 0 | 1, 1 | 1, 2 | 1, 3 | 1, 4 | 1, 5 | 1, 6 | 1, 7 | 1, 8 | 1, 9 | 1, 10 | 1, 11 | 1, 12 => first | rfl | exact absurd ⟨rfl, rfl⟩ hn
    | 1, j + 13 => rfl
    | k + 2, _ => rfl
end ZM
