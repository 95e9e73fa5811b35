/-! by program (gen.py): contracts of methods -/
theorem zz_two {K : zz_G} {H : Heap} {a b : Nat} {x y : va_E} (ha : zz_at K a x H) (hb : zz_at K b y H) : va_P K.1 vwCl [(a, x), (b, y)] H := fun k q hq => by
  match k with
  | 0 => cases hq; exact ha
  | 1 => cases hq; exact hb
  | k + 2 => simp at hq
theorem zz_twoD {A : Nat → Prop} {a b : Nat} {x y : va_E} (ha : A a) (hb : A b) (h : a ≠ b) : va_D A [(a, x), (b, y)] := by
  refine ⟨fun i j p q hi hj e => ?_, fun k q hq => ?_⟩
  · match i, j with
    | 0, 0 => rfl
    | 1, 1 => rfl
    | 0, 1 => cases hi; cases hj; exact absurd e h
    | 1, 0 => cases hi; cases hj; exact absurd e.symm h
    | k + 2, _ => simp at hi
    | 0, k + 2 => simp at hj
    | 1, k + 2 => simp at hj
  · match k with
    | 0 => cases hq; exact ha
    | 1 => cases hq; exact hb
    | k + 2 => simp at hq
theorem zz_cpy0 {g : Nat → Option Nat} {n : Nat} : va_cpy g (fun _ => none) 0 0 n = fun i => if i < n then g i else none := by
  funext i
  unfold va_cpy
  by_cases h : i < n
  · rw [if_pos ⟨Nat.zero_le _, by omega⟩, if_pos h]; simp
  · rw [if_neg (fun z => h (by omega)), if_neg h]
theorem zz_arC {K : zz_G} {s : State} {H : Heap} {b n : Nat} {g : Nat → Option Nat} (hK : va_K K.1 vwCl (zz_ty K) s) (h : zz_at K b (.inl (K.2.1 2, n, .inr (.inr (.inr (.inr g))))) H) : ∃ cell : Cell, H[b]? = some cell ∧ cell.vm.isStatics = false ∧ s.vm.findClass "[Ljava/lang/Object;" = some cell.cls := by
  obtain ⟨kA, comp, k1, k2, k3, k4⟩ := (hK.2 2 _ rfl).2
  exact ⟨_, h, rfl, k4⟩
theorem zd_J7_copyOf_6403c : yJ7_copyOf_6403c.cls ≠ "java/lang/invoke/MethodHandle" ∧ yJ7_copyOf_6403c.cls ≠ "java/lang/invoke/VarHandle" ∧ (parseMethodDescriptor yJ7_copyOf_6403c.desc).map (fun d => d.parameters.length) = some 3 := by decide +kernel
set_option maxHeartbeats 4000000 in
set_option maxRecDepth 100000 in
theorem c_J7_copyOf_6403c (l : Launch) {K : zz_G} {A : Nat → Prop} {b cp k : Nat} {g : Nat → Option Nat} (hcp : cp ≤ k) (hk : k ≤ 40) : zz_C l yJ7_copyOf_6403c cJ7_copyOf_6403c 4 (Option.some (FieldType.array (FieldType.object "java/lang/Object"))) ({ frames := 1, cells := 1, slots := 40, locals := 40 } : Room) K A [.ref b, .int (nI k), .ref (K.2.2 1)] (fun H => zz_at K b (.inl (K.2.1 2, cp, .inr (.inr (.inr (.inr g))))) H ∧ A b ∧ (∀ i, i < cp → ∀ y, g i = some y → zz_ob K H y)) (fun v9 H8 H9 => v9 = some (.ref H8.size) ∧ zz_at K H8.size (.inl (K.2.1 2, k, .inr (.inr (.inr (.inr (fun i => if i < cp then g i else none)))))) H9) zz_nx A := by
  refine zz_body (by decide +kernel) (Nat.le_of_ble_eq_true rfl) ?_
  intro p e s m below meth c ls hx hb hr hml hts hown hlocks hmn htab hE hA hP hl
  have hN := hE.N
  have hK := hE.K
  have hown : s.vm.findClass RJ7 = some m.cls := hown
  have hl : lv_has ls 4 [(0, .ref b), (1, .int (nI k)), (2, .ref (K.2.2 1))] := hl
  have hS : va_S zz_no s.heap s.heap [] := va_S.rf
  obtain ⟨H, hH⟩ : ∃ z, z = s.heap := ⟨_, rfl⟩
  have hS0 : va_S zz_no s.heap H [] := by rw [hH]; exact hS
  rw [← hH] at hE hA
  have hE0 := hE
  clear hS
  have hS := hS0
  obtain ⟨hat, hAb, hel⟩ := hP
  rw [← hH] at hat hel
  show W p l e _ s m _ below meth c s.heap [] 0 0 _ (F0 m 0 ls [])
  rw [← hH]
  refine lv_aload_n hx hb dJ7_copyOf_6403c_0 rfl (lv_at hl 2 rfl) ?_
  have hS : va_S A s.heap H _ := zz_Smono hS (fun _ h => h.elim)
  refine va_ldcM (C := "[Ljava/lang/Object;") hx hb hown (hts _ zw_410) hE.1.2.2.2.1 dJ7_copyOf_6403c_1 ?_
  refine lv_acmp_ne (rx := some (K.2.2 1)) (ry := some (K.2.2 1)) (tgt := 13) hx hb dJ7_copyOf_6403c_3 (by decide) (fun c_1 => ?_) (fun c_1 => ?_)
  · skip
    exact absurd rfl c_1
  · skip
    refine lv_iload_n hx hb dJ7_copyOf_6403c_6 rfl (lv_at hl 1 rfl) ?_
    obtain ⟨r, hr0⟩ : ∃ z, z = H.size := ⟨_, rfl⟩
    refine zz_anew (N' := k) hx hb hown (hts _ zw_412) hE.1.2.2.1 hE.K hS (nI_pos (by omega)) (nI_clamp (by omega)) (by omega) (Nat.le_of_ble_eq_true rfl) (Nat.le_trans (show 0 + k ≤ 40 by omega) (Nat.le_of_ble_eq_true rfl)) dJ7_copyOf_6403c_7 (fun H1 hn1 hz1 ho1 hS => ?_)
    rw [← hr0] at hn1 hz1 ⊢
    refine W.widen (k := 1) (n := 40) (Nat.le_of_ble_eq_true rfl) (by omega) ?_
    have hbr : b ≠ r := by (have := va_at.lt hat; show b ≠ r; have h9 : b < H.size := this; omega)
    have hAr : A r := hA r (by omega)
    have hel := fun i hi y hy => (hel i hi y hy).kept (ho1 y (hel i hi y hy).lt)
    have hE := hE.kept (fun a ha _ => ho1 a ha)
    have hA : ∀ q : Nat, H1.size ≤ q → A q := fun q hq => hA q (by omega)
    have hat := va_at.kept hat (ho1 b (va_at.lt hat))
    clear ho1 hz1
    refine W.eq (g2 := F0 m 10 ls [.ref r]) rfl ?_
    refine lv_goto (tgt := 24) hx hb dJ7_copyOf_6403c_10 (by decide) ?_
    refine lv_astore_n (lv' := [(3, .ref r), (0, .ref b), (1, .int (nI k)), (2, .ref (K.2.2 1))]) hx hb dJ7_copyOf_6403c_24 rfl hl (Nat.le_of_ble_eq_true rfl) rfl (fun ls hl => ?_)
    refine lv_aload_n hx hb dJ7_copyOf_6403c_25 rfl (lv_at hl 1 rfl) ?_
    refine zz_con 0 hx hb dJ7_copyOf_6403c_26 (by decide) ?_
    refine lv_aload_n hx hb dJ7_copyOf_6403c_27 rfl (lv_at hl 0 rfl) ?_
    refine zz_con 0 hx hb dJ7_copyOf_6403c_28 (by decide) ?_
    refine lv_aload_n hx hb dJ7_copyOf_6403c_29 rfl (lv_at hl 1 rfl) ?_
    refine zz_alen 2 hx hb hE.K hat rfl dJ7_copyOf_6403c_30 ?_
    refine W.eq (g2 := F0 m 31 ls [.int (nI cp), .int (nI 0), .ref r, .int (nI 0), .ref b]) rfl ?_
    refine lv_iload_n hx hb dJ7_copyOf_6403c_31 rfl (lv_at hl 2 rfl) ?_
    refine va_mmin hx hb (by rw [hml]; exact hl.1.symm) hown (hts _ zw_413) (hts _ zw_131) (hts _ zw_13) (hts _ zw_132) (Nat.le_of_ble_eq_true rfl) (Nat.le_of_ble_eq_true rfl) (Nat.le_of_ble_eq_true rfl) (Nat.le_of_ble_eq_true rfl) dJ7_copyOf_6403c_32 ?_
    rw [if_neg (fun z => absurd ((nI_ltI (by omega) (by omega)).mp z) (by omega))]
    refine va_copyM hx hb (by rw [hml]; exact hl.1.symm) hown (hts _ zw_414) (hts _ zw_416) (hts _ zw_415) (hts _ zw_15) hE.K (zz_two hat hn1) (zz_twoD hAb hAr hbr) hS 0 1 2 2 (E0 := "java/lang/Object") (E1 := "java/lang/Object") rfl rfl rfl rfl (nI_pos (by omega)) (nI_pos (by omega)) (nI_pos (by omega)) (by rw [nI_clamp (by omega), nI_clamp (by omega)]; omega) (by rw [nI_clamp (by omega), nI_clamp (by omega)]; omega) (fun i hi y hy => by rw [nI_clamp (by omega)] at hi hy; rw [Nat.zero_add] at hy; exact (hel i hi y hy).any hE.K hN) (Nat.le_of_ble_eq_true rfl) (Nat.le_of_ble_eq_true rfl) dJ7_copyOf_6403c_35 (fun H locs hP2 hD2 hS => ?_)
    have hn2 := hP2 1 _ rfl
    rw [nI_clamp (by omega), nI_clamp (by omega), zz_cpy0] at hn2
    refine W.eq (g2 := F0 m 38 ls []) rfl ?_
    refine lv_aload_n hx hb dJ7_copyOf_6403c_38 rfl (lv_at hl 0 rfl) ?_
    refine zz_aret (rx := some r) hx hb hr (Or.inr ⟨_, rfl⟩) hlocks hS (Nat.le_of_ble_eq_true rfl) (Nat.le_of_ble_eq_true rfl) dJ7_copyOf_6403c_39 ?_
    refine ⟨?_, ?_⟩
    · rw [hr0, hH]; rfl
    · rw [← hH, ← hr0]; exact hn2

set_option maxHeartbeats 4000000 in
set_option maxRecDepth 100000 in
theorem c_J7_copyOf_1904c (l : Launch) {K : zz_G} {A : Nat → Prop} {b cp k : Nat} {g : Nat → Option Nat} (hcp : cp ≤ k) (hk : k ≤ 40) : zz_C l yJ7_copyOf_1904c cJ7_copyOf_1904c 2 (Option.some (FieldType.array (FieldType.object "java/lang/Object"))) ({ frames := 2, cells := 1, slots := 40, locals := 63 } : Room) K A [.ref b, .int (nI k)] (fun H => zz_at K b (.inl (K.2.1 2, cp, .inr (.inr (.inr (.inr g))))) H ∧ A b ∧ (∀ i, i < cp → ∀ y, g i = some y → zz_ob K H y)) (fun v9 H8 H9 => v9 = some (.ref H8.size) ∧ zz_at K H8.size (.inl (K.2.1 2, k, .inr (.inr (.inr (.inr (fun i => if i < cp then g i else none)))))) H9) zz_nx A := by
  refine zz_body (by decide +kernel) (Nat.le_of_ble_eq_true rfl) ?_
  intro p e s m below meth c ls hx hb hr hml hts hown hlocks hmn htab hE hA hP hl
  have hN := hE.N
  have hK := hE.K
  have hown : s.vm.findClass RJ7 = some m.cls := hown
  have hl : lv_has ls 2 [(0, .ref b), (1, .int (nI k))] := hl
  have hS : va_S zz_no s.heap s.heap [] := va_S.rf
  obtain ⟨H, hH⟩ : ∃ z, z = s.heap := ⟨_, rfl⟩
  have hS0 : va_S zz_no s.heap H [] := by rw [hH]; exact hS
  rw [← hH] at hE hA
  have hE0 := hE
  clear hS
  have hS := hS0
  obtain ⟨hat, hAb, hel⟩ := hP
  rw [← hH] at hat hel
  have hH0 := hH
  obtain ⟨r, hr0⟩ : ∃ z, z = H.size := ⟨_, rfl⟩
  show W p l e _ s m _ below meth c s.heap [] 0 0 _ (F0 m 0 ls [])
  rw [← hH]
  refine lv_aload_n hx hb dJ7_copyOf_1904c_0 rfl (lv_at hl 0 rfl) ?_
  refine lv_iload_n hx hb dJ7_copyOf_1904c_1 rfl (lv_at hl 1 rfl) ?_
  refine lv_aload_n hx hb dJ7_copyOf_1904c_2 rfl (lv_at hl 0 rfl) ?_
  have hS : va_S A s.heap H _ := zz_Smono hS (fun _ h => h.elim)
  refine va_getC (C := "[Ljava/lang/Object;") hx hb (by rw [hml]; exact hl.1.symm) hown (hts _ zw_391) (va_Dc.use hE.1.2.2.2.2.1) (hts _ zw_1099) (hts _ zw_392) (hts _ zw_406) hE.1.2.2.2.1 (zz_arC hE.K hat) (Nat.le_of_ble_eq_true rfl) (Nat.le_of_ble_eq_true rfl) dJ7_copyOf_1904c_3 ?_
  refine W.eq (g2 := F0 m 6 ls [.ref (K.2.2 1), .int (nI k), .ref b]) rfl ?_
  refine zz_after (pc := 6) rfl (zz_runS (As := [.ref b, .int (nI k), .ref (K.2.2 1)]) (rest := []) hx hb hml hown hts (c_J7_copyOf_6403c l (K := K) (A := A) (b := b) (cp := cp) (k := k) (g := g) hcp hk) zw_407 zw_408 zw_14 zw_409 zd_J7_copyOf_6403c ⟨Nat.le_of_ble_eq_true rfl, Nat.le_of_ble_eq_true rfl⟩ hE hA ⟨hat, hAb, hel⟩ hl.1 (Nat.le_of_ble_eq_true rfl) dJ7_copyOf_1904c_6 ⟨Nat.le_of_ble_eq_true rfl, Nat.le_of_ble_eq_true rfl⟩) hS (fun _ h => h) (fun v_3 H locs hq_1 hF_2 hS => ?_)
  refine W.widen (k := 1) (n := 40) (Nat.le_of_ble_eq_true rfl) (Nat.le_of_ble_eq_true rfl) ?_
  obtain ⟨hv9, hn2⟩ := hq_1
  rw [← hr0] at hv9 hn2
  subst hv9
  have hE := zz_E.kept hE (fun a h1 h2 => hF_2.2 a h1 h2)
  have hA : ∀ q : Nat, H.size ≤ q → A q := fun q h => hA q (Nat.le_trans hF_2.1 h)
  refine W.eq (g2 := F0 m 9 ls [.ref r]) rfl ?_
  refine zz_aret (rx := some r) hx hb hr (Or.inr ⟨_, rfl⟩) hlocks hS (Nat.le_of_ble_eq_true rfl) (Nat.le_of_ble_eq_true rfl) dJ7_copyOf_1904c_9 ?_
  refine ⟨?_, ?_⟩
  · rw [← hH0, ← hr0]; rfl
  · rw [← hH0, ← hr0]; exact hn2
