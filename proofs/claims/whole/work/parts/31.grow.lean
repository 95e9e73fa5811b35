/-! by program (gen.py): contracts of methods -/
theorem zz_nbig {n : Nat} (h : n < 1000) : ¬ (2147483639 : Int32) < nI n := by
  rw [Int32.lt_iff_toInt_lt, nI_toInt (by omega)]
  have e : (2147483639 : Int32).toInt = 2147483639 := by decide
  rw [e]; omega
theorem zz_half {n : Nat} (h : n < 2 ^ 31) : nI n >>> (nI 1 &&& 31) = nI (n / 2) := pk_shrN h (nI 1 &&& 31) 1 (s_l 1 (by decide))
theorem zz_n0of {n : Nat} (h : n < 2 ^ 31) (c : ¬ (0 : Int32) < nI n) : n = 0 := by
  have h1 : ¬ (nI 0 < nI n) := c
  rw [nI_ltI (by decide) h] at h1
  omega
/-- a list by itself: its object, its row, what lies in it -/
def zt_W (K : zz_G) (A : Nat → Prop) (a b : Nat) (mo : Int32) (n cp : Nat) (g : Nat → Option Nat) (H : Heap) : Prop :=
  (zz_at K a (.inr (2, [.int mo, .ref b, .int (nI n)])) H ∧ A a) ∧ (cp ≠ 0 → zz_at K b (.inl (K.2.1 2, cp, .inr (.inr (.inr (.inr g))))) H ∧ A b ∧ a ≠ b) ∧ (cp = 0 → b = K.2.2 0) ∧ (n ≤ cp ∧ cp ≤ 40) ∧ (∀ i, i < cp → ∀ y, g i = some y → zz_ob K H y ∧ ¬ A y)
def zt_Z (K : zz_G) (A : Nat → Prop) (s : State) (a b : Nat) (mo : Int32) (n cp : Nat) (g : Nat → Option Nat) (H : Heap) : Prop := zz_E K A s H ∧ (∀ q : Nat, H.size ≤ q → A q) ∧ zt_W K A a b mo n cp g H
theorem zt_Z.A {K : zz_G} {A : Nat → Prop} {s : State} {a b : Nat} {mo : Int32} {n cp : Nat} {g : Nat → Option Nat} {H : Heap} (h : zt_Z K A s a b mo n cp g H) : ∀ q : Nat, H.size ≤ q → A q := h.2.1
section ZTW
variable {K : zz_G} {A : Nat → Prop} {s : State} {a b : Nat} {mo : Int32} {n cp : Nat} {g : Nat → Option Nat} {H H1 : Heap}
theorem zt_Z.E (h : zt_Z K A s a b mo n cp g H) : zz_E K A s H := h.1
theorem zt_Z.W (h : zt_Z K A s a b mo n cp g H) : zt_W K A a b mo n cp g H := h.2.2
theorem zt_ob (h : zt_W K A a b mo n cp g H) : zz_at K a (.inr (2, [.int mo, .ref b, .int (nI n)])) H ∧ A a := h.1
theorem zt_ar (h : zt_W K A a b mo n cp g H) (hc : cp ≠ 0) : zz_at K b (.inl (K.2.1 2, cp, .inr (.inr (.inr (.inr g))))) H ∧ A b := ⟨(h.2.1 hc).1, (h.2.1 hc).2.1⟩
theorem zt_W.ro (h : zt_W K A a b mo n cp g H) (f : zz_fr zz_no H H1) : zt_W K A a b mo n cp g H1 :=
  ⟨⟨zz_at.ro h.1.1 f, h.1.2⟩, fun z => ⟨zz_at.ro (h.2.1 z).1 f, (h.2.1 z).2⟩, h.2.2.1, h.2.2.2.1, fun i hi y hy => ⟨(h.2.2.2.2 i hi y hy).1.kept (f.2 y (h.2.2.2.2 i hi y hy).1.lt (fun z => z)), (h.2.2.2.2 i hi y hy).2⟩⟩
theorem zt_Z.ro (h : zt_Z K A s a b mo n cp g H) (f : zz_fr zz_no H H1) : zt_Z K A s a b mo n cp g H1 :=
  ⟨h.1.kept (fun q hq _ => f.2 q hq (fun z => z)), fun q hq => h.2.1 q (Nat.le_trans f.1 hq), h.W.ro f⟩
theorem zt_Z.mut {b' : Nat} {mo' : Int32} {n' cp' : Nat} {g' : Nat → Option Nat} (h : zt_Z K A s a b mo n cp g H) (f : zz_fr A H H1) (hw : zt_W K A a b' mo' n' cp' g' H1) : zt_Z K A s a b' mo' n' cp' g' H1 :=
  ⟨h.1.kept (fun q hq hn => f.2 q hq hn), fun q hq => h.2.1 q (Nat.le_trans f.1 hq), hw⟩
theorem zt_Z.put {b' x : Nat} {mo' : Int32} {n' cp' : Nat} {g' : Nat → Option Nat} (h : zt_Z K A s a b mo n cp g H) (hx : A x) (hz : H1.size = H.size) (ho : ∀ q : Nat, q ≠ x → H1[q]? = H[q]?) (hw : zt_W K A a b' mo' n' cp' g' H1) : zt_Z K A s a b' mo' n' cp' g' H1 :=
  h.mut ⟨by omega, fun q _ h2 => ho q (fun e => h2 (by rw [e]; exact hx))⟩ hw
theorem zt_put_mo {v : Int32} (h : zt_W K A a b mo n cp g H) (hat : zz_at K a (.inr (2, [.int v, .ref b, .int (nI n)])) H1) (ho : ∀ q : Nat, q ≠ a → H1[q]? = H[q]?) : zt_W K A a b v n cp g H1 :=
  ⟨⟨hat, h.1.2⟩, fun z => ⟨va_at.kept (h.2.1 z).1 (ho _ (fun e => (h.2.1 z).2.2 e.symm)), (h.2.1 z).2⟩, h.2.2.1, h.2.2.2.1, fun i hi y hy => ⟨(h.2.2.2.2 i hi y hy).1.kept (ho y (fun e => (h.2.2.2.2 i hi y hy).2 (e ▸ h.1.2))), (h.2.2.2.2 i hi y hy).2⟩⟩
theorem zt_put_n {v : Nat} (hv : v ≤ cp) (h : zt_W K A a b mo n cp g H) (hat : zz_at K a (.inr (2, [.int mo, .ref b, .int (nI v)])) H1) (ho : ∀ q : Nat, q ≠ a → H1[q]? = H[q]?) : zt_W K A a b mo v cp g H1 :=
  ⟨⟨hat, h.1.2⟩, fun z => ⟨va_at.kept (h.2.1 z).1 (ho _ (fun e => (h.2.1 z).2.2 e.symm)), (h.2.1 z).2⟩, h.2.2.1, ⟨hv, h.2.2.2.1.2⟩, fun i hi y hy => ⟨(h.2.2.2.2 i hi y hy).1.kept (ho y (fun e => (h.2.2.2.2 i hi y hy).2 (e ▸ h.1.2))), (h.2.2.2.2 i hi y hy).2⟩⟩
theorem zt_put_el {g' : Nat → Option Nat} (hc : cp ≠ 0) (hg : ∀ i, i < cp → ∀ y, g' i = some y → zz_ob K H y ∧ ¬ A y) (h : zt_W K A a b mo n cp g H) (hat : zz_at K b (.inl (K.2.1 2, cp, .inr (.inr (.inr (.inr g'))))) H1) (ho : ∀ q : Nat, q ≠ b → H1[q]? = H[q]?) : zt_W K A a b mo n cp g' H1 := by
  obtain ⟨h1, h2, h3⟩ := h.2.1 hc
  exact ⟨⟨va_at.kept h.1.1 (ho _ h3), h.1.2⟩, fun z => ⟨hat, h2, h3⟩, h.2.2.1, h.2.2.2.1, fun i hi y hy => ⟨(hg i hi y hy).1.kept (ho y (fun e => (hg i hi y hy).2 (e ▸ h2))), (hg i hi y hy).2⟩⟩
/-- behind a new row, before the list holds it; and what stands once it does -/
theorem zt_grown0 {k : Nat} (h : zt_Z K A s a b mo n cp g H) (hgn : ∀ i, n ≤ i → g i = none) (hn : n = 0) (hk : 0 < k ∧ k ≤ 40) (hz : H1.size = H.size + 1) (ho : ∀ q : Nat, q < H.size → H1[q]? = H[q]?) (hat : zz_at K H.size (.inl (K.2.1 2, k, .inr (.inr (.inr (.inr (fun _ => none)))))) H1) :
    (zz_at K a (.inr (2, [.int mo, .ref b, .int (nI n)])) H1 ∧ A a) ∧ ∀ H2 : Heap, zz_at K a (.inr (2, [.int mo, .ref H.size, .int (nI n)])) H2 → (∀ q : Nat, q ≠ a → H2[q]? = H1[q]?) → zt_W K A a H.size mo n k g H2 := by
  have hal := va_at.lt h.W.1.1
  have ha : a < H.size := hal
  refine ⟨⟨va_at.kept h.W.1.1 (ho a ha), h.W.1.2⟩, fun H2 h1 h2 => ?_⟩
  have hg : (fun _ => none : Nat → Option Nat) = g := by
    funext i; exact (hgn i (by omega)).symm
  rw [hg] at hat
  exact ⟨⟨h1, h.W.1.2⟩, fun _ => ⟨va_at.kept hat (h2 _ (by omega)), h.2.1 _ (Nat.le_refl _), by omega⟩, fun z => by omega, ⟨by omega, hk.2⟩, fun i _ y hy => by rw [hgn i (by omega)] at hy; cases hy⟩
theorem zt_grown {k : Nat} (h : zt_Z K A s a b mo n cp g H) (hgn : ∀ i, n ≤ i → g i = none) (hn : n ≤ cp) (hk : n ≤ k) (hk2 : k ≤ 40 ∧ 0 < k ∧ 0 < cp) (f : zz_fr (fun q => q = b ∨ H.size ≤ q) H H1) (hat : zz_at K H.size (.inl (K.2.1 2, k, .inr (.inr (.inr (.inr (fun i => if i < cp then g i else none)))))) H1) :
    (zz_at K a (.inr (2, [.int mo, .ref b, .int (nI n)])) H1 ∧ A a) ∧ ∀ H2 : Heap, zz_at K a (.inr (2, [.int mo, .ref H.size, .int (nI n)])) H2 → (∀ q : Nat, q ≠ a → H2[q]? = H1[q]?) → zt_W K A a H.size mo n k g H2 := by
  obtain ⟨h1, h2, h3⟩ := h.W.2.1 (by omega)
  have hal := va_at.lt h.W.1.1
  have ha : a < H.size := hal
  have hg : (fun i => if i < cp then g i else none) = g := by
    funext i
    by_cases c : i < cp
    · rw [if_pos c]
    · rw [if_neg c, hgn i (by omega)]
  rw [hg] at hat
  refine ⟨⟨va_at.kept h.W.1.1 (f.2 a ha (fun z => z.elim h3 (fun z => by omega))), h.W.1.2⟩, fun H2 g1 g2 => ?_⟩
  refine ⟨⟨g1, h.W.1.2⟩, fun _ => ⟨va_at.kept hat (g2 _ (by omega)), h.2.1 _ (Nat.le_refl _), by omega⟩, fun z => by omega, ⟨hk, hk2.1⟩, fun i _ y hy => ?_⟩
  by_cases c : i < cp
  · obtain ⟨o1, o2⟩ := h.W.2.2.2.2 i c y hy
    have hy1 : y ≠ a := fun e => o2 (e ▸ h.W.1.2)
    have hy2 : y ≠ b := fun e => o2 (e ▸ h2)
    exact ⟨o1.kept ((g2 y hy1).trans (f.2 y o1.lt (fun z => z.elim hy2 (fun z => by have := o1.lt; omega)))), o2⟩
  · rw [hgn i (by omega)] at hy; cases hy
end ZTW
section ZTL
variable {p : Program} {l : Launch} {e : Env} {R : Room} {s : State} {m : MethodId} {args : Array Value} {below : List Frame} {meth : Method} {c : Code} {H : Heap} {locs : List Loc} {cells slots : Nat} {Q : State → Prop}
variable {cc : ByteArray} {pc : Nat} {ls : Array Slot} {rest : List Value} {K : zz_G} {A : Nat → Prop} {a b n cp : Nat} {mo : Int32} {g : Nat → Option Nat}
theorem zt_len (hx : p.tables.exec = Jvm.exec) (hb : c.code = cc) (hE0 : zz_E K A s s.heap) (hS : va_S A s.heap H locs) (hZ : zt_Z K A s a b mo n cp g H) (hdg : decode cc pc = .ok (.arraylength, 1)) (kk : W p l e R s m args below meth c H locs cells slots Q (F0 m (pc + 1) ls (.int (nI cp) :: rest))) : W p l e R s m args below meth c H locs cells slots Q (F0 m pc ls (.ref b :: rest)) := by
  by_cases hc : cp = 0
  · have hb0 := hZ.W.2.2.1 hc
    subst hc
    rw [hb0]
    exact va_tlen hx hb hE0.2.2.2.2 hS rfl hdg kk
  · exact zz_alen 2 hx hb hE0.K (hZ.W.2.1 hc).1 rfl hdg kk
end ZTL
theorem zd_J7_copyOf_1904c : yJ7_copyOf_1904c.cls ≠ "java/lang/invoke/MethodHandle" ∧ yJ7_copyOf_1904c.cls ≠ "java/lang/invoke/VarHandle" ∧ (parseMethodDescriptor yJ7_copyOf_1904c.desc).map (fun d => d.parameters.length) = some 2 := by decide +kernel
theorem zd_J8_newLength_cabcc : yJ8_newLength_cabcc.cls ≠ "java/lang/invoke/MethodHandle" ∧ yJ8_newLength_cabcc.cls ≠ "java/lang/invoke/VarHandle" ∧ (parseMethodDescriptor yJ8_newLength_cabcc.desc).map (fun d => d.parameters.length) = some 3 := by decide +kernel
set_option maxHeartbeats 4000000 in
set_option maxRecDepth 100000 in
theorem c_J8_newLength_cabcc (l : Launch) {K : zz_G} {A : Nat → Prop} {x y z : Nat} (hx1 : 1 ≤ x) (hxb : x ≤ 100) (hyb : y ≤ 100) (hzb : z ≤ 100) : zz_C l yJ8_newLength_cabcc cJ8_newLength_cabcc 4 (Option.some FieldType.int) ({ frames := 1, cells := 0, slots := 0, locals := 24 } : Room) K A [.int (nI x), .int (nI y), .int (nI z)] (fun _ => True) (fun v9 _ _ => v9 = some (.int (nI (x + max y z)))) zz_nx zz_no := by
  refine zz_body (by decide +kernel) (Nat.le_of_ble_eq_true rfl) ?_
  intro p e s m below meth c ls hx hb hr hml hts hown hlocks hmn htab hE hA hP hl
  have hN := hE.N
  have hK := hE.K
  have hown : s.vm.findClass RJ8 = some m.cls := hown
  have hl : lv_has ls 4 [(0, .int (nI x)), (1, .int (nI y)), (2, .int (nI z))] := hl
  have hS : va_S zz_no s.heap s.heap [] := va_S.rf
  obtain ⟨H, hH⟩ : ∃ z, z = s.heap := ⟨_, rfl⟩
  have hS0 : va_S zz_no s.heap H [] := by rw [hH]; exact hS
  rw [← hH] at hE hA
  have hE0 := hE
  clear hS
  have hS := hS0
  show W p l e _ s m _ below meth c s.heap [] 0 0 _ (F0 m 0 ls [])
  rw [← hH]
  refine lv_iload_n hx hb dJ8_newLength_cabcc_0 rfl (lv_at hl 0 rfl) ?_
  refine lv_iload_n hx hb dJ8_newLength_cabcc_1 rfl (lv_at hl 1 rfl) ?_
  refine lv_iload_n hx hb dJ8_newLength_cabcc_2 rfl (lv_at hl 2 rfl) ?_
  refine va_mmax hx hb (by rw [hml]; exact hl.1.symm) hown (hts _ zw_381) (hts _ zw_382) (hts _ zw_13) (hts _ zw_383) (Nat.le_of_ble_eq_true rfl) (Nat.le_of_ble_eq_true rfl) (Nat.le_of_ble_eq_true rfl) (Nat.le_of_ble_eq_true rfl) dJ8_newLength_cabcc_3 ?_
  rw [zz_maxN (by omega) (by omega)]
  refine zz_add hx hb dJ8_newLength_cabcc_6 ?_
  refine lv_istore_n (lv' := [(3, .int (nI (x + (max y z)))), (0, .int (nI x)), (1, .int (nI y)), (2, .int (nI z))]) hx hb dJ8_newLength_cabcc_7 rfl hl (Nat.le_of_ble_eq_true rfl) rfl (fun ls hl => ?_)
  refine zz_con 0 hx hb dJ8_newLength_cabcc_8 (by decide) ?_
  refine lv_iload_n hx hb dJ8_newLength_cabcc_9 rfl (lv_at hl 0 rfl) ?_
  refine zz_ic_ge (tgt := 21) (by decide) (by first | exact hB _ _ | exact hUa _ | exact hUb _ | exact hUc _ | exact hUd _ | omega) hx hb dJ8_newLength_cabcc_10 (by decide) (fun c_1 => ?_) (fun c_1 => ?_)
  · skip
    omega
  · skip
    refine lv_iload_n hx hb dJ8_newLength_cabcc_13 rfl (lv_at hl 0 rfl) ?_
    refine lv_ldc (v := 2147483639) hx hb hown (hts _ zw_384) dJ8_newLength_cabcc_14 ?_
    refine lv_icmp_gt (tgt := 21) hx hb dJ8_newLength_cabcc_16 (by decide) (fun c_2 => ?_) (fun c_2 => ?_)
    · skip
      exact absurd c_2 (zz_nbig (by omega))
    · skip
      refine lv_iload_n hx hb dJ8_newLength_cabcc_19 rfl (lv_at hl 0 rfl) ?_
      refine zz_iret hx hb hr hlocks hS (Nat.le_of_ble_eq_true rfl) (Nat.le_of_ble_eq_true rfl) dJ8_newLength_cabcc_20 ?_
      first | rfl | (simp [c_1, c_2]; done) | (simp_all; done) | (split <;> first | rfl | omega | (simp_all; done); done)

set_option maxHeartbeats 4000000 in
set_option maxRecDepth 100000 in
theorem c_Jx4a65c_grow_92f84 (l : Launch) {K : zz_G} {A : Nat → Prop} {a b : Nat} {mo : Int32} {n cp : Nat} {g : Nat → Option Nat} (hn : n = cp) (hn12 : n ≤ 12) (hgn : ∀ i, n ≤ i → g i = none) : zz_C l yJx4a65c_grow_92f84 cJx4a65c_grow_92f84 4 (Option.some (FieldType.array (FieldType.object "java/lang/Object"))) ({ frames := 3, cells := 1, slots := 40, locals := 84 } : Room) K A [.ref a, .int (nI (n + 1))] (fun H => zt_W K A a b mo n cp g H) (fun v9 _ H9 => ∃ b9 cp9, v9 = some (.ref b9) ∧ n < cp9 ∧ zt_W K A a b9 mo n cp9 g H9) zz_nx A := by
  refine zz_body (by decide +kernel) (Nat.le_of_ble_eq_true rfl) ?_
  intro p e s m below meth c ls hx hb hr hml hts hown hlocks hmn htab hE hA hP hl
  have hN := hE.N
  have hK := hE.K
  have hown : s.vm.findClass RJx4a65c = some m.cls := hown
  have hl : lv_has ls 4 [(0, .ref a), (1, .int (nI (n + 1)))] := hl
  have hZ : zt_Z K A s a b mo n cp g s.heap := ⟨hE, hA, hP⟩
  have hS : va_S zz_no s.heap s.heap [] := va_S.rf
  obtain ⟨H, hH⟩ : ∃ z, z = s.heap := ⟨_, rfl⟩
  have hS0 : va_S zz_no s.heap H [] := by rw [hH]; exact hS
  rw [← hH] at hZ
  have hE0 := hE
  clear hS
  have hS := hS0
  have hcpb := hZ.W.2.2.2.1
  show W p l e _ s m _ below meth c s.heap [] 0 0 _ (F0 m 0 ls [])
  rw [← hH]
  refine lv_aload_n hx hb dJx4a65c_grow_92f84_0 rfl (lv_at hl 0 rfl) ?_
  refine zz_get (ci := 2) (C := RJx4a65c) (T := TJx4a65c) (N := 3) (v := .ref b) hx hb hts hown hK (zt_ob hZ.W).1 rfl zf_Jx4a65c 1 (by decide) zw_47 (fun _ h9 => h9) rfl dJx4a65c_grow_92f84_1 ?_
  refine zt_len hx hb hE0 (zz_Smono hS (fun _ h => h.elim)) hZ dJx4a65c_grow_92f84_4 ?_
  refine W.eq (g2 := F0 m 5 ls [.int (nI cp)]) rfl ?_
  refine lv_istore_n (lv' := [(2, .int (nI cp)), (0, .ref a), (1, .int (nI (n + 1)))]) hx hb dJx4a65c_grow_92f84_5 rfl hl (Nat.le_of_ble_eq_true rfl) rfl (fun ls hl => ?_)
  refine lv_iload_n hx hb dJx4a65c_grow_92f84_6 rfl (lv_at hl 0 rfl) ?_
  refine lv_if_gt (tgt := 20) hx hb dJx4a65c_grow_92f84_7 (by decide) (fun c_1 => ?_) (fun c_1 => ?_)
  · skip
    have hcp0 : cp ≠ 0 := fun z => absurd c_1 (by rw [z]; decide)
    refine lv_iload_n hx hb dJx4a65c_grow_92f84_20 rfl (lv_at hl 0 rfl) ?_
    refine lv_iload_n hx hb dJx4a65c_grow_92f84_21 rfl (lv_at hl 2 rfl) ?_
    refine lv_iload_n hx hb dJx4a65c_grow_92f84_22 rfl (lv_at hl 0 rfl) ?_
    refine zz_sub (by omega) hx hb dJx4a65c_grow_92f84_23 ?_
    refine lv_iload_n hx hb dJx4a65c_grow_92f84_24 rfl (lv_at hl 0 rfl) ?_
    refine zz_con 1 hx hb dJx4a65c_grow_92f84_25 (by decide) ?_
    refine lv_ishr hx hb dJx4a65c_grow_92f84_26 ?_
    refine zz_cv (y := nI (cp / 2)) (zz_half (by omega)) ?_
    refine zz_after (pc := 27) rfl (zz_runS (As := [.int (nI cp), .int (nI ((n + 1) - cp)), .int (nI (cp / 2))]) (rest := []) hx hb hml hown hts (c_J8_newLength_cabcc l (K := K) (A := A) (x := cp) (y := ((n + 1) - cp)) (z := (cp / 2)) (by omega) (by omega) (by omega) (by omega)) zw_378 zw_379 zw_12 zw_380 zd_J8_newLength_cabcc ⟨Nat.le_of_ble_eq_true rfl, Nat.le_of_ble_eq_true rfl⟩ hZ.E hZ.A trivial hl.1 (Nat.le_of_ble_eq_true rfl) dJx4a65c_grow_92f84_27 ⟨Nat.le_of_ble_eq_true rfl, Nat.le_of_ble_eq_true rfl⟩) hS (fun _ h => h.elim) (fun v_4 H locs hq_2 hF_3 hS => ?_)
    refine W.widen (k := 0) (n := 0) (Nat.le_of_ble_eq_true rfl) (Nat.le_of_ble_eq_true rfl) ?_
    obtain rfl := hq_2
    have hZ := hZ.ro hF_3
    refine W.eq (g2 := F0 m 30 ls [.int (nI (cp + max ((n + 1) - cp) (cp / 2)))]) rfl ?_
    refine zz_cv (y := nI (cp + max 1 (cp / 2))) (congrArg nI (show cp + max ((n + 1) - cp) (cp / 2) = cp + max 1 (cp / 2) by rw [show (n + 1) - cp = 1 by omega])) ?_
    refine lv_istore_n (lv' := [(3, .int (nI (cp + max 1 (cp / 2)))), (2, .int (nI cp)), (0, .ref a), (1, .int (nI (n + 1)))]) hx hb dJx4a65c_grow_92f84_30 rfl hl (Nat.le_of_ble_eq_true rfl) rfl (fun ls hl => ?_)
    refine lv_aload_n hx hb dJx4a65c_grow_92f84_31 rfl (lv_at hl 2 rfl) ?_
    refine lv_aload_n hx hb dJx4a65c_grow_92f84_32 rfl (lv_at hl 2 rfl) ?_
    refine zz_get (ci := 2) (C := RJx4a65c) (T := TJx4a65c) (N := 3) (v := .ref b) hx hb hts hown hK (zt_ob hZ.W).1 rfl zf_Jx4a65c 1 (by decide) zw_47 (fun _ h9 => h9) rfl dJx4a65c_grow_92f84_33 ?_
    refine lv_iload_n hx hb dJx4a65c_grow_92f84_36 rfl (lv_at hl 0 rfl) ?_
    obtain ⟨r, hr0⟩ : ∃ z, z = H.size := ⟨_, rfl⟩
    have hS : va_S A s.heap H _ := zz_Smono hS (fun _ h => h.elim)
    obtain ⟨hat9, hbA, hab⟩ := hZ.W.2.1 hcp0
    have hel9 := hZ.W.2.2.2.2
    have hsub : ∀ q, (q = b ∨ H.size ≤ q) → A q := fun q h => h.elim (fun e => e ▸ hbA) (hZ.A q)
    refine zz_after (A := A) (pc := 37) rfl (zz_runS (A := fun q => q = b ∨ H.size ≤ q) (As := [.ref b, .int (nI (cp + max 1 (cp / 2)))]) (rest := [.ref a]) hx hb hml hown hts (c_J7_copyOf_1904c l (K := K) (A := fun q => q = b ∨ H.size ≤ q) (b := b) (cp := cp) (k := cp + max 1 (cp / 2)) (g := g) (by omega) (by omega)) zw_388 zw_389 zw_14 zw_390 zd_J7_copyOf_1904c ⟨Nat.le_of_ble_eq_true rfl, Nat.le_of_ble_eq_true rfl⟩ (hZ.E.narrow hsub) (fun q h => Or.inr h) ⟨hat9, Or.inl rfl, fun i hi y hy => (hel9 i hi y hy).1⟩ hl.1 (Nat.le_of_ble_eq_true rfl) dJx4a65c_grow_92f84_37 ⟨Nat.le_of_ble_eq_true rfl, Nat.le_of_ble_eq_true rfl⟩) hS hsub (fun v9 H1 locs hq9 hF9 hS => ?_)
    refine W.widen (k := 1) (n := 40) (Nat.le_of_ble_eq_true rfl) (Nat.le_of_ble_eq_true rfl) ?_
    obtain ⟨rfl, hn9⟩ := hq9
    obtain ⟨hob9, hNW⟩ := zt_grown hZ hgn (by omega) (show n ≤ cp + max 1 (cp / 2) by omega) (by omega) hF9 hn9
    rw [← hr0] at hNW hn9 ⊢
    refine W.eq (g2 := F0 m 40 ls [.ref r, .ref a]) rfl ?_
    refine lv_dup_x1 hx hb dJx4a65c_grow_92f84_40 rfl rfl ?_
    refine zz_put (ci := 2) (C := RJx4a65c) (T := TJx4a65c) (N := 3) (v := .ref r) (ty1 := .array (.object "java/lang/Object")) hx hb hts hown hE0.K hS hob9.1 hob9.2 rfl zf_Jx4a65c tyJx4a65c_ok nmJx4a65c 1 (by decide) zw_47 (fun _ h9 => h9) rfl (by decide +kernel) rfl rfl (Nat.le_of_ble_eq_true rfl) dJx4a65c_grow_92f84_41 (fun H2 locs ha9 hz9 ho9 hS => ?_)
    have hW9 := hNW H2 ha9 ho9
    refine W.eq (g2 := F0 m 44 ls [.ref r]) rfl ?_
    refine zz_aret (rx := some r) hx hb hr (Or.inr ⟨_, rfl⟩) hlocks hS (Nat.le_of_ble_eq_true rfl) (Nat.le_of_ble_eq_true rfl) dJx4a65c_grow_92f84_44 ?_
    exact ⟨r, cp + max 1 (cp / 2), rfl, by omega, hW9⟩
  · skip
    have hcp1 : cp = 0 := zz_n0of (by omega) c_1
    have hbe := hZ.W.2.2.1 hcp1
    refine lv_aload_n hx hb dJx4a65c_grow_92f84_10 rfl (lv_at hl 1 rfl) ?_
    refine zz_get (ci := 2) (C := RJx4a65c) (T := TJx4a65c) (N := 3) (v := .ref b) hx hb hts hown hK (zt_ob hZ.W).1 rfl zf_Jx4a65c 1 (by decide) zw_47 (fun _ h9 => h9) rfl dJx4a65c_grow_92f84_11 ?_
    refine va_gets hx hb hE0.2.2.2.1 (zz_Smono hS (fun _ h => h.elim)) hown (hts _ zw_45) (fun _ h9 => h9) dJx4a65c_grow_92f84_14 ?_
    refine lv_acmp_eq (rx := some b) (ry := some (K.2.2 0)) (tgt := 45) hx hb dJx4a65c_grow_92f84_17 (by decide) (fun c_5 => ?_) (fun c_5 => ?_)
    · skip
      refine lv_aload_n hx hb dJx4a65c_grow_92f84_45 rfl (lv_at hl 1 rfl) ?_
      refine lv_bipush (v := nI 10) hx hb dJx4a65c_grow_92f84_46 (by decide) ?_
      refine lv_iload_n hx hb dJx4a65c_grow_92f84_48 rfl (lv_at hl 2 rfl) ?_
      refine va_mmax hx hb (by rw [hml]; exact hl.1.symm) hown (hts _ zw_417) (hts _ zw_382) (hts _ zw_13) (hts _ zw_383) (Nat.le_of_ble_eq_true rfl) (Nat.le_of_ble_eq_true rfl) (Nat.le_of_ble_eq_true rfl) (Nat.le_of_ble_eq_true rfl) dJx4a65c_grow_92f84_49 ?_
      rw [(zz_maxN (a := 10) (b := n + 1) (by omega) (by omega)).trans (congrArg nI (show max 10 (n + 1) = 10 by omega))]
      have hS : va_S A s.heap H _ := zz_Smono hS (fun _ h => h.elim)
      obtain ⟨r, hr0⟩ : ∃ z, z = H.size := ⟨_, rfl⟩
      refine zz_anew (N' := 10) hx hb hown (hts _ zw_418) hE0.1.2.2.1 hE0.K hS (nI_pos (by omega)) (nI_clamp (by omega)) (by omega) (Nat.le_of_ble_eq_true rfl) (Nat.le_of_ble_eq_true rfl) dJx4a65c_grow_92f84_52 (fun H1 hn9 hz1 ho1 hS => ?_)
      obtain ⟨hob9, hNW⟩ := zt_grown0 hZ hgn (by omega) (by omega) hz1 ho1 hn9
      rw [← hr0] at hNW hn9 ⊢
      refine W.eq (g2 := F0 m 55 ls [.ref r, .ref a]) rfl ?_
      refine lv_dup_x1 hx hb dJx4a65c_grow_92f84_55 rfl rfl ?_
      refine zz_put (ci := 2) (C := RJx4a65c) (T := TJx4a65c) (N := 3) (v := .ref r) (ty1 := .array (.object "java/lang/Object")) hx hb hts hown hE0.K hS hob9.1 hob9.2 rfl zf_Jx4a65c tyJx4a65c_ok nmJx4a65c 1 (by decide) zw_47 (fun _ h9 => h9) rfl (by decide +kernel) rfl rfl (Nat.le_of_ble_eq_true rfl) dJx4a65c_grow_92f84_56 (fun H2 locs ha9 hz9 ho9 hS => ?_)
      have hW9 := hNW H2 ha9 ho9
      refine W.eq (g2 := F0 m 59 ls [.ref r]) rfl ?_
      refine zz_aret (rx := some r) hx hb hr (Or.inr ⟨_, rfl⟩) hlocks hS (Nat.le_of_ble_eq_true rfl) (Nat.le_of_ble_eq_true rfl) dJx4a65c_grow_92f84_59 ?_
      exact ⟨r, 10, rfl, by omega, hW9⟩
    · skip
      exact absurd (congrArg some hbe) c_5
