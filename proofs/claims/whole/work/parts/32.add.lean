/-! by program (gen.py): contracts of methods -/
theorem zt_up {P : Nat → Prop} {g : Nat → Option Nat} {cp n r : Nat} (h : ∀ i, i < cp → ∀ y, g i = some y → P y) (hr : P r) : ∀ i, i < cp → ∀ y, va_up g n (some r) i = some y → P y := fun i hi y hy => by
  unfold va_up at hy
  by_cases e : i = n
  · rw [if_pos e] at hy; cases hy; exact hr
  · rw [if_neg e] at hy; exact h i hi y hy
def zt_cl (g : Nat → Option Nat) (n : Nat) : Nat → Option Nat := fun i => if i < n then none else g i
theorem zt_cl_0 (g : Nat → Option Nat) : zt_cl g 0 = g := by funext i; simp [zt_cl]
theorem zt_cl_s (g : Nat → Option Nat) (n : Nat) : va_up (zt_cl g n) n none = zt_cl g (n + 1) := by
  funext i
  unfold va_up zt_cl
  by_cases e : i = n
  · subst e; rw [if_pos rfl, if_pos (by omega)]
  · rw [if_neg e]
    by_cases c : i < n
    · rw [if_pos c, if_pos (by omega)]
    · rw [if_neg c, if_neg (by omega)]
theorem zt_cl_k {g : Nat → Option Nat} {m j y : Nat} (h : zt_cl g (m + 1) j = some y) : zt_cl g m j = some y := by
  unfold zt_cl at h ⊢
  by_cases c : j < m + 1
  · rw [if_pos c] at h; cases h
  · rw [if_neg c] at h; rw [if_neg (by omega)]; exact h
def zt_rm (g : Nat → Option Nat) (j n : Nat) : Nat → Option Nat := fun i => if j ≤ i ∧ i < n - 1 then g (i + 1) else if i = n - 1 then none else g i
theorem zt_rm0 {g : Nat → Option Nat} {j n : Nat} (h : n - 1 ≤ j) : va_up g (n - 1) none = zt_rm g j n := by
  funext i
  unfold va_up zt_rm
  rw [if_neg (show ¬ (j ≤ i ∧ i < n - 1) by omega)]
theorem zt_rm1 {g : Nat → Option Nat} {j n : Nat} (h : j < n - 1) : va_up (va_cpy g g (j + 1) j (n - 1 - j)) (n - 1) none = zt_rm g j n := by
  funext i
  unfold va_up va_cpy zt_rm
  by_cases e : i = n - 1
  · rw [if_pos e, if_neg (by omega), if_pos e]
  · rw [if_neg e, if_neg e]
    by_cases c : j ≤ i ∧ i < n - 1
    · rw [if_pos ⟨c.1, by omega⟩, if_pos c]; congr 1; omega
    · rw [if_neg (by omega), if_neg c]
theorem zt_rme {P : Nat → Prop} {g : Nat → Option Nat} {cp n j : Nat} (hn : n ≤ cp) (h : ∀ i, i < cp → ∀ y, g i = some y → P y) : ∀ i, i < cp → ∀ y, zt_rm g j n i = some y → P y := fun i hi y hy => by
  unfold zt_rm at hy
  split at hy
  · exact h (i + 1) (by omega) y hy
  · split at hy
    · cases hy
    · exact h i hi y hy
theorem zt_cpy {P : Nat → Prop} {g : Nat → Option Nat} {cp j k : Nat} (hk : j + 1 + k ≤ cp) (h : ∀ i, i < cp → ∀ y, g i = some y → P y) : ∀ i, i < cp → ∀ y, va_cpy g g (j + 1) j k i = some y → P y := fun i hi y hy => by
  unfold va_cpy at hy
  split at hy
  · exact h _ (by omega) y hy
  · exact h i hi y hy
theorem zt_elk {K : zz_G} {A : Nat → Prop} {g : Nat → Option Nat} {cp : Nat} {H0 H H1 : Heap} {l0 l1 : List Loc} (h : ∀ i, i < cp → ∀ y, g i = some y → zz_ob K H y ∧ ¬ A y) (S0 : va_S A H0 H l0) (S1 : va_S A H0 H1 l1) (hA : ∀ q : Nat, H0.size ≤ q → A q) : ∀ i, i < cp → ∀ y, g i = some y → zz_ob K H1 y := fun i hi y hy => by
  obtain ⟨o1, o2⟩ := h i hi y hy
  have hy0 : y < H0.size := by
    by_cases c : y < H0.size
    · exact c
    · exact absurd (hA y (by omega)) o2
  exact o1.kept ((S1.2.1 y hy0 o2).trans (S0.2.1 y hy0 o2).symm)
theorem zt_moved {K : zz_G} {A : Nat → Prop} {s : State} {a b : Nat} {mo : Int32} {n cp : Nat} {g g' : Nat → Option Nat} {H H1 : Heap} {l0 l1 : List Loc} (h : zt_W K A a b mo n cp g H) (S0 : va_S A s.heap H l0) (S1 : va_S A s.heap H1 l1) (hE : zz_E K A s s.heap) (hA : ∀ q : Nat, s.heap.size ≤ q → A q) (hc : cp ≠ 0) (h1 : zz_at K a (.inr (2, [.int mo, .ref b, .int (nI n)])) H1) (h2 : zz_at K b (.inl (K.2.1 2, cp, .inr (.inr (.inr (.inr g'))))) H1) (hg : (∀ i, i < cp → ∀ y, g i = some y → zz_ob K H1 y ∧ ¬ A y) → ∀ i, i < cp → ∀ y, g' i = some y → zz_ob K H1 y ∧ ¬ A y) : zt_Z K A s a b mo n cp g' H1 :=
  ⟨hE.kept (fun q hq hn => S1.2.1 q hq hn), fun q hq => hA q (Nat.le_trans S1.1 hq), ⟨h1, h.1.2⟩, fun _ => ⟨h2, (h.2.1 hc).2⟩, h.2.2.1, h.2.2.2.1, hg (fun i hi y hy => ⟨zt_elk h.2.2.2.2 S0 S1 hA i hi y hy, (h.2.2.2.2 i hi y hy).2⟩)⟩
theorem zd_Jx4a65c_add_72be8 : yJx4a65c_add_72be8.cls ≠ "java/lang/invoke/MethodHandle" ∧ yJx4a65c_add_72be8.cls ≠ "java/lang/invoke/VarHandle" ∧ (parseMethodDescriptor yJx4a65c_add_72be8.desc).map (fun d => d.parameters.length) = some 3 := by decide +kernel
theorem zd_Jx4a65c_fastRemove_b59b0 : yJx4a65c_fastRemove_b59b0.cls ≠ "java/lang/invoke/MethodHandle" ∧ yJx4a65c_fastRemove_b59b0.cls ≠ "java/lang/invoke/VarHandle" ∧ (parseMethodDescriptor yJx4a65c_fastRemove_b59b0.desc).map (fun d => d.parameters.length) = some 2 := by decide +kernel
theorem zd_Jx4a65c_grow_92f84 : yJx4a65c_grow_92f84.cls ≠ "java/lang/invoke/MethodHandle" ∧ yJx4a65c_grow_92f84.cls ≠ "java/lang/invoke/VarHandle" ∧ (parseMethodDescriptor yJx4a65c_grow_92f84.desc).map (fun d => d.parameters.length) = some 1 := by decide +kernel
theorem zd_Jx4a65c_grow_d5877 : yJx4a65c_grow_d5877.cls ≠ "java/lang/invoke/MethodHandle" ∧ yJx4a65c_grow_d5877.cls ≠ "java/lang/invoke/VarHandle" ∧ (parseMethodDescriptor yJx4a65c_grow_d5877.desc).map (fun d => d.parameters.length) = some 0 := by decide +kernel
set_option maxHeartbeats 4000000 in
set_option maxRecDepth 100000 in
theorem c_Jx4a65c_grow_d5877 (l : Launch) {K : zz_G} {A : Nat → Prop} {a b : Nat} {mo : Int32} {n cp : Nat} {g : Nat → Option Nat} (hn : n = cp) (hn12 : n ≤ 12) (hgn : ∀ i, n ≤ i → g i = none) : zz_C l yJx4a65c_grow_d5877 cJx4a65c_grow_d5877 1 (Option.some (FieldType.array (FieldType.object "java/lang/Object"))) ({ frames := 4, cells := 1, slots := 40, locals := 107 } : Room) K A [.ref a] (fun H => zt_W K A a b mo n cp g H) (fun v9 _ H9 => ∃ b9 cp9, v9 = some (.ref b9) ∧ n < cp9 ∧ zt_W K A a b9 mo n cp9 g H9) zz_nx A := by
  refine zz_body (by decide +kernel) (Nat.le_of_ble_eq_true rfl) ?_
  intro p e s m below meth c ls hx hb hr hml hts hown hlocks hmn htab hE hA hP hl
  have hN := hE.N
  have hK := hE.K
  have hown : s.vm.findClass RJx4a65c = some m.cls := hown
  have hl : lv_has ls 1 [(0, .ref a)] := hl
  have hZ : zt_Z K A s a b mo n cp g s.heap := ⟨hE, hA, hP⟩
  have hS : va_S zz_no s.heap s.heap [] := va_S.rf
  obtain ⟨H, hH⟩ : ∃ z, z = s.heap := ⟨_, rfl⟩
  have hS0 : va_S zz_no s.heap H [] := by rw [hH]; exact hS
  rw [← hH] at hZ
  have hE0 := hE
  clear hS
  have hS := hS0
  show W p l e _ s m _ below meth c s.heap [] 0 0 _ (F0 m 0 ls [])
  rw [← hH]
  refine lv_aload_n hx hb dJx4a65c_grow_d5877_0 rfl (lv_at hl 0 rfl) ?_
  refine lv_aload_n hx hb dJx4a65c_grow_d5877_1 rfl (lv_at hl 0 rfl) ?_
  refine zz_get (ci := 2) (C := RJx4a65c) (T := TJx4a65c) (N := 3) (v := .int (nI n)) hx hb hts hown hK (zt_ob hZ.W).1 rfl zf_Jx4a65c 2 (by decide) zw_48 (fun _ h9 => h9) rfl dJx4a65c_grow_d5877_2 ?_
  refine zz_con 1 hx hb dJx4a65c_grow_d5877_5 (by decide) ?_
  refine zz_add hx hb dJx4a65c_grow_d5877_6 ?_
  have hS : va_S A s.heap H _ := zz_Smono hS (fun _ h => h.elim)
  refine zz_after (pc := 7) rfl (zz_runV (ci := 2) (q0 := (RJx4a65c, TJx4a65c, 3)) (b := a) (As := [.int (nI (n + 1))]) (rest := []) hx hb hml hown hts (c_Jx4a65c_grow_92f84 l (K := K) (A := A) (a := a) (b := b) (mo := mo) (n := n) (cp := cp) (g := g) (by omega) (by omega) hgn) zw_374 zw_376 zs_15 zw_4 zw_377 zd_Jx4a65c_grow_92f84 ⟨Nat.le_of_ble_eq_true rfl, Nat.le_of_ble_eq_true rfl⟩ hZ.E hZ.A (zt_ob hZ.W).1 rfl rfl hZ.W hl.1 (Nat.le_of_ble_eq_true rfl) dJx4a65c_grow_d5877_7 ⟨Nat.le_of_ble_eq_true rfl, Nat.le_of_ble_eq_true rfl⟩) hS (fun _ h => h) (fun v_3 H locs hq_1 hF_2 hS => ?_)
  refine W.widen (k := 1) (n := 40) (Nat.le_of_ble_eq_true rfl) (Nat.le_of_ble_eq_true rfl) ?_
  obtain ⟨b9, cp9, rfl, hlt9, hW9⟩ := hq_1
  have hZ := hZ.mut hF_2 hW9
  refine W.eq (g2 := F0 m 10 ls [.ref b9]) rfl ?_
  refine zz_aret (rx := some b9) hx hb hr (Or.inr ⟨_, rfl⟩) hlocks hS (Nat.le_of_ble_eq_true rfl) (Nat.le_of_ble_eq_true rfl) dJx4a65c_grow_d5877_10 ?_
  exact ⟨b9, cp9, rfl, hlt9, hZ.W⟩

set_option maxHeartbeats 4000000 in
set_option maxRecDepth 100000 in
theorem c_Jx4a65c_add_72be8 (l : Launch) {K : zz_G} {A : Nat → Prop} {a b : Nat} {mo : Int32} {n cp : Nat} {g : Nat → Option Nat} {r : Nat} (hn12 : n ≤ 12) (hgn : ∀ i, n ≤ i → g i = none) : zz_C l yJx4a65c_add_72be8 cJx4a65c_add_72be8 4 (Option.none : Option Jvm.ClassFile.FieldType) ({ frames := 5, cells := 1, slots := 40, locals := 127 } : Room) K A [.ref a, .ref r, .ref b, .int (nI n)] (fun H => zt_W K A a b mo n cp g H ∧ zz_ob K H r ∧ ¬ A r) (fun v9 _ H9 => v9 = none ∧ ∃ b9 cp9, zt_W K A a b9 mo (n + 1) cp9 (va_up g n (some r)) H9) zz_nx A := by
  refine zz_body (by decide +kernel) (Nat.le_of_ble_eq_true rfl) ?_
  intro p e s m below meth c ls hx hb hr hml hts hown hlocks hmn htab hE hA hP hl
  have hN := hE.N
  have hK := hE.K
  have hown : s.vm.findClass RJx4a65c = some m.cls := hown
  have hl : lv_has ls 4 [(0, .ref a), (1, .ref r), (2, .ref b), (3, .int (nI n))] := hl
  have hZ : zt_Z K A s a b mo n cp g s.heap := ⟨hE, hA, hP.1⟩
  have hP2 := hP.2
  have hS : va_S zz_no s.heap s.heap [] := va_S.rf
  obtain ⟨H, hH⟩ : ∃ z, z = s.heap := ⟨_, rfl⟩
  have hS0 : va_S zz_no s.heap H [] := by rw [hH]; exact hS
  rw [← hH] at hZ
  have hE0 := hE
  clear hS
  have hS := hS0
  have hcpb := hZ.W.2.2.2.1
  show W p l e _ s m _ below meth c s.heap [] 0 0 _ (F0 m 0 ls [])
  rw [← hH]
  refine lv_iload_n hx hb dJx4a65c_add_72be8_0 rfl (lv_at hl 3 rfl) ?_
  refine lv_aload_n hx hb dJx4a65c_add_72be8_1 rfl (lv_at hl 2 rfl) ?_
  refine zt_len hx hb hE0 (zz_Smono hS (fun _ h => h.elim)) hZ dJx4a65c_add_72be8_2 ?_
  refine W.eq (g2 := F0 m 3 ls [.int (nI cp), .int (nI n)]) rfl ?_
  refine zz_ic_ne (tgt := 11) (by first | exact hB _ _ | exact hUa _ | exact hUb _ | exact hUc _ | exact hUd _ | omega) (by first | exact hB _ _ | exact hUa _ | exact hUb _ | exact hUc _ | exact hUd _ | omega) hx hb dJx4a65c_add_72be8_3 (by decide) (fun c_1 => ?_) (fun c_1 => ?_)
  · skip
    refine lv_aload_n hx hb dJx4a65c_add_72be8_11 rfl (lv_at hl 2 rfl) ?_
    refine lv_iload_n hx hb dJx4a65c_add_72be8_12 rfl (lv_at hl 3 rfl) ?_
    refine lv_aload_n hx hb dJx4a65c_add_72be8_13 rfl (lv_at hl 1 rfl) ?_
    have hS : va_S A s.heap H _ := zz_Smono hS (fun _ h => h.elim)
    have hcl9 : n < cp := by have := hZ.W.2.2.2.1; omega
    have hcl8 := hZ.W.2.2.2.1.2
    have har9 := zt_ar hZ.W (by omega)
    have hob9 := hP2.1.kept (hS.2.1 r hP2.1.lt hP2.2)
    refine zz_aast hx hb hE0.K hE0.N hS har9.1 har9.2 hob9 (vp_in_nI hcl9 (by omega)) dJx4a65c_add_72be8_14 (fun H locs ha9 hz9 ho9 hS => ?_)
    rw [nI_clamp (by omega)] at ha9
    have hZ : zt_Z K A s a b mo n cp (va_up g n (some r)) H := hZ.put har9.2 hz9 ho9 (zt_put_el (by omega) (zt_up (fun i hi y hy => hZ.W.2.2.2.2 i hi y hy) ⟨hob9, hP2.2⟩) hZ.W ha9 ho9)
    refine W.eq (g2 := F0 m 15 ls []) rfl ?_
    refine lv_aload_n hx hb dJx4a65c_add_72be8_15 rfl (lv_at hl 0 rfl) ?_
    refine lv_iload_n hx hb dJx4a65c_add_72be8_16 rfl (lv_at hl 3 rfl) ?_
    refine zz_con 1 hx hb dJx4a65c_add_72be8_17 (by decide) ?_
    refine zz_add hx hb dJx4a65c_add_72be8_18 ?_
    have haA_5 := (zt_ob hZ.W).2
    refine zz_put (ci := 2) (C := RJx4a65c) (T := TJx4a65c) (N := 3) (v := .int (nI (n + 1))) (ty1 := .int) hx hb hts hown hK hS (zt_ob hZ.W).1 haA_5 rfl zf_Jx4a65c tyJx4a65c_ok nmJx4a65c 2 (by decide) zw_48 (fun _ h9 => h9) rfl (by decide +kernel) rfl rfl (Nat.le_of_ble_eq_true rfl) dJx4a65c_add_72be8_19 (fun H locs ha_3 hz_4 ho_2 hS => ?_)
    have hZ : zt_Z K A s a b mo (n + 1) cp (va_up g n (some r)) H := hZ.put haA_5 hz_4 ho_2 (zt_put_n (by omega) hZ.W ha_3 ho_2)
    refine zz_vret hx hb hr hlocks hS (Nat.le_of_ble_eq_true rfl) (Nat.le_of_ble_eq_true rfl) dJx4a65c_add_72be8_22 ?_
    exact ⟨rfl, _, _, hZ.W⟩
  · skip
    refine lv_aload_n hx hb dJx4a65c_add_72be8_6 rfl (lv_at hl 0 rfl) ?_
    have hS : va_S A s.heap H _ := zz_Smono hS (fun _ h => h.elim)
    refine zz_after (pc := 7) rfl (zz_runV (ci := 2) (q0 := (RJx4a65c, TJx4a65c, 3)) (b := a) (As := []) (rest := []) hx hb hml hown hts (c_Jx4a65c_grow_d5877 l (K := K) (A := A) (a := a) (b := b) (mo := mo) (n := n) (cp := cp) (g := g) (by omega) (by omega) hgn) zw_370 zw_372 zs_14 zw_4 zw_373 zd_Jx4a65c_grow_d5877 ⟨Nat.le_of_ble_eq_true rfl, Nat.le_of_ble_eq_true rfl⟩ hZ.E hZ.A (zt_ob hZ.W).1 rfl rfl hZ.W hl.1 (Nat.le_of_ble_eq_true rfl) dJx4a65c_add_72be8_7 ⟨Nat.le_of_ble_eq_true rfl, Nat.le_of_ble_eq_true rfl⟩) hS (fun _ h => h) (fun v_8 H locs hq_6 hF_7 hS => ?_)
    refine W.widen (k := 1) (n := 40) (Nat.le_of_ble_eq_true rfl) (Nat.le_of_ble_eq_true rfl) ?_
    obtain ⟨b9, cp9, rfl, hlt9, hW9⟩ := hq_6
    have hZ := hZ.mut hF_7 hW9
    refine W.eq (g2 := F0 m 10 ls [.ref b9]) rfl ?_
    refine lv_astore_n (lv' := [(2, .ref b9), (0, .ref a), (1, .ref r), (3, .int (nI n))]) hx hb dJx4a65c_add_72be8_10 rfl hl (Nat.le_of_ble_eq_true rfl) rfl (fun ls hl => ?_)
    refine lv_aload_n hx hb dJx4a65c_add_72be8_11 rfl (lv_at hl 0 rfl) ?_
    refine lv_iload_n hx hb dJx4a65c_add_72be8_12 rfl (lv_at hl 3 rfl) ?_
    refine lv_aload_n hx hb dJx4a65c_add_72be8_13 rfl (lv_at hl 2 rfl) ?_
    have hcl9 : n < cp9 := by have := hZ.W.2.2.2.1; omega
    have hcl8 := hZ.W.2.2.2.1.2
    have har9 := zt_ar hZ.W (by omega)
    have hob9 := hP2.1.kept (hS.2.1 r hP2.1.lt hP2.2)
    refine zz_aast hx hb hE0.K hE0.N hS har9.1 har9.2 hob9 (vp_in_nI hcl9 (by omega)) dJx4a65c_add_72be8_14 (fun H locs ha9 hz9 ho9 hS => ?_)
    rw [nI_clamp (by omega)] at ha9
    have hZ : zt_Z K A s a b9 mo n cp9 (va_up g n (some r)) H := hZ.put har9.2 hz9 ho9 (zt_put_el (by omega) (zt_up (fun i hi y hy => hZ.W.2.2.2.2 i hi y hy) ⟨hob9, hP2.2⟩) hZ.W ha9 ho9)
    refine W.eq (g2 := F0 m 15 ls []) rfl ?_
    refine lv_aload_n hx hb dJx4a65c_add_72be8_15 rfl (lv_at hl 1 rfl) ?_
    refine lv_iload_n hx hb dJx4a65c_add_72be8_16 rfl (lv_at hl 3 rfl) ?_
    refine zz_con 1 hx hb dJx4a65c_add_72be8_17 (by decide) ?_
    refine zz_add hx hb dJx4a65c_add_72be8_18 ?_
    have haA_12 := (zt_ob hZ.W).2
    refine zz_put (ci := 2) (C := RJx4a65c) (T := TJx4a65c) (N := 3) (v := .int (nI (n + 1))) (ty1 := .int) hx hb hts hown hK hS (zt_ob hZ.W).1 haA_12 rfl zf_Jx4a65c tyJx4a65c_ok nmJx4a65c 2 (by decide) zw_48 (fun _ h9 => h9) rfl (by decide +kernel) rfl rfl (Nat.le_of_ble_eq_true rfl) dJx4a65c_add_72be8_19 (fun H locs ha_10 hz_11 ho_9 hS => ?_)
    have hZ : zt_Z K A s a b9 mo (n + 1) cp9 (va_up g n (some r)) H := hZ.put haA_12 hz_11 ho_9 (zt_put_n (by omega) hZ.W ha_10 ho_9)
    refine zz_vret hx hb hr hlocks hS (Nat.le_of_ble_eq_true rfl) (Nat.le_of_ble_eq_true rfl) dJx4a65c_add_72be8_22 ?_
    exact ⟨rfl, _, _, hZ.W⟩

set_option maxHeartbeats 4000000 in
set_option maxRecDepth 100000 in
theorem c_Jx4a65c_add_9ea2d (l : Launch) {K : zz_G} {A : Nat → Prop} {a b : Nat} {mo : Int32} {n cp : Nat} {g : Nat → Option Nat} {r : Nat} (hn12 : n ≤ 12) (hgn : ∀ i, n ≤ i → g i = none) : zz_C l yJx4a65c_add_9ea2d cJx4a65c_add_9ea2d 2 (Option.some FieldType.boolean) ({ frames := 6, cells := 1, slots := 40, locals := 150 } : Room) K A [.ref a, .ref r] (fun H => zt_W K A a b mo n cp g H ∧ zz_ob K H r ∧ ¬ A r) (fun v9 _ H9 => v9 = some (.int (nI 1)) ∧ ∃ b9 cp9, zt_W K A a b9 (mo + nI 1) (n + 1) cp9 (va_up g n (some r)) H9) zz_nx A := by
  refine zz_body (by decide +kernel) (Nat.le_of_ble_eq_true rfl) ?_
  intro p e s m below meth c ls hx hb hr hml hts hown hlocks hmn htab hE hA hP hl
  have hN := hE.N
  have hK := hE.K
  have hown : s.vm.findClass RJx4a65c = some m.cls := hown
  have hl : lv_has ls 2 [(0, .ref a), (1, .ref r)] := hl
  have hZ : zt_Z K A s a b mo n cp g s.heap := ⟨hE, hA, hP.1⟩
  have hP2 := hP.2
  have hS : va_S zz_no s.heap s.heap [] := va_S.rf
  obtain ⟨H, hH⟩ : ∃ z, z = s.heap := ⟨_, rfl⟩
  have hS0 : va_S zz_no s.heap H [] := by rw [hH]; exact hS
  rw [← hH] at hZ
  have hE0 := hE
  clear hS
  have hS := hS0
  have hcpb := hZ.W.2.2.2.1
  show W p l e _ s m _ below meth c s.heap [] 0 0 _ (F0 m 0 ls [])
  rw [← hH]
  refine lv_aload_n hx hb dJx4a65c_add_9ea2d_0 rfl (lv_at hl 0 rfl) ?_
  refine lv_dup hx hb dJx4a65c_add_9ea2d_1 rfl ?_
  refine zz_get (ci := 2) (C := RJx4a65c) (T := TJx4a65c) (N := 3) (v := .int mo) hx hb hts hown hK (zt_ob hZ.W).1 rfl zf_Jx4a65c 0 (by decide) zw_50 (fun x h9 => u_same (hts _ zw_51) x h9) rfl dJx4a65c_add_9ea2d_2 ?_
  refine zz_con 1 hx hb dJx4a65c_add_9ea2d_5 (by decide) ?_
  refine lv_iadd hx hb dJx4a65c_add_9ea2d_6 ?_
  have hS : va_S A s.heap H _ := zz_Smono hS (fun _ h => h.elim)
  have haA_4 := (zt_ob hZ.W).2
  refine zz_put (ci := 2) (C := RJx4a65c) (T := TJx4a65c) (N := 3) (v := .int (mo + (nI 1))) (ty1 := .int) hx hb hts hown hK hS (zt_ob hZ.W).1 haA_4 rfl zf_Jx4a65c tyJx4a65c_ok nmJx4a65c 0 (by decide) zw_50 (fun x h9 => u_same (hts _ zw_51) x h9) rfl (by decide +kernel) rfl rfl (Nat.le_of_ble_eq_true rfl) dJx4a65c_add_9ea2d_7 (fun H locs ha_2 hz_3 ho_1 hS => ?_)
  have hZ : zt_Z K A s a b (mo + (nI 1)) n cp g H := hZ.put haA_4 hz_3 ho_1 (zt_put_mo hZ.W ha_2 ho_1)
  refine lv_aload_n hx hb dJx4a65c_add_9ea2d_10 rfl (lv_at hl 0 rfl) ?_
  refine lv_aload_n hx hb dJx4a65c_add_9ea2d_11 rfl (lv_at hl 1 rfl) ?_
  refine lv_aload_n hx hb dJx4a65c_add_9ea2d_12 rfl (lv_at hl 0 rfl) ?_
  refine zz_get (ci := 2) (C := RJx4a65c) (T := TJx4a65c) (N := 3) (v := .ref b) hx hb hts hown hK (zt_ob hZ.W).1 rfl zf_Jx4a65c 1 (by decide) zw_47 (fun _ h9 => h9) rfl dJx4a65c_add_9ea2d_13 ?_
  refine lv_aload_n hx hb dJx4a65c_add_9ea2d_16 rfl (lv_at hl 0 rfl) ?_
  refine zz_get (ci := 2) (C := RJx4a65c) (T := TJx4a65c) (N := 3) (v := .int (nI n)) hx hb hts hown hK (zt_ob hZ.W).1 rfl zf_Jx4a65c 2 (by decide) zw_48 (fun _ h9 => h9) rfl dJx4a65c_add_9ea2d_17 ?_
  have hob9 := hP2.1.kept (hS.2.1 r hP2.1.lt (fun z => hP2.2 z))
  refine zz_after (pc := 20) rfl (zz_runV (ci := 2) (q0 := (RJx4a65c, TJx4a65c, 3)) (b := a) (As := [.ref r, .ref b, .int (nI n)]) (rest := []) hx hb hml hown hts (c_Jx4a65c_add_72be8 l (K := K) (A := A) (a := a) (b := b) (mo := mo + (nI 1)) (n := n) (cp := cp) (g := g) (r := r) hn12 hgn) zw_366 zw_368 zs_13 zw_4 zw_369 zd_Jx4a65c_add_72be8 ⟨Nat.le_of_ble_eq_true rfl, Nat.le_of_ble_eq_true rfl⟩ hZ.E hZ.A (zt_ob hZ.W).1 rfl rfl ⟨hZ.W, hob9, hP2.2⟩ hl.1 (Nat.le_of_ble_eq_true rfl) dJx4a65c_add_9ea2d_20 ⟨Nat.le_of_ble_eq_true rfl, Nat.le_of_ble_eq_true rfl⟩) hS (fun _ h => h) (fun v_7 H locs hq_5 hF_6 hS => ?_)
  refine W.widen (k := 1) (n := 40) (Nat.le_of_ble_eq_true rfl) (Nat.le_of_ble_eq_true rfl) ?_
  obtain ⟨rfl, b9, cp9, hW9⟩ := hq_5
  have hZ := hZ.mut hF_6 hW9
  refine W.eq (g2 := F0 m 23 ls []) rfl ?_
  refine zz_con 1 hx hb dJx4a65c_add_9ea2d_23 (by decide) ?_
  refine zz_zret hx hb hr hlocks hS (Nat.le_of_ble_eq_true rfl) (Nat.le_of_ble_eq_true rfl) dJx4a65c_add_9ea2d_24 (show nI 1 = 0 ∨ nI 1 = 1 by decide) ?_
  exact ⟨rfl, b9, cp9, hZ.W⟩

set_option maxHeartbeats 4000000 in
set_option maxRecDepth 100000 in
theorem c_Jx4a65c_clear_da8c8 (l : Launch) {K : zz_G} {A : Nat → Prop} {a b : Nat} {mo : Int32} {n cp : Nat} {g : Nat → Option Nat} (hn12 : n ≤ 12) : zz_C l yJx4a65c_clear_da8c8 cJx4a65c_clear_da8c8 4 (Option.none : Option Jvm.ClassFile.FieldType) ({ frames := 0, cells := 0, slots := 0, locals := 0 } : Room) K A [.ref a] (fun H => zt_W K A a b mo n cp g H) (fun v9 _ H9 => v9 = none ∧ zt_W K A a b (mo + nI 1) 0 cp (zt_cl g n) H9) zz_nx A := by
  refine zz_body (by decide +kernel) (Nat.le_of_ble_eq_true rfl) ?_
  intro p e s m below meth c ls hx hb hr hml hts hown hlocks hmn htab hE hA hP hl
  have hN := hE.N
  have hK := hE.K
  have hown : s.vm.findClass RJx4a65c = some m.cls := hown
  have hl : lv_has ls 4 [(0, .ref a)] := hl
  have hZ : zt_Z K A s a b mo n cp g s.heap := ⟨hE, hA, hP⟩
  have hS : va_S zz_no s.heap s.heap [] := va_S.rf
  obtain ⟨H, hH⟩ : ∃ z, z = s.heap := ⟨_, rfl⟩
  have hS0 : va_S zz_no s.heap H [] := by rw [hH]; exact hS
  rw [← hH] at hZ
  have hE0 := hE
  clear hS
  have hS := hS0
  have hcpb := hZ.W.2.2.2.1
  show W p l e _ s m _ below meth c s.heap [] 0 0 _ (F0 m 0 ls [])
  rw [← hH]
  refine lv_aload_n hx hb dJx4a65c_clear_da8c8_0 rfl (lv_at hl 0 rfl) ?_
  refine lv_dup hx hb dJx4a65c_clear_da8c8_1 rfl ?_
  refine zz_get (ci := 2) (C := RJx4a65c) (T := TJx4a65c) (N := 3) (v := .int mo) hx hb hts hown hK (zt_ob hZ.W).1 rfl zf_Jx4a65c 0 (by decide) zw_50 (fun x h9 => u_same (hts _ zw_51) x h9) rfl dJx4a65c_clear_da8c8_2 ?_
  refine zz_con 1 hx hb dJx4a65c_clear_da8c8_5 (by decide) ?_
  refine lv_iadd hx hb dJx4a65c_clear_da8c8_6 ?_
  have hS : va_S A s.heap H _ := zz_Smono hS (fun _ h => h.elim)
  have haA_4 := (zt_ob hZ.W).2
  refine zz_put (ci := 2) (C := RJx4a65c) (T := TJx4a65c) (N := 3) (v := .int (mo + (nI 1))) (ty1 := .int) hx hb hts hown hK hS (zt_ob hZ.W).1 haA_4 rfl zf_Jx4a65c tyJx4a65c_ok nmJx4a65c 0 (by decide) zw_50 (fun x h9 => u_same (hts _ zw_51) x h9) rfl (by decide +kernel) rfl rfl (Nat.le_of_ble_eq_true rfl) dJx4a65c_clear_da8c8_7 (fun H locs ha_2 hz_3 ho_1 hS => ?_)
  have hZ : zt_Z K A s a b (mo + (nI 1)) n cp g H := hZ.put haA_4 hz_3 ho_1 (zt_put_mo hZ.W ha_2 ho_1)
  refine lv_aload_n hx hb dJx4a65c_clear_da8c8_10 rfl (lv_at hl 0 rfl) ?_
  refine zz_get (ci := 2) (C := RJx4a65c) (T := TJx4a65c) (N := 3) (v := .ref b) hx hb hts hown hK (zt_ob hZ.W).1 rfl zf_Jx4a65c 1 (by decide) zw_47 (fun _ h9 => h9) rfl dJx4a65c_clear_da8c8_11 ?_
  refine lv_astore_n (lv' := [(1, .ref b), (0, .ref a)]) hx hb dJx4a65c_clear_da8c8_14 rfl hl (Nat.le_of_ble_eq_true rfl) rfl (fun ls hl => ?_)
  refine lv_aload_n hx hb dJx4a65c_clear_da8c8_15 rfl (lv_at hl 1 rfl) ?_
  refine zz_get (ci := 2) (C := RJx4a65c) (T := TJx4a65c) (N := 3) (v := .int (nI n)) hx hb hts hown hK (zt_ob hZ.W).1 rfl zf_Jx4a65c 2 (by decide) zw_48 (fun _ h9 => h9) rfl dJx4a65c_clear_da8c8_16 ?_
  refine lv_istore_n (lv' := [(2, .int (nI n)), (1, .ref b), (0, .ref a)]) hx hb dJx4a65c_clear_da8c8_19 rfl hl (Nat.le_of_ble_eq_true rfl) rfl (fun ls hl => ?_)
  refine lv_aload_n hx hb dJx4a65c_clear_da8c8_20 rfl (lv_at hl 2 rfl) ?_
  refine zz_con 0 hx hb dJx4a65c_clear_da8c8_21 (by decide) ?_
  refine lv_dup_x1 hx hb dJx4a65c_clear_da8c8_22 rfl rfl ?_
  have haA_8 := (zt_ob hZ.W).2
  refine zz_put (ci := 2) (C := RJx4a65c) (T := TJx4a65c) (N := 3) (v := .int (nI 0)) (ty1 := .int) hx hb hts hown hK hS (zt_ob hZ.W).1 haA_8 rfl zf_Jx4a65c tyJx4a65c_ok nmJx4a65c 2 (by decide) zw_48 (fun _ h9 => h9) rfl (by decide +kernel) rfl rfl (Nat.le_of_ble_eq_true rfl) dJx4a65c_clear_da8c8_23 (fun H locs ha_6 hz_7 ho_5 hS => ?_)
  have hZ : zt_Z K A s a b (mo + (nI 1)) 0 cp g H := hZ.put haA_8 hz_7 ho_5 (zt_put_n (by omega) hZ.W ha_6 ho_5)
  refine lv_istore_n (lv' := [(3, .int (nI 0)), (2, .int (nI n)), (1, .ref b), (0, .ref a)]) hx hb dJx4a65c_clear_da8c8_26 rfl hl (Nat.le_of_ble_eq_true rfl) rfl (fun ls hl => ?_)
  have hL_10 : ∀ (k i : Nat), i ≤ n → n < i + k → ∀ (H : Heap) (locs : List Loc) (ls : Array Slot), zt_Z K A s a b (mo + (nI 1)) 0 cp (zt_cl g i) H → va_S A s.heap H locs → lv_has ls 4 [(3, .int (nI i)), (2, .int (nI n)), (1, .ref b), (0, .ref a)] → W p l e ({ frames := 0, cells := 0, slots := 0, locals := 0 } : Room) s m ([.ref a] : List Value).toArray below meth c H locs 0 0 (vx_MQ below (zz_Qc (fun v9 _ H9 => v9 = none ∧ zt_W K A a b (mo + nI 1) 0 cp (zt_cl g n) H9) A) (zz_XC zz_nx) ([.ref a] : List Value).toArray s ({ frames := 0, cells := 0, slots := 0, locals := 0 } : Room).cells ({ frames := 0, cells := 0, slots := 0, locals := 0 } : Room).slots A) (F0 m 27 ls []) := by
    intro k
    induction k with
    | zero => intro i hi hik; omega
    | succ k ih_i =>
      intro i hii hiki H locs ls hZ hS hl
      refine lv_iload_n hx hb dJx4a65c_clear_da8c8_27 rfl (lv_at hl 0 rfl) ?_
      refine lv_iload_n hx hb dJx4a65c_clear_da8c8_28 rfl (lv_at hl 1 rfl) ?_
      refine zz_ic_ge (tgt := 42) (by first | exact hB _ _ | exact hUa _ | exact hUb _ | exact hUc _ | exact hUd _ | omega) (by first | exact hB _ _ | exact hUa _ | exact hUb _ | exact hUc _ | exact hUd _ | omega) hx hb dJx4a65c_clear_da8c8_29 (by decide) (fun c_11 => ?_) (fun c_11 => ?_)
      · skip
        have hin9 : i = n := by omega
        rw [hin9] at hZ
        refine zz_vret hx hb hr hlocks hS (Nat.le_of_ble_eq_true rfl) (Nat.le_of_ble_eq_true rfl) dJx4a65c_clear_da8c8_42 ?_
        exact ⟨rfl, hZ.W⟩
      · skip
        refine lv_aload_n hx hb dJx4a65c_clear_da8c8_32 rfl (lv_at hl 2 rfl) ?_
        refine lv_iload_n hx hb dJx4a65c_clear_da8c8_33 rfl (lv_at hl 0 rfl) ?_
        refine lv_null hx hb dJx4a65c_clear_da8c8_34 ?_
        have har9 := zt_ar hZ.W (by omega)
        refine zz_aastN hx hb hE0.K hS har9.1 har9.2 (vp_in_nI (show i < cp by omega) (by omega)) dJx4a65c_clear_da8c8_35 (fun H locs ha9 hz9 ho9 hS => ?_)
        rw [nI_clamp (by omega), zt_cl_s] at ha9
        have hZ : zt_Z K A s a b (mo + (nI 1)) 0 cp (zt_cl g (i + 1)) H := hZ.put har9.2 hz9 ho9 (zt_put_el (by omega) (fun j hj y hy => hZ.W.2.2.2.2 j hj y (zt_cl_k hy)) hZ.W ha9 ho9)
        refine W.eq (g2 := F0 m 36 ls []) rfl ?_
        refine zz_inc (k := 0) (lv' := [(3, .int (nI (i + 1))), (2, .int (nI n)), (1, .ref b), (0, .ref a)]) hx hb dJx4a65c_clear_da8c8_36 hl rfl (Nat.le_of_ble_eq_true rfl) rfl (fun ls hl => ?_)
        refine lv_goto (tgt := 27) hx hb dJx4a65c_clear_da8c8_39 (by decide) ?_
        refine ih_i (i + 1) (by omega) (by omega) _ _ _ ?_ hS ?_
        · exact hZ
        · skip
          exact lv_sub hl [0, 1, 2, 3] rfl
  refine hL_10 (n + 1) 0 (by first | omega | exact Nat.zero_le _) (by first | omega | (rw [Nat.zero_add]; exact Nat.lt_succ_self _)) _ _ _ ?_ hS ?_
  · rw [zt_cl_0]; exact hZ
  exact lv_sub hl [0, 1, 2, 3] rfl

set_option maxHeartbeats 4000000 in
set_option maxRecDepth 100000 in
theorem c_Jx4a65c_fastRemove_b59b0 (l : Launch) {K : zz_G} {A : Nat → Prop} {a b : Nat} {mo : Int32} {n cp : Nat} {g : Nat → Option Nat} {j : Nat} (hj : j < n) (hn12 : n ≤ 12) : zz_C l yJx4a65c_fastRemove_b59b0 cJx4a65c_fastRemove_b59b0 4 (Option.none : Option Jvm.ClassFile.FieldType) ({ frames := 1, cells := 0, slots := 0, locals := 40 } : Room) K A [.ref a, .ref b, .int (nI j)] (fun H => zt_W K A a b mo n cp g H) (fun v9 _ H9 => v9 = none ∧ zt_W K A a b (mo + nI 1) (n - 1) cp (zt_rm g j n) H9) zz_nx A := by
  refine zz_body (by decide +kernel) (Nat.le_of_ble_eq_true rfl) ?_
  intro p e s m below meth c ls hx hb hr hml hts hown hlocks hmn htab hE hA hP hl
  have hN := hE.N
  have hK := hE.K
  have hown : s.vm.findClass RJx4a65c = some m.cls := hown
  have hl : lv_has ls 4 [(0, .ref a), (1, .ref b), (2, .int (nI j))] := hl
  have hZ : zt_Z K A s a b mo n cp g s.heap := ⟨hE, hA, hP⟩
  have hS : va_S zz_no s.heap s.heap [] := va_S.rf
  obtain ⟨H, hH⟩ : ∃ z, z = s.heap := ⟨_, rfl⟩
  have hS0 : va_S zz_no s.heap H [] := by rw [hH]; exact hS
  rw [← hH] at hZ
  have hE0 := hE
  clear hS
  have hS := hS0
  have hcpb := hZ.W.2.2.2.1
  have hcp0 : cp ≠ 0 := by omega
  have hel0 := hZ.W.2.2.2.2
  have hSo0 : va_S A s.heap H [] := zz_Smono hS (fun _ h => h.elim)
  show W p l e _ s m _ below meth c s.heap [] 0 0 _ (F0 m 0 ls [])
  rw [← hH]
  refine lv_aload_n hx hb dJx4a65c_fastRemove_b59b0_0 rfl (lv_at hl 0 rfl) ?_
  refine lv_dup hx hb dJx4a65c_fastRemove_b59b0_1 rfl ?_
  refine zz_get (ci := 2) (C := RJx4a65c) (T := TJx4a65c) (N := 3) (v := .int mo) hx hb hts hown hK (zt_ob hZ.W).1 rfl zf_Jx4a65c 0 (by decide) zw_50 (fun x h9 => u_same (hts _ zw_51) x h9) rfl dJx4a65c_fastRemove_b59b0_2 ?_
  refine zz_con 1 hx hb dJx4a65c_fastRemove_b59b0_5 (by decide) ?_
  refine lv_iadd hx hb dJx4a65c_fastRemove_b59b0_6 ?_
  have hS : va_S A s.heap H _ := zz_Smono hS (fun _ h => h.elim)
  have haA_4 := (zt_ob hZ.W).2
  refine zz_put (ci := 2) (C := RJx4a65c) (T := TJx4a65c) (N := 3) (v := .int (mo + (nI 1))) (ty1 := .int) hx hb hts hown hK hS (zt_ob hZ.W).1 haA_4 rfl zf_Jx4a65c tyJx4a65c_ok nmJx4a65c 0 (by decide) zw_50 (fun x h9 => u_same (hts _ zw_51) x h9) rfl (by decide +kernel) rfl rfl (Nat.le_of_ble_eq_true rfl) dJx4a65c_fastRemove_b59b0_7 (fun H locs ha_2 hz_3 ho_1 hS => ?_)
  have hZ : zt_Z K A s a b (mo + (nI 1)) n cp g H := hZ.put haA_4 hz_3 ho_1 (zt_put_mo hZ.W ha_2 ho_1)
  refine lv_aload_n hx hb dJx4a65c_fastRemove_b59b0_10 rfl (lv_at hl 0 rfl) ?_
  refine zz_get (ci := 2) (C := RJx4a65c) (T := TJx4a65c) (N := 3) (v := .int (nI n)) hx hb hts hown hK (zt_ob hZ.W).1 rfl zf_Jx4a65c 2 (by decide) zw_48 (fun _ h9 => h9) rfl dJx4a65c_fastRemove_b59b0_11 ?_
  refine zz_con 1 hx hb dJx4a65c_fastRemove_b59b0_14 (by decide) ?_
  refine zz_sub (by omega) hx hb dJx4a65c_fastRemove_b59b0_15 ?_
  refine lv_dup hx hb dJx4a65c_fastRemove_b59b0_16 rfl ?_
  refine lv_istore_n (lv' := [(3, .int (nI (n - 1))), (0, .ref a), (1, .ref b), (2, .int (nI j))]) hx hb dJx4a65c_fastRemove_b59b0_17 rfl hl (Nat.le_of_ble_eq_true rfl) rfl (fun ls hl => ?_)
  refine lv_iload_n hx hb dJx4a65c_fastRemove_b59b0_18 rfl (lv_at hl 3 rfl) ?_
  refine zz_ic_le (tgt := 34) (by first | exact hB _ _ | exact hUa _ | exact hUb _ | exact hUc _ | exact hUd _ | omega) (by first | exact hB _ _ | exact hUa _ | exact hUb _ | exact hUc _ | exact hUd _ | omega) hx hb dJx4a65c_fastRemove_b59b0_19 (by decide) (fun c_5 => ?_) (fun c_5 => ?_)
  · skip
    refine lv_aload_n hx hb dJx4a65c_fastRemove_b59b0_34 rfl (lv_at hl 2 rfl) ?_
    refine lv_aload_n hx hb dJx4a65c_fastRemove_b59b0_35 rfl (lv_at hl 1 rfl) ?_
    refine lv_iload_n hx hb dJx4a65c_fastRemove_b59b0_36 rfl (lv_at hl 0 rfl) ?_
    refine lv_dup_x1 hx hb dJx4a65c_fastRemove_b59b0_37 rfl rfl ?_
    have haA_9 := (zt_ob hZ.W).2
    refine zz_put (ci := 2) (C := RJx4a65c) (T := TJx4a65c) (N := 3) (v := .int (nI (n - 1))) (ty1 := .int) hx hb hts hown hK hS (zt_ob hZ.W).1 haA_9 rfl zf_Jx4a65c tyJx4a65c_ok nmJx4a65c 2 (by decide) zw_48 (fun _ h9 => h9) rfl (by decide +kernel) rfl rfl (Nat.le_of_ble_eq_true rfl) dJx4a65c_fastRemove_b59b0_38 (fun H locs ha_7 hz_8 ho_6 hS => ?_)
    have hZ : zt_Z K A s a b (mo + (nI 1)) (n - 1) cp g H := hZ.put haA_9 hz_8 ho_6 (zt_put_n (by omega) hZ.W ha_7 ho_6)
    have hS0 := hS
    refine lv_null hx hb dJx4a65c_fastRemove_b59b0_41 ?_
    have har9 := zt_ar hZ.W hcp0
    refine zz_aastN hx hb hE0.K hS har9.1 har9.2 (vp_in_nI (show n - 1 < cp by omega) (by omega)) dJx4a65c_fastRemove_b59b0_42 (fun H locs ha9 hz9 ho9 hS => ?_)
    rw [nI_clamp (by omega), zt_rm0 (by omega)] at ha9
    have hZ : zt_Z K A s a b (mo + (nI 1)) (n - 1) cp (zt_rm g j n) H := hZ.put har9.2 hz9 ho9 (zt_put_el hcp0 (zt_rme (by omega) (fun i hi y hy => ⟨zt_elk hel0 hSo0 hS0 hA i hi y hy, (hel0 i hi y hy).2⟩)) hZ.W ha9 ho9)
    refine W.eq (g2 := F0 m 43 ls []) rfl ?_
    refine zz_vret hx hb hr hlocks hS (Nat.le_of_ble_eq_true rfl) (Nat.le_of_ble_eq_true rfl) dJx4a65c_fastRemove_b59b0_43 ?_
    exact ⟨rfl, hZ.W⟩
  · skip
    refine lv_aload_n hx hb dJx4a65c_fastRemove_b59b0_22 rfl (lv_at hl 2 rfl) ?_
    refine lv_iload_n hx hb dJx4a65c_fastRemove_b59b0_23 rfl (lv_at hl 3 rfl) ?_
    refine zz_con 1 hx hb dJx4a65c_fastRemove_b59b0_24 (by decide) ?_
    refine zz_add hx hb dJx4a65c_fastRemove_b59b0_25 ?_
    refine lv_aload_n hx hb dJx4a65c_fastRemove_b59b0_26 rfl (lv_at hl 2 rfl) ?_
    refine lv_iload_n hx hb dJx4a65c_fastRemove_b59b0_27 rfl (lv_at hl 3 rfl) ?_
    refine lv_iload_n hx hb dJx4a65c_fastRemove_b59b0_28 rfl (lv_at hl 0 rfl) ?_
    refine lv_iload_n hx hb dJx4a65c_fastRemove_b59b0_29 rfl (lv_at hl 3 rfl) ?_
    refine zz_sub (by omega) hx hb dJx4a65c_fastRemove_b59b0_30 ?_
    have har9 := zt_ar hZ.W hcp0
    have hWo := hZ.W
    have hSo := hS
    refine va_copyM hx hb (by rw [hml]; exact hl.1.symm) hown (hts _ zw_586) (hts _ zw_416) (hts _ zw_415) (hts _ zw_15) hE0.K (zz_two (zt_ob hZ.W).1 har9.1) (zz_twoD (zt_ob hZ.W).2 har9.2 (hZ.W.2.1 hcp0).2.2) hS 1 1 2 2 (E0 := "java/lang/Object") (E1 := "java/lang/Object") rfl rfl rfl rfl (nI_pos (by omega)) (nI_pos (by omega)) (nI_pos (by omega)) (by rw [nI_clamp (by omega), nI_clamp (by omega)]; omega) (by rw [nI_clamp (by omega), nI_clamp (by omega)]; omega) (fun i hi y hy => by rw [nI_clamp (by omega)] at hi hy; exact (hWo.2.2.2.2 _ (by omega) y hy).1.any hE0.K hE0.N) (Nat.le_of_ble_eq_true rfl) (Nat.le_of_ble_eq_true rfl) dJx4a65c_fastRemove_b59b0_31 (fun H locs hP9 hD9 hS => ?_)
    have hl9 := hP9 0 _ rfl
    have hn9 := hP9 1 _ rfl
    rw [nI_clamp (by omega), nI_clamp (by omega), nI_clamp (by omega)] at hn9
    have hZ : zt_Z K A s a b (mo + (nI 1)) n cp (va_cpy g g (j + 1) j (n - 1 - j)) H := zt_moved hWo hSo hS hE0 hA hcp0 hl9 hn9 (zt_cpy (by omega))
    refine W.eq (g2 := F0 m 34 ls []) rfl ?_
    refine lv_aload_n hx hb dJx4a65c_fastRemove_b59b0_34 rfl (lv_at hl 2 rfl) ?_
    refine lv_aload_n hx hb dJx4a65c_fastRemove_b59b0_35 rfl (lv_at hl 1 rfl) ?_
    refine lv_iload_n hx hb dJx4a65c_fastRemove_b59b0_36 rfl (lv_at hl 0 rfl) ?_
    refine lv_dup_x1 hx hb dJx4a65c_fastRemove_b59b0_37 rfl rfl ?_
    have haA_13 := (zt_ob hZ.W).2
    refine zz_put (ci := 2) (C := RJx4a65c) (T := TJx4a65c) (N := 3) (v := .int (nI (n - 1))) (ty1 := .int) hx hb hts hown hK hS (zt_ob hZ.W).1 haA_13 rfl zf_Jx4a65c tyJx4a65c_ok nmJx4a65c 2 (by decide) zw_48 (fun _ h9 => h9) rfl (by decide +kernel) rfl rfl (Nat.le_of_ble_eq_true rfl) dJx4a65c_fastRemove_b59b0_38 (fun H locs ha_11 hz_12 ho_10 hS => ?_)
    have hZ : zt_Z K A s a b (mo + (nI 1)) (n - 1) cp (va_cpy g g (j + 1) j (n - 1 - j)) H := hZ.put haA_13 hz_12 ho_10 (zt_put_n (by omega) hZ.W ha_11 ho_10)
    have hS0 := hS
    refine lv_null hx hb dJx4a65c_fastRemove_b59b0_41 ?_
    have har9 := zt_ar hZ.W hcp0
    refine zz_aastN hx hb hE0.K hS har9.1 har9.2 (vp_in_nI (show n - 1 < cp by omega) (by omega)) dJx4a65c_fastRemove_b59b0_42 (fun H locs ha9 hz9 ho9 hS => ?_)
    rw [nI_clamp (by omega), zt_rm1 (by omega)] at ha9
    have hZ : zt_Z K A s a b (mo + (nI 1)) (n - 1) cp (zt_rm g j n) H := hZ.put har9.2 hz9 ho9 (zt_put_el hcp0 (zt_rme (by omega) (fun i hi y hy => ⟨zt_elk hel0 hSo0 hS0 hA i hi y hy, (hel0 i hi y hy).2⟩)) hZ.W ha9 ho9)
    refine W.eq (g2 := F0 m 43 ls []) rfl ?_
    refine zz_vret hx hb hr hlocks hS (Nat.le_of_ble_eq_true rfl) (Nat.le_of_ble_eq_true rfl) dJx4a65c_fastRemove_b59b0_43 ?_
    exact ⟨rfl, hZ.W⟩

set_option maxHeartbeats 4000000 in
set_option maxRecDepth 100000 in
theorem c_Jx4a65c_remove_915e3 (l : Launch) {K : zz_G} {A : Nat → Prop} {a b : Nat} {mo : Int32} {n cp : Nat} {g : Nat → Option Nat} {j r : Nat} (hj : j < n) (hn12 : n ≤ 12) (hgr : g j = some r) : zz_C l yJx4a65c_remove_915e3 cJx4a65c_remove_915e3 4 (Option.some (FieldType.object "java/lang/Object")) ({ frames := 2, cells := 0, slots := 0, locals := 63 } : Room) K A [.ref a, .int (nI j)] (fun H => zt_W K A a b mo n cp g H) (fun v9 _ H9 => v9 = some (.ref r) ∧ zt_W K A a b (mo + nI 1) (n - 1) cp (zt_rm g j n) H9) zz_nx A := by
  refine zz_body (by decide +kernel) (Nat.le_of_ble_eq_true rfl) ?_
  intro p e s m below meth c ls hx hb hr hml hts hown hlocks hmn htab hE hA hP hl
  have hN := hE.N
  have hK := hE.K
  have hown : s.vm.findClass RJx4a65c = some m.cls := hown
  have hl : lv_has ls 4 [(0, .ref a), (1, .int (nI j))] := hl
  have hZ : zt_Z K A s a b mo n cp g s.heap := ⟨hE, hA, hP⟩
  have hS : va_S zz_no s.heap s.heap [] := va_S.rf
  obtain ⟨H, hH⟩ : ∃ z, z = s.heap := ⟨_, rfl⟩
  have hS0 : va_S zz_no s.heap H [] := by rw [hH]; exact hS
  rw [← hH] at hZ
  have hE0 := hE
  clear hS
  have hS := hS0
  have hcpb := hZ.W.2.2.2.1
  have hcp0 : cp ≠ 0 := by omega
  have hB : ∀ x : Nat, x < 0 → x < 0 := fun _ h => h
  show W p l e _ s m _ below meth c s.heap [] 0 0 _ (F0 m 0 ls [])
  rw [← hH]
  refine lv_iload_n hx hb dJx4a65c_remove_915e3_0 rfl (lv_at hl 1 rfl) ?_
  refine lv_aload_n hx hb dJx4a65c_remove_915e3_1 rfl (lv_at hl 0 rfl) ?_
  refine zz_get (ci := 2) (C := RJx4a65c) (T := TJx4a65c) (N := 3) (v := .int (nI n)) hx hb hts hown hK (zt_ob hZ.W).1 rfl zf_Jx4a65c 2 (by decide) zw_48 (fun _ h9 => h9) rfl dJx4a65c_remove_915e3_2 ?_
  refine zz_after (pc := 5) rfl (zz_runS (As := [.int (nI j), .int (nI n)]) (rest := []) hx hb hml hown hts (c_J15_checkIndex_7cf53 l (K := K) (A := A) (j := j) (n := n) (by omega) (by first | exact hB _ _ | omega)) zw_105 zw_106 zw_19 zw_107 zd_J15_checkIndex_7cf53 ⟨Nat.le_of_ble_eq_true rfl, Nat.le_of_ble_eq_true rfl⟩ hZ.E hZ.A trivial hl.1 (Nat.le_of_ble_eq_true rfl) dJx4a65c_remove_915e3_5 ⟨Nat.le_of_ble_eq_true rfl, Nat.le_of_ble_eq_true rfl⟩) hS (fun _ h => h.elim) (fun v_3 H locs hq_1 hF_2 hS => ?_)
  refine W.widen (k := 0) (n := 0) (Nat.le_of_ble_eq_true rfl) (Nat.le_of_ble_eq_true rfl) ?_
  obtain rfl := hq_1
  have hZ := hZ.ro hF_2
  refine W.eq (g2 := F0 m 8 ls [.int (nI j)]) rfl ?_
  refine lv_pop hx hb dJx4a65c_remove_915e3_8 rfl ?_
  refine lv_aload_n hx hb dJx4a65c_remove_915e3_9 rfl (lv_at hl 0 rfl) ?_
  refine zz_get (ci := 2) (C := RJx4a65c) (T := TJx4a65c) (N := 3) (v := .ref b) hx hb hts hown hK (zt_ob hZ.W).1 rfl zf_Jx4a65c 1 (by decide) zw_47 (fun _ h9 => h9) rfl dJx4a65c_remove_915e3_10 ?_
  refine lv_astore_n (lv' := [(2, .ref b), (0, .ref a), (1, .int (nI j))]) hx hb dJx4a65c_remove_915e3_13 rfl hl (Nat.le_of_ble_eq_true rfl) rfl (fun ls hl => ?_)
  refine lv_aload_n hx hb dJx4a65c_remove_915e3_14 rfl (lv_at hl 0 rfl) ?_
  refine lv_iload_n hx hb dJx4a65c_remove_915e3_15 rfl (lv_at hl 2 rfl) ?_
  refine zz_aald (y := some r) hx hb hK (zt_ar hZ.W hcp0).1 (vp_in_nI (show j < cp by omega) (by omega)) dJx4a65c_remove_915e3_16 (by rw [nI_clamp (by omega)]; exact hgr) ?_
  refine lv_astore_n (lv' := [(3, .ref r), (2, .ref b), (0, .ref a), (1, .int (nI j))]) hx hb dJx4a65c_remove_915e3_17 rfl hl (Nat.le_of_ble_eq_true rfl) rfl (fun ls hl => ?_)
  refine lv_aload_n hx hb dJx4a65c_remove_915e3_18 rfl (lv_at hl 2 rfl) ?_
  refine lv_aload_n hx hb dJx4a65c_remove_915e3_19 rfl (lv_at hl 1 rfl) ?_
  refine lv_iload_n hx hb dJx4a65c_remove_915e3_20 rfl (lv_at hl 3 rfl) ?_
  have hS : va_S A s.heap H _ := zz_Smono hS (fun _ h => h.elim)
  refine zz_after (pc := 21) rfl (zz_runV (ci := 2) (q0 := (RJx4a65c, TJx4a65c, 3)) (b := a) (As := [.ref b, .int (nI j)]) (rest := []) hx hb hml hown hts (c_Jx4a65c_fastRemove_b59b0 l (K := K) (A := A) (a := a) (b := b) (mo := mo) (n := n) (cp := cp) (g := g) (j := j) hj hn12) zw_582 zw_584 zs_19 zw_4 zw_585 zd_Jx4a65c_fastRemove_b59b0 ⟨Nat.le_of_ble_eq_true rfl, Nat.le_of_ble_eq_true rfl⟩ hZ.E hZ.A (zt_ob hZ.W).1 rfl rfl hZ.W hl.1 (Nat.le_of_ble_eq_true rfl) dJx4a65c_remove_915e3_21 ⟨Nat.le_of_ble_eq_true rfl, Nat.le_of_ble_eq_true rfl⟩) hS (fun _ h => h) (fun v_6 H locs hq_4 hF_5 hS => ?_)
  refine W.widen (k := 0) (n := 0) (Nat.le_of_ble_eq_true rfl) (Nat.le_of_ble_eq_true rfl) ?_
  obtain ⟨rfl, hW9⟩ := hq_4
  have hZ := hZ.mut hF_5 hW9
  refine W.eq (g2 := F0 m 24 ls []) rfl ?_
  refine lv_aload_n hx hb dJx4a65c_remove_915e3_24 rfl (lv_at hl 0 rfl) ?_
  refine zz_aret (rx := some r) hx hb hr (Or.inl ⟨_, rfl⟩) hlocks hS (Nat.le_of_ble_eq_true rfl) (Nat.le_of_ble_eq_true rfl) dJx4a65c_remove_915e3_25 ?_
  exact ⟨rfl, hZ.W⟩
