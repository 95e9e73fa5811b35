/-! by program (gen.py): contracts of methods -/
theorem zd_Jxa1e45_init_da8c8 : yJxa1e45_init_da8c8.cls ≠ "java/lang/invoke/MethodHandle" ∧ yJxa1e45_init_da8c8.cls ≠ "java/lang/invoke/VarHandle" ∧ (parseMethodDescriptor yJxa1e45_init_da8c8.desc).map (fun d => d.parameters.length) = some 0 := by decide +kernel
theorem zd_Jxc12de_init_da8c8 : yJxc12de_init_da8c8.cls ≠ "java/lang/invoke/MethodHandle" ∧ yJxc12de_init_da8c8.cls ≠ "java/lang/invoke/VarHandle" ∧ (parseMethodDescriptor yJxc12de_init_da8c8.desc).map (fun d => d.parameters.length) = some 0 := by decide +kernel
set_option maxHeartbeats 4000000 in
set_option maxRecDepth 100000 in
theorem c_Jxa1e45_init_da8c8 (l : Launch) {K : zz_G} {A : Nat → Prop} {x : Nat} : zz_C l yJxa1e45_init_da8c8 cJxa1e45_init_da8c8 1 (Option.none : Option Jvm.ClassFile.FieldType) ({ frames := 1, cells := 0, slots := 0, locals := 40 } : Room) K A [.ref x] (fun _ => True) (fun v9 _ _ => v9 = none) zz_nx zz_no := by
  refine zz_body (by decide +kernel) (Nat.le_of_ble_eq_true rfl) ?_
  intro p e s m below meth c ls hx hb hr hml hts hown hlocks hmn htab hE hA hP hl
  have hN := hE.N
  have hK := hE.K
  have hown : s.vm.findClass RJxa1e45 = some m.cls := hown
  have hl : lv_has ls 1 [(0, .ref x)] := hl
  have hS : va_S zz_no s.heap s.heap [] := va_S.rf
  obtain ⟨H, hH⟩ : ∃ z, z = s.heap := ⟨_, rfl⟩
  have hS0 : va_S zz_no s.heap H [] := by rw [hH]; exact hS
  rw [← hH] at hE hA
  have hE0 := hE
  clear hS
  have hS := hS0
  show W p l e _ s m _ below meth c s.heap [] 0 0 _ (F0 m 0 ls [])
  rw [← hH]
  refine lv_aload_n hx hb dJxa1e45_init_da8c8_0 rfl (lv_at hl 0 rfl) ?_
  refine W.objInit hx hb hown (hts _ zw_44) (hts _ zw_31) (hts _ zw_32) rfl (by rw [hml]; exact hl.1) rfl dJxa1e45_init_da8c8_1 (Nat.le_of_ble_eq_true rfl) (Nat.le_of_ble_eq_true rfl) ?_
  refine W.eq (g2 := F0 m 4 ls []) rfl ?_
  refine zz_vret hx hb hr hlocks hS (Nat.le_of_ble_eq_true rfl) (Nat.le_of_ble_eq_true rfl) dJxa1e45_init_da8c8_4 ?_
  first | rfl | (simp []; done) | (simp_all; done) | (split <;> first | rfl | omega | (simp_all; done); done)

set_option maxHeartbeats 4000000 in
set_option maxRecDepth 100000 in
theorem c_Jxc12de_init_da8c8 (l : Launch) {K : zz_G} {A : Nat → Prop} {r : Nat} : zz_C l yJxc12de_init_da8c8 cJxc12de_init_da8c8 1 (Option.none : Option Jvm.ClassFile.FieldType) ({ frames := 2, cells := 0, slots := 0, locals := 60 } : Room) K A [.ref r] (fun H => zz_at K r (.inr (2, [.int 0, .null, .int 0])) H ∧ A r) (fun v9 H8 H9 => v9 = none ∧ zz_at K r (.inr (2, [.int (nI 0), .null, .int 0])) H9) zz_nx A := by
  refine zz_body (by decide +kernel) (Nat.le_of_ble_eq_true rfl) ?_
  intro p e s m below meth c ls hx hb hr hml hts hown hlocks hmn htab hE hA hP hl
  have hN := hE.N
  have hK := hE.K
  have hown : s.vm.findClass RJxc12de = some m.cls := hown
  have hl : lv_has ls 1 [(0, .ref r)] := hl
  have hS : va_S zz_no s.heap s.heap [] := va_S.rf
  obtain ⟨H, hH⟩ : ∃ z, z = s.heap := ⟨_, rfl⟩
  have hS0 : va_S zz_no s.heap H [] := by rw [hH]; exact hS
  rw [← hH] at hE hA
  have hE0 := hE
  clear hS
  have hS := hS0
  obtain ⟨hat, hAr⟩ := hP
  rw [← hH] at hat
  have hH0 := hH
  show W p l e _ s m _ below meth c s.heap [] 0 0 _ (F0 m 0 ls [])
  rw [← hH]
  have hS : va_S A s.heap H _ := zz_Smono hS (fun _ h => h.elim)
  refine lv_aload_n hx hb dJxc12de_init_da8c8_0 rfl (lv_at hl 0 rfl) ?_
  refine zz_after (pc := 1) rfl (zz_runI (b := r) (As := []) (rest := []) hx hb hml hown hts (c_Jxa1e45_init_da8c8 l (K := K) (A := A) (x := r)) rfl rfl zw_41 zw_42 zw_2 zw_43 zd_Jxa1e45_init_da8c8 ⟨Nat.le_of_ble_eq_true rfl, Nat.le_of_ble_eq_true rfl⟩ hE hA trivial hl.1 (Nat.le_of_ble_eq_true rfl) dJxc12de_init_da8c8_1 ⟨Nat.le_of_ble_eq_true rfl, Nat.le_of_ble_eq_true rfl⟩) hS (fun _ h => h.elim) (fun v_3 H locs hq_1 hF_2 hS => ?_)
  refine W.widen (k := 0) (n := 0) (Nat.le_of_ble_eq_true rfl) (Nat.le_of_ble_eq_true rfl) ?_
  obtain rfl := hq_1
  have hat := zz_at.ro hat hF_2
  have hE := zz_E.kept hE (fun a h1 h2 => hF_2.2 a h1 (fun z => z))
  have hA : ∀ q : Nat, H.size ≤ q → A q := fun q h => hA q (Nat.le_trans hF_2.1 h)
  refine W.eq (g2 := F0 m 4 ls []) rfl ?_
  refine lv_aload_n hx hb dJxc12de_init_da8c8_4 rfl (lv_at hl 0 rfl) ?_
  refine zz_con 0 hx hb dJxc12de_init_da8c8_5 (by decide) ?_
  have haA_7 := hAr
  refine zz_put (ci := 2) (C := RJx4a65c) (T := TJx4a65c) (N := 3) (v := .int (nI 0)) (ty1 := .int) hx hb hts hown hK hS hat haA_7 rfl zf_Jx4a65c tyJx4a65c_ok nmJx4a65c 0 (by decide) zw_49 (fun _ h9 => h9) rfl (by decide +kernel) rfl rfl (Nat.le_of_ble_eq_true rfl) dJxc12de_init_da8c8_6 (fun H locs ha_5 hz_6 ho_4 hS => ?_)
  have hat : zz_at K r (.inr (2, [.int (nI 0), .null, .int 0])) H := ha_5
  have hE := zz_E.kept hE (fun q9 h1 h2 => ho_4 q9 (fun e9 => h2 (e9 ▸ hAr)))
  have hA : ∀ q : Nat, H.size ≤ q → A q := fun q hq => hA q (by omega)
  refine zz_vret hx hb hr hlocks hS (Nat.le_of_ble_eq_true rfl) (Nat.le_of_ble_eq_true rfl) dJxc12de_init_da8c8_9 ?_
  exact ⟨rfl, hat⟩

set_option maxHeartbeats 4000000 in
set_option maxRecDepth 100000 in
theorem c_Jx4a65c_init_da8c8 (l : Launch) {K : zz_G} {A : Nat → Prop} {r : Nat} : zz_C l yJx4a65c_init_da8c8 cJx4a65c_init_da8c8 1 (Option.none : Option Jvm.ClassFile.FieldType) ({ frames := 3, cells := 0, slots := 0, locals := 80 } : Room) K A [.ref r] (fun H => zz_at K r (.inr (2, [.int 0, .null, .int 0])) H ∧ A r) (fun v9 H8 H9 => v9 = none ∧ zz_at K r (.inr (2, [.int (nI 0), .ref (K.2.2 0), .int 0])) H9) zz_nx A := by
  refine zz_body (by decide +kernel) (Nat.le_of_ble_eq_true rfl) ?_
  intro p e s m below meth c ls hx hb hr hml hts hown hlocks hmn htab hE hA hP hl
  have hN := hE.N
  have hK := hE.K
  have hown : s.vm.findClass RJx4a65c = some m.cls := hown
  have hl : lv_has ls 1 [(0, .ref r)] := hl
  have hS : va_S zz_no s.heap s.heap [] := va_S.rf
  obtain ⟨H, hH⟩ : ∃ z, z = s.heap := ⟨_, rfl⟩
  have hS0 : va_S zz_no s.heap H [] := by rw [hH]; exact hS
  rw [← hH] at hE hA
  have hE0 := hE
  clear hS
  have hS := hS0
  have hE0 : zz_E K A s s.heap := by rw [← hH]; exact hE
  obtain ⟨hat, hAr⟩ := hP
  rw [← hH] at hat
  have hH0 := hH
  show W p l e _ s m _ below meth c s.heap [] 0 0 _ (F0 m 0 ls [])
  rw [← hH]
  have hS : va_S A s.heap H _ := zz_Smono hS (fun _ h => h.elim)
  refine lv_aload_n hx hb dJx4a65c_init_da8c8_0 rfl (lv_at hl 0 rfl) ?_
  refine zz_after (pc := 1) rfl (zz_runI (b := r) (As := []) (rest := []) hx hb hml hown hts (c_Jxc12de_init_da8c8 l (K := K) (A := A) (r := r)) rfl rfl zw_38 zw_39 zw_3 zw_40 zd_Jxc12de_init_da8c8 ⟨Nat.le_of_ble_eq_true rfl, Nat.le_of_ble_eq_true rfl⟩ hE hA ⟨hat, hAr⟩ hl.1 (Nat.le_of_ble_eq_true rfl) dJx4a65c_init_da8c8_1 ⟨Nat.le_of_ble_eq_true rfl, Nat.le_of_ble_eq_true rfl⟩) hS (fun _ h => h) (fun v_3 H locs hq_1 hF_2 hS => ?_)
  refine W.widen (k := 0) (n := 0) (Nat.le_of_ble_eq_true rfl) (Nat.le_of_ble_eq_true rfl) ?_
  obtain ⟨rfl, hat⟩ := hq_1
  have hE := zz_E.kept hE (fun a h1 h2 => hF_2.2 a h1 h2)
  have hA : ∀ q : Nat, H.size ≤ q → A q := fun q h => hA q (Nat.le_trans hF_2.1 h)
  refine W.eq (g2 := F0 m 4 ls []) rfl ?_
  refine lv_aload_n hx hb dJx4a65c_init_da8c8_4 rfl (lv_at hl 0 rfl) ?_
  refine va_gets hx hb hE0.2.2.2.1 hS hown (hts _ zw_45) (fun _ h9 => h9) dJx4a65c_init_da8c8_5 ?_
  have haA_7 := hAr
  refine zz_put (ci := 2) (C := RJx4a65c) (T := TJx4a65c) (N := 3) (v := .ref (K.2.2 0)) (ty1 := (.array (.object "java/lang/Object"))) hx hb hts hown hK hS hat haA_7 rfl zf_Jx4a65c tyJx4a65c_ok nmJx4a65c 1 (by decide) zw_47 (fun _ h9 => h9) rfl (by decide +kernel) rfl rfl (Nat.le_of_ble_eq_true rfl) dJx4a65c_init_da8c8_8 (fun H locs ha_5 hz_6 ho_4 hS => ?_)
  have hat : zz_at K r (.inr (2, [.int (nI 0), .ref (K.2.2 0), .int 0])) H := ha_5
  have hE := zz_E.kept hE (fun q9 h1 h2 => ho_4 q9 (fun e9 => h2 (e9 ▸ hAr)))
  have hA : ∀ q : Nat, H.size ≤ q → A q := fun q hq => hA q (by omega)
  refine zz_vret hx hb hr hlocks hS (Nat.le_of_ble_eq_true rfl) (Nat.le_of_ble_eq_true rfl) dJx4a65c_init_da8c8_11 ?_
  exact ⟨rfl, hat⟩
