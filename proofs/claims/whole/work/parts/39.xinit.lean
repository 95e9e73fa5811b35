/-! by program (gen.py): contracts of methods -/
theorem zd_Jx4a65c_init_da8c8 : yJx4a65c_init_da8c8.cls ≠ "java/lang/invoke/MethodHandle" ∧ yJx4a65c_init_da8c8.cls ≠ "java/lang/invoke/VarHandle" ∧ (parseMethodDescriptor yJx4a65c_init_da8c8.desc).map (fun d => d.parameters.length) = some 0 := by decide +kernel
set_option maxHeartbeats 4000000 in
set_option maxRecDepth 100000 in
theorem c_X2_init (l : Launch) {K : zz_G} {A : Nat → Prop} {r : Nat} : zz_C l yX2_init cX2_init 1 (Option.none : Option Jvm.ClassFile.FieldType) ({ frames := 4, cells := 3, slots := 9, locals := 100 } : Room) K A [.ref r] (fun H => zz_at K r (.inr (5, [.null, .null, .null, .int 0, .int 0, .long 0, .long 0, .long 0])) H ∧ A r) (fun v9 H8 H9 => v9 = none ∧ ∃ u0 u1 u2, (H8.size ≤ u0 ∧ H8.size ≤ u1 ∧ H8.size ≤ u2 ∧ u0 ≠ u1 ∧ u0 ≠ u2 ∧ u1 ≠ u2) ∧ zz_at K r (.inr (5, [.ref u0, .ref u1, .ref u2, .int (nI 0), .int (nI 0), .long 0, .long 0, .long 0])) H9 ∧ zz_at K u0 (.inr (2, [.int (nI 0), .ref (K.2.2 0), .int 0])) H9 ∧ zz_at K u1 (.inr (2, [.int (nI 0), .ref (K.2.2 0), .int 0])) H9 ∧ zz_at K u2 (.inr (2, [.int (nI 0), .ref (K.2.2 0), .int 0])) H9) zz_nx A := by
  refine zz_body (by decide +kernel) (Nat.le_of_ble_eq_true rfl) ?_
  intro p e s m below meth c ls hx hb hr hml hts hown hlocks hmn htab hE hA hP hl
  have hN := hE.N
  have hK := hE.K
  have hown : s.vm.findClass RX2 = some m.cls := hown
  have hl : lv_has ls 1 [(0, .ref r)] := hl
  have hS : va_S zz_no s.heap s.heap [] := va_S.rf
  obtain ⟨H, hH⟩ : ∃ z, z = s.heap := ⟨_, rfl⟩
  have hS0 : va_S zz_no s.heap H [] := by rw [hH]; exact hS
  rw [← hH] at hE hA
  have hE0 := hE
  clear hS
  have hS := hS0
  obtain ⟨hat, hAr⟩ := hP
  rw [← hH] at hat
  have hH0 := hH
  have hrl : r < H.size := va_at.lt hat
  obtain ⟨z0, hz0⟩ : ∃ z, z = H.size := ⟨_, rfl⟩
  show W p l e _ s m _ below meth c s.heap [] 0 0 _ (F0 m 0 ls [])
  rw [← hH]
  have hS : va_S A s.heap H _ := zz_Smono hS (fun _ h => h.elim)
  refine lv_aload_n hx hb dX2_init_0 rfl (lv_at hl 0 rfl) ?_
  refine W.objInit hx hb hown (hts _ zw_30) (hts _ zw_31) (hts _ zw_32) rfl (by rw [hml]; exact hl.1) rfl dX2_init_1 (Nat.le_of_ble_eq_true rfl) (Nat.le_of_ble_eq_true rfl) ?_
  refine W.eq (g2 := F0 m 4 ls []) rfl ?_
  refine lv_aload_n hx hb dX2_init_4 rfl (lv_at hl 0 rfl) ?_
  obtain ⟨u0, hzu0⟩ : ∃ z, z = H.size := ⟨_, rfl⟩
  refine zz_new (ci := 2) (C := RJx4a65c) (T := TJx4a65c) (N := 3) (fs := [.int 0, .null, .int 0]) hx hb hts hown hE.K hS rfl zf_Jx4a65c tyJx4a65c_ok zw_33 zw_34 zw_4 (fun j hj => by match j, hj with | 0, _ => rfl | 1, _ => rfl | 2, _ => rfl) (Nat.le_of_ble_eq_true rfl) (Nat.le_of_ble_eq_true rfl) dX2_init_5 (fun H1 hu0 hsu0 hou0 hS => ?_)
  rw [← hzu0] at hu0 ⊢
  have hAu0 : A u0 := hA _ (by omega)
  have hru0 : ¬ r = u0 := by omega
  have hat := va_at.kept hat (hou0 r hrl)
  have hE := zz_E.kept hE (fun q9 h1 _ => hou0 q9 h1)
  have hA : ∀ q : Nat, H1.size ≤ q → A q := fun q hq => hA q (by omega)
  have hrl : r < H1.size := by omega
  rename Heap => H
  refine W.eq (g2 := F0 m 8 ls [.ref u0, .ref r]) rfl ?_
  refine lv_dup hx hb dX2_init_8 rfl ?_
  have hsub9 : ∀ q, (q = u0 ∨ H.size ≤ q) → A q := fun q h => h.elim (fun e => e ▸ hAu0) (hA q)
  refine zz_after (pc := 9) rfl (zz_runI (b := u0) (As := []) (rest := [.ref u0, .ref r]) hx hb hml hown hts (c_Jx4a65c_init_da8c8 l (K := K) (A := fun q => q = u0 ∨ H.size ≤ q) (r := u0)) rfl rfl zw_35 zw_36 zw_4 zw_37 zd_Jx4a65c_init_da8c8 ⟨Nat.le_of_ble_eq_true rfl, Nat.le_of_ble_eq_true rfl⟩ (hE.narrow hsub9) (fun q h => Or.inr h) ⟨hu0, Or.inl rfl⟩ hl.1 (Nat.le_of_ble_eq_true rfl) dX2_init_9 ⟨Nat.le_of_ble_eq_true rfl, Nat.le_of_ble_eq_true rfl⟩) hS hsub9 (fun v_3 H locs hq_1 hF_2 hS => ?_)
  refine W.widen (k := 1) (n := 3) (Nat.le_of_ble_eq_true rfl) (Nat.le_of_ble_eq_true rfl) ?_
  obtain ⟨rfl, hu0⟩ := hq_1
  have hat := va_at.kept hat (hF_2.2 r hrl (fun z => z.elim hru0 (fun z => by omega)))
  have hrl : r < H.size := va_at.lt hat
  have hlu0 : u0 < H.size := va_at.lt hu0
  have hE := zz_E.kept hE (fun a h1 h2 => hF_2.2 a h1 (fun z => h2 (hsub9 _ z)))
  have hA : ∀ q : Nat, H.size ≤ q → A q := fun q h => hA q (Nat.le_trans hF_2.1 h)
  refine W.eq (g2 := F0 m 12 ls [.ref u0, .ref r]) rfl ?_
  have haA_7 := hAr
  refine zz_putF (ci := 5) (C := RX2) (T := TX2) (N := 8) (v := .ref u0) (ty1 := (.object "java/util/ArrayList")) hx hb hts hown hK hS hat haA_7 rfl zf_X2 tyX2_ok nmX2 0 (by decide) zw_59 (fun _ h9 => h9) rfl hmn rfl (by decide +kernel) rfl rfl (Nat.le_of_ble_eq_true rfl) dX2_init_12 (fun H locs ha_5 hz_6 ho_4 hS => ?_)
  have hat : zz_at K r (.inr (5, [.ref u0, .null, .null, .int 0, .int 0, .long 0, .long 0, .long 0])) H := ha_5
  have hE := zz_E.kept hE (fun q9 h1 h2 => ho_4 q9 (fun e9 => h2 (e9 ▸ hAr)))
  have hA : ∀ q : Nat, H.size ≤ q → A q := fun q hq => hA q (by omega)
  have hu0 := va_at.kept hu0 (ho_4 u0 (fun e9 => hru0 e9.symm))
  have hrl : r < H.size := va_at.lt hat
  have hlu0 : u0 < H.size := va_at.lt hu0
  refine lv_aload_n hx hb dX2_init_15 rfl (lv_at hl 0 rfl) ?_
  obtain ⟨u1, hzu1⟩ : ∃ z, z = H.size := ⟨_, rfl⟩
  refine zz_new (ci := 2) (C := RJx4a65c) (T := TJx4a65c) (N := 3) (fs := [.int 0, .null, .int 0]) hx hb hts hown hE.K hS rfl zf_Jx4a65c tyJx4a65c_ok zw_33 zw_34 zw_4 (fun j hj => by match j, hj with | 0, _ => rfl | 1, _ => rfl | 2, _ => rfl) (Nat.le_of_ble_eq_true rfl) (Nat.le_of_ble_eq_true rfl) dX2_init_16 (fun H1 hu1 hsu1 hou1 hS => ?_)
  rw [← hzu1] at hu1 ⊢
  have hAu1 : A u1 := hA _ (by omega)
  have hru1 : ¬ r = u1 := by omega
  have hat := va_at.kept hat (hou1 r hrl)
  have hdu0u1 : ¬ u0 = u1 := by omega
  have hu0 := va_at.kept hu0 (hou1 u0 hlu0)
  have hE := zz_E.kept hE (fun q9 h1 _ => hou1 q9 h1)
  have hA : ∀ q : Nat, H1.size ≤ q → A q := fun q hq => hA q (by omega)
  have hrl : r < H1.size := by omega
  have hlu0 : u0 < H1.size := by omega
  rename Heap => H
  refine W.eq (g2 := F0 m 19 ls [.ref u1, .ref r]) rfl ?_
  refine lv_dup hx hb dX2_init_19 rfl ?_
  have hsub9 : ∀ q, (q = u1 ∨ H.size ≤ q) → A q := fun q h => h.elim (fun e => e ▸ hAu1) (hA q)
  refine zz_after (pc := 20) rfl (zz_runI (b := u1) (As := []) (rest := [.ref u1, .ref r]) hx hb hml hown hts (c_Jx4a65c_init_da8c8 l (K := K) (A := fun q => q = u1 ∨ H.size ≤ q) (r := u1)) rfl rfl zw_35 zw_36 zw_4 zw_37 zd_Jx4a65c_init_da8c8 ⟨Nat.le_of_ble_eq_true rfl, Nat.le_of_ble_eq_true rfl⟩ (hE.narrow hsub9) (fun q h => Or.inr h) ⟨hu1, Or.inl rfl⟩ hl.1 (Nat.le_of_ble_eq_true rfl) dX2_init_20 ⟨Nat.le_of_ble_eq_true rfl, Nat.le_of_ble_eq_true rfl⟩) hS hsub9 (fun v_10 H locs hq_8 hF_9 hS => ?_)
  refine W.widen (k := 2) (n := 6) (Nat.le_of_ble_eq_true rfl) (Nat.le_of_ble_eq_true rfl) ?_
  obtain ⟨rfl, hu1⟩ := hq_8
  have hat := va_at.kept hat (hF_9.2 r hrl (fun z => z.elim hru1 (fun z => by omega)))
  have hrl : r < H.size := va_at.lt hat
  have hu0 := va_at.kept hu0 (hF_9.2 u0 hlu0 (fun z => z.elim hdu0u1 (fun z => by omega)))
  have hlu0 : u0 < H.size := va_at.lt hu0
  have hlu1 : u1 < H.size := va_at.lt hu1
  have hE := zz_E.kept hE (fun a h1 h2 => hF_9.2 a h1 (fun z => h2 (hsub9 _ z)))
  have hA : ∀ q : Nat, H.size ≤ q → A q := fun q h => hA q (Nat.le_trans hF_9.1 h)
  refine W.eq (g2 := F0 m 23 ls [.ref u1, .ref r]) rfl ?_
  have haA_14 := hAr
  refine zz_putF (ci := 5) (C := RX2) (T := TX2) (N := 8) (v := .ref u1) (ty1 := (.object "java/util/ArrayList")) hx hb hts hown hK hS hat haA_14 rfl zf_X2 tyX2_ok nmX2 1 (by decide) zw_60 (fun _ h9 => h9) rfl hmn rfl (by decide +kernel) rfl rfl (Nat.le_of_ble_eq_true rfl) dX2_init_23 (fun H locs ha_12 hz_13 ho_11 hS => ?_)
  have hat : zz_at K r (.inr (5, [.ref u0, .ref u1, .null, .int 0, .int 0, .long 0, .long 0, .long 0])) H := ha_12
  have hE := zz_E.kept hE (fun q9 h1 h2 => ho_11 q9 (fun e9 => h2 (e9 ▸ hAr)))
  have hA : ∀ q : Nat, H.size ≤ q → A q := fun q hq => hA q (by omega)
  have hu0 := va_at.kept hu0 (ho_11 u0 (fun e9 => hru0 e9.symm))
  have hu1 := va_at.kept hu1 (ho_11 u1 (fun e9 => hru1 e9.symm))
  have hrl : r < H.size := va_at.lt hat
  have hlu0 : u0 < H.size := va_at.lt hu0
  have hlu1 : u1 < H.size := va_at.lt hu1
  refine lv_aload_n hx hb dX2_init_26 rfl (lv_at hl 0 rfl) ?_
  obtain ⟨u2, hzu2⟩ : ∃ z, z = H.size := ⟨_, rfl⟩
  refine zz_new (ci := 2) (C := RJx4a65c) (T := TJx4a65c) (N := 3) (fs := [.int 0, .null, .int 0]) hx hb hts hown hE.K hS rfl zf_Jx4a65c tyJx4a65c_ok zw_33 zw_34 zw_4 (fun j hj => by match j, hj with | 0, _ => rfl | 1, _ => rfl | 2, _ => rfl) (Nat.le_of_ble_eq_true rfl) (Nat.le_of_ble_eq_true rfl) dX2_init_27 (fun H1 hu2 hsu2 hou2 hS => ?_)
  rw [← hzu2] at hu2 ⊢
  have hAu2 : A u2 := hA _ (by omega)
  have hru2 : ¬ r = u2 := by omega
  have hat := va_at.kept hat (hou2 r hrl)
  have hdu0u2 : ¬ u0 = u2 := by omega
  have hu0 := va_at.kept hu0 (hou2 u0 hlu0)
  have hdu1u2 : ¬ u1 = u2 := by omega
  have hu1 := va_at.kept hu1 (hou2 u1 hlu1)
  have hE := zz_E.kept hE (fun q9 h1 _ => hou2 q9 h1)
  have hA : ∀ q : Nat, H1.size ≤ q → A q := fun q hq => hA q (by omega)
  have hrl : r < H1.size := by omega
  have hlu0 : u0 < H1.size := by omega
  have hlu1 : u1 < H1.size := by omega
  rename Heap => H
  refine W.eq (g2 := F0 m 30 ls [.ref u2, .ref r]) rfl ?_
  refine lv_dup hx hb dX2_init_30 rfl ?_
  have hsub9 : ∀ q, (q = u2 ∨ H.size ≤ q) → A q := fun q h => h.elim (fun e => e ▸ hAu2) (hA q)
  refine zz_after (pc := 31) rfl (zz_runI (b := u2) (As := []) (rest := [.ref u2, .ref r]) hx hb hml hown hts (c_Jx4a65c_init_da8c8 l (K := K) (A := fun q => q = u2 ∨ H.size ≤ q) (r := u2)) rfl rfl zw_35 zw_36 zw_4 zw_37 zd_Jx4a65c_init_da8c8 ⟨Nat.le_of_ble_eq_true rfl, Nat.le_of_ble_eq_true rfl⟩ (hE.narrow hsub9) (fun q h => Or.inr h) ⟨hu2, Or.inl rfl⟩ hl.1 (Nat.le_of_ble_eq_true rfl) dX2_init_31 ⟨Nat.le_of_ble_eq_true rfl, Nat.le_of_ble_eq_true rfl⟩) hS hsub9 (fun v_17 H locs hq_15 hF_16 hS => ?_)
  refine W.widen (k := 3) (n := 9) (Nat.le_of_ble_eq_true rfl) (Nat.le_of_ble_eq_true rfl) ?_
  obtain ⟨rfl, hu2⟩ := hq_15
  have hat := va_at.kept hat (hF_16.2 r hrl (fun z => z.elim hru2 (fun z => by omega)))
  have hrl : r < H.size := va_at.lt hat
  have hu0 := va_at.kept hu0 (hF_16.2 u0 hlu0 (fun z => z.elim hdu0u2 (fun z => by omega)))
  have hlu0 : u0 < H.size := va_at.lt hu0
  have hu1 := va_at.kept hu1 (hF_16.2 u1 hlu1 (fun z => z.elim hdu1u2 (fun z => by omega)))
  have hlu1 : u1 < H.size := va_at.lt hu1
  have hlu2 : u2 < H.size := va_at.lt hu2
  have hE := zz_E.kept hE (fun a h1 h2 => hF_16.2 a h1 (fun z => h2 (hsub9 _ z)))
  have hA : ∀ q : Nat, H.size ≤ q → A q := fun q h => hA q (Nat.le_trans hF_16.1 h)
  refine W.eq (g2 := F0 m 34 ls [.ref u2, .ref r]) rfl ?_
  have haA_21 := hAr
  refine zz_putF (ci := 5) (C := RX2) (T := TX2) (N := 8) (v := .ref u2) (ty1 := (.object "java/util/ArrayList")) hx hb hts hown hK hS hat haA_21 rfl zf_X2 tyX2_ok nmX2 2 (by decide) zw_61 (fun _ h9 => h9) rfl hmn rfl (by decide +kernel) rfl rfl (Nat.le_of_ble_eq_true rfl) dX2_init_34 (fun H locs ha_19 hz_20 ho_18 hS => ?_)
  have hat : zz_at K r (.inr (5, [.ref u0, .ref u1, .ref u2, .int 0, .int 0, .long 0, .long 0, .long 0])) H := ha_19
  have hE := zz_E.kept hE (fun q9 h1 h2 => ho_18 q9 (fun e9 => h2 (e9 ▸ hAr)))
  have hA : ∀ q : Nat, H.size ≤ q → A q := fun q hq => hA q (by omega)
  have hu0 := va_at.kept hu0 (ho_18 u0 (fun e9 => hru0 e9.symm))
  have hu1 := va_at.kept hu1 (ho_18 u1 (fun e9 => hru1 e9.symm))
  have hu2 := va_at.kept hu2 (ho_18 u2 (fun e9 => hru2 e9.symm))
  have hrl : r < H.size := va_at.lt hat
  have hlu0 : u0 < H.size := va_at.lt hu0
  have hlu1 : u1 < H.size := va_at.lt hu1
  have hlu2 : u2 < H.size := va_at.lt hu2
  refine lv_aload_n hx hb dX2_init_37 rfl (lv_at hl 0 rfl) ?_
  refine zz_con 0 hx hb dX2_init_38 (by decide) ?_
  have haA_25 := hAr
  refine zz_put (ci := 5) (C := RX2) (T := TX2) (N := 8) (v := .int (nI 0)) (ty1 := .int) hx hb hts hown hK hS hat haA_25 rfl zf_X2 tyX2_ok nmX2 3 (by decide) zw_62 (fun _ h9 => h9) rfl (by decide +kernel) rfl rfl (Nat.le_of_ble_eq_true rfl) dX2_init_39 (fun H locs ha_23 hz_24 ho_22 hS => ?_)
  have hat : zz_at K r (.inr (5, [.ref u0, .ref u1, .ref u2, .int (nI 0), .int 0, .long 0, .long 0, .long 0])) H := ha_23
  have hE := zz_E.kept hE (fun q9 h1 h2 => ho_22 q9 (fun e9 => h2 (e9 ▸ hAr)))
  have hA : ∀ q : Nat, H.size ≤ q → A q := fun q hq => hA q (by omega)
  have hu0 := va_at.kept hu0 (ho_22 u0 (fun e9 => hru0 e9.symm))
  have hu1 := va_at.kept hu1 (ho_22 u1 (fun e9 => hru1 e9.symm))
  have hu2 := va_at.kept hu2 (ho_22 u2 (fun e9 => hru2 e9.symm))
  have hrl : r < H.size := va_at.lt hat
  have hlu0 : u0 < H.size := va_at.lt hu0
  have hlu1 : u1 < H.size := va_at.lt hu1
  have hlu2 : u2 < H.size := va_at.lt hu2
  refine lv_aload_n hx hb dX2_init_42 rfl (lv_at hl 0 rfl) ?_
  refine zz_con 0 hx hb dX2_init_43 (by decide) ?_
  have haA_29 := hAr
  refine zz_put (ci := 5) (C := RX2) (T := TX2) (N := 8) (v := .int (nI 0)) (ty1 := .int) hx hb hts hown hK hS hat haA_29 rfl zf_X2 tyX2_ok nmX2 4 (by decide) zw_63 (fun _ h9 => h9) rfl (by decide +kernel) rfl rfl (Nat.le_of_ble_eq_true rfl) dX2_init_44 (fun H locs ha_27 hz_28 ho_26 hS => ?_)
  have hat : zz_at K r (.inr (5, [.ref u0, .ref u1, .ref u2, .int (nI 0), .int (nI 0), .long 0, .long 0, .long 0])) H := ha_27
  have hE := zz_E.kept hE (fun q9 h1 h2 => ho_26 q9 (fun e9 => h2 (e9 ▸ hAr)))
  have hA : ∀ q : Nat, H.size ≤ q → A q := fun q hq => hA q (by omega)
  have hu0 := va_at.kept hu0 (ho_26 u0 (fun e9 => hru0 e9.symm))
  have hu1 := va_at.kept hu1 (ho_26 u1 (fun e9 => hru1 e9.symm))
  have hu2 := va_at.kept hu2 (ho_26 u2 (fun e9 => hru2 e9.symm))
  have hrl : r < H.size := va_at.lt hat
  have hlu0 : u0 < H.size := va_at.lt hu0
  have hlu1 : u1 < H.size := va_at.lt hu1
  have hlu2 : u2 < H.size := va_at.lt hu2
  refine lv_aload_n hx hb dX2_init_47 rfl (lv_at hl 0 rfl) ?_
  refine lv_lconst (v := 0) hx hb dX2_init_48 (by decide) ?_
  have haA_33 := hAr
  refine zz_put (ci := 5) (C := RX2) (T := TX2) (N := 8) (v := .long 0) (ty1 := .long) hx hb hts hown hK hS hat haA_33 rfl zf_X2 tyX2_ok nmX2 5 (by decide) zw_64 (fun _ h9 => h9) rfl (by decide +kernel) rfl rfl (Nat.le_of_ble_eq_true rfl) dX2_init_49 (fun H locs ha_31 hz_32 ho_30 hS => ?_)
  have hat : zz_at K r (.inr (5, [.ref u0, .ref u1, .ref u2, .int (nI 0), .int (nI 0), .long 0, .long 0, .long 0])) H := ha_31
  have hE := zz_E.kept hE (fun q9 h1 h2 => ho_30 q9 (fun e9 => h2 (e9 ▸ hAr)))
  have hA : ∀ q : Nat, H.size ≤ q → A q := fun q hq => hA q (by omega)
  have hu0 := va_at.kept hu0 (ho_30 u0 (fun e9 => hru0 e9.symm))
  have hu1 := va_at.kept hu1 (ho_30 u1 (fun e9 => hru1 e9.symm))
  have hu2 := va_at.kept hu2 (ho_30 u2 (fun e9 => hru2 e9.symm))
  have hrl : r < H.size := va_at.lt hat
  have hlu0 : u0 < H.size := va_at.lt hu0
  have hlu1 : u1 < H.size := va_at.lt hu1
  have hlu2 : u2 < H.size := va_at.lt hu2
  refine lv_aload_n hx hb dX2_init_52 rfl (lv_at hl 0 rfl) ?_
  refine lv_lconst (v := 0) hx hb dX2_init_53 (by decide) ?_
  have haA_37 := hAr
  refine zz_put (ci := 5) (C := RX2) (T := TX2) (N := 8) (v := .long 0) (ty1 := .long) hx hb hts hown hK hS hat haA_37 rfl zf_X2 tyX2_ok nmX2 6 (by decide) zw_65 (fun _ h9 => h9) rfl (by decide +kernel) rfl rfl (Nat.le_of_ble_eq_true rfl) dX2_init_54 (fun H locs ha_35 hz_36 ho_34 hS => ?_)
  have hat : zz_at K r (.inr (5, [.ref u0, .ref u1, .ref u2, .int (nI 0), .int (nI 0), .long 0, .long 0, .long 0])) H := ha_35
  have hE := zz_E.kept hE (fun q9 h1 h2 => ho_34 q9 (fun e9 => h2 (e9 ▸ hAr)))
  have hA : ∀ q : Nat, H.size ≤ q → A q := fun q hq => hA q (by omega)
  have hu0 := va_at.kept hu0 (ho_34 u0 (fun e9 => hru0 e9.symm))
  have hu1 := va_at.kept hu1 (ho_34 u1 (fun e9 => hru1 e9.symm))
  have hu2 := va_at.kept hu2 (ho_34 u2 (fun e9 => hru2 e9.symm))
  have hrl : r < H.size := va_at.lt hat
  have hlu0 : u0 < H.size := va_at.lt hu0
  have hlu1 : u1 < H.size := va_at.lt hu1
  have hlu2 : u2 < H.size := va_at.lt hu2
  refine lv_aload_n hx hb dX2_init_57 rfl (lv_at hl 0 rfl) ?_
  refine lv_lconst (v := 0) hx hb dX2_init_58 (by decide) ?_
  have haA_41 := hAr
  refine zz_put (ci := 5) (C := RX2) (T := TX2) (N := 8) (v := .long 0) (ty1 := .long) hx hb hts hown hK hS hat haA_41 rfl zf_X2 tyX2_ok nmX2 7 (by decide) zw_66 (fun _ h9 => h9) rfl (by decide +kernel) rfl rfl (Nat.le_of_ble_eq_true rfl) dX2_init_59 (fun H locs ha_39 hz_40 ho_38 hS => ?_)
  have hat : zz_at K r (.inr (5, [.ref u0, .ref u1, .ref u2, .int (nI 0), .int (nI 0), .long 0, .long 0, .long 0])) H := ha_39
  have hE := zz_E.kept hE (fun q9 h1 h2 => ho_38 q9 (fun e9 => h2 (e9 ▸ hAr)))
  have hA : ∀ q : Nat, H.size ≤ q → A q := fun q hq => hA q (by omega)
  have hu0 := va_at.kept hu0 (ho_38 u0 (fun e9 => hru0 e9.symm))
  have hu1 := va_at.kept hu1 (ho_38 u1 (fun e9 => hru1 e9.symm))
  have hu2 := va_at.kept hu2 (ho_38 u2 (fun e9 => hru2 e9.symm))
  have hrl : r < H.size := va_at.lt hat
  have hlu0 : u0 < H.size := va_at.lt hu0
  have hlu1 : u1 < H.size := va_at.lt hu1
  have hlu2 : u2 < H.size := va_at.lt hu2
  refine zz_vret hx hb hr hlocks hS (Nat.le_of_ble_eq_true rfl) (Nat.le_of_ble_eq_true rfl) dX2_init_62 ?_
  refine ⟨rfl, u0, u1, u2, ⟨?_, ?_, ?_, hdu0u1, hdu0u2, hdu1u2⟩, hat, hu0, hu1, hu2⟩
  · rw [← hH0, ← hz0]; omega
  · rw [← hH0, ← hz0]; omega
  · rw [← hH0, ← hz0]; omega
