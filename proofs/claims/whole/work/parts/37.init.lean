/-! by program (gen.py): contracts of methods -/
set_option maxHeartbeats 4000000 in
set_option maxRecDepth 100000 in
theorem c_X0_init (l : Launch) {K : zz_G} {A : Nat → Prop} {r a1 a2 a3 : Nat} : zz_C l yX0_init cX0_init 4 (Option.none : Option Jvm.ClassFile.FieldType) ({ frames := 1, cells := 1, slots := 13, locals := 40 } : Room) K A [.ref r, .int (nI a1), .int (nI a2), .int (nI a3)] (fun H => zz_at K r (.inr (3, [.int 0, .int 0, .int 0, .int 0, .int 0, .int 0, .null])) H ∧ A r) (fun v9 H8 H9 => v9 = none ∧ H8.size < H9.size ∧ zz_at K r (.inr (3, [.int (nI a1), .int (nI a2), .int (nI a3), .int (nI 0), .int (nI 180), .int (nI 400), .ref H8.size])) H9 ∧ zz_at K H8.size (.inl (K.2.1 0, 13, .inl (fun _ => nI 0))) H9) zz_nx A := by
  refine zz_body (by decide +kernel) (Nat.le_of_ble_eq_true rfl) ?_
  intro p e s m below meth c ls hx hb hr hml hts hown hlocks hmn htab hE hA hP hl
  have hN := hE.N
  have hK := hE.K
  have hown : s.vm.findClass RX0 = some m.cls := hown
  have hl : lv_has ls 4 [(0, .ref r), (1, .int (nI a1)), (2, .int (nI a2)), (3, .int (nI a3))] := hl
  have hS : va_S zz_no s.heap s.heap [] := va_S.rf
  obtain ⟨H, hH⟩ : ∃ z, z = s.heap := ⟨_, rfl⟩
  have hS0 : va_S zz_no s.heap H [] := by rw [hH]; exact hS
  rw [← hH] at hE hA
  have hE0 := hE
  clear hS
  have hS := hS0
  obtain ⟨hat, hAr⟩ := hP
  rw [← hH] at hat
  have hH0 := hH
  show W p l e _ s m _ below meth c s.heap [] 0 0 _ (F0 m 0 ls [])
  rw [← hH]
  have hS : va_S A s.heap H _ := zz_Smono hS (fun _ h => h.elim)
  refine lv_aload_n hx hb dX0_init_0 rfl (lv_at hl 0 rfl) ?_
  refine W.objInit hx hb hown (hts _ zw_332) (hts _ zw_31) (hts _ zw_32) rfl (by rw [hml]; exact hl.1) rfl dX0_init_1 (Nat.le_of_ble_eq_true rfl) (Nat.le_of_ble_eq_true rfl) ?_
  refine W.eq (g2 := F0 m 4 ls []) rfl ?_
  refine lv_aload_n hx hb dX0_init_4 rfl (lv_at hl 0 rfl) ?_
  refine zz_con 0 hx hb dX0_init_5 (by decide) ?_
  have haA_4 := hAr
  refine zz_put (ci := 3) (C := RX0) (T := TX0) (N := 7) (v := .int (nI 0)) (ty1 := .boolean) hx hb hts hown hK hS hat haA_4 rfl zf_X0 tyX0_ok nmX0 3 (by decide) zw_339 (fun _ h9 => h9) rfl (by decide +kernel) (by rcases (show nI 0 = 0 ∨ nI 0 = 1 by decide) with h | h <;> rw [h] <;> rfl) (by rcases (show nI 0 = 0 ∨ nI 0 = 1 by decide) with h | h <;> rw [h] <;> rfl) (Nat.le_of_ble_eq_true rfl) dX0_init_6 (fun H locs ha_2 hz_3 ho_1 hS => ?_)
  have hat : zz_at K r (.inr (3, [.int 0, .int 0, .int 0, .int (nI 0), .int 0, .int 0, .null])) H := ha_2
  have hE := zz_E.kept hE (fun q9 h1 h2 => ho_1 q9 (fun e9 => h2 (e9 ▸ hAr)))
  have hA : ∀ q : Nat, H.size ≤ q → A q := fun q hq => hA q (by omega)
  refine lv_aload_n hx hb dX0_init_9 rfl (lv_at hl 0 rfl) ?_
  refine lv_sipush (v := nI 180) hx hb dX0_init_10 (by decide) ?_
  have haA_8 := hAr
  refine zz_put (ci := 3) (C := RX0) (T := TX0) (N := 7) (v := .int (nI 180)) (ty1 := .int) hx hb hts hown hK hS hat haA_8 rfl zf_X0 tyX0_ok nmX0 4 (by decide) zw_341 (fun _ h9 => h9) rfl (by decide +kernel) rfl rfl (Nat.le_of_ble_eq_true rfl) dX0_init_13 (fun H locs ha_6 hz_7 ho_5 hS => ?_)
  have hat : zz_at K r (.inr (3, [.int 0, .int 0, .int 0, .int (nI 0), .int (nI 180), .int 0, .null])) H := ha_6
  have hE := zz_E.kept hE (fun q9 h1 h2 => ho_5 q9 (fun e9 => h2 (e9 ▸ hAr)))
  have hA : ∀ q : Nat, H.size ≤ q → A q := fun q hq => hA q (by omega)
  refine lv_aload_n hx hb dX0_init_16 rfl (lv_at hl 0 rfl) ?_
  refine lv_sipush (v := nI 400) hx hb dX0_init_17 (by decide) ?_
  have haA_12 := hAr
  refine zz_put (ci := 3) (C := RX0) (T := TX0) (N := 7) (v := .int (nI 400)) (ty1 := .int) hx hb hts hown hK hS hat haA_12 rfl zf_X0 tyX0_ok nmX0 5 (by decide) zw_343 (fun _ h9 => h9) rfl (by decide +kernel) rfl rfl (Nat.le_of_ble_eq_true rfl) dX0_init_20 (fun H locs ha_10 hz_11 ho_9 hS => ?_)
  have hat : zz_at K r (.inr (3, [.int 0, .int 0, .int 0, .int (nI 0), .int (nI 180), .int (nI 400), .null])) H := ha_10
  have hE := zz_E.kept hE (fun q9 h1 h2 => ho_9 q9 (fun e9 => h2 (e9 ▸ hAr)))
  have hA : ∀ q : Nat, H.size ≤ q → A q := fun q hq => hA q (by omega)
  refine lv_aload_n hx hb dX0_init_23 rfl (lv_at hl 0 rfl) ?_
  refine lv_bipush (v := nI 13) hx hb dX0_init_24 (by decide) ?_
  obtain ⟨kk, hkk⟩ : ∃ z, z = H.size := ⟨_, rfl⟩
  refine zz_newa (atype := .int) (a0 := (13, .inl (fun _ => nI 0))) 0 hx hb hts hE.K hS zw_361 rfl rfl (by intro C h; cases h) (fun cA => rfl) (nI_pos (by decide)) (nI_clamp (by decide)) (by decide) (Nat.le_of_ble_eq_true rfl) (Nat.le_of_ble_eq_true rfl) dX0_init_26 (fun H1 hn1 hz1 ho1 hS => ?_)
  rw [← hkk] at hn1 ⊢
  have hrk : r ≠ kk := by (have h9 : r < H.size := va_at.lt hat; omega)
  have hat := va_at.kept hat (ho1 r (va_at.lt hat))
  have hE := zz_E.kept hE (fun q9 h1 _ => ho1 q9 h1)
  have hA : ∀ q : Nat, H1.size ≤ q → A q := fun q hq => hA q (by omega)
  refine W.eq (g2 := F0 m 28 ls [.ref kk, .ref r]) rfl ?_
  have haA_16 := hAr
  refine zz_putF (ci := 3) (C := RX0) (T := TX0) (N := 7) (v := .ref kk) (ty1 := (.array .int)) hx hb hts hown hK hS hat haA_16 rfl zf_X0 tyX0_ok nmX0 6 (by decide) zw_345 (fun _ h9 => h9) rfl hmn rfl (by decide +kernel) rfl rfl (Nat.le_of_ble_eq_true rfl) dX0_init_28 (fun H locs ha_14 hz_15 ho_13 hS => ?_)
  have hat : zz_at K r (.inr (3, [.int 0, .int 0, .int 0, .int (nI 0), .int (nI 180), .int (nI 400), .ref kk])) H := ha_14
  have hE := zz_E.kept hE (fun q9 h1 h2 => ho_13 q9 (fun e9 => h2 (e9 ▸ hAr)))
  have hA : ∀ q : Nat, H.size ≤ q → A q := fun q hq => hA q (by omega)
  have hn1 := va_at.kept hn1 (ho_13 kk (fun e9 => hrk e9.symm))
  refine lv_aload_n hx hb dX0_init_31 rfl (lv_at hl 0 rfl) ?_
  refine lv_iload_n hx hb dX0_init_32 rfl (lv_at hl 1 rfl) ?_
  have haA_20 := hAr
  refine zz_putF (ci := 3) (C := RX0) (T := TX0) (N := 7) (v := .int (nI a1)) (ty1 := .int) hx hb hts hown hK hS hat haA_20 rfl zf_X0 tyX0_ok nmX0 0 (by decide) zw_333 (fun _ h9 => h9) rfl hmn rfl (by decide +kernel) rfl rfl (Nat.le_of_ble_eq_true rfl) dX0_init_33 (fun H locs ha_18 hz_19 ho_17 hS => ?_)
  have hat : zz_at K r (.inr (3, [.int (nI a1), .int 0, .int 0, .int (nI 0), .int (nI 180), .int (nI 400), .ref kk])) H := ha_18
  have hE := zz_E.kept hE (fun q9 h1 h2 => ho_17 q9 (fun e9 => h2 (e9 ▸ hAr)))
  have hA : ∀ q : Nat, H.size ≤ q → A q := fun q hq => hA q (by omega)
  have hn1 := va_at.kept hn1 (ho_17 kk (fun e9 => hrk e9.symm))
  refine lv_aload_n hx hb dX0_init_36 rfl (lv_at hl 0 rfl) ?_
  refine lv_iload_n hx hb dX0_init_37 rfl (lv_at hl 2 rfl) ?_
  have haA_24 := hAr
  refine zz_putF (ci := 3) (C := RX0) (T := TX0) (N := 7) (v := .int (nI a2)) (ty1 := .int) hx hb hts hown hK hS hat haA_24 rfl zf_X0 tyX0_ok nmX0 1 (by decide) zw_335 (fun _ h9 => h9) rfl hmn rfl (by decide +kernel) rfl rfl (Nat.le_of_ble_eq_true rfl) dX0_init_38 (fun H locs ha_22 hz_23 ho_21 hS => ?_)
  have hat : zz_at K r (.inr (3, [.int (nI a1), .int (nI a2), .int 0, .int (nI 0), .int (nI 180), .int (nI 400), .ref kk])) H := ha_22
  have hE := zz_E.kept hE (fun q9 h1 h2 => ho_21 q9 (fun e9 => h2 (e9 ▸ hAr)))
  have hA : ∀ q : Nat, H.size ≤ q → A q := fun q hq => hA q (by omega)
  have hn1 := va_at.kept hn1 (ho_21 kk (fun e9 => hrk e9.symm))
  refine lv_aload_n hx hb dX0_init_41 rfl (lv_at hl 0 rfl) ?_
  refine lv_iload_n hx hb dX0_init_42 rfl (lv_at hl 3 rfl) ?_
  have haA_28 := hAr
  refine zz_put (ci := 3) (C := RX0) (T := TX0) (N := 7) (v := .int (nI a3)) (ty1 := .int) hx hb hts hown hK hS hat haA_28 rfl zf_X0 tyX0_ok nmX0 2 (by decide) zw_337 (fun _ h9 => h9) rfl (by decide +kernel) rfl rfl (Nat.le_of_ble_eq_true rfl) dX0_init_43 (fun H locs ha_26 hz_27 ho_25 hS => ?_)
  have hat : zz_at K r (.inr (3, [.int (nI a1), .int (nI a2), .int (nI a3), .int (nI 0), .int (nI 180), .int (nI 400), .ref kk])) H := ha_26
  have hE := zz_E.kept hE (fun q9 h1 h2 => ho_25 q9 (fun e9 => h2 (e9 ▸ hAr)))
  have hA : ∀ q : Nat, H.size ≤ q → A q := fun q hq => hA q (by omega)
  have hn1 := va_at.kept hn1 (ho_25 kk (fun e9 => hrk e9.symm))
  refine zz_vret hx hb hr hlocks hS (Nat.le_of_ble_eq_true rfl) (Nat.le_of_ble_eq_true rfl) dX0_init_46 ?_
  have hk0 : kk = s.heap.size := by (rw [← hH0]; omega)
  rw [← hk0]
  exact ⟨rfl, va_at.lt hn1, hat, hn1⟩

set_option maxHeartbeats 4000000 in
set_option maxRecDepth 100000 in
theorem c_X1_init (l : Launch) {K : zz_G} {A : Nat → Prop} {r a1 a2 : Nat} : zz_C l yX1_init cX1_init 3 (Option.none : Option Jvm.ClassFile.FieldType) ({ frames := 1, cells := 0, slots := 0, locals := 40 } : Room) K A [.ref r, .int (nI a1), .int (nI a2)] (fun H => zz_at K r (.inr (4, [.int 0, .int 0, .int 0, .null, .null, .int 0, .int 0])) H ∧ A r) (fun v9 H8 H9 => v9 = none ∧ zz_at K r (.inr (4, [.int (nI a1), .int (nI a2), .int (nI 5), .null, .null, .int (nI 0), .int (nI 0)])) H9) zz_nx A := by
  refine zz_body (by decide +kernel) (Nat.le_of_ble_eq_true rfl) ?_
  intro p e s m below meth c ls hx hb hr hml hts hown hlocks hmn htab hE hA hP hl
  have hN := hE.N
  have hK := hE.K
  have hown : s.vm.findClass RX1 = some m.cls := hown
  have hl : lv_has ls 3 [(0, .ref r), (1, .int (nI a1)), (2, .int (nI a2))] := hl
  have hS : va_S zz_no s.heap s.heap [] := va_S.rf
  obtain ⟨H, hH⟩ : ∃ z, z = s.heap := ⟨_, rfl⟩
  have hS0 : va_S zz_no s.heap H [] := by rw [hH]; exact hS
  rw [← hH] at hE hA
  have hE0 := hE
  clear hS
  have hS := hS0
  obtain ⟨hat, hAr⟩ := hP
  rw [← hH] at hat
  have hH0 := hH
  show W p l e _ s m _ below meth c s.heap [] 0 0 _ (F0 m 0 ls [])
  rw [← hH]
  have hS : va_S A s.heap H _ := zz_Smono hS (fun _ h => h.elim)
  refine lv_aload_n hx hb dX1_init_0 rfl (lv_at hl 0 rfl) ?_
  refine W.objInit hx hb hown (hts _ zw_483) (hts _ zw_31) (hts _ zw_32) rfl (by rw [hml]; exact hl.1) rfl dX1_init_1 (Nat.le_of_ble_eq_true rfl) (Nat.le_of_ble_eq_true rfl) ?_
  refine W.eq (g2 := F0 m 4 ls []) rfl ?_
  refine lv_aload_n hx hb dX1_init_4 rfl (lv_at hl 0 rfl) ?_
  refine zz_con 5 hx hb dX1_init_5 (by decide) ?_
  have haA_4 := hAr
  refine zz_put (ci := 4) (C := RX1) (T := TX1) (N := 7) (v := .int (nI 5)) (ty1 := .int) hx hb hts hown hK hS hat haA_4 rfl zf_X1 tyX1_ok nmX1 2 (by decide) zw_488 (fun _ h9 => h9) rfl (by decide +kernel) rfl rfl (Nat.le_of_ble_eq_true rfl) dX1_init_6 (fun H locs ha_2 hz_3 ho_1 hS => ?_)
  have hat : zz_at K r (.inr (4, [.int 0, .int 0, .int (nI 5), .null, .null, .int 0, .int 0])) H := ha_2
  have hE := zz_E.kept hE (fun q9 h1 h2 => ho_1 q9 (fun e9 => h2 (e9 ▸ hAr)))
  have hA : ∀ q : Nat, H.size ≤ q → A q := fun q hq => hA q (by omega)
  refine lv_aload_n hx hb dX1_init_9 rfl (lv_at hl 0 rfl) ?_
  refine lv_null hx hb dX1_init_10 ?_
  have haA_8 := hAr
  refine zz_put (ci := 4) (C := RX1) (T := TX1) (N := 7) (v := .null) (ty1 := .object "OpenFloors$Floor") hx hb hts hown hK hS hat haA_8 rfl zf_X1 tyX1_ok nmX1 3 (by decide) zw_490 (fun _ h9 => h9) rfl (by decide +kernel) rfl rfl (Nat.le_of_ble_eq_true rfl) dX1_init_11 (fun H locs ha_6 hz_7 ho_5 hS => ?_)
  have hat : zz_at K r (.inr (4, [.int 0, .int 0, .int (nI 5), .null, .null, .int 0, .int 0])) H := ha_6
  have hE := zz_E.kept hE (fun q9 h1 h2 => ho_5 q9 (fun e9 => h2 (e9 ▸ hAr)))
  have hA : ∀ q : Nat, H.size ≤ q → A q := fun q hq => hA q (by omega)
  refine lv_aload_n hx hb dX1_init_14 rfl (lv_at hl 0 rfl) ?_
  refine lv_null hx hb dX1_init_15 ?_
  have haA_12 := hAr
  refine zz_put (ci := 4) (C := RX1) (T := TX1) (N := 7) (v := .null) (ty1 := .object "OpenFloors$Floor") hx hb hts hown hK hS hat haA_12 rfl zf_X1 tyX1_ok nmX1 4 (by decide) zw_492 (fun _ h9 => h9) rfl (by decide +kernel) rfl rfl (Nat.le_of_ble_eq_true rfl) dX1_init_16 (fun H locs ha_10 hz_11 ho_9 hS => ?_)
  have hat : zz_at K r (.inr (4, [.int 0, .int 0, .int (nI 5), .null, .null, .int 0, .int 0])) H := ha_10
  have hE := zz_E.kept hE (fun q9 h1 h2 => ho_9 q9 (fun e9 => h2 (e9 ▸ hAr)))
  have hA : ∀ q : Nat, H.size ≤ q → A q := fun q hq => hA q (by omega)
  refine lv_aload_n hx hb dX1_init_19 rfl (lv_at hl 0 rfl) ?_
  refine zz_con 0 hx hb dX1_init_20 (by decide) ?_
  have haA_16 := hAr
  refine zz_put (ci := 4) (C := RX1) (T := TX1) (N := 7) (v := .int (nI 0)) (ty1 := .boolean) hx hb hts hown hK hS hat haA_16 rfl zf_X1 tyX1_ok nmX1 5 (by decide) zw_494 (fun _ h9 => h9) rfl (by decide +kernel) (by rcases (show nI 0 = 0 ∨ nI 0 = 1 by decide) with h | h <;> rw [h] <;> rfl) (by rcases (show nI 0 = 0 ∨ nI 0 = 1 by decide) with h | h <;> rw [h] <;> rfl) (Nat.le_of_ble_eq_true rfl) dX1_init_21 (fun H locs ha_14 hz_15 ho_13 hS => ?_)
  have hat : zz_at K r (.inr (4, [.int 0, .int 0, .int (nI 5), .null, .null, .int (nI 0), .int 0])) H := ha_14
  have hE := zz_E.kept hE (fun q9 h1 h2 => ho_13 q9 (fun e9 => h2 (e9 ▸ hAr)))
  have hA : ∀ q : Nat, H.size ≤ q → A q := fun q hq => hA q (by omega)
  refine lv_aload_n hx hb dX1_init_24 rfl (lv_at hl 0 rfl) ?_
  refine zz_con 0 hx hb dX1_init_25 (by decide) ?_
  have haA_20 := hAr
  refine zz_put (ci := 4) (C := RX1) (T := TX1) (N := 7) (v := .int (nI 0)) (ty1 := .boolean) hx hb hts hown hK hS hat haA_20 rfl zf_X1 tyX1_ok nmX1 6 (by decide) zw_496 (fun _ h9 => h9) rfl (by decide +kernel) (by rcases (show nI 0 = 0 ∨ nI 0 = 1 by decide) with h | h <;> rw [h] <;> rfl) (by rcases (show nI 0 = 0 ∨ nI 0 = 1 by decide) with h | h <;> rw [h] <;> rfl) (Nat.le_of_ble_eq_true rfl) dX1_init_26 (fun H locs ha_18 hz_19 ho_17 hS => ?_)
  have hat : zz_at K r (.inr (4, [.int 0, .int 0, .int (nI 5), .null, .null, .int (nI 0), .int (nI 0)])) H := ha_18
  have hE := zz_E.kept hE (fun q9 h1 h2 => ho_17 q9 (fun e9 => h2 (e9 ▸ hAr)))
  have hA : ∀ q : Nat, H.size ≤ q → A q := fun q hq => hA q (by omega)
  refine lv_aload_n hx hb dX1_init_29 rfl (lv_at hl 0 rfl) ?_
  refine lv_iload_n hx hb dX1_init_30 rfl (lv_at hl 1 rfl) ?_
  have haA_24 := hAr
  refine zz_putF (ci := 4) (C := RX1) (T := TX1) (N := 7) (v := .int (nI a1)) (ty1 := .int) hx hb hts hown hK hS hat haA_24 rfl zf_X1 tyX1_ok nmX1 0 (by decide) zw_484 (fun _ h9 => h9) rfl hmn rfl (by decide +kernel) rfl rfl (Nat.le_of_ble_eq_true rfl) dX1_init_31 (fun H locs ha_22 hz_23 ho_21 hS => ?_)
  have hat : zz_at K r (.inr (4, [.int (nI a1), .int 0, .int (nI 5), .null, .null, .int (nI 0), .int (nI 0)])) H := ha_22
  have hE := zz_E.kept hE (fun q9 h1 h2 => ho_21 q9 (fun e9 => h2 (e9 ▸ hAr)))
  have hA : ∀ q : Nat, H.size ≤ q → A q := fun q hq => hA q (by omega)
  refine lv_aload_n hx hb dX1_init_34 rfl (lv_at hl 0 rfl) ?_
  refine lv_iload_n hx hb dX1_init_35 rfl (lv_at hl 2 rfl) ?_
  have haA_28 := hAr
  refine zz_putF (ci := 4) (C := RX1) (T := TX1) (N := 7) (v := .int (nI a2)) (ty1 := .int) hx hb hts hown hK hS hat haA_28 rfl zf_X1 tyX1_ok nmX1 1 (by decide) zw_486 (fun _ h9 => h9) rfl hmn rfl (by decide +kernel) rfl rfl (Nat.le_of_ble_eq_true rfl) dX1_init_36 (fun H locs ha_26 hz_27 ho_25 hS => ?_)
  have hat : zz_at K r (.inr (4, [.int (nI a1), .int (nI a2), .int (nI 5), .null, .null, .int (nI 0), .int (nI 0)])) H := ha_26
  have hE := zz_E.kept hE (fun q9 h1 h2 => ho_25 q9 (fun e9 => h2 (e9 ▸ hAr)))
  have hA : ∀ q : Nat, H.size ≤ q → A q := fun q hq => hA q (by omega)
  refine zz_vret hx hb hr hlocks hS (Nat.le_of_ble_eq_true rfl) (Nat.le_of_ble_eq_true rfl) dX1_init_39 ?_
  exact ⟨rfl, hat⟩
