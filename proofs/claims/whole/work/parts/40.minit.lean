/-! by program (gen.py): contracts of methods -/
set_option maxHeartbeats 4000000 in
set_option maxRecDepth 100000 in
theorem c_X3_init (l : Launch) {K : zz_G} {A : Nat → Prop} {r z0 : Nat} : zz_C l yX3_init cX3_init 1 (Option.none : Option Jvm.ClassFile.FieldType) ({ frames := 1, cells := 13, slots := 126, locals := 40 } : Room) K A [.ref r] (fun H => zz_at K r (.inr (6, [.int 0, .int 0, .int 0, .int 0, .int 0, .int 0, .null, .null, .null, .null, .null, .null, .null, .null, .null, .null, .null, .null, .null, .long 0, .long 0, .long 0])) H ∧ A r ∧ z0 = H.size) (fun v9 H8 H9 => v9 = none ∧ H9.size = z0 + 13 ∧ zz_at K r (.inr (6, [.int 0, .int 0, .int 0, .int 0, .int 0, .int 0, .ref (z0 + 0), .ref (z0 + 1), .ref (z0 + 2), .ref (z0 + 3), .ref (z0 + 4), .ref (z0 + 5), .ref (z0 + 6), .ref (z0 + 7), .ref (z0 + 8), .ref (z0 + 9), .ref (z0 + 10), .ref (z0 + 11), .ref (z0 + 12), .long 0, .long 0, .long 0])) H9 ∧ zz_at K (z0 + 0) (.inl (K.2.1 0, 6, .inl (fun _ => nI 0))) H9 ∧ zz_at K (z0 + 1) (.inl (K.2.1 0, 6, .inl (fun _ => nI 0))) H9 ∧ zz_at K (z0 + 2) (.inl (K.2.1 0, 6, .inl (fun _ => nI 0))) H9 ∧ zz_at K (z0 + 3) (.inl (K.2.1 0, 6, .inl (fun _ => nI 0))) H9 ∧ zz_at K (z0 + 4) (.inl (K.2.1 1, 6, .inl (fun _ => nI 0))) H9 ∧ zz_at K (z0 + 5) (.inl (K.2.1 0, 12, .inl (fun _ => nI 0))) H9 ∧ zz_at K (z0 + 6) (.inl (K.2.1 0, 12, .inl (fun _ => nI 0))) H9 ∧ zz_at K (z0 + 7) (.inl (K.2.1 0, 12, .inl (fun _ => nI 0))) H9 ∧ zz_at K (z0 + 8) (.inl (K.2.1 1, 12, .inl (fun _ => nI 0))) H9 ∧ zz_at K (z0 + 9) (.inl (K.2.1 1, 12, .inl (fun _ => nI 0))) H9 ∧ zz_at K (z0 + 10) (.inl (K.2.1 1, 12, .inl (fun _ => nI 0))) H9 ∧ zz_at K (z0 + 11) (.inl (K.2.1 0, 12, .inl (fun _ => nI 0))) H9 ∧ zz_at K (z0 + 12) (.inl (K.2.1 0, 12, .inl (fun _ => nI 0))) H9) zz_nx A := by
  refine zz_body (by decide +kernel) (Nat.le_of_ble_eq_true rfl) ?_
  intro p e s m below meth c ls hx hb hr hml hts hown hlocks hmn htab hE hA hP hl
  have hN := hE.N
  have hK := hE.K
  have hown : s.vm.findClass RX3 = some m.cls := hown
  have hl : lv_has ls 1 [(0, .ref r)] := hl
  have hS : va_S zz_no s.heap s.heap [] := va_S.rf
  obtain ⟨H, hH⟩ : ∃ z, z = s.heap := ⟨_, rfl⟩
  have hS0 : va_S zz_no s.heap H [] := by rw [hH]; exact hS
  rw [← hH] at hE hA
  have hE0 := hE
  clear hS
  have hS := hS0
  obtain ⟨hat, hAr, hz0⟩ := hP
  rw [← hH] at hat hz0
  have hH0 := hH
  have hrl : r < z0 := by (have h9 : r < H.size := va_at.lt hat; omega)
  have hsz : H.size = z0 := hz0.symm
  show W p l e _ s m _ below meth c s.heap [] 0 0 _ (F0 m 0 ls [])
  rw [← hH]
  have hS : va_S A s.heap H _ := zz_Smono hS (fun _ h => h.elim)
  refine lv_aload_n hx hb dX3_init_0 rfl (lv_at hl 0 rfl) ?_
  refine W.objInit hx hb hown (hts _ zw_807) (hts _ zw_31) (hts _ zw_32) rfl (by rw [hml]; exact hl.1) rfl dX3_init_1 (Nat.le_of_ble_eq_true rfl) (Nat.le_of_ble_eq_true rfl) ?_
  refine W.eq (g2 := F0 m 4 ls []) rfl ?_
  refine lv_aload_n hx hb dX3_init_4 rfl (lv_at hl 0 rfl) ?_
  refine lv_bipush (v := nI 6) hx hb dX3_init_5 (by decide) ?_
  refine zz_newa (atype := .int) (a0 := (6, .inl (fun _ => nI 0))) 0 hx hb hts hE.K hS zw_361 rfl rfl (by intro C h; cases h) (fun cA => rfl) (nI_pos (by decide)) (nI_clamp (by decide)) (by decide) (Nat.le_of_ble_eq_true rfl) (Nat.le_of_ble_eq_true rfl) dX3_init_7 (fun H1 hn0 hs9 ho9 hS9 => ?_)
  replace hS := hS9
  clear hS9
  have hsz9 : H.size = z0 + 0 := by omega
  rw [hsz9] at hn0 ⊢
  replace hat := va_at.kept hat (ho9 r (by omega))
  replace hE := zz_E.kept hE (fun q9 h1 _ => ho9 q9 h1)
  replace hA : ∀ q : Nat, H1.size ≤ q → A q := fun q hq => hA q (by omega)
  replace hsz : H1.size = z0 + 1 := by omega
  clear hs9 ho9 hsz9
  rename Heap => H
  refine W.eq (g2 := F0 m 9 ls [.ref (z0 + 0), .ref r]) rfl ?_
  have haA_4 := hAr
  refine zz_putF (ci := 6) (C := RX3) (T := TX3) (N := 22) (v := .ref (z0 + 0)) (ty1 := (.array .int)) hx hb hts hown hK hS hat haA_4 rfl zf_X3 tyX3_ok nmX3 6 (by decide) zw_814 (fun _ h9 => h9) rfl hmn rfl (by decide +kernel) rfl rfl (Nat.le_of_ble_eq_true rfl) dX3_init_9 (fun H locs ha_2 hz_3 ho_1 hS9 => ?_)
  replace hS := hS9
  clear hS9
  replace hat : zz_at K r (.inr (6, [.int 0, .int 0, .int 0, .int 0, .int 0, .int 0, .ref (z0 + 0), .null, .null, .null, .null, .null, .null, .null, .null, .null, .null, .null, .null, .long 0, .long 0, .long 0])) H := ha_2
  replace hE := zz_E.kept hE (fun q9 h1 h2 => ho_1 q9 (fun e9 => h2 (e9 ▸ hAr)))
  replace hA : ∀ q : Nat, H.size ≤ q → A q := fun q hq => hA q (by omega)
  replace hn0 := va_at.kept hn0 (ho_1 (z0 + 0) (by omega))
  replace hsz : H.size = z0 + 1 := by omega
  clear ha_2 hz_3 ho_1 haA_4
  refine lv_aload_n hx hb dX3_init_12 rfl (lv_at hl 0 rfl) ?_
  refine lv_bipush (v := nI 6) hx hb dX3_init_13 (by decide) ?_
  refine zz_newa (atype := .int) (a0 := (6, .inl (fun _ => nI 0))) 0 hx hb hts hE.K hS zw_361 rfl rfl (by intro C h; cases h) (fun cA => rfl) (nI_pos (by decide)) (nI_clamp (by decide)) (by decide) (Nat.le_of_ble_eq_true rfl) (Nat.le_of_ble_eq_true rfl) dX3_init_15 (fun H1 hn1 hs9 ho9 hS9 => ?_)
  replace hS := hS9
  clear hS9
  have hsz9 : H.size = z0 + 1 := by omega
  rw [hsz9] at hn1 ⊢
  replace hat := va_at.kept hat (ho9 r (by omega))
  replace hn0 := va_at.kept hn0 (ho9 (z0 + 0) (by omega))
  replace hE := zz_E.kept hE (fun q9 h1 _ => ho9 q9 h1)
  replace hA : ∀ q : Nat, H1.size ≤ q → A q := fun q hq => hA q (by omega)
  replace hsz : H1.size = z0 + 2 := by omega
  clear hs9 ho9 hsz9
  rename Heap => H
  refine W.eq (g2 := F0 m 17 ls [.ref (z0 + 1), .ref r]) rfl ?_
  have haA_8 := hAr
  refine zz_putF (ci := 6) (C := RX3) (T := TX3) (N := 22) (v := .ref (z0 + 1)) (ty1 := (.array .int)) hx hb hts hown hK hS hat haA_8 rfl zf_X3 tyX3_ok nmX3 7 (by decide) zw_815 (fun _ h9 => h9) rfl hmn rfl (by decide +kernel) rfl rfl (Nat.le_of_ble_eq_true rfl) dX3_init_17 (fun H locs ha_6 hz_7 ho_5 hS9 => ?_)
  replace hS := hS9
  clear hS9
  replace hat : zz_at K r (.inr (6, [.int 0, .int 0, .int 0, .int 0, .int 0, .int 0, .ref (z0 + 0), .ref (z0 + 1), .null, .null, .null, .null, .null, .null, .null, .null, .null, .null, .null, .long 0, .long 0, .long 0])) H := ha_6
  replace hE := zz_E.kept hE (fun q9 h1 h2 => ho_5 q9 (fun e9 => h2 (e9 ▸ hAr)))
  replace hA : ∀ q : Nat, H.size ≤ q → A q := fun q hq => hA q (by omega)
  replace hn0 := va_at.kept hn0 (ho_5 (z0 + 0) (by omega))
  replace hn1 := va_at.kept hn1 (ho_5 (z0 + 1) (by omega))
  replace hsz : H.size = z0 + 2 := by omega
  clear ha_6 hz_7 ho_5 haA_8
  refine lv_aload_n hx hb dX3_init_20 rfl (lv_at hl 0 rfl) ?_
  refine lv_bipush (v := nI 6) hx hb dX3_init_21 (by decide) ?_
  refine zz_newa (atype := .int) (a0 := (6, .inl (fun _ => nI 0))) 0 hx hb hts hE.K hS zw_361 rfl rfl (by intro C h; cases h) (fun cA => rfl) (nI_pos (by decide)) (nI_clamp (by decide)) (by decide) (Nat.le_of_ble_eq_true rfl) (Nat.le_of_ble_eq_true rfl) dX3_init_23 (fun H1 hn2 hs9 ho9 hS9 => ?_)
  replace hS := hS9
  clear hS9
  have hsz9 : H.size = z0 + 2 := by omega
  rw [hsz9] at hn2 ⊢
  replace hat := va_at.kept hat (ho9 r (by omega))
  replace hn0 := va_at.kept hn0 (ho9 (z0 + 0) (by omega))
  replace hn1 := va_at.kept hn1 (ho9 (z0 + 1) (by omega))
  replace hE := zz_E.kept hE (fun q9 h1 _ => ho9 q9 h1)
  replace hA : ∀ q : Nat, H1.size ≤ q → A q := fun q hq => hA q (by omega)
  replace hsz : H1.size = z0 + 3 := by omega
  clear hs9 ho9 hsz9
  rename Heap => H
  refine W.eq (g2 := F0 m 25 ls [.ref (z0 + 2), .ref r]) rfl ?_
  have haA_12 := hAr
  refine zz_putF (ci := 6) (C := RX3) (T := TX3) (N := 22) (v := .ref (z0 + 2)) (ty1 := (.array .int)) hx hb hts hown hK hS hat haA_12 rfl zf_X3 tyX3_ok nmX3 8 (by decide) zw_816 (fun _ h9 => h9) rfl hmn rfl (by decide +kernel) rfl rfl (Nat.le_of_ble_eq_true rfl) dX3_init_25 (fun H locs ha_10 hz_11 ho_9 hS9 => ?_)
  replace hS := hS9
  clear hS9
  replace hat : zz_at K r (.inr (6, [.int 0, .int 0, .int 0, .int 0, .int 0, .int 0, .ref (z0 + 0), .ref (z0 + 1), .ref (z0 + 2), .null, .null, .null, .null, .null, .null, .null, .null, .null, .null, .long 0, .long 0, .long 0])) H := ha_10
  replace hE := zz_E.kept hE (fun q9 h1 h2 => ho_9 q9 (fun e9 => h2 (e9 ▸ hAr)))
  replace hA : ∀ q : Nat, H.size ≤ q → A q := fun q hq => hA q (by omega)
  replace hn0 := va_at.kept hn0 (ho_9 (z0 + 0) (by omega))
  replace hn1 := va_at.kept hn1 (ho_9 (z0 + 1) (by omega))
  replace hn2 := va_at.kept hn2 (ho_9 (z0 + 2) (by omega))
  replace hsz : H.size = z0 + 3 := by omega
  clear ha_10 hz_11 ho_9 haA_12
  refine lv_aload_n hx hb dX3_init_28 rfl (lv_at hl 0 rfl) ?_
  refine lv_bipush (v := nI 6) hx hb dX3_init_29 (by decide) ?_
  refine zz_newa (atype := .int) (a0 := (6, .inl (fun _ => nI 0))) 0 hx hb hts hE.K hS zw_361 rfl rfl (by intro C h; cases h) (fun cA => rfl) (nI_pos (by decide)) (nI_clamp (by decide)) (by decide) (Nat.le_of_ble_eq_true rfl) (Nat.le_of_ble_eq_true rfl) dX3_init_31 (fun H1 hn3 hs9 ho9 hS9 => ?_)
  replace hS := hS9
  clear hS9
  have hsz9 : H.size = z0 + 3 := by omega
  rw [hsz9] at hn3 ⊢
  replace hat := va_at.kept hat (ho9 r (by omega))
  replace hn0 := va_at.kept hn0 (ho9 (z0 + 0) (by omega))
  replace hn1 := va_at.kept hn1 (ho9 (z0 + 1) (by omega))
  replace hn2 := va_at.kept hn2 (ho9 (z0 + 2) (by omega))
  replace hE := zz_E.kept hE (fun q9 h1 _ => ho9 q9 h1)
  replace hA : ∀ q : Nat, H1.size ≤ q → A q := fun q hq => hA q (by omega)
  replace hsz : H1.size = z0 + 4 := by omega
  clear hs9 ho9 hsz9
  rename Heap => H
  refine W.eq (g2 := F0 m 33 ls [.ref (z0 + 3), .ref r]) rfl ?_
  have haA_16 := hAr
  refine zz_putF (ci := 6) (C := RX3) (T := TX3) (N := 22) (v := .ref (z0 + 3)) (ty1 := (.array .int)) hx hb hts hown hK hS hat haA_16 rfl zf_X3 tyX3_ok nmX3 9 (by decide) zw_817 (fun _ h9 => h9) rfl hmn rfl (by decide +kernel) rfl rfl (Nat.le_of_ble_eq_true rfl) dX3_init_33 (fun H locs ha_14 hz_15 ho_13 hS9 => ?_)
  replace hS := hS9
  clear hS9
  replace hat : zz_at K r (.inr (6, [.int 0, .int 0, .int 0, .int 0, .int 0, .int 0, .ref (z0 + 0), .ref (z0 + 1), .ref (z0 + 2), .ref (z0 + 3), .null, .null, .null, .null, .null, .null, .null, .null, .null, .long 0, .long 0, .long 0])) H := ha_14
  replace hE := zz_E.kept hE (fun q9 h1 h2 => ho_13 q9 (fun e9 => h2 (e9 ▸ hAr)))
  replace hA : ∀ q : Nat, H.size ≤ q → A q := fun q hq => hA q (by omega)
  replace hn0 := va_at.kept hn0 (ho_13 (z0 + 0) (by omega))
  replace hn1 := va_at.kept hn1 (ho_13 (z0 + 1) (by omega))
  replace hn2 := va_at.kept hn2 (ho_13 (z0 + 2) (by omega))
  replace hn3 := va_at.kept hn3 (ho_13 (z0 + 3) (by omega))
  replace hsz : H.size = z0 + 4 := by omega
  clear ha_14 hz_15 ho_13 haA_16
  refine lv_aload_n hx hb dX3_init_36 rfl (lv_at hl 0 rfl) ?_
  refine lv_bipush (v := nI 6) hx hb dX3_init_37 (by decide) ?_
  refine zz_newa (atype := .boolean) (a0 := (6, .inl (fun _ => nI 0))) 1 hx hb hts hE.K hS zw_875 rfl rfl (by intro C h; cases h) (fun cA => rfl) (nI_pos (by decide)) (nI_clamp (by decide)) (by decide) (Nat.le_of_ble_eq_true rfl) (Nat.le_of_ble_eq_true rfl) dX3_init_39 (fun H1 hn4 hs9 ho9 hS9 => ?_)
  replace hS := hS9
  clear hS9
  have hsz9 : H.size = z0 + 4 := by omega
  rw [hsz9] at hn4 ⊢
  replace hat := va_at.kept hat (ho9 r (by omega))
  replace hn0 := va_at.kept hn0 (ho9 (z0 + 0) (by omega))
  replace hn1 := va_at.kept hn1 (ho9 (z0 + 1) (by omega))
  replace hn2 := va_at.kept hn2 (ho9 (z0 + 2) (by omega))
  replace hn3 := va_at.kept hn3 (ho9 (z0 + 3) (by omega))
  replace hE := zz_E.kept hE (fun q9 h1 _ => ho9 q9 h1)
  replace hA : ∀ q : Nat, H1.size ≤ q → A q := fun q hq => hA q (by omega)
  replace hsz : H1.size = z0 + 5 := by omega
  clear hs9 ho9 hsz9
  rename Heap => H
  refine W.eq (g2 := F0 m 41 ls [.ref (z0 + 4), .ref r]) rfl ?_
  have haA_20 := hAr
  refine zz_putF (ci := 6) (C := RX3) (T := TX3) (N := 22) (v := .ref (z0 + 4)) (ty1 := (.array .boolean)) hx hb hts hown hK hS hat haA_20 rfl zf_X3 tyX3_ok nmX3 10 (by decide) zw_818 (fun _ h9 => h9) rfl hmn rfl (by decide +kernel) rfl rfl (Nat.le_of_ble_eq_true rfl) dX3_init_41 (fun H locs ha_18 hz_19 ho_17 hS9 => ?_)
  replace hS := hS9
  clear hS9
  replace hat : zz_at K r (.inr (6, [.int 0, .int 0, .int 0, .int 0, .int 0, .int 0, .ref (z0 + 0), .ref (z0 + 1), .ref (z0 + 2), .ref (z0 + 3), .ref (z0 + 4), .null, .null, .null, .null, .null, .null, .null, .null, .long 0, .long 0, .long 0])) H := ha_18
  replace hE := zz_E.kept hE (fun q9 h1 h2 => ho_17 q9 (fun e9 => h2 (e9 ▸ hAr)))
  replace hA : ∀ q : Nat, H.size ≤ q → A q := fun q hq => hA q (by omega)
  replace hn0 := va_at.kept hn0 (ho_17 (z0 + 0) (by omega))
  replace hn1 := va_at.kept hn1 (ho_17 (z0 + 1) (by omega))
  replace hn2 := va_at.kept hn2 (ho_17 (z0 + 2) (by omega))
  replace hn3 := va_at.kept hn3 (ho_17 (z0 + 3) (by omega))
  replace hn4 := va_at.kept hn4 (ho_17 (z0 + 4) (by omega))
  replace hsz : H.size = z0 + 5 := by omega
  clear ha_18 hz_19 ho_17 haA_20
  refine lv_aload_n hx hb dX3_init_44 rfl (lv_at hl 0 rfl) ?_
  refine lv_bipush (v := nI 12) hx hb dX3_init_45 (by decide) ?_
  refine zz_newa (atype := .int) (a0 := (12, .inl (fun _ => nI 0))) 0 hx hb hts hE.K hS zw_361 rfl rfl (by intro C h; cases h) (fun cA => rfl) (nI_pos (by decide)) (nI_clamp (by decide)) (by decide) (Nat.le_of_ble_eq_true rfl) (Nat.le_of_ble_eq_true rfl) dX3_init_47 (fun H1 hn5 hs9 ho9 hS9 => ?_)
  replace hS := hS9
  clear hS9
  have hsz9 : H.size = z0 + 5 := by omega
  rw [hsz9] at hn5 ⊢
  replace hat := va_at.kept hat (ho9 r (by omega))
  replace hn0 := va_at.kept hn0 (ho9 (z0 + 0) (by omega))
  replace hn1 := va_at.kept hn1 (ho9 (z0 + 1) (by omega))
  replace hn2 := va_at.kept hn2 (ho9 (z0 + 2) (by omega))
  replace hn3 := va_at.kept hn3 (ho9 (z0 + 3) (by omega))
  replace hn4 := va_at.kept hn4 (ho9 (z0 + 4) (by omega))
  replace hE := zz_E.kept hE (fun q9 h1 _ => ho9 q9 h1)
  replace hA : ∀ q : Nat, H1.size ≤ q → A q := fun q hq => hA q (by omega)
  replace hsz : H1.size = z0 + 6 := by omega
  clear hs9 ho9 hsz9
  rename Heap => H
  refine W.eq (g2 := F0 m 49 ls [.ref (z0 + 5), .ref r]) rfl ?_
  have haA_24 := hAr
  refine zz_putF (ci := 6) (C := RX3) (T := TX3) (N := 22) (v := .ref (z0 + 5)) (ty1 := (.array .int)) hx hb hts hown hK hS hat haA_24 rfl zf_X3 tyX3_ok nmX3 11 (by decide) zw_819 (fun _ h9 => h9) rfl hmn rfl (by decide +kernel) rfl rfl (Nat.le_of_ble_eq_true rfl) dX3_init_49 (fun H locs ha_22 hz_23 ho_21 hS9 => ?_)
  replace hS := hS9
  clear hS9
  replace hat : zz_at K r (.inr (6, [.int 0, .int 0, .int 0, .int 0, .int 0, .int 0, .ref (z0 + 0), .ref (z0 + 1), .ref (z0 + 2), .ref (z0 + 3), .ref (z0 + 4), .ref (z0 + 5), .null, .null, .null, .null, .null, .null, .null, .long 0, .long 0, .long 0])) H := ha_22
  replace hE := zz_E.kept hE (fun q9 h1 h2 => ho_21 q9 (fun e9 => h2 (e9 ▸ hAr)))
  replace hA : ∀ q : Nat, H.size ≤ q → A q := fun q hq => hA q (by omega)
  replace hn0 := va_at.kept hn0 (ho_21 (z0 + 0) (by omega))
  replace hn1 := va_at.kept hn1 (ho_21 (z0 + 1) (by omega))
  replace hn2 := va_at.kept hn2 (ho_21 (z0 + 2) (by omega))
  replace hn3 := va_at.kept hn3 (ho_21 (z0 + 3) (by omega))
  replace hn4 := va_at.kept hn4 (ho_21 (z0 + 4) (by omega))
  replace hn5 := va_at.kept hn5 (ho_21 (z0 + 5) (by omega))
  replace hsz : H.size = z0 + 6 := by omega
  clear ha_22 hz_23 ho_21 haA_24
  refine lv_aload_n hx hb dX3_init_52 rfl (lv_at hl 0 rfl) ?_
  refine lv_bipush (v := nI 12) hx hb dX3_init_53 (by decide) ?_
  refine zz_newa (atype := .int) (a0 := (12, .inl (fun _ => nI 0))) 0 hx hb hts hE.K hS zw_361 rfl rfl (by intro C h; cases h) (fun cA => rfl) (nI_pos (by decide)) (nI_clamp (by decide)) (by decide) (Nat.le_of_ble_eq_true rfl) (Nat.le_of_ble_eq_true rfl) dX3_init_55 (fun H1 hn6 hs9 ho9 hS9 => ?_)
  replace hS := hS9
  clear hS9
  have hsz9 : H.size = z0 + 6 := by omega
  rw [hsz9] at hn6 ⊢
  replace hat := va_at.kept hat (ho9 r (by omega))
  replace hn0 := va_at.kept hn0 (ho9 (z0 + 0) (by omega))
  replace hn1 := va_at.kept hn1 (ho9 (z0 + 1) (by omega))
  replace hn2 := va_at.kept hn2 (ho9 (z0 + 2) (by omega))
  replace hn3 := va_at.kept hn3 (ho9 (z0 + 3) (by omega))
  replace hn4 := va_at.kept hn4 (ho9 (z0 + 4) (by omega))
  replace hn5 := va_at.kept hn5 (ho9 (z0 + 5) (by omega))
  replace hE := zz_E.kept hE (fun q9 h1 _ => ho9 q9 h1)
  replace hA : ∀ q : Nat, H1.size ≤ q → A q := fun q hq => hA q (by omega)
  replace hsz : H1.size = z0 + 7 := by omega
  clear hs9 ho9 hsz9
  rename Heap => H
  refine W.eq (g2 := F0 m 57 ls [.ref (z0 + 6), .ref r]) rfl ?_
  have haA_28 := hAr
  refine zz_putF (ci := 6) (C := RX3) (T := TX3) (N := 22) (v := .ref (z0 + 6)) (ty1 := (.array .int)) hx hb hts hown hK hS hat haA_28 rfl zf_X3 tyX3_ok nmX3 12 (by decide) zw_820 (fun _ h9 => h9) rfl hmn rfl (by decide +kernel) rfl rfl (Nat.le_of_ble_eq_true rfl) dX3_init_57 (fun H locs ha_26 hz_27 ho_25 hS9 => ?_)
  replace hS := hS9
  clear hS9
  replace hat : zz_at K r (.inr (6, [.int 0, .int 0, .int 0, .int 0, .int 0, .int 0, .ref (z0 + 0), .ref (z0 + 1), .ref (z0 + 2), .ref (z0 + 3), .ref (z0 + 4), .ref (z0 + 5), .ref (z0 + 6), .null, .null, .null, .null, .null, .null, .long 0, .long 0, .long 0])) H := ha_26
  replace hE := zz_E.kept hE (fun q9 h1 h2 => ho_25 q9 (fun e9 => h2 (e9 ▸ hAr)))
  replace hA : ∀ q : Nat, H.size ≤ q → A q := fun q hq => hA q (by omega)
  replace hn0 := va_at.kept hn0 (ho_25 (z0 + 0) (by omega))
  replace hn1 := va_at.kept hn1 (ho_25 (z0 + 1) (by omega))
  replace hn2 := va_at.kept hn2 (ho_25 (z0 + 2) (by omega))
  replace hn3 := va_at.kept hn3 (ho_25 (z0 + 3) (by omega))
  replace hn4 := va_at.kept hn4 (ho_25 (z0 + 4) (by omega))
  replace hn5 := va_at.kept hn5 (ho_25 (z0 + 5) (by omega))
  replace hn6 := va_at.kept hn6 (ho_25 (z0 + 6) (by omega))
  replace hsz : H.size = z0 + 7 := by omega
  clear ha_26 hz_27 ho_25 haA_28
  refine lv_aload_n hx hb dX3_init_60 rfl (lv_at hl 0 rfl) ?_
  refine lv_bipush (v := nI 12) hx hb dX3_init_61 (by decide) ?_
  refine zz_newa (atype := .int) (a0 := (12, .inl (fun _ => nI 0))) 0 hx hb hts hE.K hS zw_361 rfl rfl (by intro C h; cases h) (fun cA => rfl) (nI_pos (by decide)) (nI_clamp (by decide)) (by decide) (Nat.le_of_ble_eq_true rfl) (Nat.le_of_ble_eq_true rfl) dX3_init_63 (fun H1 hn7 hs9 ho9 hS9 => ?_)
  replace hS := hS9
  clear hS9
  have hsz9 : H.size = z0 + 7 := by omega
  rw [hsz9] at hn7 ⊢
  replace hat := va_at.kept hat (ho9 r (by omega))
  replace hn0 := va_at.kept hn0 (ho9 (z0 + 0) (by omega))
  replace hn1 := va_at.kept hn1 (ho9 (z0 + 1) (by omega))
  replace hn2 := va_at.kept hn2 (ho9 (z0 + 2) (by omega))
  replace hn3 := va_at.kept hn3 (ho9 (z0 + 3) (by omega))
  replace hn4 := va_at.kept hn4 (ho9 (z0 + 4) (by omega))
  replace hn5 := va_at.kept hn5 (ho9 (z0 + 5) (by omega))
  replace hn6 := va_at.kept hn6 (ho9 (z0 + 6) (by omega))
  replace hE := zz_E.kept hE (fun q9 h1 _ => ho9 q9 h1)
  replace hA : ∀ q : Nat, H1.size ≤ q → A q := fun q hq => hA q (by omega)
  replace hsz : H1.size = z0 + 8 := by omega
  clear hs9 ho9 hsz9
  rename Heap => H
  refine W.eq (g2 := F0 m 65 ls [.ref (z0 + 7), .ref r]) rfl ?_
  have haA_32 := hAr
  refine zz_putF (ci := 6) (C := RX3) (T := TX3) (N := 22) (v := .ref (z0 + 7)) (ty1 := (.array .int)) hx hb hts hown hK hS hat haA_32 rfl zf_X3 tyX3_ok nmX3 13 (by decide) zw_821 (fun _ h9 => h9) rfl hmn rfl (by decide +kernel) rfl rfl (Nat.le_of_ble_eq_true rfl) dX3_init_65 (fun H locs ha_30 hz_31 ho_29 hS9 => ?_)
  replace hS := hS9
  clear hS9
  replace hat : zz_at K r (.inr (6, [.int 0, .int 0, .int 0, .int 0, .int 0, .int 0, .ref (z0 + 0), .ref (z0 + 1), .ref (z0 + 2), .ref (z0 + 3), .ref (z0 + 4), .ref (z0 + 5), .ref (z0 + 6), .ref (z0 + 7), .null, .null, .null, .null, .null, .long 0, .long 0, .long 0])) H := ha_30
  replace hE := zz_E.kept hE (fun q9 h1 h2 => ho_29 q9 (fun e9 => h2 (e9 ▸ hAr)))
  replace hA : ∀ q : Nat, H.size ≤ q → A q := fun q hq => hA q (by omega)
  replace hn0 := va_at.kept hn0 (ho_29 (z0 + 0) (by omega))
  replace hn1 := va_at.kept hn1 (ho_29 (z0 + 1) (by omega))
  replace hn2 := va_at.kept hn2 (ho_29 (z0 + 2) (by omega))
  replace hn3 := va_at.kept hn3 (ho_29 (z0 + 3) (by omega))
  replace hn4 := va_at.kept hn4 (ho_29 (z0 + 4) (by omega))
  replace hn5 := va_at.kept hn5 (ho_29 (z0 + 5) (by omega))
  replace hn6 := va_at.kept hn6 (ho_29 (z0 + 6) (by omega))
  replace hn7 := va_at.kept hn7 (ho_29 (z0 + 7) (by omega))
  replace hsz : H.size = z0 + 8 := by omega
  clear ha_30 hz_31 ho_29 haA_32
  refine lv_aload_n hx hb dX3_init_68 rfl (lv_at hl 0 rfl) ?_
  refine lv_bipush (v := nI 12) hx hb dX3_init_69 (by decide) ?_
  refine zz_newa (atype := .boolean) (a0 := (12, .inl (fun _ => nI 0))) 1 hx hb hts hE.K hS zw_875 rfl rfl (by intro C h; cases h) (fun cA => rfl) (nI_pos (by decide)) (nI_clamp (by decide)) (by decide) (Nat.le_of_ble_eq_true rfl) (Nat.le_of_ble_eq_true rfl) dX3_init_71 (fun H1 hn8 hs9 ho9 hS9 => ?_)
  replace hS := hS9
  clear hS9
  have hsz9 : H.size = z0 + 8 := by omega
  rw [hsz9] at hn8 ⊢
  replace hat := va_at.kept hat (ho9 r (by omega))
  replace hn0 := va_at.kept hn0 (ho9 (z0 + 0) (by omega))
  replace hn1 := va_at.kept hn1 (ho9 (z0 + 1) (by omega))
  replace hn2 := va_at.kept hn2 (ho9 (z0 + 2) (by omega))
  replace hn3 := va_at.kept hn3 (ho9 (z0 + 3) (by omega))
  replace hn4 := va_at.kept hn4 (ho9 (z0 + 4) (by omega))
  replace hn5 := va_at.kept hn5 (ho9 (z0 + 5) (by omega))
  replace hn6 := va_at.kept hn6 (ho9 (z0 + 6) (by omega))
  replace hn7 := va_at.kept hn7 (ho9 (z0 + 7) (by omega))
  replace hE := zz_E.kept hE (fun q9 h1 _ => ho9 q9 h1)
  replace hA : ∀ q : Nat, H1.size ≤ q → A q := fun q hq => hA q (by omega)
  replace hsz : H1.size = z0 + 9 := by omega
  clear hs9 ho9 hsz9
  rename Heap => H
  refine W.eq (g2 := F0 m 73 ls [.ref (z0 + 8), .ref r]) rfl ?_
  have haA_36 := hAr
  refine zz_putF (ci := 6) (C := RX3) (T := TX3) (N := 22) (v := .ref (z0 + 8)) (ty1 := (.array .boolean)) hx hb hts hown hK hS hat haA_36 rfl zf_X3 tyX3_ok nmX3 14 (by decide) zw_822 (fun _ h9 => h9) rfl hmn rfl (by decide +kernel) rfl rfl (Nat.le_of_ble_eq_true rfl) dX3_init_73 (fun H locs ha_34 hz_35 ho_33 hS9 => ?_)
  replace hS := hS9
  clear hS9
  replace hat : zz_at K r (.inr (6, [.int 0, .int 0, .int 0, .int 0, .int 0, .int 0, .ref (z0 + 0), .ref (z0 + 1), .ref (z0 + 2), .ref (z0 + 3), .ref (z0 + 4), .ref (z0 + 5), .ref (z0 + 6), .ref (z0 + 7), .ref (z0 + 8), .null, .null, .null, .null, .long 0, .long 0, .long 0])) H := ha_34
  replace hE := zz_E.kept hE (fun q9 h1 h2 => ho_33 q9 (fun e9 => h2 (e9 ▸ hAr)))
  replace hA : ∀ q : Nat, H.size ≤ q → A q := fun q hq => hA q (by omega)
  replace hn0 := va_at.kept hn0 (ho_33 (z0 + 0) (by omega))
  replace hn1 := va_at.kept hn1 (ho_33 (z0 + 1) (by omega))
  replace hn2 := va_at.kept hn2 (ho_33 (z0 + 2) (by omega))
  replace hn3 := va_at.kept hn3 (ho_33 (z0 + 3) (by omega))
  replace hn4 := va_at.kept hn4 (ho_33 (z0 + 4) (by omega))
  replace hn5 := va_at.kept hn5 (ho_33 (z0 + 5) (by omega))
  replace hn6 := va_at.kept hn6 (ho_33 (z0 + 6) (by omega))
  replace hn7 := va_at.kept hn7 (ho_33 (z0 + 7) (by omega))
  replace hn8 := va_at.kept hn8 (ho_33 (z0 + 8) (by omega))
  replace hsz : H.size = z0 + 9 := by omega
  clear ha_34 hz_35 ho_33 haA_36
  refine lv_aload_n hx hb dX3_init_76 rfl (lv_at hl 0 rfl) ?_
  refine lv_bipush (v := nI 12) hx hb dX3_init_77 (by decide) ?_
  refine zz_newa (atype := .boolean) (a0 := (12, .inl (fun _ => nI 0))) 1 hx hb hts hE.K hS zw_875 rfl rfl (by intro C h; cases h) (fun cA => rfl) (nI_pos (by decide)) (nI_clamp (by decide)) (by decide) (Nat.le_of_ble_eq_true rfl) (Nat.le_of_ble_eq_true rfl) dX3_init_79 (fun H1 hn9 hs9 ho9 hS9 => ?_)
  replace hS := hS9
  clear hS9
  have hsz9 : H.size = z0 + 9 := by omega
  rw [hsz9] at hn9 ⊢
  replace hat := va_at.kept hat (ho9 r (by omega))
  replace hn0 := va_at.kept hn0 (ho9 (z0 + 0) (by omega))
  replace hn1 := va_at.kept hn1 (ho9 (z0 + 1) (by omega))
  replace hn2 := va_at.kept hn2 (ho9 (z0 + 2) (by omega))
  replace hn3 := va_at.kept hn3 (ho9 (z0 + 3) (by omega))
  replace hn4 := va_at.kept hn4 (ho9 (z0 + 4) (by omega))
  replace hn5 := va_at.kept hn5 (ho9 (z0 + 5) (by omega))
  replace hn6 := va_at.kept hn6 (ho9 (z0 + 6) (by omega))
  replace hn7 := va_at.kept hn7 (ho9 (z0 + 7) (by omega))
  replace hn8 := va_at.kept hn8 (ho9 (z0 + 8) (by omega))
  replace hE := zz_E.kept hE (fun q9 h1 _ => ho9 q9 h1)
  replace hA : ∀ q : Nat, H1.size ≤ q → A q := fun q hq => hA q (by omega)
  replace hsz : H1.size = z0 + 10 := by omega
  clear hs9 ho9 hsz9
  rename Heap => H
  refine W.eq (g2 := F0 m 81 ls [.ref (z0 + 9), .ref r]) rfl ?_
  have haA_40 := hAr
  refine zz_putF (ci := 6) (C := RX3) (T := TX3) (N := 22) (v := .ref (z0 + 9)) (ty1 := (.array .boolean)) hx hb hts hown hK hS hat haA_40 rfl zf_X3 tyX3_ok nmX3 15 (by decide) zw_823 (fun _ h9 => h9) rfl hmn rfl (by decide +kernel) rfl rfl (Nat.le_of_ble_eq_true rfl) dX3_init_81 (fun H locs ha_38 hz_39 ho_37 hS9 => ?_)
  replace hS := hS9
  clear hS9
  replace hat : zz_at K r (.inr (6, [.int 0, .int 0, .int 0, .int 0, .int 0, .int 0, .ref (z0 + 0), .ref (z0 + 1), .ref (z0 + 2), .ref (z0 + 3), .ref (z0 + 4), .ref (z0 + 5), .ref (z0 + 6), .ref (z0 + 7), .ref (z0 + 8), .ref (z0 + 9), .null, .null, .null, .long 0, .long 0, .long 0])) H := ha_38
  replace hE := zz_E.kept hE (fun q9 h1 h2 => ho_37 q9 (fun e9 => h2 (e9 ▸ hAr)))
  replace hA : ∀ q : Nat, H.size ≤ q → A q := fun q hq => hA q (by omega)
  replace hn0 := va_at.kept hn0 (ho_37 (z0 + 0) (by omega))
  replace hn1 := va_at.kept hn1 (ho_37 (z0 + 1) (by omega))
  replace hn2 := va_at.kept hn2 (ho_37 (z0 + 2) (by omega))
  replace hn3 := va_at.kept hn3 (ho_37 (z0 + 3) (by omega))
  replace hn4 := va_at.kept hn4 (ho_37 (z0 + 4) (by omega))
  replace hn5 := va_at.kept hn5 (ho_37 (z0 + 5) (by omega))
  replace hn6 := va_at.kept hn6 (ho_37 (z0 + 6) (by omega))
  replace hn7 := va_at.kept hn7 (ho_37 (z0 + 7) (by omega))
  replace hn8 := va_at.kept hn8 (ho_37 (z0 + 8) (by omega))
  replace hn9 := va_at.kept hn9 (ho_37 (z0 + 9) (by omega))
  replace hsz : H.size = z0 + 10 := by omega
  clear ha_38 hz_39 ho_37 haA_40
  refine lv_aload_n hx hb dX3_init_84 rfl (lv_at hl 0 rfl) ?_
  refine lv_bipush (v := nI 12) hx hb dX3_init_85 (by decide) ?_
  refine zz_newa (atype := .boolean) (a0 := (12, .inl (fun _ => nI 0))) 1 hx hb hts hE.K hS zw_875 rfl rfl (by intro C h; cases h) (fun cA => rfl) (nI_pos (by decide)) (nI_clamp (by decide)) (by decide) (Nat.le_of_ble_eq_true rfl) (Nat.le_of_ble_eq_true rfl) dX3_init_87 (fun H1 hn10 hs9 ho9 hS9 => ?_)
  replace hS := hS9
  clear hS9
  have hsz9 : H.size = z0 + 10 := by omega
  rw [hsz9] at hn10 ⊢
  replace hat := va_at.kept hat (ho9 r (by omega))
  replace hn0 := va_at.kept hn0 (ho9 (z0 + 0) (by omega))
  replace hn1 := va_at.kept hn1 (ho9 (z0 + 1) (by omega))
  replace hn2 := va_at.kept hn2 (ho9 (z0 + 2) (by omega))
  replace hn3 := va_at.kept hn3 (ho9 (z0 + 3) (by omega))
  replace hn4 := va_at.kept hn4 (ho9 (z0 + 4) (by omega))
  replace hn5 := va_at.kept hn5 (ho9 (z0 + 5) (by omega))
  replace hn6 := va_at.kept hn6 (ho9 (z0 + 6) (by omega))
  replace hn7 := va_at.kept hn7 (ho9 (z0 + 7) (by omega))
  replace hn8 := va_at.kept hn8 (ho9 (z0 + 8) (by omega))
  replace hn9 := va_at.kept hn9 (ho9 (z0 + 9) (by omega))
  replace hE := zz_E.kept hE (fun q9 h1 _ => ho9 q9 h1)
  replace hA : ∀ q : Nat, H1.size ≤ q → A q := fun q hq => hA q (by omega)
  replace hsz : H1.size = z0 + 11 := by omega
  clear hs9 ho9 hsz9
  rename Heap => H
  refine W.eq (g2 := F0 m 89 ls [.ref (z0 + 10), .ref r]) rfl ?_
  have haA_44 := hAr
  refine zz_putF (ci := 6) (C := RX3) (T := TX3) (N := 22) (v := .ref (z0 + 10)) (ty1 := (.array .boolean)) hx hb hts hown hK hS hat haA_44 rfl zf_X3 tyX3_ok nmX3 16 (by decide) zw_824 (fun _ h9 => h9) rfl hmn rfl (by decide +kernel) rfl rfl (Nat.le_of_ble_eq_true rfl) dX3_init_89 (fun H locs ha_42 hz_43 ho_41 hS9 => ?_)
  replace hS := hS9
  clear hS9
  replace hat : zz_at K r (.inr (6, [.int 0, .int 0, .int 0, .int 0, .int 0, .int 0, .ref (z0 + 0), .ref (z0 + 1), .ref (z0 + 2), .ref (z0 + 3), .ref (z0 + 4), .ref (z0 + 5), .ref (z0 + 6), .ref (z0 + 7), .ref (z0 + 8), .ref (z0 + 9), .ref (z0 + 10), .null, .null, .long 0, .long 0, .long 0])) H := ha_42
  replace hE := zz_E.kept hE (fun q9 h1 h2 => ho_41 q9 (fun e9 => h2 (e9 ▸ hAr)))
  replace hA : ∀ q : Nat, H.size ≤ q → A q := fun q hq => hA q (by omega)
  replace hn0 := va_at.kept hn0 (ho_41 (z0 + 0) (by omega))
  replace hn1 := va_at.kept hn1 (ho_41 (z0 + 1) (by omega))
  replace hn2 := va_at.kept hn2 (ho_41 (z0 + 2) (by omega))
  replace hn3 := va_at.kept hn3 (ho_41 (z0 + 3) (by omega))
  replace hn4 := va_at.kept hn4 (ho_41 (z0 + 4) (by omega))
  replace hn5 := va_at.kept hn5 (ho_41 (z0 + 5) (by omega))
  replace hn6 := va_at.kept hn6 (ho_41 (z0 + 6) (by omega))
  replace hn7 := va_at.kept hn7 (ho_41 (z0 + 7) (by omega))
  replace hn8 := va_at.kept hn8 (ho_41 (z0 + 8) (by omega))
  replace hn9 := va_at.kept hn9 (ho_41 (z0 + 9) (by omega))
  replace hn10 := va_at.kept hn10 (ho_41 (z0 + 10) (by omega))
  replace hsz : H.size = z0 + 11 := by omega
  clear ha_42 hz_43 ho_41 haA_44
  refine lv_aload_n hx hb dX3_init_92 rfl (lv_at hl 0 rfl) ?_
  refine lv_bipush (v := nI 12) hx hb dX3_init_93 (by decide) ?_
  refine zz_newa (atype := .int) (a0 := (12, .inl (fun _ => nI 0))) 0 hx hb hts hE.K hS zw_361 rfl rfl (by intro C h; cases h) (fun cA => rfl) (nI_pos (by decide)) (nI_clamp (by decide)) (by decide) (Nat.le_of_ble_eq_true rfl) (Nat.le_of_ble_eq_true rfl) dX3_init_95 (fun H1 hn11 hs9 ho9 hS9 => ?_)
  replace hS := hS9
  clear hS9
  have hsz9 : H.size = z0 + 11 := by omega
  rw [hsz9] at hn11 ⊢
  replace hat := va_at.kept hat (ho9 r (by omega))
  replace hn0 := va_at.kept hn0 (ho9 (z0 + 0) (by omega))
  replace hn1 := va_at.kept hn1 (ho9 (z0 + 1) (by omega))
  replace hn2 := va_at.kept hn2 (ho9 (z0 + 2) (by omega))
  replace hn3 := va_at.kept hn3 (ho9 (z0 + 3) (by omega))
  replace hn4 := va_at.kept hn4 (ho9 (z0 + 4) (by omega))
  replace hn5 := va_at.kept hn5 (ho9 (z0 + 5) (by omega))
  replace hn6 := va_at.kept hn6 (ho9 (z0 + 6) (by omega))
  replace hn7 := va_at.kept hn7 (ho9 (z0 + 7) (by omega))
  replace hn8 := va_at.kept hn8 (ho9 (z0 + 8) (by omega))
  replace hn9 := va_at.kept hn9 (ho9 (z0 + 9) (by omega))
  replace hn10 := va_at.kept hn10 (ho9 (z0 + 10) (by omega))
  replace hE := zz_E.kept hE (fun q9 h1 _ => ho9 q9 h1)
  replace hA : ∀ q : Nat, H1.size ≤ q → A q := fun q hq => hA q (by omega)
  replace hsz : H1.size = z0 + 12 := by omega
  clear hs9 ho9 hsz9
  rename Heap => H
  refine W.eq (g2 := F0 m 97 ls [.ref (z0 + 11), .ref r]) rfl ?_
  have haA_48 := hAr
  refine zz_putF (ci := 6) (C := RX3) (T := TX3) (N := 22) (v := .ref (z0 + 11)) (ty1 := (.array .int)) hx hb hts hown hK hS hat haA_48 rfl zf_X3 tyX3_ok nmX3 17 (by decide) zw_825 (fun _ h9 => h9) rfl hmn rfl (by decide +kernel) rfl rfl (Nat.le_of_ble_eq_true rfl) dX3_init_97 (fun H locs ha_46 hz_47 ho_45 hS9 => ?_)
  replace hS := hS9
  clear hS9
  replace hat : zz_at K r (.inr (6, [.int 0, .int 0, .int 0, .int 0, .int 0, .int 0, .ref (z0 + 0), .ref (z0 + 1), .ref (z0 + 2), .ref (z0 + 3), .ref (z0 + 4), .ref (z0 + 5), .ref (z0 + 6), .ref (z0 + 7), .ref (z0 + 8), .ref (z0 + 9), .ref (z0 + 10), .ref (z0 + 11), .null, .long 0, .long 0, .long 0])) H := ha_46
  replace hE := zz_E.kept hE (fun q9 h1 h2 => ho_45 q9 (fun e9 => h2 (e9 ▸ hAr)))
  replace hA : ∀ q : Nat, H.size ≤ q → A q := fun q hq => hA q (by omega)
  replace hn0 := va_at.kept hn0 (ho_45 (z0 + 0) (by omega))
  replace hn1 := va_at.kept hn1 (ho_45 (z0 + 1) (by omega))
  replace hn2 := va_at.kept hn2 (ho_45 (z0 + 2) (by omega))
  replace hn3 := va_at.kept hn3 (ho_45 (z0 + 3) (by omega))
  replace hn4 := va_at.kept hn4 (ho_45 (z0 + 4) (by omega))
  replace hn5 := va_at.kept hn5 (ho_45 (z0 + 5) (by omega))
  replace hn6 := va_at.kept hn6 (ho_45 (z0 + 6) (by omega))
  replace hn7 := va_at.kept hn7 (ho_45 (z0 + 7) (by omega))
  replace hn8 := va_at.kept hn8 (ho_45 (z0 + 8) (by omega))
  replace hn9 := va_at.kept hn9 (ho_45 (z0 + 9) (by omega))
  replace hn10 := va_at.kept hn10 (ho_45 (z0 + 10) (by omega))
  replace hn11 := va_at.kept hn11 (ho_45 (z0 + 11) (by omega))
  replace hsz : H.size = z0 + 12 := by omega
  clear ha_46 hz_47 ho_45 haA_48
  refine lv_aload_n hx hb dX3_init_100 rfl (lv_at hl 0 rfl) ?_
  refine lv_bipush (v := nI 12) hx hb dX3_init_101 (by decide) ?_
  refine zz_newa (atype := .int) (a0 := (12, .inl (fun _ => nI 0))) 0 hx hb hts hE.K hS zw_361 rfl rfl (by intro C h; cases h) (fun cA => rfl) (nI_pos (by decide)) (nI_clamp (by decide)) (by decide) (Nat.le_of_ble_eq_true rfl) (Nat.le_of_ble_eq_true rfl) dX3_init_103 (fun H1 hn12 hs9 ho9 hS9 => ?_)
  replace hS := hS9
  clear hS9
  have hsz9 : H.size = z0 + 12 := by omega
  rw [hsz9] at hn12 ⊢
  replace hat := va_at.kept hat (ho9 r (by omega))
  replace hn0 := va_at.kept hn0 (ho9 (z0 + 0) (by omega))
  replace hn1 := va_at.kept hn1 (ho9 (z0 + 1) (by omega))
  replace hn2 := va_at.kept hn2 (ho9 (z0 + 2) (by omega))
  replace hn3 := va_at.kept hn3 (ho9 (z0 + 3) (by omega))
  replace hn4 := va_at.kept hn4 (ho9 (z0 + 4) (by omega))
  replace hn5 := va_at.kept hn5 (ho9 (z0 + 5) (by omega))
  replace hn6 := va_at.kept hn6 (ho9 (z0 + 6) (by omega))
  replace hn7 := va_at.kept hn7 (ho9 (z0 + 7) (by omega))
  replace hn8 := va_at.kept hn8 (ho9 (z0 + 8) (by omega))
  replace hn9 := va_at.kept hn9 (ho9 (z0 + 9) (by omega))
  replace hn10 := va_at.kept hn10 (ho9 (z0 + 10) (by omega))
  replace hn11 := va_at.kept hn11 (ho9 (z0 + 11) (by omega))
  replace hE := zz_E.kept hE (fun q9 h1 _ => ho9 q9 h1)
  replace hA : ∀ q : Nat, H1.size ≤ q → A q := fun q hq => hA q (by omega)
  replace hsz : H1.size = z0 + 13 := by omega
  clear hs9 ho9 hsz9
  rename Heap => H
  refine W.eq (g2 := F0 m 105 ls [.ref (z0 + 12), .ref r]) rfl ?_
  have haA_52 := hAr
  refine zz_putF (ci := 6) (C := RX3) (T := TX3) (N := 22) (v := .ref (z0 + 12)) (ty1 := (.array .int)) hx hb hts hown hK hS hat haA_52 rfl zf_X3 tyX3_ok nmX3 18 (by decide) zw_826 (fun _ h9 => h9) rfl hmn rfl (by decide +kernel) rfl rfl (Nat.le_of_ble_eq_true rfl) dX3_init_105 (fun H locs ha_50 hz_51 ho_49 hS9 => ?_)
  replace hS := hS9
  clear hS9
  replace hat : zz_at K r (.inr (6, [.int 0, .int 0, .int 0, .int 0, .int 0, .int 0, .ref (z0 + 0), .ref (z0 + 1), .ref (z0 + 2), .ref (z0 + 3), .ref (z0 + 4), .ref (z0 + 5), .ref (z0 + 6), .ref (z0 + 7), .ref (z0 + 8), .ref (z0 + 9), .ref (z0 + 10), .ref (z0 + 11), .ref (z0 + 12), .long 0, .long 0, .long 0])) H := ha_50
  replace hE := zz_E.kept hE (fun q9 h1 h2 => ho_49 q9 (fun e9 => h2 (e9 ▸ hAr)))
  replace hA : ∀ q : Nat, H.size ≤ q → A q := fun q hq => hA q (by omega)
  replace hn0 := va_at.kept hn0 (ho_49 (z0 + 0) (by omega))
  replace hn1 := va_at.kept hn1 (ho_49 (z0 + 1) (by omega))
  replace hn2 := va_at.kept hn2 (ho_49 (z0 + 2) (by omega))
  replace hn3 := va_at.kept hn3 (ho_49 (z0 + 3) (by omega))
  replace hn4 := va_at.kept hn4 (ho_49 (z0 + 4) (by omega))
  replace hn5 := va_at.kept hn5 (ho_49 (z0 + 5) (by omega))
  replace hn6 := va_at.kept hn6 (ho_49 (z0 + 6) (by omega))
  replace hn7 := va_at.kept hn7 (ho_49 (z0 + 7) (by omega))
  replace hn8 := va_at.kept hn8 (ho_49 (z0 + 8) (by omega))
  replace hn9 := va_at.kept hn9 (ho_49 (z0 + 9) (by omega))
  replace hn10 := va_at.kept hn10 (ho_49 (z0 + 10) (by omega))
  replace hn11 := va_at.kept hn11 (ho_49 (z0 + 11) (by omega))
  replace hn12 := va_at.kept hn12 (ho_49 (z0 + 12) (by omega))
  replace hsz : H.size = z0 + 13 := by omega
  clear ha_50 hz_51 ho_49 haA_52
  refine zz_vret hx hb hr hlocks hS (Nat.le_of_ble_eq_true rfl) (Nat.le_of_ble_eq_true rfl) dX3_init_108 ?_
  exact ⟨rfl, hsz, hat, hn0, hn1, hn2, hn3, hn4, hn5, hn6, hn7, hn8, hn9, hn10, hn11, hn12⟩
