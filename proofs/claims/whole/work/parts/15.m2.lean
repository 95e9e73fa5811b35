/-! by program (gen.py): contracts of methods -/
theorem zd_X3_apart : yX3_apart.cls ≠ "java/lang/invoke/MethodHandle" ∧ yX3_apart.cls ≠ "java/lang/invoke/VarHandle" ∧ (parseMethodDescriptor yX3_apart.desc).map (fun d => d.parameters.length) = some 2 := by decide +kernel
theorem zd_X3_best : yX3_best.cls ≠ "java/lang/invoke/MethodHandle" ∧ yX3_best.cls ≠ "java/lang/invoke/VarHandle" ∧ (parseMethodDescriptor yX3_best.desc).map (fun d => d.parameters.length) = some 0 := by decide +kernel
theorem zd_X3_bookingOf : yX3_bookingOf.cls ≠ "java/lang/invoke/MethodHandle" ∧ yX3_bookingOf.cls ≠ "java/lang/invoke/VarHandle" ∧ (parseMethodDescriptor yX3_bookingOf.desc).map (fun d => d.parameters.length) = some 1 := by decide +kernel
theorem zd_X3_fits : yX3_fits.cls ≠ "java/lang/invoke/MethodHandle" ∧ yX3_fits.cls ≠ "java/lang/invoke/VarHandle" ∧ (parseMethodDescriptor yX3_fits.desc).map (fun d => d.parameters.length) = some 1 := by decide +kernel
theorem zd_X3_loss : yX3_loss.cls ≠ "java/lang/invoke/MethodHandle" ∧ yX3_loss.cls ≠ "java/lang/invoke/VarHandle" ∧ (parseMethodDescriptor yX3_loss.desc).map (fun d => d.parameters.length) = some 1 := by decide +kernel
theorem zd_X3_seatsIn : yX3_seatsIn.cls ≠ "java/lang/invoke/MethodHandle" ∧ yX3_seatsIn.cls ≠ "java/lang/invoke/VarHandle" ∧ (parseMethodDescriptor yX3_seatsIn.desc).map (fun d => d.parameters.length) = some 1 := by decide +kernel
theorem zd_X3_tellsLong : yX3_tellsLong.cls ≠ "java/lang/invoke/MethodHandle" ∧ yX3_tellsLong.cls ≠ "java/lang/invoke/VarHandle" ∧ (parseMethodDescriptor yX3_tellsLong.desc).map (fun d => d.parameters.length) = some 1 := by decide +kernel
set_option maxHeartbeats 4000000 in
set_option maxRecDepth 100000 in
theorem c_X3_book (l : Launch) {K : zz_G} {A : Nat → Prop} {ad : Nat → Nat → Nat} {th : Int32} {N : Nat → Nat → Nat} {G : Nat → Nat → Int32} {L : Nat → Int64} (hI : zq N) (x y : Int32) : zz_C l yX3_book cX3_book 3 (Option.some FieldType.int) ({ frames := 2, cells := 0, slots := 0, locals := 43 } : Room) K A [.ref (ad 0 0), .int x, .int y] (fun H => zz_W K A ad (zm_c K ad th N G L) H) (fun v9 _ H9 => v9 = some (.int ((zs_book N x y).2.1)) ∧ zz_W K A ad (zm_c K ad (nI (zs_book N x y).1) ((zs_book N x y).2.2) G L) H9) zz_nx A := by
  refine zz_body (by decide +kernel) (Nat.le_of_ble_eq_true rfl) ?_
  intro p e s m below meth c ls hx hb hr hml hts hown hlocks hmn htab hE hA hP hl
  have hN := hE.N
  have hK := hE.K
  have hown : s.vm.findClass RX3 = some m.cls := hown
  have hl : lv_has ls 3 [(0, .ref (ad 0 0)), (1, .int x), (2, .int y)] := hl
  have hZ : zz_Z K A s ad (zm_c K ad th N G L) s.heap := ⟨hE, hA, hP⟩
  have hS : va_S zz_no s.heap s.heap [] := va_S.rf
  obtain ⟨H, hH⟩ : ∃ z, z = s.heap := ⟨_, rfl⟩
  have hS0 : va_S zz_no s.heap H [] := by rw [hH]; exact hS
  rw [← hH] at hZ
  have hE0 := hE
  clear hS
  have hS := hS0
  have hB := hI.B
  have h00 := hI.f
  have h01 := hI.p
  have h02 := hI.b
  have hUx := zss_b hI
  have hUb : ∀ S, zls 6 N S < 2 ^ 31 := fun S => by have := zls_b hI (c := 6) S (by decide); omega
  have hUa : ∀ S, zss N S < 2 ^ 31 := fun S => by have := zss_b hI S; omega
  have hUc : ∀ z : Nat, zfb N z (N 0 2) < 2 ^ 31 := fun z => by have := zfb_le N z (N 0 2); omega
  show W p l e _ s m _ below meth c s.heap [] 0 0 _ (F0 m 0 ls [])
  rw [← hH]
  refine lv_aload_n hx hb dX3_book_0 rfl (lv_at hl 0 rfl) ?_
  refine lv_iload_n hx hb dX3_book_1 rfl (lv_at hl 1 rfl) ?_
  refine zz_after (pc := 2) rfl (zz_runV (ci := 6) (q0 := (RX3, TX3, 22)) (b := ad 0 0) (As := [.int x]) (rest := []) hx hb hml hown hts (c_X3_isPerson l (K := K) (A := A) (ad := ad) (th := th) (N := N) (G := G) (L := L) hI x) zw_911 zw_913 zs_37 zw_5 zw_914 zd_X3_isPerson ⟨Nat.le_of_ble_eq_true rfl, Nat.le_of_ble_eq_true rfl⟩ hZ.E hZ.A (zm_ob hZ.W).1 rfl rfl hZ.W hl.1 (Nat.le_of_ble_eq_true rfl) dX3_book_2 ⟨Nat.le_of_ble_eq_true rfl, Nat.le_of_ble_eq_true rfl⟩) hS (fun _ h => h.elim) (fun v_3 H locs hq_1 hF_2 hS => ?_)
  refine W.widen (k := 0) (n := 0) (Nat.le_of_ble_eq_true rfl) (Nat.le_of_ble_eq_true rfl) ?_
  obtain rfl := hq_1
  have hZ := hZ.ro hF_2
  refine W.eq (g2 := F0 m 5 ls [.int (zz_bo (zin x (N 0 1)))]) rfl ?_
  refine zz_bi_ne (tgt := 14) hx hb dX3_book_5 (by decide) (fun c_4 => ?_) (fun c_4 => ?_)
  · skip
    obtain ⟨j, hj, rfl⟩ := zz_rng (by omega) c_4.1 c_4.2
    have hjc : (nI j).toNatClampNeg = j := nI_clamp (by omega)
    have hjb : j < 2 ^ 31 := by omega
    refine lv_aload_n hx hb dX3_book_14 rfl (lv_at hl 0 rfl) ?_
    refine lv_iload_n hx hb dX3_book_15 rfl (lv_at hl 2 rfl) ?_
    refine zz_after (pc := 16) rfl (zz_runV (ci := 6) (q0 := (RX3, TX3, 22)) (b := ad 0 0) (As := [.int y]) (rest := []) hx hb hml hown hts (c_X3_isFloor l (K := K) (A := A) (ad := ad) (th := th) (N := N) (G := G) (L := L) hI y) zw_899 zw_901 zs_36 zw_5 zw_902 zd_X3_isFloor ⟨Nat.le_of_ble_eq_true rfl, Nat.le_of_ble_eq_true rfl⟩ hZ.E hZ.A (zm_ob hZ.W).1 rfl rfl hZ.W hl.1 (Nat.le_of_ble_eq_true rfl) dX3_book_16 ⟨Nat.le_of_ble_eq_true rfl, Nat.le_of_ble_eq_true rfl⟩) hS (fun _ h => h.elim) (fun v_7 H locs hq_5 hF_6 hS => ?_)
    refine W.widen (k := 0) (n := 0) (Nat.le_of_ble_eq_true rfl) (Nat.le_of_ble_eq_true rfl) ?_
    obtain rfl := hq_5
    have hZ := hZ.ro hF_6
    refine W.eq (g2 := F0 m 19 ls [.int (zz_bo (zin y (N 0 0)))]) rfl ?_
    refine zz_bi_ne (tgt := 28) hx hb dX3_book_19 (by decide) (fun c_8 => ?_) (fun c_8 => ?_)
    · skip
      obtain ⟨f1, hf1, rfl⟩ := zz_rng (by omega) c_8.1 c_8.2
      have hf1c : (nI f1).toNatClampNeg = f1 := nI_clamp (by omega)
      have hf1b : f1 < 2 ^ 31 := by omega
      refine lv_aload_n hx hb dX3_book_28 rfl (lv_at hl 0 rfl) ?_
      refine lv_iload_n hx hb dX3_book_29 rfl (lv_at hl 1 rfl) ?_
      refine zz_after (pc := 30) rfl (zz_runV (ci := 6) (q0 := (RX3, TX3, 22)) (b := ad 0 0) (As := [.int (nI j)]) (rest := []) hx hb hml hown hts (c_X3_bookingOf l (K := K) (A := A) (ad := ad) (th := th) (N := N) (G := G) (L := L) hI (by omega)) zw_919 zw_921 zs_38 zw_5 zw_922 zd_X3_bookingOf ⟨Nat.le_of_ble_eq_true rfl, Nat.le_of_ble_eq_true rfl⟩ hZ.E hZ.A (zm_ob hZ.W).1 rfl rfl hZ.W hl.1 (Nat.le_of_ble_eq_true rfl) dX3_book_30 ⟨Nat.le_of_ble_eq_true rfl, Nat.le_of_ble_eq_true rfl⟩) hS (fun _ h => h.elim) (fun v_11 H locs hq_9 hF_10 hS => ?_)
      refine W.widen (k := 0) (n := 0) (Nat.le_of_ble_eq_true rfl) (Nat.le_of_ble_eq_true rfl) ?_
      obtain rfl := hq_9
      have hZ := hZ.ro hF_10
      refine W.eq (g2 := F0 m 33 ls [.int (nI (zfb N j (N 0 2)) - 1)]) rfl ?_
      refine lv_iconst (v := (-1)) hx hb dX3_book_33 (by decide) ?_
      refine zz_ik_eq0 (tgt := 43) (by first | exact hB _ _ | exact hUa _ | exact hUb _ | exact hUc _ | exact hUd _ | omega) hx hb dX3_book_34 (by decide) (fun c_12 => ?_) (fun c_12 => ?_)
      · skip
        have h11 : N 11 j = 0 := (zfb_0 hI hj).mp c_12
        have hrm := hI.room hj h11
        refine lv_aload_n hx hb dX3_book_43 rfl (lv_at hl 0 rfl) ?_
        refine zz_get (ci := 6) (C := RX3) (T := TX3) (N := 22) (v := .int (nI (N 0 2))) hx hb hts hown hK (zm_ob hZ.W).1 rfl zf_X3 3 (by decide) zw_811 (fun _ h9 => h9) rfl dX3_book_44 ?_
        refine lv_aload_n hx hb dX3_book_47 rfl (lv_at hl 0 rfl) ?_
        refine lv_bipush (v := nI 63) hx hb dX3_book_48 (by decide) ?_
        refine zz_after (pc := 50) rfl (zz_runV (ci := 6) (q0 := (RX3, TX3, 22)) (b := ad 0 0) (As := [.int (nI 63)]) (rest := [.int (nI (N 0 2))]) hx hb hml hown hts (c_X3_seatsIn l (K := K) (A := A) (ad := ad) (th := th) (N := N) (G := G) (L := L) hI (by decide)) zw_923 zw_925 zs_39 zw_5 zw_926 zd_X3_seatsIn ⟨Nat.le_of_ble_eq_true rfl, Nat.le_of_ble_eq_true rfl⟩ hZ.E hZ.A (zm_ob hZ.W).1 rfl rfl hZ.W hl.1 (Nat.le_of_ble_eq_true rfl) dX3_book_50 ⟨Nat.le_of_ble_eq_true rfl, Nat.le_of_ble_eq_true rfl⟩) hS (fun _ h => h.elim) (fun v_15 H locs hq_13 hF_14 hS => ?_)
        refine W.widen (k := 0) (n := 0) (Nat.le_of_ble_eq_true rfl) (Nat.le_of_ble_eq_true rfl) ?_
        obtain rfl := hq_13
        have hZ := hZ.ro hF_14
        refine W.eq (g2 := F0 m 53 ls [.int (nI (zss N 63)), .int (nI (N 0 2))]) rfl ?_
        refine zz_ic_lt (tgt := 62) (by first | exact hB _ _ | exact hUa _ | exact hUb _ | exact hUc _ | exact hUd _ | omega) (by first | exact hB _ _ | exact hUa _ | exact hUb _ | exact hUc _ | exact hUd _ | omega) hx hb dX3_book_53 (by decide) (fun c_16 => ?_) (fun c_16 => ?_)
        · skip
          rw [zss_63 hI] at c_16
          refine lv_aload_n hx hb dX3_book_62 rfl (lv_at hl 0 rfl) ?_
          refine zz_get (ci := 6) (C := RX3) (T := TX3) (N := 22) (v := .ref (ad 1 11)) hx hb hts hown hK (zm_ob hZ.W).1 rfl zf_X3 17 (by decide) zw_825 (fun _ h9 => h9) rfl dX3_book_63 ?_
          refine lv_aload_n hx hb dX3_book_66 rfl (lv_at hl 0 rfl) ?_
          refine zz_get (ci := 6) (C := RX3) (T := TX3) (N := 22) (v := .int (nI (N 0 2))) hx hb hts hown hK (zm_ob hZ.W).1 rfl zf_X3 3 (by decide) zw_811 (fun _ h9 => h9) rfl dX3_book_67 ?_
          refine lv_iload_n hx hb dX3_book_70 rfl (lv_at hl 1 rfl) ?_
          have hS : va_S A s.heap H _ := zz_Smono hS (fun _ h => h.elim)
          have haA_20 := (zm_booker hZ.W).2
          refine zz_iast (x := nI j) hx hb hK hS (zm_booker hZ.W).1 haA_20 (vp_in_nI (show N 0 2 < 12 by omega) (by decide)) dX3_book_71 (fun H locs ha_18 hz_19 ho_17 hS => ?_)
          have hZ : zz_Z K A s ad (zm_c K ad th (zu N 9 (N 0 2) j) G L) H := hZ.put haA_20 hz_19 ho_17 (zm_put_a_booker hZ.W (by omega) (nI_clamp (by omega)) rfl ha_18 ho_17)
          refine lv_aload_n hx hb dX3_book_72 rfl (lv_at hl 0 rfl) ?_
          refine zz_get (ci := 6) (C := RX3) (T := TX3) (N := 22) (v := .ref (ad 1 12)) hx hb hts hown hK (zm_ob hZ.W).1 rfl zf_X3 18 (by decide) zw_826 (fun _ h9 => h9) rfl dX3_book_73 ?_
          refine lv_aload_n hx hb dX3_book_76 rfl (lv_at hl 0 rfl) ?_
          refine zz_get (ci := 6) (C := RX3) (T := TX3) (N := 22) (v := .int (nI (N 0 2))) hx hb hts hown hK (zm_ob hZ.W).1 rfl zf_X3 3 (by decide) zw_811 (fun _ h9 => h9) rfl dX3_book_77 ?_
          refine lv_iload_n hx hb dX3_book_80 rfl (lv_at hl 2 rfl) ?_
          have haA_24 := (zm_wanted hZ.W).2
          refine zz_iast (x := nI f1) hx hb hK hS (zm_wanted hZ.W).1 haA_24 (vp_in_nI (show N 0 2 < 12 by omega) (by decide)) dX3_book_81 (fun H locs ha_22 hz_23 ho_21 hS => ?_)
          have hZ : zz_Z K A s ad (zm_c K ad th (zu (zu N 9 (N 0 2) j) 10 (N 0 2) f1) G L) H := hZ.put haA_24 hz_23 ho_21 (zm_put_a_wanted hZ.W (by omega) (nI_clamp (by omega)) rfl ha_22 ho_21)
          refine lv_aload_n hx hb dX3_book_82 rfl (lv_at hl 0 rfl) ?_
          refine lv_dup hx hb dX3_book_83 rfl ?_
          refine zz_get (ci := 6) (C := RX3) (T := TX3) (N := 22) (v := .int (nI (N 0 2))) hx hb hts hown hK (zm_ob hZ.W).1 rfl zf_X3 3 (by decide) zw_811 (fun _ h9 => h9) rfl dX3_book_84 ?_
          refine zz_con 1 hx hb dX3_book_87 (by decide) ?_
          refine zz_add hx hb dX3_book_88 ?_
          have haA_28 := (zm_ob hZ.W).2
          refine zz_put (ci := 6) (C := RX3) (T := TX3) (N := 22) (v := .int (nI ((N 0 2) + 1))) (ty1 := .int) hx hb hts hown hK hS (zm_ob hZ.W).1 haA_28 rfl zf_X3 tyX3_ok nmX3 3 (by decide) zw_811 (fun _ h9 => h9) rfl (by decide +kernel) rfl rfl (Nat.le_of_ble_eq_true rfl) dX3_book_89 (fun H locs ha_26 hz_27 ho_25 hS => ?_)
          have hZ : zz_Z K A s ad (zm_c K ad th (zu (zu (zu N 9 (N 0 2) j) 10 (N 0 2) f1) 0 2 ((N 0 2) + 1)) G L) H := hZ.put haA_28 hz_27 ho_25 (zm_put_bookings hZ.W ha_26 ho_25)
          refine lv_aload_n hx hb dX3_book_92 rfl (lv_at hl 0 rfl) ?_
          refine lv_aload_n hx hb dX3_book_93 rfl (lv_at hl 0 rfl) ?_
          refine zz_get (ci := 6) (C := RX3) (T := TX3) (N := 22) (v := .int (nI ((N 0 2) + 1))) hx hb hts hown hK (zm_ob hZ.W).1 rfl zf_X3 3 (by decide) zw_811 (fun _ h9 => h9) rfl dX3_book_94 ?_
          refine zz_after (pc := 97) rfl (zz_runV (ci := 6) (q0 := (RX3, TX3, 22)) (b := ad 0 0) (As := [.int (nI ((N 0 2) + 1))]) (rest := []) hx hb hml hown hts (c_X3_tells l (K := K) (A := A) (ad := ad) (th := th) (N := (zu (zu (zu N 9 (N 0 2) j) 10 (N 0 2) f1) 0 2 ((N 0 2) + 1))) (G := G) (L := L) (nI ((N 0 2) + 1))) zw_891 zw_893 zs_35 zw_5 zw_894 zd_X3_tells ⟨Nat.le_of_ble_eq_true rfl, Nat.le_of_ble_eq_true rfl⟩ hZ.E hZ.A (zm_ob hZ.W).1 rfl rfl hZ.W hl.1 (Nat.le_of_ble_eq_true rfl) dX3_book_97 ⟨Nat.le_of_ble_eq_true rfl, Nat.le_of_ble_eq_true rfl⟩) hS (fun _ h => h) (fun v_31 H locs hq_29 hF_30 hS => ?_)
          refine W.widen (k := 0) (n := 0) (Nat.le_of_ble_eq_true rfl) (Nat.le_of_ble_eq_true rfl) ?_
          obtain ⟨rfl, hW9⟩ := hq_29
          have hZ : zz_Z K A s ad (zm_c K ad (nI 0) (zu (zu (zu N 9 (N 0 2) j) 10 (N 0 2) f1) 0 2 ((N 0 2) + 1)) G L) H := hZ.mut hF_30 hW9
          refine W.eq (g2 := F0 m 100 ls [.int (nI ((N 0 2) + 1))]) rfl ?_
          refine zz_iret hx hb hr hlocks hS (Nat.le_of_ble_eq_true rfl) (Nat.le_of_ble_eq_true rfl) dX3_book_100 ?_
          refine ⟨?_, ?_⟩
          · skip
            first | rfl | (simp [zs_book, c_4, hjc, c_8, hf1c, c_12, h11, c_16]; done) | (simp_all [zs_book]; done) | ((rw [show (zs_book N (nI j) (nI f1)).1 = 0 by simp [zs_book, c_4, hjc, c_8, hf1c, c_12, h11, c_16]]); done) | (have e9 : zs_book N (nI j) (nI f1) = (0, nI (N 0 2 + 1), zu (zu (zu (zu N 9 (N 0 2) j) 10 (N 0 2) f1) 0 2 (N 0 2 + 1)) 11 j (f1 + 1)) := (by simp [zs_book, c_4, hjc, c_8, hf1c, c_12, h11, c_16]; try omega); rw [e9]; done) | (simp [c_4, hjc, c_8, hf1c, c_12, h11, c_16]; done) | (simp_all; done) | (split <;> first | rfl | omega | (simp_all; done); done)
          · first | exact hZ.W | (refine zm_co ?_ ?_ rfl rfl hZ.W <;> first | (simp [zs_book, c_4, hjc, c_8, hf1c, c_12, h11, c_16]; done) | (simp_all [zs_book]; done)) | (have e9 : zs_book N (nI j) (nI f1) = (0, nI (N 0 2 + 1), zu (zu (zu (zu N 9 (N 0 2) j) 10 (N 0 2) f1) 0 2 (N 0 2 + 1)) 11 j (f1 + 1)) := (by simp [zs_book, c_4, hjc, c_8, hf1c, c_12, h11, c_16]; try omega); rw [e9, zm_g11]; exact hZ.W)
        · skip
          rw [zss_63 hI] at c_16
          refine lv_aload_n hx hb dX3_book_56 rfl (lv_at hl 0 rfl) ?_
          refine zz_con 4 hx hb dX3_book_57 (by decide) ?_
          have hS : va_S A s.heap H _ := zz_Smono hS (fun _ h => h.elim)
          refine zz_after (pc := 58) rfl (zz_runV (ci := 6) (q0 := (RX3, TX3, 22)) (b := ad 0 0) (As := [.int (nI 4)]) (rest := []) hx hb hml hown hts (c_X3_fails l (K := K) (A := A) (ad := ad) (th := th) (N := N) (G := G) (L := L) (nI 4)) zw_887 zw_889 zs_34 zw_5 zw_890 zd_X3_fails ⟨Nat.le_of_ble_eq_true rfl, Nat.le_of_ble_eq_true rfl⟩ hZ.E hZ.A (zm_ob hZ.W).1 rfl rfl hZ.W hl.1 (Nat.le_of_ble_eq_true rfl) dX3_book_58 ⟨Nat.le_of_ble_eq_true rfl, Nat.le_of_ble_eq_true rfl⟩) hS (fun _ h => h) (fun v_34 H locs hq_32 hF_33 hS => ?_)
          refine W.widen (k := 0) (n := 0) (Nat.le_of_ble_eq_true rfl) (Nat.le_of_ble_eq_true rfl) ?_
          obtain ⟨rfl, hW9⟩ := hq_32
          have hZ : zz_Z K A s ad (zm_c K ad (nI 4) N G L) H := hZ.mut hF_33 hW9
          refine W.eq (g2 := F0 m 61 ls [.int (nI 0)]) rfl ?_
          refine zz_iret hx hb hr hlocks hS (Nat.le_of_ble_eq_true rfl) (Nat.le_of_ble_eq_true rfl) dX3_book_61 ?_
          refine ⟨?_, ?_⟩
          · skip
            first | rfl | (simp [zs_book, c_4, hjc, c_8, hf1c, c_12, h11, c_16]; done) | (simp_all [zs_book]; done) | ((rw [show (zs_book N (nI j) (nI f1)).1 = 0 by simp [zs_book, c_4, hjc, c_8, hf1c, c_12, h11, c_16]]); done) | (have e9 : zs_book N (nI j) (nI f1) = (0, nI (N 0 2 + 1), zu (zu (zu (zu N 9 (N 0 2) j) 10 (N 0 2) f1) 0 2 (N 0 2 + 1)) 11 j (f1 + 1)) := (by simp [zs_book, c_4, hjc, c_8, hf1c, c_12, h11, c_16]; try omega); rw [e9]; done) | (simp [c_4, hjc, c_8, hf1c, c_12, h11, c_16]; done) | (simp_all; done) | (split <;> first | rfl | omega | (simp_all; done); done)
          · first | exact hZ.W | (refine zm_co ?_ ?_ rfl rfl hZ.W <;> first | (simp [zs_book, c_4, hjc, c_8, hf1c, c_12, h11, c_16]; done) | (simp_all [zs_book]; done)) | (have e9 : zs_book N (nI j) (nI f1) = (0, nI (N 0 2 + 1), zu (zu (zu (zu N 9 (N 0 2) j) 10 (N 0 2) f1) 0 2 (N 0 2 + 1)) 11 j (f1 + 1)) := (by simp [zs_book, c_4, hjc, c_8, hf1c, c_12, h11, c_16]; try omega); rw [e9, zm_g11]; exact hZ.W)
      · skip
        have h11 : ¬ N 11 j = 0 := fun q => c_12 ((zfb_0 hI hj).mpr q)
        refine lv_aload_n hx hb dX3_book_37 rfl (lv_at hl 0 rfl) ?_
        refine zz_con 3 hx hb dX3_book_38 (by decide) ?_
        have hS : va_S A s.heap H _ := zz_Smono hS (fun _ h => h.elim)
        refine zz_after (pc := 39) rfl (zz_runV (ci := 6) (q0 := (RX3, TX3, 22)) (b := ad 0 0) (As := [.int (nI 3)]) (rest := []) hx hb hml hown hts (c_X3_fails l (K := K) (A := A) (ad := ad) (th := th) (N := N) (G := G) (L := L) (nI 3)) zw_887 zw_889 zs_34 zw_5 zw_890 zd_X3_fails ⟨Nat.le_of_ble_eq_true rfl, Nat.le_of_ble_eq_true rfl⟩ hZ.E hZ.A (zm_ob hZ.W).1 rfl rfl hZ.W hl.1 (Nat.le_of_ble_eq_true rfl) dX3_book_39 ⟨Nat.le_of_ble_eq_true rfl, Nat.le_of_ble_eq_true rfl⟩) hS (fun _ h => h) (fun v_37 H locs hq_35 hF_36 hS => ?_)
        refine W.widen (k := 0) (n := 0) (Nat.le_of_ble_eq_true rfl) (Nat.le_of_ble_eq_true rfl) ?_
        obtain ⟨rfl, hW9⟩ := hq_35
        have hZ : zz_Z K A s ad (zm_c K ad (nI 3) N G L) H := hZ.mut hF_36 hW9
        refine W.eq (g2 := F0 m 42 ls [.int (nI 0)]) rfl ?_
        refine zz_iret hx hb hr hlocks hS (Nat.le_of_ble_eq_true rfl) (Nat.le_of_ble_eq_true rfl) dX3_book_42 ?_
        refine ⟨?_, ?_⟩
        · skip
          first | rfl | (simp [zs_book, c_4, hjc, c_8, hf1c, c_12, h11]; done) | (simp_all [zs_book]; done) | ((rw [show (zs_book N (nI j) (nI f1)).1 = 0 by simp [zs_book, c_4, hjc, c_8, hf1c, c_12, h11]]); done) | (have e9 : zs_book N (nI j) (nI f1) = (0, nI (N 0 2 + 1), zu (zu (zu (zu N 9 (N 0 2) j) 10 (N 0 2) f1) 0 2 (N 0 2 + 1)) 11 j (f1 + 1)) := (by simp [zs_book, c_4, hjc, c_8, hf1c, c_12, h11]; try omega); rw [e9]; done) | (simp [c_4, hjc, c_8, hf1c, c_12, h11]; done) | (simp_all; done) | (split <;> first | rfl | omega | (simp_all; done); done)
        · first | exact hZ.W | (refine zm_co ?_ ?_ rfl rfl hZ.W <;> first | (simp [zs_book, c_4, hjc, c_8, hf1c, c_12, h11]; done) | (simp_all [zs_book]; done)) | (have e9 : zs_book N (nI j) (nI f1) = (0, nI (N 0 2 + 1), zu (zu (zu (zu N 9 (N 0 2) j) 10 (N 0 2) f1) 0 2 (N 0 2 + 1)) 11 j (f1 + 1)) := (by simp [zs_book, c_4, hjc, c_8, hf1c, c_12, h11]; try omega); rw [e9, zm_g11]; exact hZ.W)
    · skip
      refine lv_aload_n hx hb dX3_book_22 rfl (lv_at hl 0 rfl) ?_
      refine zz_con 2 hx hb dX3_book_23 (by decide) ?_
      have hS : va_S A s.heap H _ := zz_Smono hS (fun _ h => h.elim)
      refine zz_after (pc := 24) rfl (zz_runV (ci := 6) (q0 := (RX3, TX3, 22)) (b := ad 0 0) (As := [.int (nI 2)]) (rest := []) hx hb hml hown hts (c_X3_fails l (K := K) (A := A) (ad := ad) (th := th) (N := N) (G := G) (L := L) (nI 2)) zw_887 zw_889 zs_34 zw_5 zw_890 zd_X3_fails ⟨Nat.le_of_ble_eq_true rfl, Nat.le_of_ble_eq_true rfl⟩ hZ.E hZ.A (zm_ob hZ.W).1 rfl rfl hZ.W hl.1 (Nat.le_of_ble_eq_true rfl) dX3_book_24 ⟨Nat.le_of_ble_eq_true rfl, Nat.le_of_ble_eq_true rfl⟩) hS (fun _ h => h) (fun v_40 H locs hq_38 hF_39 hS => ?_)
      refine W.widen (k := 0) (n := 0) (Nat.le_of_ble_eq_true rfl) (Nat.le_of_ble_eq_true rfl) ?_
      obtain ⟨rfl, hW9⟩ := hq_38
      have hZ : zz_Z K A s ad (zm_c K ad (nI 2) N G L) H := hZ.mut hF_39 hW9
      refine W.eq (g2 := F0 m 27 ls [.int (nI 0)]) rfl ?_
      refine zz_iret hx hb hr hlocks hS (Nat.le_of_ble_eq_true rfl) (Nat.le_of_ble_eq_true rfl) dX3_book_27 ?_
      refine ⟨?_, ?_⟩
      · skip
        first | rfl | (simp [zs_book, c_4, hjc, c_8]; done) | (simp_all [zs_book]; done) | ((rw [show (zs_book N (nI j) (nI f1)).1 = 0 by simp [zs_book, c_4, hjc, c_8]]); done) | (have e9 : zs_book N (nI j) (nI f1) = (0, nI (N 0 2 + 1), zu (zu (zu (zu N 9 (N 0 2) j) 10 (N 0 2) f1) 0 2 (N 0 2 + 1)) 11 j (f1 + 1)) := (by simp [zs_book, c_4, hjc, c_8]; try omega); rw [e9]; done) | (simp [c_4, hjc, c_8]; done) | (simp_all; done) | (split <;> first | rfl | omega | (simp_all; done); done)
      · first | exact hZ.W | (refine zm_co ?_ ?_ rfl rfl hZ.W <;> first | (simp [zs_book, c_4, hjc, c_8]; done) | (simp_all [zs_book]; done)) | (have e9 : zs_book N (nI j) (nI f1) = (0, nI (N 0 2 + 1), zu (zu (zu (zu N 9 (N 0 2) j) 10 (N 0 2) f1) 0 2 (N 0 2 + 1)) 11 j (f1 + 1)) := (by simp [zs_book, c_4, hjc, c_8]; try omega); rw [e9, zm_g11]; exact hZ.W)
  · skip
    refine lv_aload_n hx hb dX3_book_8 rfl (lv_at hl 0 rfl) ?_
    refine zz_con 1 hx hb dX3_book_9 (by decide) ?_
    have hS : va_S A s.heap H _ := zz_Smono hS (fun _ h => h.elim)
    refine zz_after (pc := 10) rfl (zz_runV (ci := 6) (q0 := (RX3, TX3, 22)) (b := ad 0 0) (As := [.int (nI 1)]) (rest := []) hx hb hml hown hts (c_X3_fails l (K := K) (A := A) (ad := ad) (th := th) (N := N) (G := G) (L := L) (nI 1)) zw_887 zw_889 zs_34 zw_5 zw_890 zd_X3_fails ⟨Nat.le_of_ble_eq_true rfl, Nat.le_of_ble_eq_true rfl⟩ hZ.E hZ.A (zm_ob hZ.W).1 rfl rfl hZ.W hl.1 (Nat.le_of_ble_eq_true rfl) dX3_book_10 ⟨Nat.le_of_ble_eq_true rfl, Nat.le_of_ble_eq_true rfl⟩) hS (fun _ h => h) (fun v_43 H locs hq_41 hF_42 hS => ?_)
    refine W.widen (k := 0) (n := 0) (Nat.le_of_ble_eq_true rfl) (Nat.le_of_ble_eq_true rfl) ?_
    obtain ⟨rfl, hW9⟩ := hq_41
    have hZ : zz_Z K A s ad (zm_c K ad (nI 1) N G L) H := hZ.mut hF_42 hW9
    refine W.eq (g2 := F0 m 13 ls [.int (nI 0)]) rfl ?_
    refine zz_iret hx hb hr hlocks hS (Nat.le_of_ble_eq_true rfl) (Nat.le_of_ble_eq_true rfl) dX3_book_13 ?_
    refine ⟨?_, ?_⟩
    · skip
      first | rfl | (simp [zs_book, c_4]; done) | (simp_all [zs_book]; done) | ((rw [show (zs_book N (nI j) (nI f1)).1 = 0 by simp [zs_book, c_4]]); done) | (have e9 : zs_book N (nI j) (nI f1) = (0, nI (N 0 2 + 1), zu (zu (zu (zu N 9 (N 0 2) j) 10 (N 0 2) f1) 0 2 (N 0 2 + 1)) 11 j (f1 + 1)) := (by simp [zs_book, c_4]; try omega); rw [e9]; done) | (simp [c_4]; done) | (simp_all; done) | (split <;> first | rfl | omega | (simp_all; done); done)
    · first | exact hZ.W | (refine zm_co ?_ ?_ rfl rfl hZ.W <;> first | (simp [zs_book, c_4]; done) | (simp_all [zs_book]; done)) | (have e9 : zs_book N (nI j) (nI f1) = (0, nI (N 0 2 + 1), zu (zu (zu (zu N 9 (N 0 2) j) 10 (N 0 2) f1) 0 2 (N 0 2 + 1)) 11 j (f1 + 1)) := (by simp [zs_book, c_4]; try omega); rw [e9, zm_g11]; exact hZ.W)

set_option maxHeartbeats 4000000 in
set_option maxRecDepth 100000 in
theorem c_X3_cancel (l : Launch) {K : zz_G} {A : Nat → Prop} {ad : Nat → Nat → Nat} {th : Int32} {N : Nat → Nat → Nat} {G : Nat → Nat → Int32} {L : Nat → Int64} (hI : zq N) (x : Int32) : zz_C l yX3_cancel cX3_cancel 5 (Option.some FieldType.int) ({ frames := 2, cells := 0, slots := 0, locals := 43 } : Room) K A [.ref (ad 0 0), .int x] (fun H => zz_W K A ad (zm_c K ad th N G L) H) (fun v9 _ H9 => v9 = some (.int ((zs_cancel N x).2.1)) ∧ zz_W K A ad (zm_c K ad (nI (zs_cancel N x).1) ((zs_cancel N x).2.2) G L) H9) zz_nx A := by
  refine zz_body (by decide +kernel) (Nat.le_of_ble_eq_true rfl) ?_
  intro p e s m below meth c ls hx hb hr hml hts hown hlocks hmn htab hE hA hP hl
  have hN := hE.N
  have hK := hE.K
  have hown : s.vm.findClass RX3 = some m.cls := hown
  have hl : lv_has ls 5 [(0, .ref (ad 0 0)), (1, .int x)] := hl
  have hZ : zz_Z K A s ad (zm_c K ad th N G L) s.heap := ⟨hE, hA, hP⟩
  have hS : va_S zz_no s.heap s.heap [] := va_S.rf
  obtain ⟨H, hH⟩ : ∃ z, z = s.heap := ⟨_, rfl⟩
  have hS0 : va_S zz_no s.heap H [] := by rw [hH]; exact hS
  rw [← hH] at hZ
  have hE0 := hE
  clear hS
  have hS := hS0
  have hB := hI.B
  have h00 := hI.f
  have h01 := hI.p
  have h02 := hI.b
  have hUc : ∀ z : Nat, zfb N z (N 0 2) < 2 ^ 31 := fun z => by have := zfb_le N z (N 0 2); omega
  show W p l e _ s m _ below meth c s.heap [] 0 0 _ (F0 m 0 ls [])
  rw [← hH]
  refine lv_aload_n hx hb dX3_cancel_0 rfl (lv_at hl 0 rfl) ?_
  refine lv_iload_n hx hb dX3_cancel_1 rfl (lv_at hl 1 rfl) ?_
  refine zz_after (pc := 2) rfl (zz_runV (ci := 6) (q0 := (RX3, TX3, 22)) (b := ad 0 0) (As := [.int x]) (rest := []) hx hb hml hown hts (c_X3_isPerson l (K := K) (A := A) (ad := ad) (th := th) (N := N) (G := G) (L := L) hI x) zw_911 zw_913 zs_37 zw_5 zw_914 zd_X3_isPerson ⟨Nat.le_of_ble_eq_true rfl, Nat.le_of_ble_eq_true rfl⟩ hZ.E hZ.A (zm_ob hZ.W).1 rfl rfl hZ.W hl.1 (Nat.le_of_ble_eq_true rfl) dX3_cancel_2 ⟨Nat.le_of_ble_eq_true rfl, Nat.le_of_ble_eq_true rfl⟩) hS (fun _ h => h.elim) (fun v_3 H locs hq_1 hF_2 hS => ?_)
  refine W.widen (k := 0) (n := 0) (Nat.le_of_ble_eq_true rfl) (Nat.le_of_ble_eq_true rfl) ?_
  obtain rfl := hq_1
  have hZ := hZ.ro hF_2
  refine W.eq (g2 := F0 m 5 ls [.int (zz_bo (zin x (N 0 1)))]) rfl ?_
  refine zz_bi_eq (tgt := 16) hx hb dX3_cancel_5 (by decide) (fun c_4 => ?_) (fun c_4 => ?_)
  · skip
    refine lv_iconst (v := (-1)) hx hb dX3_cancel_16 (by decide) ?_
    refine zz_cv (y := nI 0 - 1) zz_k0 ?_
    refine lv_istore_n (lv' := [(2, .int (nI 0 - 1)), (0, .ref (ad 0 0)), (1, .int x)]) hx hb dX3_cancel_17 rfl hl (Nat.le_of_ble_eq_true rfl) rfl (fun ls hl => ?_)
    refine lv_iload_n hx hb dX3_cancel_18 rfl (lv_at hl 0 rfl) ?_
    refine lv_iconst (v := (-1)) hx hb dX3_cancel_19 (by decide) ?_
    refine zz_ik_ne0 (tgt := 29) (by decide) hx hb dX3_cancel_20 (by decide) (fun c_5 => ?_) (fun c_5 => ?_)
    · skip
      exact absurd rfl c_5
    · skip
      refine lv_aload_n hx hb dX3_cancel_23 rfl (lv_at hl 1 rfl) ?_
      refine zz_con 1 hx hb dX3_cancel_24 (by decide) ?_
      have hS : va_S A s.heap H _ := zz_Smono hS (fun _ h => h.elim)
      refine zz_after (pc := 25) rfl (zz_runV (ci := 6) (q0 := (RX3, TX3, 22)) (b := ad 0 0) (As := [.int (nI 1)]) (rest := []) hx hb hml hown hts (c_X3_fails l (K := K) (A := A) (ad := ad) (th := th) (N := N) (G := G) (L := L) (nI 1)) zw_887 zw_889 zs_34 zw_5 zw_890 zd_X3_fails ⟨Nat.le_of_ble_eq_true rfl, Nat.le_of_ble_eq_true rfl⟩ hZ.E hZ.A (zm_ob hZ.W).1 rfl rfl hZ.W hl.1 (Nat.le_of_ble_eq_true rfl) dX3_cancel_25 ⟨Nat.le_of_ble_eq_true rfl, Nat.le_of_ble_eq_true rfl⟩) hS (fun _ h => h) (fun v_8 H locs hq_6 hF_7 hS => ?_)
      refine W.widen (k := 0) (n := 0) (Nat.le_of_ble_eq_true rfl) (Nat.le_of_ble_eq_true rfl) ?_
      obtain ⟨rfl, hW9⟩ := hq_6
      have hZ : zz_Z K A s ad (zm_c K ad (nI 1) N G L) H := hZ.mut hF_7 hW9
      refine W.eq (g2 := F0 m 28 ls [.int (nI 0)]) rfl ?_
      refine zz_iret hx hb hr hlocks hS (Nat.le_of_ble_eq_true rfl) (Nat.le_of_ble_eq_true rfl) dX3_cancel_28 ?_
      refine ⟨?_, ?_⟩
      · skip
        first | rfl | (simp [zs_cancel, c_4, c_5]; done) | (simp_all [zs_cancel]; done) | (have e9 : (zs_cancel N (nI j)).2.1 = nI (N 11 j - 1) := (by simp [zs_cancel, c_4, c_5]); rw [e9, ha4]; rfl)
      · first | exact hZ.W | (refine zm_co ?_ ?_ rfl rfl hZ.W <;> first | (simp [zs_cancel, c_4, c_5]; done) | (simp_all [zs_cancel]; done)) | (have e9 : zs_cancel N (nI j) = (0, nI (N 11 j - 1), zu (zsp (zu N 0 2 (N 0 2 - 1)) a1 (N 0 2 - 1)) 11 j 0) := (by simp [zs_cancel, ha1, c_4, c_5]); rw [e9, zm_g11]; exact hZ.W)
  · skip
    obtain ⟨j, hj, rfl⟩ := zz_rng (by omega) c_4.1 c_4.2
    have hjc : (nI j).toNatClampNeg = j := nI_clamp (by omega)
    have hjb : j < 2 ^ 31 := by omega
    refine lv_aload_n hx hb dX3_cancel_8 rfl (lv_at hl 0 rfl) ?_
    refine lv_iload_n hx hb dX3_cancel_9 rfl (lv_at hl 1 rfl) ?_
    refine zz_after (pc := 10) rfl (zz_runV (ci := 6) (q0 := (RX3, TX3, 22)) (b := ad 0 0) (As := [.int (nI j)]) (rest := []) hx hb hml hown hts (c_X3_bookingOf l (K := K) (A := A) (ad := ad) (th := th) (N := N) (G := G) (L := L) hI (by omega)) zw_919 zw_921 zs_38 zw_5 zw_922 zd_X3_bookingOf ⟨Nat.le_of_ble_eq_true rfl, Nat.le_of_ble_eq_true rfl⟩ hZ.E hZ.A (zm_ob hZ.W).1 rfl rfl hZ.W hl.1 (Nat.le_of_ble_eq_true rfl) dX3_cancel_10 ⟨Nat.le_of_ble_eq_true rfl, Nat.le_of_ble_eq_true rfl⟩) hS (fun _ h => h.elim) (fun v_11 H locs hq_9 hF_10 hS => ?_)
    refine W.widen (k := 0) (n := 0) (Nat.le_of_ble_eq_true rfl) (Nat.le_of_ble_eq_true rfl) ?_
    obtain rfl := hq_9
    have hZ := hZ.ro hF_10
    refine W.eq (g2 := F0 m 13 ls [.int (nI (zfb N j (N 0 2)) - 1)]) rfl ?_
    refine lv_goto (tgt := 17) hx hb dX3_cancel_13 (by decide) ?_
    refine lv_istore_n (lv' := [(2, .int (nI (zfb N j (N 0 2)) - 1)), (0, .ref (ad 0 0)), (1, .int (nI j))]) hx hb dX3_cancel_17 rfl hl (Nat.le_of_ble_eq_true rfl) rfl (fun ls hl => ?_)
    refine lv_iload_n hx hb dX3_cancel_18 rfl (lv_at hl 0 rfl) ?_
    refine lv_iconst (v := (-1)) hx hb dX3_cancel_19 (by decide) ?_
    refine zz_ik_ne0 (tgt := 29) (by first | exact hB _ _ | exact hUa _ | exact hUb _ | exact hUc _ | exact hUd _ | omega) hx hb dX3_cancel_20 (by decide) (fun c_12 => ?_) (fun c_12 => ?_)
    · skip
      obtain ⟨a1, ha1⟩ : ∃ z, zfb N j (N 0 2) = z + 1 := ⟨zfb N j (N 0 2) - 1, by omega⟩
      rw [ha1, ← zz_nk] at hl
      have ha2 := zfb_at ha1
      have ha3 := ha2.1
      have h11 : ¬ N 11 j = 0 := fun q => c_12 ((zfb_0 hI hj).mpr q)
      have ha4 := hI.bw a1 ha2.1
      rw [ha2.2] at ha4
      refine lv_aload_n hx hb dX3_cancel_29 rfl (lv_at hl 1 rfl) ?_
      refine zz_get (ci := 6) (C := RX3) (T := TX3) (N := 22) (v := .ref (ad 1 12)) hx hb hts hown hK (zm_ob hZ.W).1 rfl zf_X3 18 (by decide) zw_826 (fun _ h9 => h9) rfl dX3_cancel_30 ?_
      refine lv_iload_n hx hb dX3_cancel_33 rfl (lv_at hl 0 rfl) ?_
      refine zz_iald (y := nI (N 10 a1)) hx hb hK (zm_wanted hZ.W).1 (vp_in_nI (show a1 < 12 by omega) (by decide)) dX3_cancel_34 (by rw [nI_clamp (by omega)] <;> rfl) ?_
      refine lv_istore_n (lv' := [(3, .int (nI (N 10 a1))), (2, .int (nI a1)), (0, .ref (ad 0 0)), (1, .int (nI j))]) hx hb dX3_cancel_35 rfl hl (Nat.le_of_ble_eq_true rfl) rfl (fun ls hl => ?_)
      refine lv_aload_n hx hb dX3_cancel_36 rfl (lv_at hl 2 rfl) ?_
      refine lv_dup hx hb dX3_cancel_37 rfl ?_
      refine zz_get (ci := 6) (C := RX3) (T := TX3) (N := 22) (v := .int (nI (N 0 2))) hx hb hts hown hK (zm_ob hZ.W).1 rfl zf_X3 3 (by decide) zw_811 (fun _ h9 => h9) rfl dX3_cancel_38 ?_
      refine zz_con 1 hx hb dX3_cancel_41 (by decide) ?_
      refine zz_sub (by omega) hx hb dX3_cancel_42 ?_
      have hS : va_S A s.heap H _ := zz_Smono hS (fun _ h => h.elim)
      have haA_16 := (zm_ob hZ.W).2
      refine zz_put (ci := 6) (C := RX3) (T := TX3) (N := 22) (v := .int (nI ((N 0 2) - 1))) (ty1 := .int) hx hb hts hown hK hS (zm_ob hZ.W).1 haA_16 rfl zf_X3 tyX3_ok nmX3 3 (by decide) zw_811 (fun _ h9 => h9) rfl (by decide +kernel) rfl rfl (Nat.le_of_ble_eq_true rfl) dX3_cancel_43 (fun H locs ha_14 hz_15 ho_13 hS => ?_)
      have hZ : zz_Z K A s ad (zm_c K ad th (zu N 0 2 ((N 0 2) - 1)) G L) H := hZ.put haA_16 hz_15 ho_13 (zm_put_bookings hZ.W ha_14 ho_13)
      refine lv_iload_n hx hb dX3_cancel_46 rfl (lv_at hl 1 rfl) ?_
      refine lv_istore (lv' := [(4, .int (nI a1)), (3, .int (nI (N 10 a1))), (2, .int (nI a1)), (0, .ref (ad 0 0)), (1, .int (nI j))]) hx hb dX3_cancel_47 hl (Nat.le_of_ble_eq_true rfl) rfl (fun ls hl => ?_)
      have hL_18 : ∀ (k i : Nat), i ≤ (N 0 2 - 1) → (N 0 2 - 1) < i + k → (a1 ≤ i) → ∀ (H : Heap) (locs : List Loc) (ls : Array Slot), zz_Z K A s ad (zm_c K ad th (zsp (zu N 0 2 (N 0 2 - 1)) a1 i) G L) H → va_S A s.heap H locs → lv_has ls 5 [(4, .int (nI i)), (3, .int (nI (N 10 a1))), (2, .int (nI a1)), (0, .ref (ad 0 0)), (1, .int (nI j))] → W p l e ({ frames := 2, cells := 0, slots := 0, locals := 43 } : Room) s m ([.ref (ad 0 0), .int (nI j)] : List Value).toArray below meth c H locs 0 0 (vx_MQ below (zz_Qc (fun v9 _ H9 => v9 = some (.int ((zs_cancel N (nI j)).2.1)) ∧ zz_W K A ad (zm_c K ad (nI (zs_cancel N (nI j)).1) ((zs_cancel N (nI j)).2.2) G L) H9) A) (zz_XC zz_nx) ([.ref (ad 0 0), .int (nI j)] : List Value).toArray s ({ frames := 2, cells := 0, slots := 0, locals := 43 } : Room).cells ({ frames := 2, cells := 0, slots := 0, locals := 43 } : Room).slots A) (F0 m 49 ls []) := by
        intro k
        induction k with
        | zero => intro i hi hik; omega
        | succ k ih_i =>
          intro i hii hiki hai H locs ls hZ hS hl
          refine lv_iload hx hb dX3_cancel_49 (lv_at hl 0 rfl) ?_
          refine lv_aload_n hx hb dX3_cancel_51 rfl (lv_at hl 3 rfl) ?_
          refine zz_get (ci := 6) (C := RX3) (T := TX3) (N := 22) (v := .int (nI (N 0 2 - 1))) hx hb hts hown hK (zm_ob hZ.W).1 rfl zf_X3 3 (by decide) zw_811 (fun _ h9 => h9) rfl dX3_cancel_52 ?_
          refine zz_ic_ge (tgt := 96) (by first | exact hB _ _ | exact hUa _ | exact hUb _ | exact hUc _ | exact hUd _ | omega) (by first | exact hB _ _ | exact hUa _ | exact hUb _ | exact hUc _ | exact hUd _ | omega) hx hb dX3_cancel_55 (by decide) (fun c_19 => ?_) (fun c_19 => ?_)
          · skip
            obtain rfl : i = (N 0 2 - 1) := by omega
            refine lv_aload_n hx hb dX3_cancel_96 rfl (lv_at hl 3 rfl) ?_
            refine lv_iload_n hx hb dX3_cancel_97 rfl (lv_at hl 1 rfl) ?_
            refine zz_after (pc := 98) rfl (zz_runV (ci := 6) (q0 := (RX3, TX3, 22)) (b := ad 0 0) (As := [.int (nI (N 10 a1))]) (rest := []) hx hb hml hown hts (c_X3_tells l (K := K) (A := A) (ad := ad) (th := th) (N := (zsp (zu N 0 2 (N 0 2 - 1)) a1 (N 0 2 - 1))) (G := G) (L := L) (nI (N 10 a1))) zw_891 zw_893 zs_35 zw_5 zw_894 zd_X3_tells ⟨Nat.le_of_ble_eq_true rfl, Nat.le_of_ble_eq_true rfl⟩ hZ.E hZ.A (zm_ob hZ.W).1 rfl rfl hZ.W hl.1 (Nat.le_of_ble_eq_true rfl) dX3_cancel_98 ⟨Nat.le_of_ble_eq_true rfl, Nat.le_of_ble_eq_true rfl⟩) hS (fun _ h => h) (fun v_22 H locs hq_20 hF_21 hS => ?_)
            refine W.widen (k := 0) (n := 0) (Nat.le_of_ble_eq_true rfl) (Nat.le_of_ble_eq_true rfl) ?_
            obtain ⟨rfl, hW9⟩ := hq_20
            have hZ : zz_Z K A s ad (zm_c K ad (nI 0) (zsp (zu N 0 2 (N 0 2 - 1)) a1 (N 0 2 - 1)) G L) H := hZ.mut hF_21 hW9
            refine W.eq (g2 := F0 m 101 ls [.int (nI (N 10 a1))]) rfl ?_
            refine zz_iret hx hb hr hlocks hS (Nat.le_of_ble_eq_true rfl) (Nat.le_of_ble_eq_true rfl) dX3_cancel_101 ?_
            refine ⟨?_, ?_⟩
            · skip
              first | rfl | (simp [zs_cancel, c_4, hjc, c_12, h11, c_19]; done) | (simp_all [zs_cancel]; done) | (have e9 : (zs_cancel N (nI j)).2.1 = nI (N 11 j - 1) := (by simp [zs_cancel, c_4, hjc, c_12, h11, c_19]); rw [e9, ha4]; rfl)
            · first | exact hZ.W | (refine zm_co ?_ ?_ rfl rfl hZ.W <;> first | (simp [zs_cancel, c_4, hjc, c_12, h11, c_19]; done) | (simp_all [zs_cancel]; done)) | (have e9 : zs_cancel N (nI j) = (0, nI (N 11 j - 1), zu (zsp (zu N 0 2 (N 0 2 - 1)) a1 (N 0 2 - 1)) 11 j 0) := (by simp [zs_cancel, ha1, c_4, hjc, c_12, h11, c_19]); rw [e9, zm_g11]; exact hZ.W)
          · skip
            refine lv_aload_n hx hb dX3_cancel_58 rfl (lv_at hl 3 rfl) ?_
            refine zz_get (ci := 6) (C := RX3) (T := TX3) (N := 22) (v := .ref (ad 1 11)) hx hb hts hown hK (zm_ob hZ.W).1 rfl zf_X3 17 (by decide) zw_825 (fun _ h9 => h9) rfl dX3_cancel_59 ?_
            refine lv_iload hx hb dX3_cancel_62 (lv_at hl 0 rfl) ?_
            refine lv_aload_n hx hb dX3_cancel_64 rfl (lv_at hl 3 rfl) ?_
            refine zz_get (ci := 6) (C := RX3) (T := TX3) (N := 22) (v := .ref (ad 1 11)) hx hb hts hown hK (zm_ob hZ.W).1 rfl zf_X3 17 (by decide) zw_825 (fun _ h9 => h9) rfl dX3_cancel_65 ?_
            refine lv_iload hx hb dX3_cancel_68 (lv_at hl 0 rfl) ?_
            refine zz_con 1 hx hb dX3_cancel_70 (by decide) ?_
            refine zz_add hx hb dX3_cancel_71 ?_
            refine zz_iald (y := nI ((zsp (zu N 0 2 (N 0 2 - 1)) a1 i) 9 (i + 1))) hx hb hK (zm_booker hZ.W).1 (vp_in_nI (show i + 1 < 12 by omega) (by decide)) dX3_cancel_72 (by rw [nI_clamp (by omega)] <;> rfl) ?_
            have haA_26 := (zm_booker hZ.W).2
            refine zz_iast (x := nI ((zsp (zu N 0 2 (N 0 2 - 1)) a1 i) 9 (i + 1))) hx hb hK hS (zm_booker hZ.W).1 haA_26 (vp_in_nI (show i < 12 by omega) (by decide)) dX3_cancel_73 (fun H locs ha_24 hz_25 ho_23 hS => ?_)
            have hZ : zz_Z K A s ad (zm_c K ad th (zu (zsp (zu N 0 2 (N 0 2 - 1)) a1 i) 9 i ((zsp (zu N 0 2 (N 0 2 - 1)) a1 i) 9 (i + 1))) G L) H := hZ.put haA_26 hz_25 ho_23 (zm_put_a_booker hZ.W (by omega) (nI_clamp (by omega)) rfl ha_24 ho_23)
            refine lv_aload_n hx hb dX3_cancel_74 rfl (lv_at hl 3 rfl) ?_
            refine zz_get (ci := 6) (C := RX3) (T := TX3) (N := 22) (v := .ref (ad 1 12)) hx hb hts hown hK (zm_ob hZ.W).1 rfl zf_X3 18 (by decide) zw_826 (fun _ h9 => h9) rfl dX3_cancel_75 ?_
            refine lv_iload hx hb dX3_cancel_78 (lv_at hl 0 rfl) ?_
            refine lv_aload_n hx hb dX3_cancel_80 rfl (lv_at hl 3 rfl) ?_
            refine zz_get (ci := 6) (C := RX3) (T := TX3) (N := 22) (v := .ref (ad 1 12)) hx hb hts hown hK (zm_ob hZ.W).1 rfl zf_X3 18 (by decide) zw_826 (fun _ h9 => h9) rfl dX3_cancel_81 ?_
            refine lv_iload hx hb dX3_cancel_84 (lv_at hl 0 rfl) ?_
            refine zz_con 1 hx hb dX3_cancel_86 (by decide) ?_
            refine zz_add hx hb dX3_cancel_87 ?_
            refine zz_iald (y := nI ((zsp (zu N 0 2 (N 0 2 - 1)) a1 i) 10 (i + 1))) hx hb hK (zm_wanted hZ.W).1 (vp_in_nI (show i + 1 < 12 by omega) (by decide)) dX3_cancel_88 (by rw [nI_clamp (by omega)] <;> rfl) ?_
            have haA_30 := (zm_wanted hZ.W).2
            refine zz_iast (x := nI ((zsp (zu N 0 2 (N 0 2 - 1)) a1 i) 10 (i + 1))) hx hb hK hS (zm_wanted hZ.W).1 haA_30 (vp_in_nI (show i < 12 by omega) (by decide)) dX3_cancel_89 (fun H locs ha_28 hz_29 ho_27 hS => ?_)
            have hZ : zz_Z K A s ad (zm_c K ad th (zu (zu (zsp (zu N 0 2 (N 0 2 - 1)) a1 i) 9 i ((zsp (zu N 0 2 (N 0 2 - 1)) a1 i) 9 (i + 1))) 10 i ((zsp (zu N 0 2 (N 0 2 - 1)) a1 i) 10 (i + 1))) G L) H := hZ.put haA_30 hz_29 ho_27 (zm_put_a_wanted hZ.W (by omega) (nI_clamp (by omega)) rfl ha_28 ho_27)
            refine zz_inc (k := 0) (lv' := [(4, .int (nI (i + 1))), (3, .int (nI (N 10 a1))), (2, .int (nI a1)), (0, .ref (ad 0 0)), (1, .int (nI j))]) hx hb dX3_cancel_90 hl rfl (Nat.le_of_ble_eq_true rfl) rfl (fun ls hl => ?_)
            refine lv_goto (tgt := 49) hx hb dX3_cancel_93 (by decide) ?_
            refine ih_i (i + 1) (by omega) (by omega) (by omega) _ _ _ ?_ hS ?_
            · rw [zsp_s _ hai] at hZ; exact hZ
            · skip
              exact lv_sub hl [0, 1, 2, 3, 4] rfl
      refine hL_18 ((N 0 2 - 1) + 1) a1 (by first | omega | exact Nat.zero_le _) (by first | omega | (rw [Nat.zero_add]; exact Nat.lt_succ_self _)) (Nat.le_refl _) _ _ _ ?_ hS ?_
      · rw [zsp_0]; exact hZ
      exact lv_sub hl [0, 1, 2, 3, 4] rfl
    · skip
      have h11 : N 11 j = 0 := (zfb_0 hI hj).mp c_12
      refine lv_aload_n hx hb dX3_cancel_23 rfl (lv_at hl 1 rfl) ?_
      refine zz_con 1 hx hb dX3_cancel_24 (by decide) ?_
      have hS : va_S A s.heap H _ := zz_Smono hS (fun _ h => h.elim)
      refine zz_after (pc := 25) rfl (zz_runV (ci := 6) (q0 := (RX3, TX3, 22)) (b := ad 0 0) (As := [.int (nI 1)]) (rest := []) hx hb hml hown hts (c_X3_fails l (K := K) (A := A) (ad := ad) (th := th) (N := N) (G := G) (L := L) (nI 1)) zw_887 zw_889 zs_34 zw_5 zw_890 zd_X3_fails ⟨Nat.le_of_ble_eq_true rfl, Nat.le_of_ble_eq_true rfl⟩ hZ.E hZ.A (zm_ob hZ.W).1 rfl rfl hZ.W hl.1 (Nat.le_of_ble_eq_true rfl) dX3_cancel_25 ⟨Nat.le_of_ble_eq_true rfl, Nat.le_of_ble_eq_true rfl⟩) hS (fun _ h => h) (fun v_33 H locs hq_31 hF_32 hS => ?_)
      refine W.widen (k := 0) (n := 0) (Nat.le_of_ble_eq_true rfl) (Nat.le_of_ble_eq_true rfl) ?_
      obtain ⟨rfl, hW9⟩ := hq_31
      have hZ : zz_Z K A s ad (zm_c K ad (nI 1) N G L) H := hZ.mut hF_32 hW9
      refine W.eq (g2 := F0 m 28 ls [.int (nI 0)]) rfl ?_
      refine zz_iret hx hb hr hlocks hS (Nat.le_of_ble_eq_true rfl) (Nat.le_of_ble_eq_true rfl) dX3_cancel_28 ?_
      refine ⟨?_, ?_⟩
      · skip
        first | rfl | (simp [zs_cancel, c_4, hjc, c_12, h11]; done) | (simp_all [zs_cancel]; done) | (have e9 : (zs_cancel N (nI j)).2.1 = nI (N 11 j - 1) := (by simp [zs_cancel, c_4, hjc, c_12, h11]); rw [e9, ha4]; rfl)
      · first | exact hZ.W | (refine zm_co ?_ ?_ rfl rfl hZ.W <;> first | (simp [zs_cancel, c_4, hjc, c_12, h11]; done) | (simp_all [zs_cancel]; done)) | (have e9 : zs_cancel N (nI j) = (0, nI (N 11 j - 1), zu (zsp (zu N 0 2 (N 0 2 - 1)) a1 (N 0 2 - 1)) 11 j 0) := (by simp [zs_cancel, ha1, c_4, hjc, c_12, h11]); rw [e9, zm_g11]; exact hZ.W)

set_option maxHeartbeats 4000000 in
set_option maxRecDepth 100000 in
theorem c_X3_bookings (l : Launch) {K : zz_G} {A : Nat → Prop} {ad : Nat → Nat → Nat} {th : Int32} {N : Nat → Nat → Nat} {G : Nat → Nat → Int32} {L : Nat → Int64} (hI : zq N)  : zz_C l yX3_bookings cX3_bookings 1 (Option.some FieldType.int) ({ frames := 1, cells := 0, slots := 0, locals := 21 } : Room) K A [.ref (ad 0 0)] (fun H => zz_W K A ad (zm_c K ad th N G L) H) (fun v9 _ H9 => v9 = some (.int (nI (N 0 2))) ∧ zz_W K A ad (zm_c K ad (nI 0) N G L) H9) zz_nx A := by
  refine zz_body (by decide +kernel) (Nat.le_of_ble_eq_true rfl) ?_
  intro p e s m below meth c ls hx hb hr hml hts hown hlocks hmn htab hE hA hP hl
  have hN := hE.N
  have hK := hE.K
  have hown : s.vm.findClass RX3 = some m.cls := hown
  have hl : lv_has ls 1 [(0, .ref (ad 0 0))] := hl
  have hZ : zz_Z K A s ad (zm_c K ad th N G L) s.heap := ⟨hE, hA, hP⟩
  have hS : va_S zz_no s.heap s.heap [] := va_S.rf
  obtain ⟨H, hH⟩ : ∃ z, z = s.heap := ⟨_, rfl⟩
  have hS0 : va_S zz_no s.heap H [] := by rw [hH]; exact hS
  rw [← hH] at hZ
  have hE0 := hE
  clear hS
  have hS := hS0
  have hB := hI.B
  have h00 := hI.f
  have h01 := hI.p
  have h02 := hI.b
  show W p l e _ s m _ below meth c s.heap [] 0 0 _ (F0 m 0 ls [])
  rw [← hH]
  refine lv_aload_n hx hb dX3_bookings_0 rfl (lv_at hl 0 rfl) ?_
  refine lv_aload_n hx hb dX3_bookings_1 rfl (lv_at hl 0 rfl) ?_
  refine zz_get (ci := 6) (C := RX3) (T := TX3) (N := 22) (v := .int (nI (N 0 2))) hx hb hts hown hK (zm_ob hZ.W).1 rfl zf_X3 3 (by decide) zw_811 (fun _ h9 => h9) rfl dX3_bookings_2 ?_
  have hS : va_S A s.heap H _ := zz_Smono hS (fun _ h => h.elim)
  refine zz_after (pc := 5) rfl (zz_runV (ci := 6) (q0 := (RX3, TX3, 22)) (b := ad 0 0) (As := [.int (nI (N 0 2))]) (rest := []) hx hb hml hown hts (c_X3_tells l (K := K) (A := A) (ad := ad) (th := th) (N := N) (G := G) (L := L) (nI (N 0 2))) zw_891 zw_893 zs_35 zw_5 zw_894 zd_X3_tells ⟨Nat.le_of_ble_eq_true rfl, Nat.le_of_ble_eq_true rfl⟩ hZ.E hZ.A (zm_ob hZ.W).1 rfl rfl hZ.W hl.1 (Nat.le_of_ble_eq_true rfl) dX3_bookings_5 ⟨Nat.le_of_ble_eq_true rfl, Nat.le_of_ble_eq_true rfl⟩) hS (fun _ h => h) (fun v_3 H locs hq_1 hF_2 hS => ?_)
  refine W.widen (k := 0) (n := 0) (Nat.le_of_ble_eq_true rfl) (Nat.le_of_ble_eq_true rfl) ?_
  obtain ⟨rfl, hW9⟩ := hq_1
  have hZ : zz_Z K A s ad (zm_c K ad (nI 0) N G L) H := hZ.mut hF_2 hW9
  refine W.eq (g2 := F0 m 8 ls [.int (nI (N 0 2))]) rfl ?_
  refine zz_iret hx hb hr hlocks hS (Nat.le_of_ble_eq_true rfl) (Nat.le_of_ble_eq_true rfl) dX3_bookings_8 ?_
  refine ⟨?_, ?_⟩
  · skip
    first | rfl | (simp []; done) | (simp_all; done) | (split <;> first | rfl | omega | (simp_all; done); done)
  · first | exact hZ.W | (refine zm_co ?_ ?_ ?_ ?_ hZ.W <;> first | rfl | (simp []; done) | (simp_all; done) | (split <;> first | rfl | omega | (simp_all; done); done))

set_option maxHeartbeats 4000000 in
set_option maxRecDepth 100000 in
theorem c_X3_day (l : Launch) {K : zz_G} {A : Nat → Prop} {ad : Nat → Nat → Nat} {th : Int32} {N : Nat → Nat → Nat} {G : Nat → Nat → Int32} {L : Nat → Int64} (hI : zq N)  : zz_C l yX3_day cX3_day 1 (Option.some FieldType.int) ({ frames := 1, cells := 0, slots := 0, locals := 21 } : Room) K A [.ref (ad 0 0)] (fun H => zz_W K A ad (zm_c K ad th N G L) H) (fun v9 _ H9 => v9 = some (.int (nI (N 12 0))) ∧ zz_W K A ad (zm_c K ad (nI 0) N G L) H9) zz_nx A := by
  refine zz_body (by decide +kernel) (Nat.le_of_ble_eq_true rfl) ?_
  intro p e s m below meth c ls hx hb hr hml hts hown hlocks hmn htab hE hA hP hl
  have hN := hE.N
  have hK := hE.K
  have hown : s.vm.findClass RX3 = some m.cls := hown
  have hl : lv_has ls 1 [(0, .ref (ad 0 0))] := hl
  have hZ : zz_Z K A s ad (zm_c K ad th N G L) s.heap := ⟨hE, hA, hP⟩
  have hS : va_S zz_no s.heap s.heap [] := va_S.rf
  obtain ⟨H, hH⟩ : ∃ z, z = s.heap := ⟨_, rfl⟩
  have hS0 : va_S zz_no s.heap H [] := by rw [hH]; exact hS
  rw [← hH] at hZ
  have hE0 := hE
  clear hS
  have hS := hS0
  have hB := hI.B
  have h00 := hI.f
  have h01 := hI.p
  have h02 := hI.b
  show W p l e _ s m _ below meth c s.heap [] 0 0 _ (F0 m 0 ls [])
  rw [← hH]
  refine lv_aload_n hx hb dX3_day_0 rfl (lv_at hl 0 rfl) ?_
  refine lv_aload_n hx hb dX3_day_1 rfl (lv_at hl 0 rfl) ?_
  refine zz_get (ci := 6) (C := RX3) (T := TX3) (N := 22) (v := .int (nI (N 12 0))) hx hb hts hown hK (zm_ob hZ.W).1 rfl zf_X3 4 (by decide) zw_812 (fun _ h9 => h9) rfl dX3_day_2 ?_
  have hS : va_S A s.heap H _ := zz_Smono hS (fun _ h => h.elim)
  refine zz_after (pc := 5) rfl (zz_runV (ci := 6) (q0 := (RX3, TX3, 22)) (b := ad 0 0) (As := [.int (nI (N 12 0))]) (rest := []) hx hb hml hown hts (c_X3_tells l (K := K) (A := A) (ad := ad) (th := th) (N := N) (G := G) (L := L) (nI (N 12 0))) zw_891 zw_893 zs_35 zw_5 zw_894 zd_X3_tells ⟨Nat.le_of_ble_eq_true rfl, Nat.le_of_ble_eq_true rfl⟩ hZ.E hZ.A (zm_ob hZ.W).1 rfl rfl hZ.W hl.1 (Nat.le_of_ble_eq_true rfl) dX3_day_5 ⟨Nat.le_of_ble_eq_true rfl, Nat.le_of_ble_eq_true rfl⟩) hS (fun _ h => h) (fun v_3 H locs hq_1 hF_2 hS => ?_)
  refine W.widen (k := 0) (n := 0) (Nat.le_of_ble_eq_true rfl) (Nat.le_of_ble_eq_true rfl) ?_
  obtain ⟨rfl, hW9⟩ := hq_1
  have hZ : zz_Z K A s ad (zm_c K ad (nI 0) N G L) H := hZ.mut hF_2 hW9
  refine W.eq (g2 := F0 m 8 ls [.int (nI (N 12 0))]) rfl ?_
  refine zz_iret hx hb hr hlocks hS (Nat.le_of_ble_eq_true rfl) (Nat.le_of_ble_eq_true rfl) dX3_day_8 ?_
  refine ⟨?_, ?_⟩
  · skip
    first | rfl | (simp []; done) | (simp_all; done) | (split <;> first | rfl | omega | (simp_all; done); done)
  · first | exact hZ.W | (refine zm_co ?_ ?_ ?_ ?_ hZ.W <;> first | rfl | (simp []; done) | (simp_all; done) | (split <;> first | rfl | omega | (simp_all; done); done))

set_option maxHeartbeats 4000000 in
set_option maxRecDepth 100000 in
theorem c_X3_noShows (l : Launch) {K : zz_G} {A : Nat → Prop} {ad : Nat → Nat → Nat} {th : Int32} {N : Nat → Nat → Nat} {G : Nat → Nat → Int32} {L : Nat → Int64} (hI : zq N)  : zz_C l yX3_noShows cX3_noShows 1 (Option.some FieldType.int) ({ frames := 1, cells := 0, slots := 0, locals := 21 } : Room) K A [.ref (ad 0 0)] (fun H => zz_W K A ad (zm_c K ad th N G L) H) (fun v9 _ H9 => v9 = some (.int (nI (N 12 1))) ∧ zz_W K A ad (zm_c K ad (nI 0) N G L) H9) zz_nx A := by
  refine zz_body (by decide +kernel) (Nat.le_of_ble_eq_true rfl) ?_
  intro p e s m below meth c ls hx hb hr hml hts hown hlocks hmn htab hE hA hP hl
  have hN := hE.N
  have hK := hE.K
  have hown : s.vm.findClass RX3 = some m.cls := hown
  have hl : lv_has ls 1 [(0, .ref (ad 0 0))] := hl
  have hZ : zz_Z K A s ad (zm_c K ad th N G L) s.heap := ⟨hE, hA, hP⟩
  have hS : va_S zz_no s.heap s.heap [] := va_S.rf
  obtain ⟨H, hH⟩ : ∃ z, z = s.heap := ⟨_, rfl⟩
  have hS0 : va_S zz_no s.heap H [] := by rw [hH]; exact hS
  rw [← hH] at hZ
  have hE0 := hE
  clear hS
  have hS := hS0
  have hB := hI.B
  have h00 := hI.f
  have h01 := hI.p
  have h02 := hI.b
  show W p l e _ s m _ below meth c s.heap [] 0 0 _ (F0 m 0 ls [])
  rw [← hH]
  refine lv_aload_n hx hb dX3_noShows_0 rfl (lv_at hl 0 rfl) ?_
  refine lv_aload_n hx hb dX3_noShows_1 rfl (lv_at hl 0 rfl) ?_
  refine zz_get (ci := 6) (C := RX3) (T := TX3) (N := 22) (v := .int (nI (N 12 1))) hx hb hts hown hK (zm_ob hZ.W).1 rfl zf_X3 5 (by decide) zw_813 (fun _ h9 => h9) rfl dX3_noShows_2 ?_
  have hS : va_S A s.heap H _ := zz_Smono hS (fun _ h => h.elim)
  refine zz_after (pc := 5) rfl (zz_runV (ci := 6) (q0 := (RX3, TX3, 22)) (b := ad 0 0) (As := [.int (nI (N 12 1))]) (rest := []) hx hb hml hown hts (c_X3_tells l (K := K) (A := A) (ad := ad) (th := th) (N := N) (G := G) (L := L) (nI (N 12 1))) zw_891 zw_893 zs_35 zw_5 zw_894 zd_X3_tells ⟨Nat.le_of_ble_eq_true rfl, Nat.le_of_ble_eq_true rfl⟩ hZ.E hZ.A (zm_ob hZ.W).1 rfl rfl hZ.W hl.1 (Nat.le_of_ble_eq_true rfl) dX3_noShows_5 ⟨Nat.le_of_ble_eq_true rfl, Nat.le_of_ble_eq_true rfl⟩) hS (fun _ h => h) (fun v_3 H locs hq_1 hF_2 hS => ?_)
  refine W.widen (k := 0) (n := 0) (Nat.le_of_ble_eq_true rfl) (Nat.le_of_ble_eq_true rfl) ?_
  obtain ⟨rfl, hW9⟩ := hq_1
  have hZ : zz_Z K A s ad (zm_c K ad (nI 0) N G L) H := hZ.mut hF_2 hW9
  refine W.eq (g2 := F0 m 8 ls [.int (nI (N 12 1))]) rfl ?_
  refine zz_iret hx hb hr hlocks hS (Nat.le_of_ble_eq_true rfl) (Nat.le_of_ble_eq_true rfl) dX3_noShows_8 ?_
  refine ⟨?_, ?_⟩
  · skip
    first | rfl | (simp []; done) | (simp_all; done) | (split <;> first | rfl | omega | (simp_all; done); done)
  · first | exact hZ.W | (refine zm_co ?_ ?_ ?_ ?_ hZ.W <;> first | rfl | (simp []; done) | (simp_all; done) | (split <;> first | rfl | omega | (simp_all; done); done))

set_option maxHeartbeats 4000000 in
set_option maxRecDepth 100000 in
theorem c_X3_energy (l : Launch) {K : zz_G} {A : Nat → Prop} {ad : Nat → Nat → Nat} {th : Int32} {N : Nat → Nat → Nat} {G : Nat → Nat → Int32} {L : Nat → Int64} (hI : zq N)  : zz_C l yX3_energy cX3_energy 1 (Option.some FieldType.long) ({ frames := 1, cells := 0, slots := 0, locals := 22 } : Room) K A [.ref (ad 0 0)] (fun H => zz_W K A ad (zm_c K ad th N G L) H) (fun v9 _ H9 => v9 = some (.long (L 0)) ∧ zz_W K A ad (zm_c K ad (nI 0) N G L) H9) zz_nx A := by
  refine zz_body (by decide +kernel) (Nat.le_of_ble_eq_true rfl) ?_
  intro p e s m below meth c ls hx hb hr hml hts hown hlocks hmn htab hE hA hP hl
  have hN := hE.N
  have hK := hE.K
  have hown : s.vm.findClass RX3 = some m.cls := hown
  have hl : lv_has ls 1 [(0, .ref (ad 0 0))] := hl
  have hZ : zz_Z K A s ad (zm_c K ad th N G L) s.heap := ⟨hE, hA, hP⟩
  have hS : va_S zz_no s.heap s.heap [] := va_S.rf
  obtain ⟨H, hH⟩ : ∃ z, z = s.heap := ⟨_, rfl⟩
  have hS0 : va_S zz_no s.heap H [] := by rw [hH]; exact hS
  rw [← hH] at hZ
  have hE0 := hE
  clear hS
  have hS := hS0
  have hB := hI.B
  have h00 := hI.f
  have h01 := hI.p
  have h02 := hI.b
  show W p l e _ s m _ below meth c s.heap [] 0 0 _ (F0 m 0 ls [])
  rw [← hH]
  refine lv_aload_n hx hb dX3_energy_0 rfl (lv_at hl 0 rfl) ?_
  refine lv_aload_n hx hb dX3_energy_1 rfl (lv_at hl 0 rfl) ?_
  refine zz_get (ci := 6) (C := RX3) (T := TX3) (N := 22) (v := .long (L 0)) hx hb hts hown hK (zm_ob hZ.W).1 rfl zf_X3 19 (by decide) zw_827 (fun _ h9 => h9) rfl dX3_energy_2 ?_
  have hS : va_S A s.heap H _ := zz_Smono hS (fun _ h => h.elim)
  refine zz_after (pc := 5) rfl (zz_runV (ci := 6) (q0 := (RX3, TX3, 22)) (b := ad 0 0) (As := [.long (L 0)]) (rest := []) hx hb hml hown hts (c_X3_tellsLong l (K := K) (A := A) (ad := ad) (th := th) (N := N) (G := G) (L := L) (L 0)) zw_1052 zw_1054 zs_51 zw_5 zw_1055 zd_X3_tellsLong ⟨Nat.le_of_ble_eq_true rfl, Nat.le_of_ble_eq_true rfl⟩ hZ.E hZ.A (zm_ob hZ.W).1 rfl rfl hZ.W hl.1 (Nat.le_of_ble_eq_true rfl) dX3_energy_5 ⟨Nat.le_of_ble_eq_true rfl, Nat.le_of_ble_eq_true rfl⟩) hS (fun _ h => h) (fun v_3 H locs hq_1 hF_2 hS => ?_)
  refine W.widen (k := 0) (n := 0) (Nat.le_of_ble_eq_true rfl) (Nat.le_of_ble_eq_true rfl) ?_
  obtain ⟨rfl, hW9⟩ := hq_1
  have hZ : zz_Z K A s ad (zm_c K ad (nI 0) N G L) H := hZ.mut hF_2 hW9
  refine W.eq (g2 := F0 m 8 ls [.long (L 0)]) rfl ?_
  refine zz_lret hx hb hr hlocks hS (Nat.le_of_ble_eq_true rfl) (Nat.le_of_ble_eq_true rfl) dX3_energy_8 ?_
  refine ⟨?_, ?_⟩
  · skip
    first | rfl | (simp []; done) | (simp_all; done) | (split <;> first | rfl | omega | (simp_all; done); done)
  · first | exact hZ.W | (refine zm_co ?_ ?_ ?_ ?_ hZ.W <;> first | rfl | (simp []; done) | (simp_all; done) | (split <;> first | rfl | omega | (simp_all; done); done))

set_option maxHeartbeats 4000000 in
set_option maxRecDepth 100000 in
theorem c_X3_discomfort (l : Launch) {K : zz_G} {A : Nat → Prop} {ad : Nat → Nat → Nat} {th : Int32} {N : Nat → Nat → Nat} {G : Nat → Nat → Int32} {L : Nat → Int64} (hI : zq N)  : zz_C l yX3_discomfort cX3_discomfort 1 (Option.some FieldType.long) ({ frames := 1, cells := 0, slots := 0, locals := 22 } : Room) K A [.ref (ad 0 0)] (fun H => zz_W K A ad (zm_c K ad th N G L) H) (fun v9 _ H9 => v9 = some (.long (L 1)) ∧ zz_W K A ad (zm_c K ad (nI 0) N G L) H9) zz_nx A := by
  refine zz_body (by decide +kernel) (Nat.le_of_ble_eq_true rfl) ?_
  intro p e s m below meth c ls hx hb hr hml hts hown hlocks hmn htab hE hA hP hl
  have hN := hE.N
  have hK := hE.K
  have hown : s.vm.findClass RX3 = some m.cls := hown
  have hl : lv_has ls 1 [(0, .ref (ad 0 0))] := hl
  have hZ : zz_Z K A s ad (zm_c K ad th N G L) s.heap := ⟨hE, hA, hP⟩
  have hS : va_S zz_no s.heap s.heap [] := va_S.rf
  obtain ⟨H, hH⟩ : ∃ z, z = s.heap := ⟨_, rfl⟩
  have hS0 : va_S zz_no s.heap H [] := by rw [hH]; exact hS
  rw [← hH] at hZ
  have hE0 := hE
  clear hS
  have hS := hS0
  have hB := hI.B
  have h00 := hI.f
  have h01 := hI.p
  have h02 := hI.b
  show W p l e _ s m _ below meth c s.heap [] 0 0 _ (F0 m 0 ls [])
  rw [← hH]
  refine lv_aload_n hx hb dX3_discomfort_0 rfl (lv_at hl 0 rfl) ?_
  refine lv_aload_n hx hb dX3_discomfort_1 rfl (lv_at hl 0 rfl) ?_
  refine zz_get (ci := 6) (C := RX3) (T := TX3) (N := 22) (v := .long (L 1)) hx hb hts hown hK (zm_ob hZ.W).1 rfl zf_X3 20 (by decide) zw_828 (fun _ h9 => h9) rfl dX3_discomfort_2 ?_
  have hS : va_S A s.heap H _ := zz_Smono hS (fun _ h => h.elim)
  refine zz_after (pc := 5) rfl (zz_runV (ci := 6) (q0 := (RX3, TX3, 22)) (b := ad 0 0) (As := [.long (L 1)]) (rest := []) hx hb hml hown hts (c_X3_tellsLong l (K := K) (A := A) (ad := ad) (th := th) (N := N) (G := G) (L := L) (L 1)) zw_1052 zw_1054 zs_51 zw_5 zw_1055 zd_X3_tellsLong ⟨Nat.le_of_ble_eq_true rfl, Nat.le_of_ble_eq_true rfl⟩ hZ.E hZ.A (zm_ob hZ.W).1 rfl rfl hZ.W hl.1 (Nat.le_of_ble_eq_true rfl) dX3_discomfort_5 ⟨Nat.le_of_ble_eq_true rfl, Nat.le_of_ble_eq_true rfl⟩) hS (fun _ h => h) (fun v_3 H locs hq_1 hF_2 hS => ?_)
  refine W.widen (k := 0) (n := 0) (Nat.le_of_ble_eq_true rfl) (Nat.le_of_ble_eq_true rfl) ?_
  obtain ⟨rfl, hW9⟩ := hq_1
  have hZ : zz_Z K A s ad (zm_c K ad (nI 0) N G L) H := hZ.mut hF_2 hW9
  refine W.eq (g2 := F0 m 8 ls [.long (L 1)]) rfl ?_
  refine zz_lret hx hb hr hlocks hS (Nat.le_of_ble_eq_true rfl) (Nat.le_of_ble_eq_true rfl) dX3_discomfort_8 ?_
  refine ⟨?_, ?_⟩
  · skip
    first | rfl | (simp []; done) | (simp_all; done) | (split <;> first | rfl | omega | (simp_all; done); done)
  · first | exact hZ.W | (refine zm_co ?_ ?_ ?_ ?_ hZ.W <;> first | rfl | (simp []; done) | (simp_all; done) | (split <;> first | rfl | omega | (simp_all; done); done))

set_option maxHeartbeats 4000000 in
set_option maxRecDepth 100000 in
theorem c_X3_cleaning (l : Launch) {K : zz_G} {A : Nat → Prop} {ad : Nat → Nat → Nat} {th : Int32} {N : Nat → Nat → Nat} {G : Nat → Nat → Int32} {L : Nat → Int64} (hI : zq N)  : zz_C l yX3_cleaning cX3_cleaning 1 (Option.some FieldType.long) ({ frames := 1, cells := 0, slots := 0, locals := 22 } : Room) K A [.ref (ad 0 0)] (fun H => zz_W K A ad (zm_c K ad th N G L) H) (fun v9 _ H9 => v9 = some (.long (L 2)) ∧ zz_W K A ad (zm_c K ad (nI 0) N G L) H9) zz_nx A := by
  refine zz_body (by decide +kernel) (Nat.le_of_ble_eq_true rfl) ?_
  intro p e s m below meth c ls hx hb hr hml hts hown hlocks hmn htab hE hA hP hl
  have hN := hE.N
  have hK := hE.K
  have hown : s.vm.findClass RX3 = some m.cls := hown
  have hl : lv_has ls 1 [(0, .ref (ad 0 0))] := hl
  have hZ : zz_Z K A s ad (zm_c K ad th N G L) s.heap := ⟨hE, hA, hP⟩
  have hS : va_S zz_no s.heap s.heap [] := va_S.rf
  obtain ⟨H, hH⟩ : ∃ z, z = s.heap := ⟨_, rfl⟩
  have hS0 : va_S zz_no s.heap H [] := by rw [hH]; exact hS
  rw [← hH] at hZ
  have hE0 := hE
  clear hS
  have hS := hS0
  have hB := hI.B
  have h00 := hI.f
  have h01 := hI.p
  have h02 := hI.b
  show W p l e _ s m _ below meth c s.heap [] 0 0 _ (F0 m 0 ls [])
  rw [← hH]
  refine lv_aload_n hx hb dX3_cleaning_0 rfl (lv_at hl 0 rfl) ?_
  refine lv_aload_n hx hb dX3_cleaning_1 rfl (lv_at hl 0 rfl) ?_
  refine zz_get (ci := 6) (C := RX3) (T := TX3) (N := 22) (v := .long (L 2)) hx hb hts hown hK (zm_ob hZ.W).1 rfl zf_X3 21 (by decide) zw_829 (fun _ h9 => h9) rfl dX3_cleaning_2 ?_
  have hS : va_S A s.heap H _ := zz_Smono hS (fun _ h => h.elim)
  refine zz_after (pc := 5) rfl (zz_runV (ci := 6) (q0 := (RX3, TX3, 22)) (b := ad 0 0) (As := [.long (L 2)]) (rest := []) hx hb hml hown hts (c_X3_tellsLong l (K := K) (A := A) (ad := ad) (th := th) (N := N) (G := G) (L := L) (L 2)) zw_1052 zw_1054 zs_51 zw_5 zw_1055 zd_X3_tellsLong ⟨Nat.le_of_ble_eq_true rfl, Nat.le_of_ble_eq_true rfl⟩ hZ.E hZ.A (zm_ob hZ.W).1 rfl rfl hZ.W hl.1 (Nat.le_of_ble_eq_true rfl) dX3_cleaning_5 ⟨Nat.le_of_ble_eq_true rfl, Nat.le_of_ble_eq_true rfl⟩) hS (fun _ h => h) (fun v_3 H locs hq_1 hF_2 hS => ?_)
  refine W.widen (k := 0) (n := 0) (Nat.le_of_ble_eq_true rfl) (Nat.le_of_ble_eq_true rfl) ?_
  obtain ⟨rfl, hW9⟩ := hq_1
  have hZ : zz_Z K A s ad (zm_c K ad (nI 0) N G L) H := hZ.mut hF_2 hW9
  refine W.eq (g2 := F0 m 8 ls [.long (L 2)]) rfl ?_
  refine zz_lret hx hb hr hlocks hS (Nat.le_of_ble_eq_true rfl) (Nat.le_of_ble_eq_true rfl) dX3_cleaning_8 ?_
  refine ⟨?_, ?_⟩
  · skip
    first | rfl | (simp []; done) | (simp_all; done) | (split <;> first | rfl | omega | (simp_all; done); done)
  · first | exact hZ.W | (refine zm_co ?_ ?_ ?_ ?_ hZ.W <;> first | rfl | (simp []; done) | (simp_all; done) | (split <;> first | rfl | omega | (simp_all; done); done))

set_option maxHeartbeats 4000000 in
set_option maxRecDepth 100000 in
theorem c_X3_bookingAt (l : Launch) {K : zz_G} {A : Nat → Prop} {ad : Nat → Nat → Nat} {th : Int32} {N : Nat → Nat → Nat} {G : Nat → Nat → Int32} {L : Nat → Int64} (hI : zq N) (x : Int32) : zz_C l yX3_bookingAt cX3_bookingAt 2 (Option.some FieldType.int) ({ frames := 1, cells := 0, slots := 0, locals := 22 } : Room) K A [.ref (ad 0 0), .int x] (fun H => zz_W K A ad (zm_c K ad th N G L) H) (fun v9 _ H9 => v9 = some (.int ((zs_bookingAt N x).2)) ∧ zz_W K A ad (zm_c K ad (nI (zs_bookingAt N x).1) N G L) H9) zz_nx A := by
  refine zz_body (by decide +kernel) (Nat.le_of_ble_eq_true rfl) ?_
  intro p e s m below meth c ls hx hb hr hml hts hown hlocks hmn htab hE hA hP hl
  have hN := hE.N
  have hK := hE.K
  have hown : s.vm.findClass RX3 = some m.cls := hown
  have hl : lv_has ls 2 [(0, .ref (ad 0 0)), (1, .int x)] := hl
  have hZ : zz_Z K A s ad (zm_c K ad th N G L) s.heap := ⟨hE, hA, hP⟩
  have hS : va_S zz_no s.heap s.heap [] := va_S.rf
  obtain ⟨H, hH⟩ : ∃ z, z = s.heap := ⟨_, rfl⟩
  have hS0 : va_S zz_no s.heap H [] := by rw [hH]; exact hS
  rw [← hH] at hZ
  have hE0 := hE
  clear hS
  have hS := hS0
  have hB := hI.B
  have h00 := hI.f
  have h01 := hI.p
  have h02 := hI.b
  show W p l e _ s m _ below meth c s.heap [] 0 0 _ (F0 m 0 ls [])
  rw [← hH]
  refine lv_iload_n hx hb dX3_bookingAt_0 rfl (lv_at hl 1 rfl) ?_
  refine zz_con 0 hx hb dX3_bookingAt_1 (by decide) ?_
  refine lv_aload_n hx hb dX3_bookingAt_2 rfl (lv_at hl 0 rfl) ?_
  refine zz_get (ci := 6) (C := RX3) (T := TX3) (N := 22) (v := .int (nI (N 0 2))) hx hb hts hown hK (zm_ob hZ.W).1 rfl zf_X3 3 (by decide) zw_811 (fun _ h9 => h9) rfl dX3_bookingAt_3 ?_
  refine zz_con 1 hx hb dX3_bookingAt_6 (by decide) ?_
  refine lv_isub hx hb dX3_bookingAt_7 ?_
  refine zz_after (pc := 8) rfl (zz_runS (As := [.int x, .int (nI 0), .int ((nI (N 0 2)) - (nI 1))]) (rest := []) hx hb hml hown hts (c_X3_in l (K := K) (A := A) x (nI 0) ((nI (N 0 2)) - (nI 1))) zw_884 zw_885 zw_5 zw_886 zd_X3_in ⟨Nat.le_of_ble_eq_true rfl, Nat.le_of_ble_eq_true rfl⟩ hZ.E hZ.A trivial hl.1 (Nat.le_of_ble_eq_true rfl) dX3_bookingAt_8 ⟨Nat.le_of_ble_eq_true rfl, Nat.le_of_ble_eq_true rfl⟩) hS (fun _ h => h.elim) (fun v_3 H locs hq_1 hF_2 hS => ?_)
  refine W.widen (k := 0) (n := 0) (Nat.le_of_ble_eq_true rfl) (Nat.le_of_ble_eq_true rfl) ?_
  obtain rfl := hq_1
  have hZ := hZ.ro hF_2
  refine W.eq (g2 := F0 m 11 ls [.int (zz_bo (nI 0 ≤ x ∧ x ≤ (nI (N 0 2)) - (nI 1)))]) rfl ?_
  refine zz_bi_eq (tgt := 27) hx hb dX3_bookingAt_11 (by decide) (fun c_4 => ?_) (fun c_4 => ?_)
  · skip
    rw [zin_in (by omega)] at c_4
    refine lv_aload_n hx hb dX3_bookingAt_27 rfl (lv_at hl 0 rfl) ?_
    refine zz_con 1 hx hb dX3_bookingAt_28 (by decide) ?_
    have hS : va_S A s.heap H _ := zz_Smono hS (fun _ h => h.elim)
    refine zz_after (pc := 29) rfl (zz_runV (ci := 6) (q0 := (RX3, TX3, 22)) (b := ad 0 0) (As := [.int (nI 1)]) (rest := []) hx hb hml hown hts (c_X3_fails l (K := K) (A := A) (ad := ad) (th := th) (N := N) (G := G) (L := L) (nI 1)) zw_887 zw_889 zs_34 zw_5 zw_890 zd_X3_fails ⟨Nat.le_of_ble_eq_true rfl, Nat.le_of_ble_eq_true rfl⟩ hZ.E hZ.A (zm_ob hZ.W).1 rfl rfl hZ.W hl.1 (Nat.le_of_ble_eq_true rfl) dX3_bookingAt_29 ⟨Nat.le_of_ble_eq_true rfl, Nat.le_of_ble_eq_true rfl⟩) hS (fun _ h => h) (fun v_7 H locs hq_5 hF_6 hS => ?_)
    refine W.widen (k := 0) (n := 0) (Nat.le_of_ble_eq_true rfl) (Nat.le_of_ble_eq_true rfl) ?_
    obtain ⟨rfl, hW9⟩ := hq_5
    have hZ : zz_Z K A s ad (zm_c K ad (nI 1) N G L) H := hZ.mut hF_6 hW9
    refine W.eq (g2 := F0 m 32 ls [.int (nI 0)]) rfl ?_
    refine zz_iret hx hb hr hlocks hS (Nat.le_of_ble_eq_true rfl) (Nat.le_of_ble_eq_true rfl) dX3_bookingAt_32 ?_
    refine ⟨?_, ?_⟩
    · skip
      first | rfl | ((have := zin_nI hj (by omega); simp [zs_bookingAt, c_4]; done); done) | ((have := zin_nI hj (by omega); simp_all [zs_bookingAt]; done); done) | (simp [zs_bookingAt, c_4]; done) | (simp_all [zs_bookingAt]; done) | (simp [c_4]; done) | (simp_all; done) | (split <;> first | rfl | omega | (simp_all; done); done)
    · first | exact hZ.W | (refine zm_co ?_ ?_ ?_ ?_ hZ.W <;> first | rfl | ((have := zin_nI hj (by omega); simp [zs_bookingAt, c_4]; done); done) | ((have := zin_nI hj (by omega); simp_all [zs_bookingAt]; done); done) | (simp [zs_bookingAt, c_4]; done) | (simp_all [zs_bookingAt]; done) | (simp [c_4]; done) | (simp_all; done) | (split <;> first | rfl | omega | (simp_all; done); done))
  · skip
    obtain ⟨j, hj, rfl⟩ := zz_rng (n := N 0 2) (by omega) ((zin_in (by omega)).mp c_4).1 ((zin_in (by omega)).mp c_4).2
    have hjc : (nI j).toNatClampNeg = j := nI_clamp (by omega)
    have hjb : j < 2 ^ 31 := by omega
    refine lv_aload_n hx hb dX3_bookingAt_14 rfl (lv_at hl 0 rfl) ?_
    refine lv_aload_n hx hb dX3_bookingAt_15 rfl (lv_at hl 0 rfl) ?_
    refine zz_get (ci := 6) (C := RX3) (T := TX3) (N := 22) (v := .ref (ad 1 11)) hx hb hts hown hK (zm_ob hZ.W).1 rfl zf_X3 17 (by decide) zw_825 (fun _ h9 => h9) rfl dX3_bookingAt_16 ?_
    refine lv_iload_n hx hb dX3_bookingAt_19 rfl (lv_at hl 1 rfl) ?_
    refine zz_iald (y := nI (N 9 j)) hx hb hK (zm_booker hZ.W).1 (vp_in_nI (show j < 12 by omega) (by decide)) dX3_bookingAt_20 (by rw [nI_clamp (by omega)] <;> rfl) ?_
    have hS : va_S A s.heap H _ := zz_Smono hS (fun _ h => h.elim)
    refine zz_after (pc := 21) rfl (zz_runV (ci := 6) (q0 := (RX3, TX3, 22)) (b := ad 0 0) (As := [.int (nI (N 9 j))]) (rest := []) hx hb hml hown hts (c_X3_tells l (K := K) (A := A) (ad := ad) (th := th) (N := N) (G := G) (L := L) (nI (N 9 j))) zw_891 zw_893 zs_35 zw_5 zw_894 zd_X3_tells ⟨Nat.le_of_ble_eq_true rfl, Nat.le_of_ble_eq_true rfl⟩ hZ.E hZ.A (zm_ob hZ.W).1 rfl rfl hZ.W hl.1 (Nat.le_of_ble_eq_true rfl) dX3_bookingAt_21 ⟨Nat.le_of_ble_eq_true rfl, Nat.le_of_ble_eq_true rfl⟩) hS (fun _ h => h) (fun v_10 H locs hq_8 hF_9 hS => ?_)
    refine W.widen (k := 0) (n := 0) (Nat.le_of_ble_eq_true rfl) (Nat.le_of_ble_eq_true rfl) ?_
    obtain ⟨rfl, hW9⟩ := hq_8
    have hZ : zz_Z K A s ad (zm_c K ad (nI 0) N G L) H := hZ.mut hF_9 hW9
    refine W.eq (g2 := F0 m 24 ls [.int (nI (N 9 j))]) rfl ?_
    refine lv_goto (tgt := 32) hx hb dX3_bookingAt_24 (by decide) ?_
    refine zz_iret hx hb hr hlocks hS (Nat.le_of_ble_eq_true rfl) (Nat.le_of_ble_eq_true rfl) dX3_bookingAt_32 ?_
    refine ⟨?_, ?_⟩
    · skip
      first | rfl | ((have := zin_nI hj (by omega); simp [zs_bookingAt, c_4, hjc]; done); done) | ((have := zin_nI hj (by omega); simp_all [zs_bookingAt]; done); done) | (simp [zs_bookingAt, c_4, hjc]; done) | (simp_all [zs_bookingAt]; done) | (simp [c_4, hjc]; done) | (simp_all; done) | (split <;> first | rfl | omega | (simp_all; done); done)
    · first | exact hZ.W | (refine zm_co ?_ ?_ ?_ ?_ hZ.W <;> first | rfl | ((have := zin_nI hj (by omega); simp [zs_bookingAt, c_4, hjc]; done); done) | ((have := zin_nI hj (by omega); simp_all [zs_bookingAt]; done); done) | (simp [zs_bookingAt, c_4, hjc]; done) | (simp_all [zs_bookingAt]; done) | (simp [c_4, hjc]; done) | (simp_all; done) | (split <;> first | rfl | omega | (simp_all; done); done))

set_option maxHeartbeats 4000000 in
set_option maxRecDepth 100000 in
theorem c_X3_apart (l : Launch) {K : zz_G} {A : Nat → Prop} (a b : Int32) : zz_C l yX3_apart cX3_apart 2 (Option.some FieldType.int) ({ frames := 0, cells := 0, slots := 0, locals := 0 } : Room) K A [.int a, .int b] (fun _ => True) (fun v9 _ _ => v9 = some (.int (if b < a then a - b else b - a))) zz_nx zz_no := by
  refine zz_body (by decide +kernel) (Nat.le_of_ble_eq_true rfl) ?_
  intro p e s m below meth c ls hx hb hr hml hts hown hlocks hmn htab hE hA hP hl
  have hN := hE.N
  have hK := hE.K
  have hown : s.vm.findClass RX3 = some m.cls := hown
  have hl : lv_has ls 2 [(0, .int a), (1, .int b)] := hl
  have hS : va_S zz_no s.heap s.heap [] := va_S.rf
  obtain ⟨H, hH⟩ : ∃ z, z = s.heap := ⟨_, rfl⟩
  have hS0 : va_S zz_no s.heap H [] := by rw [hH]; exact hS
  rw [← hH] at hE hA
  have hE0 := hE
  clear hS
  have hS := hS0
  show W p l e _ s m _ below meth c s.heap [] 0 0 _ (F0 m 0 ls [])
  rw [← hH]
  refine lv_iload_n hx hb dX3_apart_0 rfl (lv_at hl 0 rfl) ?_
  refine lv_iload_n hx hb dX3_apart_1 rfl (lv_at hl 1 rfl) ?_
  refine lv_icmp_le (tgt := 11) hx hb dX3_apart_2 (by decide) (fun c_1 => ?_) (fun c_1 => ?_)
  · skip
    refine lv_iload_n hx hb dX3_apart_11 rfl (lv_at hl 1 rfl) ?_
    refine lv_iload_n hx hb dX3_apart_12 rfl (lv_at hl 0 rfl) ?_
    refine lv_isub hx hb dX3_apart_13 ?_
    refine zz_iret hx hb hr hlocks hS (Nat.le_of_ble_eq_true rfl) (Nat.le_of_ble_eq_true rfl) dX3_apart_14 ?_
    first | rfl | (rw [if_pos (by assumption)]; done) | (rw [if_neg (Int32.not_lt.mpr (by assumption))]; done) | (simp [c_1]; done) | (simp_all; done) | (split <;> first | rfl | omega | (simp_all; done); done)
  · skip
    refine lv_iload_n hx hb dX3_apart_5 rfl (lv_at hl 0 rfl) ?_
    refine lv_iload_n hx hb dX3_apart_6 rfl (lv_at hl 1 rfl) ?_
    refine lv_isub hx hb dX3_apart_7 ?_
    refine lv_goto (tgt := 14) hx hb dX3_apart_8 (by decide) ?_
    refine zz_iret hx hb hr hlocks hS (Nat.le_of_ble_eq_true rfl) (Nat.le_of_ble_eq_true rfl) dX3_apart_14 ?_
    first | rfl | (rw [if_pos (by assumption)]; done) | (rw [if_neg (Int32.not_lt.mpr (by assumption))]; done) | (simp [c_1]; done) | (simp_all; done) | (split <;> first | rfl | omega | (simp_all; done); done)

set_option maxHeartbeats 4000000 in
set_option maxRecDepth 100000 in
theorem c_X3_fits (l : Launch) {K : zz_G} {A : Nat → Prop} {ad : Nat → Nat → Nat} {th : Int32} {N : Nat → Nat → Nat} {G : Nat → Nat → Int32} {L : Nat → Int64} (hI : zq N) {S : Nat} (hSb : S < 2 ^ 31) : zz_C l yX3_fits cX3_fits 2 (Option.some FieldType.boolean) ({ frames := 1, cells := 0, slots := 0, locals := 23 } : Room) K A [.ref (ad 0 0), .int (nI S)] (fun H => zz_W K A ad (zm_c K ad th N G L) H) (fun v9 _ _ => v9 = some (.int (zz_bo (zfit N S)))) zz_nx zz_no := by
  refine zz_body (by decide +kernel) (Nat.le_of_ble_eq_true rfl) ?_
  intro p e s m below meth c ls hx hb hr hml hts hown hlocks hmn htab hE hA hP hl
  have hN := hE.N
  have hK := hE.K
  have hown : s.vm.findClass RX3 = some m.cls := hown
  have hl : lv_has ls 2 [(0, .ref (ad 0 0)), (1, .int (nI S))] := hl
  have hZ : zz_Z K A s ad (zm_c K ad th N G L) s.heap := ⟨hE, hA, hP⟩
  have hS : va_S zz_no s.heap s.heap [] := va_S.rf
  obtain ⟨H, hH⟩ : ∃ z, z = s.heap := ⟨_, rfl⟩
  have hS0 : va_S zz_no s.heap H [] := by rw [hH]; exact hS
  rw [← hH] at hZ
  have hE0 := hE
  clear hS
  have hS := hS0
  have hB := hI.B
  have h00 := hI.f
  have h01 := hI.p
  have h02 := hI.b
  have hUx := zss_b hI
  have hUb : ∀ S, zls 6 N S < 2 ^ 31 := fun S => by have := zls_b hI (c := 6) S (by decide); omega
  have hUa : ∀ S, zss N S < 2 ^ 31 := fun S => by have := zss_b hI S; omega
  show W p l e _ s m _ below meth c s.heap [] 0 0 _ (F0 m 0 ls [])
  rw [← hH]
  refine lv_aload_n hx hb dX3_fits_0 rfl (lv_at hl 0 rfl) ?_
  refine lv_iload_n hx hb dX3_fits_1 rfl (lv_at hl 1 rfl) ?_
  refine zz_after (pc := 2) rfl (zz_runV (ci := 6) (q0 := (RX3, TX3, 22)) (b := ad 0 0) (As := [.int (nI S)]) (rest := []) hx hb hml hown hts (c_X3_seatsIn l (K := K) (A := A) (ad := ad) (th := th) (N := N) (G := G) (L := L) hI (by first | exact hB _ _ | exact hUa _ | exact hUb _ | exact hUc _ | exact hUd _ | omega)) zw_923 zw_925 zs_39 zw_5 zw_926 zd_X3_seatsIn ⟨Nat.le_of_ble_eq_true rfl, Nat.le_of_ble_eq_true rfl⟩ hZ.E hZ.A (zm_ob hZ.W).1 rfl rfl hZ.W hl.1 (Nat.le_of_ble_eq_true rfl) dX3_fits_2 ⟨Nat.le_of_ble_eq_true rfl, Nat.le_of_ble_eq_true rfl⟩) hS (fun _ h => h.elim) (fun v_3 H locs hq_1 hF_2 hS => ?_)
  refine W.widen (k := 0) (n := 0) (Nat.le_of_ble_eq_true rfl) (Nat.le_of_ble_eq_true rfl) ?_
  obtain rfl := hq_1
  have hZ := hZ.ro hF_2
  refine W.eq (g2 := F0 m 5 ls [.int (nI (zss N S))]) rfl ?_
  refine lv_aload_n hx hb dX3_fits_5 rfl (lv_at hl 0 rfl) ?_
  refine zz_get (ci := 6) (C := RX3) (T := TX3) (N := 22) (v := .int (nI (N 0 2))) hx hb hts hown hK (zm_ob hZ.W).1 rfl zf_X3 3 (by decide) zw_811 (fun _ h9 => h9) rfl dX3_fits_6 ?_
  refine zz_ic_lt (tgt := 27) (by first | exact hB _ _ | exact hUa _ | exact hUb _ | exact hUc _ | exact hUd _ | omega) (by first | exact hB _ _ | exact hUa _ | exact hUb _ | exact hUc _ | exact hUd _ | omega) hx hb dX3_fits_9 (by decide) (fun c_4 => ?_) (fun c_4 => ?_)
  · skip
    refine zz_con 0 hx hb dX3_fits_27 (by decide) ?_
    refine zz_zret hx hb hr hlocks hS (Nat.le_of_ble_eq_true rfl) (Nat.le_of_ble_eq_true rfl) dX3_fits_28 (show nI 0 = 0 ∨ nI 0 = 1 by decide) ?_
    refine congrArg (fun z => some (Value.int z)) (zz_bo_f ?_).symm
    first | assumption | omega | (unfold zfit; omega; done) | (exact fun h => absurd h (by unfold zfit; omega); done) | (simp [c_4]; done) | (simp_all; done) | (split <;> first | rfl | omega | (simp_all; done); done)
  · skip
    refine lv_aload_n hx hb dX3_fits_12 rfl (lv_at hl 0 rfl) ?_
    refine zz_get (ci := 6) (C := RX3) (T := TX3) (N := 22) (v := .int (nI (N 0 2))) hx hb hts hown hK (zm_ob hZ.W).1 rfl zf_X3 3 (by decide) zw_811 (fun _ h9 => h9) rfl dX3_fits_13 ?_
    refine zz_if_eq (tgt := 23) (by first | exact hB _ _ | exact hUa _ | exact hUb _ | exact hUc _ | exact hUd _ | omega) hx hb dX3_fits_16 (by decide) (fun c_5 => ?_) (fun c_5 => ?_)
    · skip
      refine zz_con 1 hx hb dX3_fits_23 (by decide) ?_
      refine lv_goto (tgt := 28) hx hb dX3_fits_24 (by decide) ?_
      refine zz_zret hx hb hr hlocks hS (Nat.le_of_ble_eq_true rfl) (Nat.le_of_ble_eq_true rfl) dX3_fits_28 (show nI 1 = 0 ∨ nI 1 = 1 by decide) ?_
      refine congrArg (fun z => some (Value.int z)) (zz_bo_t ?_).symm
      first | assumption | omega | (unfold zfit; omega; done) | (exact fun h => absurd h (by unfold zfit; omega); done) | (simp [c_4, c_5]; done) | (simp_all; done) | (split <;> first | rfl | omega | (simp_all; done); done)
    · skip
      refine lv_iload_n hx hb dX3_fits_19 rfl (lv_at hl 1 rfl) ?_
      refine lv_if_le (tgt := 27) hx hb dX3_fits_20 (by decide) (fun c_6 => ?_) (fun c_6 => ?_)
      · skip
        obtain rfl : S = 0 := by (by_cases h : S = 0; exact h; exact absurd c_6 (nI_nle (by omega) hSb))
        have hz0 : zss N 0 = 0 := by (unfold zss; rw [zsum_c (g := fun _ => 0) (fun k _ => by simp)]; exact zsum_z _)
        refine zz_con 0 hx hb dX3_fits_27 (by decide) ?_
        refine zz_zret hx hb hr hlocks hS (Nat.le_of_ble_eq_true rfl) (Nat.le_of_ble_eq_true rfl) dX3_fits_28 (show nI 0 = 0 ∨ nI 0 = 1 by decide) ?_
        refine congrArg (fun z => some (Value.int z)) (zz_bo_f ?_).symm
        first | assumption | omega | (unfold zfit; omega; done) | (exact fun h => absurd h (by unfold zfit; omega); done) | (simp [c_4, c_5, c_6]; done) | (simp_all; done) | (split <;> first | rfl | omega | (simp_all; done); done)
      · skip
        refine zz_con 1 hx hb dX3_fits_23 (by decide) ?_
        refine lv_goto (tgt := 28) hx hb dX3_fits_24 (by decide) ?_
        refine zz_zret hx hb hr hlocks hS (Nat.le_of_ble_eq_true rfl) (Nat.le_of_ble_eq_true rfl) dX3_fits_28 (show nI 1 = 0 ∨ nI 1 = 1 by decide) ?_
        refine congrArg (fun z => some (Value.int z)) (zz_bo_t ?_).symm
        first | assumption | omega | (unfold zfit; omega; done) | (exact fun h => absurd h (by unfold zfit; omega); done) | (simp [c_4, c_5, c_6]; done) | (simp_all; done) | (split <;> first | rfl | omega | (simp_all; done); done)

set_option maxHeartbeats 4000000 in
set_option maxRecDepth 100000 in
theorem c_X3_loss (l : Launch) {K : zz_G} {A : Nat → Prop} {ad : Nat → Nat → Nat} {th : Int32} {N : Nat → Nat → Nat} {G : Nat → Nat → Int32} {L : Nat → Int64} (hI : zq N) {S : Nat} (hSb : S < 2 ^ 31) : zz_C l yX3_loss cX3_loss 6 (Option.some FieldType.int) ({ frames := 1, cells := 0, slots := 0, locals := 21 } : Room) K A [.ref (ad 0 0), .int (nI S)] (fun H => zz_W K A ad (zm_c K ad th N G L) H) (fun v9 _ _ => v9 = some (.int (nI (zls 6 N S)))) zz_nx zz_no := by
  refine zz_body (by decide +kernel) (Nat.le_of_ble_eq_true rfl) ?_
  intro p e s m below meth c ls hx hb hr hml hts hown hlocks hmn htab hE hA hP hl
  have hN := hE.N
  have hK := hE.K
  have hown : s.vm.findClass RX3 = some m.cls := hown
  have hl : lv_has ls 6 [(0, .ref (ad 0 0)), (1, .int (nI S))] := hl
  have hZ : zz_Z K A s ad (zm_c K ad th N G L) s.heap := ⟨hE, hA, hP⟩
  have hS : va_S zz_no s.heap s.heap [] := va_S.rf
  obtain ⟨H, hH⟩ : ∃ z, z = s.heap := ⟨_, rfl⟩
  have hS0 : va_S zz_no s.heap H [] := by rw [hH]; exact hS
  rw [← hH] at hZ
  have hE0 := hE
  clear hS
  have hS := hS0
  have hB := hI.B
  have h00 := hI.f
  have h01 := hI.p
  have h02 := hI.b
  show W p l e _ s m _ below meth c s.heap [] 0 0 _ (F0 m 0 ls [])
  rw [← hH]
  refine zz_con 0 hx hb dX3_loss_0 (by decide) ?_
  refine lv_istore_n (lv' := [(2, .int (nI 0)), (0, .ref (ad 0 0)), (1, .int (nI S))]) hx hb dX3_loss_1 rfl hl (Nat.le_of_ble_eq_true rfl) rfl (fun ls hl => ?_)
  refine zz_con 0 hx hb dX3_loss_2 (by decide) ?_
  refine lv_istore_n (lv' := [(3, .int (nI 0)), (2, .int (nI 0)), (0, .ref (ad 0 0)), (1, .int (nI S))]) hx hb dX3_loss_3 rfl hl (Nat.le_of_ble_eq_true rfl) rfl (fun ls hl => ?_)
  have hL_2 : ∀ (k i : Nat), i ≤ N 0 0 → N 0 0 < i + k → ∀ (H : Heap) (locs : List Loc) (ls : Array Slot), zz_Z K A s ad (zm_c K ad th N G L) H → va_S zz_no s.heap H locs → lv_has ls 6 [(3, .int (nI i)), (2, .int (nI (zsum (fun f => if S.testBit f = true then N 2 f else 0) i))), (0, .ref (ad 0 0)), (1, .int (nI S))] → W p l e ({ frames := 1, cells := 0, slots := 0, locals := 21 } : Room) s m ([.ref (ad 0 0), .int (nI S)] : List Value).toArray below meth c H locs 0 0 (vx_MQ below (zz_Qc (fun v9 _ _ => v9 = some (.int (nI (zls 6 N S)))) zz_no) (zz_XC zz_nx) ([.ref (ad 0 0), .int (nI S)] : List Value).toArray s ({ frames := 1, cells := 0, slots := 0, locals := 21 } : Room).cells ({ frames := 1, cells := 0, slots := 0, locals := 21 } : Room).slots zz_no) (F0 m 4 ls []) := by
    intro k
    induction k with
    | zero => intro i hi hik; omega
    | succ k ih_i =>
      intro i hii hiki H locs ls hZ hS hl
      refine lv_iload_n hx hb dX3_loss_4 rfl (lv_at hl 0 rfl) ?_
      refine lv_aload_n hx hb dX3_loss_5 rfl (lv_at hl 2 rfl) ?_
      refine zz_get (ci := 6) (C := RX3) (T := TX3) (N := 22) (v := .int (nI (N 0 0))) hx hb hts hown hK (zm_ob hZ.W).1 rfl zf_X3 1 (by decide) zw_809 (fun _ h9 => h9) rfl dX3_loss_6 ?_
      refine zz_ic_ge (tgt := 40) (by first | exact hB _ _ | exact hUa _ | exact hUb _ | exact hUc _ | exact hUd _ | omega) (by first | exact hB _ _ | exact hUa _ | exact hUb _ | exact hUc _ | exact hUd _ | omega) hx hb dX3_loss_9 (by decide) (fun c_3 => ?_) (fun c_3 => ?_)
      · skip
        obtain rfl : i = N 0 0 := by omega
        refine zz_con 0 hx hb dX3_loss_40 (by decide) ?_
        refine lv_istore_n (lv' := [(3, .int (nI 0)), (2, .int (nI (zsum (fun f => if S.testBit f = true then N 2 f else 0) (N 0 0)))), (0, .ref (ad 0 0)), (1, .int (nI S))]) hx hb dX3_loss_41 rfl hl (Nat.le_of_ble_eq_true rfl) rfl (fun ls hl => ?_)
        have hL_5 : ∀ (k i : Nat), i ≤ N 0 2 → N 0 2 < i + k → ∀ (H : Heap) (locs : List Loc) (ls : Array Slot), zz_Z K A s ad (zm_c K ad th N G L) H → va_S zz_no s.heap H locs → lv_has ls 6 [(3, .int (nI i)), (2, .int (nI (zcs N S + zsum (fun k => 3 * znr 6 S (N 10 k) (N 0 0)) i))), (0, .ref (ad 0 0)), (1, .int (nI S))] → W p l e ({ frames := 1, cells := 0, slots := 0, locals := 21 } : Room) s m ([.ref (ad 0 0), .int (nI S)] : List Value).toArray below meth c H locs 0 0 (vx_MQ below (zz_Qc (fun v9 _ _ => v9 = some (.int (nI (zls 6 N S)))) zz_no) (zz_XC zz_nx) ([.ref (ad 0 0), .int (nI S)] : List Value).toArray s ({ frames := 1, cells := 0, slots := 0, locals := 21 } : Room).cells ({ frames := 1, cells := 0, slots := 0, locals := 21 } : Room).slots zz_no) (F0 m 42 ls []) := by
          intro k
          induction k with
          | zero => intro i hi hik; omega
          | succ k ih_i =>
            intro i hii hiki H locs ls hZ hS hl
            have hbf : ∀ k, k < N 0 2 → N 10 k < N 0 0 := hI.bf
            refine lv_iload_n hx hb dX3_loss_42 rfl (lv_at hl 0 rfl) ?_
            refine lv_aload_n hx hb dX3_loss_43 rfl (lv_at hl 2 rfl) ?_
            refine zz_get (ci := 6) (C := RX3) (T := TX3) (N := 22) (v := .int (nI (N 0 2))) hx hb hts hown hK (zm_ob hZ.W).1 rfl zf_X3 3 (by decide) zw_811 (fun _ h9 => h9) rfl dX3_loss_44 ?_
            refine zz_ic_ge (tgt := 124) (by first | exact hB _ _ | exact hUa _ | exact hUb _ | exact hUc _ | exact hUd _ | omega) (by first | exact hB _ _ | exact hUa _ | exact hUb _ | exact hUc _ | exact hUd _ | omega) hx hb dX3_loss_47 (by decide) (fun c_6 => ?_) (fun c_6 => ?_)
            · skip
              obtain rfl : i = N 0 2 := by omega
              refine lv_iload_n hx hb dX3_loss_124 rfl (lv_at hl 1 rfl) ?_
              refine zz_iret hx hb hr hlocks hS (Nat.le_of_ble_eq_true rfl) (Nat.le_of_ble_eq_true rfl) dX3_loss_125 ?_
              first | rfl | (simp [c_3, c_6]; done) | (simp_all; done) | (split <;> first | rfl | omega | (simp_all; done); done)
            · skip
              refine lv_bipush (v := nI 6) hx hb dX3_loss_50 (by decide) ?_
              refine lv_istore (lv' := [(4, .int (nI 6)), (3, .int (nI i)), (2, .int (nI (zcs N S + zsum (fun k => 3 * znr 6 S (N 10 k) (N 0 0)) i))), (0, .ref (ad 0 0)), (1, .int (nI S))]) hx hb dX3_loss_52 hl (Nat.le_of_ble_eq_true rfl) rfl (fun ls hl => ?_)
              refine zz_con 0 hx hb dX3_loss_54 (by decide) ?_
              refine lv_istore (lv' := [(5, .int (nI 0)), (4, .int (nI 6)), (3, .int (nI i)), (2, .int (nI (zcs N S + zsum (fun k => 3 * znr 6 S (N 10 k) (N 0 0)) i))), (0, .ref (ad 0 0)), (1, .int (nI S))]) hx hb dX3_loss_55 hl (Nat.le_of_ble_eq_true rfl) rfl (fun ls hl => ?_)
              have hL_8 : ∀ (k i2 : Nat), i2 ≤ N 0 0 → N 0 0 < i2 + k → ∀ (H : Heap) (locs : List Loc) (ls : Array Slot), zz_Z K A s ad (zm_c K ad th N G L) H → va_S zz_no s.heap H locs → lv_has ls 6 [(5, .int (nI i2)), (4, .int (nI (znr 6 S (N 10 i) i2))), (3, .int (nI i)), (2, .int (nI (zcs N S + zsum (fun k => 3 * znr 6 S (N 10 k) (N 0 0)) i))), (0, .ref (ad 0 0)), (1, .int (nI S))] → W p l e ({ frames := 1, cells := 0, slots := 0, locals := 21 } : Room) s m ([.ref (ad 0 0), .int (nI S)] : List Value).toArray below meth c H locs 0 0 (vx_MQ below (zz_Qc (fun v9 _ _ => v9 = some (.int (nI (zls 6 N S)))) zz_no) (zz_XC zz_nx) ([.ref (ad 0 0), .int (nI S)] : List Value).toArray s ({ frames := 1, cells := 0, slots := 0, locals := 21 } : Room).cells ({ frames := 1, cells := 0, slots := 0, locals := 21 } : Room).slots zz_no) (F0 m 57 ls []) := by
                intro k
                induction k with
                | zero => intro i hi hik; omega
                | succ k ih_i2 =>
                  intro i2 hii2 hiki2 H locs ls hZ hS hl
                  have hb10 := hI.bf i (by omega)
                  have hnl := znr_le 6 S (N 10 i) i2
                  have hzd : zd i2 (N 10 i) < 2 ^ 31 := by unfold zd; split <;> omega
                  refine lv_iload hx hb dX3_loss_57 (lv_at hl 0 rfl) ?_
                  refine lv_aload_n hx hb dX3_loss_59 rfl (lv_at hl 4 rfl) ?_
                  refine zz_get (ci := 6) (C := RX3) (T := TX3) (N := 22) (v := .int (nI (N 0 0))) hx hb hts hown hK (zm_ob hZ.W).1 rfl zf_X3 1 (by decide) zw_809 (fun _ h9 => h9) rfl dX3_loss_60 ?_
                  refine zz_ic_ge (tgt := 111) (by first | exact hB _ _ | exact hUa _ | exact hUb _ | exact hUc _ | exact hUd _ | omega) (by first | exact hB _ _ | exact hUa _ | exact hUb _ | exact hUc _ | exact hUd _ | omega) hx hb dX3_loss_63 (by decide) (fun c_9 => ?_) (fun c_9 => ?_)
                  · skip
                    obtain rfl : i2 = N 0 0 := by omega
                    refine lv_iload_n hx hb dX3_loss_111 rfl (lv_at hl 3 rfl) ?_
                    refine zz_con 3 hx hb dX3_loss_112 (by decide) ?_
                    refine lv_iload hx hb dX3_loss_113 (lv_at hl 1 rfl) ?_
                    refine zz_mul hx hb dX3_loss_115 ?_
                    refine zz_add hx hb dX3_loss_116 ?_
                    refine lv_istore_n (lv' := [(2, .int (nI ((zcs N S + zsum (fun k => 3 * znr 6 S (N 10 k) (N 0 0)) i) + (3 * (znr 6 S (N 10 i) (N 0 0)))))), (5, .int (nI (N 0 0))), (4, .int (nI (znr 6 S (N 10 i) (N 0 0)))), (3, .int (nI i)), (0, .ref (ad 0 0)), (1, .int (nI S))]) hx hb dX3_loss_117 rfl hl (Nat.le_of_ble_eq_true rfl) rfl (fun ls hl => ?_)
                    refine zz_inc (k := 3) (lv' := [(3, .int (nI (i + 1))), (2, .int (nI ((zcs N S + zsum (fun k => 3 * znr 6 S (N 10 k) (N 0 0)) i) + (3 * (znr 6 S (N 10 i) (N 0 0)))))), (5, .int (nI (N 0 0))), (4, .int (nI (znr 6 S (N 10 i) (N 0 0)))), (0, .ref (ad 0 0)), (1, .int (nI S))]) hx hb dX3_loss_118 hl rfl (Nat.le_of_ble_eq_true rfl) rfl (fun ls hl => ?_)
                    refine lv_goto (tgt := 42) hx hb dX3_loss_121 (by decide) ?_
                    refine ih_i (i + 1) (by omega) (by omega) _ _ _ ?_ hS ?_
                    · exact hZ
                    · skip
                      rw [show (.int (nI (zcs N S + zsum (fun k => 3 * znr 6 S (N 10 k) (N 0 0)) (i + 1))) : Value) = .int (nI ((zcs N S + zsum (fun k => 3 * znr 6 S (N 10 k) (N 0 0)) i) + (3 * (znr 6 S (N 10 i) (N 0 0))))) from congrArg Value.int (by first | rfl | (simp only [zsum]; rw [Nat.add_assoc]; done))]
                      exact lv_sub hl [0, 1, 4, 5] rfl
                  · skip
                    refine lv_iload_n hx hb dX3_loss_66 rfl (lv_at hl 5 rfl) ?_
                    refine lv_iload hx hb dX3_loss_67 (lv_at hl 0 rfl) ?_
                    refine lv_ishr hx hb dX3_loss_69 ?_
                    refine zz_con 1 hx hb dX3_loss_70 (by decide) ?_
                    refine lv_iand hx hb dX3_loss_71 ?_
                    refine zz_con 1 hx hb dX3_loss_72 (by decide) ?_
                    refine zz_bt_ne (tgt := 105) (by first | exact hB _ _ | exact hUa _ | exact hUb _ | exact hUc _ | exact hUd _ | omega) (by omega) hx hb dX3_loss_73 (by decide) (fun c_10 => ?_) (fun c_10 => ?_)
                    · skip
                      refine zz_inc (k := 0) (lv' := [(5, .int (nI (i2 + 1))), (4, .int (nI (znr 6 S (N 10 i) i2))), (3, .int (nI i)), (2, .int (nI (zcs N S + zsum (fun k => 3 * znr 6 S (N 10 k) (N 0 0)) i))), (0, .ref (ad 0 0)), (1, .int (nI S))]) hx hb dX3_loss_105 hl rfl (Nat.le_of_ble_eq_true rfl) rfl (fun ls hl => ?_)
                      refine lv_goto (tgt := 57) hx hb dX3_loss_108 (by decide) ?_
                      refine ih_i2 (i2 + 1) (by omega) (by omega) _ _ _ ?_ hS ?_
                      · exact hZ
                      · skip
                        rw [show (.int (nI (znr 6 S (N 10 i) (i2 + 1))) : Value) = .int (nI (znr 6 S (N 10 i) i2)) from congrArg Value.int (by first | rfl | ((rw [znr, if_pos ⟨by assumption, by assumption⟩]); done) | ((rw [znr, if_neg (fun h => absurd h.1 (by assumption))]); done) | ((rw [znr, if_neg (fun h => by have := h.2; omega)]); done))]
                        exact lv_sub hl [0, 1, 2, 3, 4, 5] rfl
                    · skip
                      refine lv_iload hx hb dX3_loss_76 (lv_at hl 0 rfl) ?_
                      refine lv_aload_n hx hb dX3_loss_78 rfl (lv_at hl 4 rfl) ?_
                      refine zz_get (ci := 6) (C := RX3) (T := TX3) (N := 22) (v := .ref (ad 1 12)) hx hb hts hown hK (zm_ob hZ.W).1 rfl zf_X3 18 (by decide) zw_826 (fun _ h9 => h9) rfl dX3_loss_79 ?_
                      refine lv_iload_n hx hb dX3_loss_82 rfl (lv_at hl 2 rfl) ?_
                      refine zz_iald (y := nI (N 10 i)) hx hb hK (zm_wanted hZ.W).1 (vp_in_nI (show i < 12 by omega) (by decide)) dX3_loss_83 (by rw [nI_clamp (by omega)] <;> rfl) ?_
                      refine zz_after (pc := 84) rfl (zz_runS (As := [.int (nI i2), .int (nI (N 10 i))]) (rest := []) hx hb hml hown hts (c_X3_apart l (K := K) (A := A) (nI i2) (nI (N 10 i))) zw_955 zw_956 zw_5 zw_957 zd_X3_apart ⟨Nat.le_of_ble_eq_true rfl, Nat.le_of_ble_eq_true rfl⟩ hZ.E hZ.A trivial hl.1 (Nat.le_of_ble_eq_true rfl) dX3_loss_84 ⟨Nat.le_of_ble_eq_true rfl, Nat.le_of_ble_eq_true rfl⟩) hS (fun _ h => h.elim) (fun v_13 H locs hq_11 hF_12 hS => ?_)
                      refine W.widen (k := 0) (n := 0) (Nat.le_of_ble_eq_true rfl) (Nat.le_of_ble_eq_true rfl) ?_
                      obtain rfl := hq_11
                      have hZ := hZ.ro hF_12
                      refine W.eq (g2 := F0 m 87 ls [.int (if (nI (N 10 i)) < (nI i2) then (nI i2) - (nI (N 10 i)) else (nI (N 10 i)) - (nI i2))]) rfl ?_
                      refine zz_cv (y := nI (zd i2 (N 10 i))) (zd_ap (by omega) (by omega)) ?_
                      refine lv_iload hx hb dX3_loss_87 (lv_at hl 1 rfl) ?_
                      refine zz_ic_ge (tgt := 105) (by first | exact hB _ _ | exact hUa _ | exact hUb _ | exact hUc _ | exact hUd _ | omega) (by first | exact hB _ _ | exact hUa _ | exact hUb _ | exact hUc _ | exact hUd _ | omega) hx hb dX3_loss_89 (by decide) (fun c_14 => ?_) (fun c_14 => ?_)
                      · skip
                        refine zz_inc (k := 0) (lv' := [(5, .int (nI (i2 + 1))), (4, .int (nI (znr 6 S (N 10 i) i2))), (3, .int (nI i)), (2, .int (nI (zcs N S + zsum (fun k => 3 * znr 6 S (N 10 k) (N 0 0)) i))), (0, .ref (ad 0 0)), (1, .int (nI S))]) hx hb dX3_loss_105 hl rfl (Nat.le_of_ble_eq_true rfl) rfl (fun ls hl => ?_)
                        refine lv_goto (tgt := 57) hx hb dX3_loss_108 (by decide) ?_
                        refine ih_i2 (i2 + 1) (by omega) (by omega) _ _ _ ?_ hS ?_
                        · exact hZ
                        · skip
                          rw [show (.int (nI (znr 6 S (N 10 i) (i2 + 1))) : Value) = .int (nI (znr 6 S (N 10 i) i2)) from congrArg Value.int (by first | rfl | ((rw [znr, if_pos ⟨by assumption, by assumption⟩]); done) | ((rw [znr, if_neg (fun h => absurd h.1 (by assumption))]); done) | ((rw [znr, if_neg (fun h => by have := h.2; omega)]); done))]
                          exact lv_sub hl [0, 1, 2, 3, 4, 5] rfl
                      · skip
                        refine lv_iload hx hb dX3_loss_92 (lv_at hl 0 rfl) ?_
                        refine lv_aload_n hx hb dX3_loss_94 rfl (lv_at hl 4 rfl) ?_
                        refine zz_get (ci := 6) (C := RX3) (T := TX3) (N := 22) (v := .ref (ad 1 12)) hx hb hts hown hK (zm_ob hZ.W).1 rfl zf_X3 18 (by decide) zw_826 (fun _ h9 => h9) rfl dX3_loss_95 ?_
                        refine lv_iload_n hx hb dX3_loss_98 rfl (lv_at hl 2 rfl) ?_
                        refine zz_iald (y := nI (N 10 i)) hx hb hK (zm_wanted hZ.W).1 (vp_in_nI (show i < 12 by omega) (by decide)) dX3_loss_99 (by rw [nI_clamp (by omega)] <;> rfl) ?_
                        refine zz_after (pc := 100) rfl (zz_runS (As := [.int (nI i2), .int (nI (N 10 i))]) (rest := []) hx hb hml hown hts (c_X3_apart l (K := K) (A := A) (nI i2) (nI (N 10 i))) zw_955 zw_956 zw_5 zw_957 zd_X3_apart ⟨Nat.le_of_ble_eq_true rfl, Nat.le_of_ble_eq_true rfl⟩ hZ.E hZ.A trivial hl.1 (Nat.le_of_ble_eq_true rfl) dX3_loss_100 ⟨Nat.le_of_ble_eq_true rfl, Nat.le_of_ble_eq_true rfl⟩) hS (fun _ h => h.elim) (fun v_17 H locs hq_15 hF_16 hS => ?_)
                        refine W.widen (k := 0) (n := 0) (Nat.le_of_ble_eq_true rfl) (Nat.le_of_ble_eq_true rfl) ?_
                        obtain rfl := hq_15
                        have hZ := hZ.ro hF_16
                        refine W.eq (g2 := F0 m 103 ls [.int (if (nI (N 10 i)) < (nI i2) then (nI i2) - (nI (N 10 i)) else (nI (N 10 i)) - (nI i2))]) rfl ?_
                        refine zz_cv (y := nI (zd i2 (N 10 i))) (zd_ap (by omega) (by omega)) ?_
                        refine lv_istore (lv' := [(4, .int (nI (zd i2 (N 10 i)))), (5, .int (nI i2)), (3, .int (nI i)), (2, .int (nI (zcs N S + zsum (fun k => 3 * znr 6 S (N 10 k) (N 0 0)) i))), (0, .ref (ad 0 0)), (1, .int (nI S))]) hx hb dX3_loss_103 hl (Nat.le_of_ble_eq_true rfl) rfl (fun ls hl => ?_)
                        refine zz_inc (k := 1) (lv' := [(5, .int (nI (i2 + 1))), (4, .int (nI (zd i2 (N 10 i)))), (3, .int (nI i)), (2, .int (nI (zcs N S + zsum (fun k => 3 * znr 6 S (N 10 k) (N 0 0)) i))), (0, .ref (ad 0 0)), (1, .int (nI S))]) hx hb dX3_loss_105 hl rfl (Nat.le_of_ble_eq_true rfl) rfl (fun ls hl => ?_)
                        refine lv_goto (tgt := 57) hx hb dX3_loss_108 (by decide) ?_
                        refine ih_i2 (i2 + 1) (by omega) (by omega) _ _ _ ?_ hS ?_
                        · exact hZ
                        · skip
                          rw [show (.int (nI (znr 6 S (N 10 i) (i2 + 1))) : Value) = .int (nI (zd i2 (N 10 i))) from congrArg Value.int (by first | rfl | ((rw [znr, if_pos ⟨by assumption, by assumption⟩]); done) | ((rw [znr, if_neg (fun h => absurd h.1 (by assumption))]); done) | ((rw [znr, if_neg (fun h => by have := h.2; omega)]); done))]
                          exact lv_sub hl [0, 1, 2, 3, 4, 5] rfl
              refine hL_8 (N 0 0 + 1) 0 (by first | omega | exact Nat.zero_le _) (by first | omega | (rw [Nat.zero_add]; exact Nat.lt_succ_self _)) _ _ _ hZ hS ?_
              exact lv_sub hl [0, 1, 2, 3, 4, 5] rfl
        refine hL_5 (N 0 2 + 1) 0 (by first | omega | exact Nat.zero_le _) (by first | omega | (rw [Nat.zero_add]; exact Nat.lt_succ_self _)) _ _ _ hZ hS ?_
        exact lv_sub hl [0, 1, 2, 3] rfl
      · skip
        refine lv_iload_n hx hb dX3_loss_12 rfl (lv_at hl 1 rfl) ?_
        refine lv_iload_n hx hb dX3_loss_13 rfl (lv_at hl 3 rfl) ?_
        refine lv_iload_n hx hb dX3_loss_14 rfl (lv_at hl 0 rfl) ?_
        refine lv_ishr hx hb dX3_loss_15 ?_
        refine zz_con 1 hx hb dX3_loss_16 (by decide) ?_
        refine lv_iand hx hb dX3_loss_17 ?_
        refine zz_con 1 hx hb dX3_loss_18 (by decide) ?_
        refine zz_bt_ne (tgt := 31) (by first | exact hB _ _ | exact hUa _ | exact hUb _ | exact hUc _ | exact hUd _ | omega) (by omega) hx hb dX3_loss_19 (by decide) (fun c_18 => ?_) (fun c_18 => ?_)
        · skip
          refine zz_con 0 hx hb dX3_loss_31 (by decide) ?_
          refine zz_add hx hb dX3_loss_32 ?_
          refine lv_istore_n (lv' := [(2, .int (nI ((zsum (fun f => if S.testBit f = true then N 2 f else 0) i) + 0))), (3, .int (nI i)), (0, .ref (ad 0 0)), (1, .int (nI S))]) hx hb dX3_loss_33 rfl hl (Nat.le_of_ble_eq_true rfl) rfl (fun ls hl => ?_)
          refine zz_inc (k := 1) (lv' := [(3, .int (nI (i + 1))), (2, .int (nI ((zsum (fun f => if S.testBit f = true then N 2 f else 0) i) + 0))), (0, .ref (ad 0 0)), (1, .int (nI S))]) hx hb dX3_loss_34 hl rfl (Nat.le_of_ble_eq_true rfl) rfl (fun ls hl => ?_)
          refine lv_goto (tgt := 4) hx hb dX3_loss_37 (by decide) ?_
          refine ih_i (i + 1) (by omega) (by omega) _ _ _ ?_ hS ?_
          · exact hZ
          · skip
            rw [show (.int (nI (zsum (fun f => if S.testBit f = true then N 2 f else 0) (i + 1))) : Value) = .int (nI ((zsum (fun f => if S.testBit f = true then N 2 f else 0) i) + 0)) from congrArg Value.int (by first | rfl | (simp [zsum, c_3, c_18]; done))]
            exact lv_sub hl [0, 1, 2, 3] rfl
        · skip
          refine lv_aload_n hx hb dX3_loss_22 rfl (lv_at hl 2 rfl) ?_
          refine zz_get (ci := 6) (C := RX3) (T := TX3) (N := 22) (v := .ref (ad 1 1)) hx hb hts hown hK (zm_ob hZ.W).1 rfl zf_X3 7 (by decide) zw_815 (fun _ h9 => h9) rfl dX3_loss_23 ?_
          refine lv_iload_n hx hb dX3_loss_26 rfl (lv_at hl 0 rfl) ?_
          refine zz_iald (y := nI (N 2 i)) hx hb hK (zm_cost hZ.W).1 (vp_in_nI (show i < 6 by omega) (by decide)) dX3_loss_27 (by rw [nI_clamp (by omega)] <;> rfl) ?_
          refine lv_goto (tgt := 32) hx hb dX3_loss_28 (by decide) ?_
          refine zz_add hx hb dX3_loss_32 ?_
          refine lv_istore_n (lv' := [(2, .int (nI ((zsum (fun f => if S.testBit f = true then N 2 f else 0) i) + (N 2 i)))), (3, .int (nI i)), (0, .ref (ad 0 0)), (1, .int (nI S))]) hx hb dX3_loss_33 rfl hl (Nat.le_of_ble_eq_true rfl) rfl (fun ls hl => ?_)
          refine zz_inc (k := 1) (lv' := [(3, .int (nI (i + 1))), (2, .int (nI ((zsum (fun f => if S.testBit f = true then N 2 f else 0) i) + (N 2 i)))), (0, .ref (ad 0 0)), (1, .int (nI S))]) hx hb dX3_loss_34 hl rfl (Nat.le_of_ble_eq_true rfl) rfl (fun ls hl => ?_)
          refine lv_goto (tgt := 4) hx hb dX3_loss_37 (by decide) ?_
          refine ih_i (i + 1) (by omega) (by omega) _ _ _ ?_ hS ?_
          · exact hZ
          · skip
            rw [show (.int (nI (zsum (fun f => if S.testBit f = true then N 2 f else 0) (i + 1))) : Value) = .int (nI ((zsum (fun f => if S.testBit f = true then N 2 f else 0) i) + (N 2 i))) from congrArg Value.int (by first | rfl | (simp [zsum, c_3, c_18]; done))]
            exact lv_sub hl [0, 1, 2, 3] rfl
  refine hL_2 (N 0 0 + 1) 0 (by first | omega | exact Nat.zero_le _) (by first | omega | (rw [Nat.zero_add]; exact Nat.lt_succ_self _)) _ _ _ hZ hS ?_
  exact lv_sub hl [0, 1, 2, 3] rfl

set_option maxHeartbeats 4000000 in
set_option maxRecDepth 100000 in
theorem c_X3_best (l : Launch) {K : zz_G} {A : Nat → Prop} {ad : Nat → Nat → Nat} {th : Int32} {N : Nat → Nat → Nat} {G : Nat → Nat → Int32} {L : Nat → Int64} (hI : zq N)  : zz_C l yX3_best cX3_best 3 (Option.some FieldType.int) ({ frames := 2, cells := 0, slots := 0, locals := 46 } : Room) K A [.ref (ad 0 0)] (fun H => zz_W K A ad (zm_c K ad th N G L) H) (fun v9 _ _ => v9 = some (.int (nI (zplan N)))) zz_nx zz_no := by
  refine zz_body (by decide +kernel) (Nat.le_of_ble_eq_true rfl) ?_
  intro p e s m below meth c ls hx hb hr hml hts hown hlocks hmn htab hE hA hP hl
  have hN := hE.N
  have hK := hE.K
  have hown : s.vm.findClass RX3 = some m.cls := hown
  have hl : lv_has ls 3 [(0, .ref (ad 0 0))] := hl
  have hZ : zz_Z K A s ad (zm_c K ad th N G L) s.heap := ⟨hE, hA, hP⟩
  have hS : va_S zz_no s.heap s.heap [] := va_S.rf
  obtain ⟨H, hH⟩ : ∃ z, z = s.heap := ⟨_, rfl⟩
  have hS0 : va_S zz_no s.heap H [] := by rw [hH]; exact hS
  rw [← hH] at hZ
  have hE0 := hE
  clear hS
  have hS := hS0
  have hB := hI.B
  have h00 := hI.f
  have h01 := hI.p
  have h02 := hI.b
  have hUx := zss_b hI
  have hUb : ∀ S, zls 6 N S < 2 ^ 31 := fun S => by have := zls_b hI (c := 6) S (by decide); omega
  have hUa : ∀ S, zss N S < 2 ^ 31 := fun S => by have := zss_b hI S; omega
  have hp2 : 2 ^ N 0 0 ≤ 64 := Nat.le_trans (Nat.pow_le_pow_right (by decide) h00) (by decide)
  have hba := zbt_all hI
  show W p l e _ s m _ below meth c s.heap [] 0 0 _ (F0 m 0 ls [])
  rw [← hH]
  refine lv_iconst (v := (-1)) hx hb dX3_best_0 (by decide) ?_
  refine zz_cv (y := nI 0 - 1) zz_k0 ?_
  refine lv_istore_n (lv' := [(1, .int (nI 0 - 1)), (0, .ref (ad 0 0))]) hx hb dX3_best_1 rfl hl (Nat.le_of_ble_eq_true rfl) rfl (fun ls hl => ?_)
  refine zz_con 0 hx hb dX3_best_2 (by decide) ?_
  refine lv_istore_n (lv' := [(2, .int (nI 0)), (1, .int (nI 0 - 1)), (0, .ref (ad 0 0))]) hx hb dX3_best_3 rfl hl (Nat.le_of_ble_eq_true rfl) rfl (fun ls hl => ?_)
  have hL_2 : ∀ (k i : Nat), i ≤ 2 ^ N 0 0 → 2 ^ N 0 0 < i + k → ∀ (H : Heap) (locs : List Loc) (ls : Array Slot), zz_Z K A s ad (zm_c K ad th N G L) H → va_S zz_no s.heap H locs → lv_has ls 3 [(2, .int (nI i)), (1, .int (nI (zbt N i) - 1)), (0, .ref (ad 0 0))] → W p l e ({ frames := 2, cells := 0, slots := 0, locals := 46 } : Room) s m ([.ref (ad 0 0)] : List Value).toArray below meth c H locs 0 0 (vx_MQ below (zz_Qc (fun v9 _ _ => v9 = some (.int (nI (zplan N)))) zz_no) (zz_XC zz_nx) ([.ref (ad 0 0)] : List Value).toArray s ({ frames := 2, cells := 0, slots := 0, locals := 46 } : Room).cells ({ frames := 2, cells := 0, slots := 0, locals := 46 } : Room).slots zz_no) (F0 m 4 ls []) := by
    intro k
    induction k with
    | zero => intro i hi hik; omega
    | succ k ih_i =>
      intro i hii hiki H locs ls hZ hS hl
      have hbl9 := zbt_le N i
      refine lv_iload_n hx hb dX3_best_4 rfl (lv_at hl 0 rfl) ?_
      refine zz_con 1 hx hb dX3_best_5 (by decide) ?_
      refine lv_aload_n hx hb dX3_best_6 rfl (lv_at hl 2 rfl) ?_
      refine zz_get (ci := 6) (C := RX3) (T := TX3) (N := 22) (v := .int (nI (N 0 0))) hx hb hts hown hK (zm_ob hZ.W).1 rfl zf_X3 1 (by decide) zw_809 (fun _ h9 => h9) rfl dX3_best_7 ?_
      refine lv_ishl hx hb dX3_best_10 ?_
      refine zz_cv (y := nI (2 ^ (N 0 0))) (zz_bit1b h00) ?_
      refine zz_ic_ge (tgt := 48) (by first | exact hB _ _ | exact hUa _ | exact hUb _ | exact hUc _ | exact hUd _ | omega) (by first | exact hB _ _ | exact hUa _ | exact hUb _ | exact hUc _ | exact hUd _ | omega) hx hb dX3_best_11 (by decide) (fun c_3 => ?_) (fun c_3 => ?_)
      · skip
        obtain rfl : i = 2 ^ N 0 0 := by omega
        refine lv_aload_n hx hb dX3_best_48 rfl (lv_at hl 2 rfl) ?_
        refine zz_get (ci := 6) (C := RX3) (T := TX3) (N := 22) (v := .int (nI (N 0 2))) hx hb hts hown hK (zm_ob hZ.W).1 rfl zf_X3 3 (by decide) zw_811 (fun _ h9 => h9) rfl dX3_best_49 ?_
        refine zz_if_ne (tgt := 59) (by first | exact hB _ _ | exact hUa _ | exact hUb _ | exact hUc _ | exact hUd _ | omega) hx hb dX3_best_52 (by decide) (fun c_4 => ?_) (fun c_4 => ?_)
        · skip
          refine lv_iload_n hx hb dX3_best_59 rfl (lv_at hl 1 rfl) ?_
          refine zz_cv (y := nI (zplan N)) (by unfold zplan; rw [if_neg (by assumption), ← pk_sub (by omega)]; rfl) ?_
          refine zz_iret hx hb hr hlocks hS (Nat.le_of_ble_eq_true rfl) (Nat.le_of_ble_eq_true rfl) dX3_best_60 ?_
          first | rfl | (simp [c_3, c_4]; done) | (simp_all; done) | (split <;> first | rfl | omega | (simp_all; done); done)
        · skip
          refine zz_con 0 hx hb dX3_best_55 (by decide) ?_
          refine lv_goto (tgt := 60) hx hb dX3_best_56 (by decide) ?_
          refine zz_cv (y := nI (zplan N)) (by unfold zplan; rw [if_pos (by assumption)]) ?_
          refine zz_iret hx hb hr hlocks hS (Nat.le_of_ble_eq_true rfl) (Nat.le_of_ble_eq_true rfl) dX3_best_60 ?_
          first | rfl | (simp [c_3, c_4]; done) | (simp_all; done) | (split <;> first | rfl | omega | (simp_all; done); done)
      · skip
        refine lv_aload_n hx hb dX3_best_14 rfl (lv_at hl 2 rfl) ?_
        refine lv_iload_n hx hb dX3_best_15 rfl (lv_at hl 0 rfl) ?_
        refine zz_after (pc := 16) rfl (zz_runV (ci := 6) (q0 := (RX3, TX3, 22)) (b := ad 0 0) (As := [.int (nI i)]) (rest := []) hx hb hml hown hts (c_X3_fits l (K := K) (A := A) (ad := ad) (th := th) (N := N) (G := G) (L := L) hI (by first | exact hB _ _ | exact hUa _ | exact hUb _ | exact hUc _ | exact hUd _ | omega)) zw_947 zw_949 zs_41 zw_5 zw_950 zd_X3_fits ⟨Nat.le_of_ble_eq_true rfl, Nat.le_of_ble_eq_true rfl⟩ hZ.E hZ.A (zm_ob hZ.W).1 rfl rfl hZ.W hl.1 (Nat.le_of_ble_eq_true rfl) dX3_best_16 ⟨Nat.le_of_ble_eq_true rfl, Nat.le_of_ble_eq_true rfl⟩) hS (fun _ h => h.elim) (fun v_7 H locs hq_5 hF_6 hS => ?_)
        refine W.widen (k := 0) (n := 0) (Nat.le_of_ble_eq_true rfl) (Nat.le_of_ble_eq_true rfl) ?_
        obtain rfl := hq_5
        have hZ := hZ.ro hF_6
        refine W.eq (g2 := F0 m 19 ls [.int (zz_bo (zfit N i))]) rfl ?_
        refine zz_bi_eq (tgt := 42) hx hb dX3_best_19 (by decide) (fun c_8 => ?_) (fun c_8 => ?_)
        · skip
          refine zz_inc (k := 0) (lv' := [(2, .int (nI (i + 1))), (1, .int (nI (zbt N i) - 1)), (0, .ref (ad 0 0))]) hx hb dX3_best_42 hl rfl (Nat.le_of_ble_eq_true rfl) rfl (fun ls hl => ?_)
          refine lv_goto (tgt := 4) hx hb dX3_best_45 (by decide) ?_
          refine ih_i (i + 1) (by omega) (by omega) _ _ _ ?_ hS ?_
          · exact hZ
          · skip
            rw [show (.int (nI (zbt N (i + 1)) - 1) : Value) = .int (nI (zbt N i) - 1) from congrArg Value.int (by first | rfl | ((rw [zbt, if_pos ⟨by assumption, by omega⟩]; first | rfl | exact (zz_nk _).symm); done) | ((rw [zbt, if_neg (fun h => absurd h.1 (by assumption))]); done) | ((rw [zbt, if_pos ⟨by assumption, Or.inr (by rw [ht1]; simpa using (by assumption))⟩]; exact (zz_nk _).symm); done) | ((rw [zbt, if_neg (fun h => by have := h.2; rw [ht1] at this; simp at this; omega), ht1]; exact (zz_nk _).symm); done))]
            exact lv_sub hl [0, 1, 2] rfl
        · skip
          refine lv_iload_n hx hb dX3_best_22 rfl (lv_at hl 1 rfl) ?_
          refine lv_iconst (v := (-1)) hx hb dX3_best_23 (by decide) ?_
          refine zz_ik_eq0 (tgt := 40) (by first | exact hB _ _ | exact hUa _ | exact hUb _ | exact hUc _ | exact hUd _ | omega) hx hb dX3_best_24 (by decide) (fun c_9 => ?_) (fun c_9 => ?_)
          · skip
            refine lv_iload_n hx hb dX3_best_40 rfl (lv_at hl 0 rfl) ?_
            refine lv_istore_n (lv' := [(1, .int (nI i)), (2, .int (nI i)), (0, .ref (ad 0 0))]) hx hb dX3_best_41 rfl hl (Nat.le_of_ble_eq_true rfl) rfl (fun ls hl => ?_)
            refine zz_inc (k := 1) (lv' := [(2, .int (nI (i + 1))), (1, .int (nI i)), (0, .ref (ad 0 0))]) hx hb dX3_best_42 hl rfl (Nat.le_of_ble_eq_true rfl) rfl (fun ls hl => ?_)
            refine lv_goto (tgt := 4) hx hb dX3_best_45 (by decide) ?_
            refine ih_i (i + 1) (by omega) (by omega) _ _ _ ?_ hS ?_
            · exact hZ
            · skip
              rw [show (.int (nI (zbt N (i + 1)) - 1) : Value) = .int (nI i) from congrArg Value.int (by first | rfl | ((rw [zbt, if_pos ⟨by assumption, by omega⟩]; first | rfl | exact (zz_nk _).symm); done) | ((rw [zbt, if_neg (fun h => absurd h.1 (by assumption))]); done) | ((rw [zbt, if_pos ⟨by assumption, Or.inr (by rw [ht1]; simpa using (by assumption))⟩]; exact (zz_nk _).symm); done) | ((rw [zbt, if_neg (fun h => by have := h.2; rw [ht1] at this; simp at this; omega), ht1]; exact (zz_nk _).symm); done))]
              exact lv_sub hl [0, 1, 2] rfl
          · skip
            obtain ⟨t1, ht1⟩ : ∃ z, zbt N i = z + 1 := ⟨zbt N i - 1, by omega⟩
            have hbl := zbt_le N i
            have hl0 := hl
            rw [ht1, ← zz_nk] at hl
            refine lv_aload_n hx hb dX3_best_27 rfl (lv_at hl 2 rfl) ?_
            refine lv_iload_n hx hb dX3_best_28 rfl (lv_at hl 0 rfl) ?_
            refine zz_after (pc := 29) rfl (zz_runV (ci := 6) (q0 := (RX3, TX3, 22)) (b := ad 0 0) (As := [.int (nI i)]) (rest := []) hx hb hml hown hts (c_X3_loss l (K := K) (A := A) (ad := ad) (th := th) (N := N) (G := G) (L := L) hI (by first | exact hB _ _ | exact hUa _ | exact hUb _ | exact hUc _ | exact hUd _ | omega)) zw_951 zw_953 zs_42 zw_5 zw_954 zd_X3_loss ⟨Nat.le_of_ble_eq_true rfl, Nat.le_of_ble_eq_true rfl⟩ hZ.E hZ.A (zm_ob hZ.W).1 rfl rfl hZ.W hl.1 (Nat.le_of_ble_eq_true rfl) dX3_best_29 ⟨Nat.le_of_ble_eq_true rfl, Nat.le_of_ble_eq_true rfl⟩) hS (fun _ h => h.elim) (fun v_12 H locs hq_10 hF_11 hS => ?_)
            refine W.widen (k := 0) (n := 0) (Nat.le_of_ble_eq_true rfl) (Nat.le_of_ble_eq_true rfl) ?_
            obtain rfl := hq_10
            have hZ := hZ.ro hF_11
            refine W.eq (g2 := F0 m 32 ls [.int (nI (zls 6 N i))]) rfl ?_
            refine lv_aload_n hx hb dX3_best_32 rfl (lv_at hl 2 rfl) ?_
            refine lv_iload_n hx hb dX3_best_33 rfl (lv_at hl 1 rfl) ?_
            refine zz_after (pc := 34) rfl (zz_runV (ci := 6) (q0 := (RX3, TX3, 22)) (b := ad 0 0) (As := [.int (nI t1)]) (rest := [.int (nI (zls 6 N i))]) hx hb hml hown hts (c_X3_loss l (K := K) (A := A) (ad := ad) (th := th) (N := N) (G := G) (L := L) hI (by first | exact hB _ _ | exact hUa _ | exact hUb _ | exact hUc _ | exact hUd _ | omega)) zw_951 zw_953 zs_42 zw_5 zw_954 zd_X3_loss ⟨Nat.le_of_ble_eq_true rfl, Nat.le_of_ble_eq_true rfl⟩ hZ.E hZ.A (zm_ob hZ.W).1 rfl rfl hZ.W hl.1 (Nat.le_of_ble_eq_true rfl) dX3_best_34 ⟨Nat.le_of_ble_eq_true rfl, Nat.le_of_ble_eq_true rfl⟩) hS (fun _ h => h.elim) (fun v_15 H locs hq_13 hF_14 hS => ?_)
            refine W.widen (k := 0) (n := 0) (Nat.le_of_ble_eq_true rfl) (Nat.le_of_ble_eq_true rfl) ?_
            obtain rfl := hq_13
            have hZ := hZ.ro hF_14
            refine W.eq (g2 := F0 m 37 ls [.int (nI (zls 6 N t1)), .int (nI (zls 6 N i))]) rfl ?_
            refine zz_ic_ge (tgt := 42) (by first | exact hB _ _ | exact hUa _ | exact hUb _ | exact hUc _ | exact hUd _ | omega) (by first | exact hB _ _ | exact hUa _ | exact hUb _ | exact hUc _ | exact hUd _ | omega) hx hb dX3_best_37 (by decide) (fun c_16 => ?_) (fun c_16 => ?_)
            · skip
              refine zz_inc (k := 0) (lv' := [(2, .int (nI (i + 1))), (1, .int (nI t1)), (0, .ref (ad 0 0))]) hx hb dX3_best_42 hl rfl (Nat.le_of_ble_eq_true rfl) rfl (fun ls hl => ?_)
              refine lv_goto (tgt := 4) hx hb dX3_best_45 (by decide) ?_
              refine ih_i (i + 1) (by omega) (by omega) _ _ _ ?_ hS ?_
              · exact hZ
              · skip
                rw [show (.int (nI (zbt N (i + 1)) - 1) : Value) = .int (nI t1) from congrArg Value.int (by first | rfl | ((rw [zbt, if_pos ⟨by assumption, by omega⟩]; first | rfl | exact (zz_nk _).symm); done) | ((rw [zbt, if_neg (fun h => absurd h.1 (by assumption))]); done) | ((rw [zbt, if_pos ⟨by assumption, Or.inr (by rw [ht1]; simpa using (by assumption))⟩]; exact (zz_nk _).symm); done) | ((rw [zbt, if_neg (fun h => by have := h.2; rw [ht1] at this; simp at this; omega), ht1]; exact (zz_nk _).symm); done))]
                exact lv_sub hl [0, 1, 2] rfl
            · skip
              refine lv_iload_n hx hb dX3_best_40 rfl (lv_at hl 0 rfl) ?_
              refine lv_istore_n (lv' := [(1, .int (nI i)), (2, .int (nI i)), (0, .ref (ad 0 0))]) hx hb dX3_best_41 rfl hl (Nat.le_of_ble_eq_true rfl) rfl (fun ls hl => ?_)
              refine zz_inc (k := 1) (lv' := [(2, .int (nI (i + 1))), (1, .int (nI i)), (0, .ref (ad 0 0))]) hx hb dX3_best_42 hl rfl (Nat.le_of_ble_eq_true rfl) rfl (fun ls hl => ?_)
              refine lv_goto (tgt := 4) hx hb dX3_best_45 (by decide) ?_
              refine ih_i (i + 1) (by omega) (by omega) _ _ _ ?_ hS ?_
              · exact hZ
              · skip
                rw [show (.int (nI (zbt N (i + 1)) - 1) : Value) = .int (nI i) from congrArg Value.int (by first | rfl | ((rw [zbt, if_pos ⟨by assumption, by omega⟩]; first | rfl | exact (zz_nk _).symm); done) | ((rw [zbt, if_neg (fun h => absurd h.1 (by assumption))]); done) | ((rw [zbt, if_pos ⟨by assumption, Or.inr (by rw [ht1]; simpa using (by assumption))⟩]; exact (zz_nk _).symm); done) | ((rw [zbt, if_neg (fun h => by have := h.2; rw [ht1] at this; simp at this; omega), ht1]; exact (zz_nk _).symm); done))]
                exact lv_sub hl [0, 1, 2] rfl
  refine hL_2 (2 ^ N 0 0 + 1) 0 (by first | omega | exact Nat.zero_le _) (by first | omega | (rw [Nat.zero_add]; exact Nat.lt_succ_self _)) _ _ _ hZ hS ?_
  exact lv_sub hl [0, 1, 2] rfl

set_option maxHeartbeats 4000000 in
set_option maxRecDepth 100000 in
theorem c_X3_plan (l : Launch) {K : zz_G} {A : Nat → Prop} {ad : Nat → Nat → Nat} {th : Int32} {N : Nat → Nat → Nat} {G : Nat → Nat → Int32} {L : Nat → Int64} (hI : zq N)  : zz_C l yX3_plan cX3_plan 1 (Option.some FieldType.int) ({ frames := 3, cells := 0, slots := 0, locals := 68 } : Room) K A [.ref (ad 0 0)] (fun H => zz_W K A ad (zm_c K ad th N G L) H) (fun v9 _ H9 => v9 = some (.int (nI (zplan N))) ∧ zz_W K A ad (zm_c K ad (nI 0) N G L) H9) zz_nx A := by
  refine zz_body (by decide +kernel) (Nat.le_of_ble_eq_true rfl) ?_
  intro p e s m below meth c ls hx hb hr hml hts hown hlocks hmn htab hE hA hP hl
  have hN := hE.N
  have hK := hE.K
  have hown : s.vm.findClass RX3 = some m.cls := hown
  have hl : lv_has ls 1 [(0, .ref (ad 0 0))] := hl
  have hZ : zz_Z K A s ad (zm_c K ad th N G L) s.heap := ⟨hE, hA, hP⟩
  have hS : va_S zz_no s.heap s.heap [] := va_S.rf
  obtain ⟨H, hH⟩ : ∃ z, z = s.heap := ⟨_, rfl⟩
  have hS0 : va_S zz_no s.heap H [] := by rw [hH]; exact hS
  rw [← hH] at hZ
  have hE0 := hE
  clear hS
  have hS := hS0
  have hB := hI.B
  have h00 := hI.f
  have h01 := hI.p
  have h02 := hI.b
  show W p l e _ s m _ below meth c s.heap [] 0 0 _ (F0 m 0 ls [])
  rw [← hH]
  refine lv_aload_n hx hb dX3_plan_0 rfl (lv_at hl 0 rfl) ?_
  refine lv_aload_n hx hb dX3_plan_1 rfl (lv_at hl 0 rfl) ?_
  refine zz_after (pc := 2) rfl (zz_runV (ci := 6) (q0 := (RX3, TX3, 22)) (b := ad 0 0) (As := []) (rest := [.ref (ad 0 0)]) hx hb hml hown hts (c_X3_best l (K := K) (A := A) (ad := ad) (th := th) (N := N) (G := G) (L := L) hI ) zw_943 zw_945 zs_40 zw_5 zw_946 zd_X3_best ⟨Nat.le_of_ble_eq_true rfl, Nat.le_of_ble_eq_true rfl⟩ hZ.E hZ.A (zm_ob hZ.W).1 rfl rfl hZ.W hl.1 (Nat.le_of_ble_eq_true rfl) dX3_plan_2 ⟨Nat.le_of_ble_eq_true rfl, Nat.le_of_ble_eq_true rfl⟩) hS (fun _ h => h.elim) (fun v_3 H locs hq_1 hF_2 hS => ?_)
  refine W.widen (k := 0) (n := 0) (Nat.le_of_ble_eq_true rfl) (Nat.le_of_ble_eq_true rfl) ?_
  obtain rfl := hq_1
  have hZ := hZ.ro hF_2
  refine W.eq (g2 := F0 m 5 ls [.int (nI (zplan N)), .ref (ad 0 0)]) rfl ?_
  have hS : va_S A s.heap H _ := zz_Smono hS (fun _ h => h.elim)
  refine zz_after (pc := 5) rfl (zz_runV (ci := 6) (q0 := (RX3, TX3, 22)) (b := ad 0 0) (As := [.int (nI (zplan N))]) (rest := []) hx hb hml hown hts (c_X3_tells l (K := K) (A := A) (ad := ad) (th := th) (N := N) (G := G) (L := L) (nI (zplan N))) zw_891 zw_893 zs_35 zw_5 zw_894 zd_X3_tells ⟨Nat.le_of_ble_eq_true rfl, Nat.le_of_ble_eq_true rfl⟩ hZ.E hZ.A (zm_ob hZ.W).1 rfl rfl hZ.W hl.1 (Nat.le_of_ble_eq_true rfl) dX3_plan_5 ⟨Nat.le_of_ble_eq_true rfl, Nat.le_of_ble_eq_true rfl⟩) hS (fun _ h => h) (fun v_6 H locs hq_4 hF_5 hS => ?_)
  refine W.widen (k := 0) (n := 0) (Nat.le_of_ble_eq_true rfl) (Nat.le_of_ble_eq_true rfl) ?_
  obtain ⟨rfl, hW9⟩ := hq_4
  have hZ : zz_Z K A s ad (zm_c K ad (nI 0) N G L) H := hZ.mut hF_5 hW9
  refine W.eq (g2 := F0 m 8 ls [.int (nI (zplan N))]) rfl ?_
  refine zz_iret hx hb hr hlocks hS (Nat.le_of_ble_eq_true rfl) (Nat.le_of_ble_eq_true rfl) dX3_plan_8 ?_
  refine ⟨?_, ?_⟩
  · skip
    first | rfl | (simp []; done) | (simp_all; done) | (split <;> first | rfl | omega | (simp_all; done); done)
  · first | exact hZ.W | (refine zm_co ?_ ?_ ?_ ?_ hZ.W <;> first | rfl | (simp []; done) | (simp_all; done) | (split <;> first | rfl | omega | (simp_all; done); done))

set_option maxHeartbeats 4000000 in
set_option maxRecDepth 100000 in
theorem c_X3_planByTrying (l : Launch) {K : zz_G} {A : Nat → Prop} {ad : Nat → Nat → Nat} {th : Int32} {N : Nat → Nat → Nat} {G : Nat → Nat → Int32} {L : Nat → Int64} (hI : zq N)  : zz_C l yX3_planByTrying cX3_planByTrying 1 (Option.some FieldType.int) ({ frames := 3, cells := 0, slots := 0, locals := 68 } : Room) K A [.ref (ad 0 0)] (fun H => zz_W K A ad (zm_c K ad th N G L) H) (fun v9 _ H9 => v9 = some (.int (nI (zplan N))) ∧ zz_W K A ad (zm_c K ad (nI 0) N G L) H9) zz_nx A := by
  refine zz_body (by decide +kernel) (Nat.le_of_ble_eq_true rfl) ?_
  intro p e s m below meth c ls hx hb hr hml hts hown hlocks hmn htab hE hA hP hl
  have hN := hE.N
  have hK := hE.K
  have hown : s.vm.findClass RX3 = some m.cls := hown
  have hl : lv_has ls 1 [(0, .ref (ad 0 0))] := hl
  have hZ : zz_Z K A s ad (zm_c K ad th N G L) s.heap := ⟨hE, hA, hP⟩
  have hS : va_S zz_no s.heap s.heap [] := va_S.rf
  obtain ⟨H, hH⟩ : ∃ z, z = s.heap := ⟨_, rfl⟩
  have hS0 : va_S zz_no s.heap H [] := by rw [hH]; exact hS
  rw [← hH] at hZ
  have hE0 := hE
  clear hS
  have hS := hS0
  have hB := hI.B
  have h00 := hI.f
  have h01 := hI.p
  have h02 := hI.b
  show W p l e _ s m _ below meth c s.heap [] 0 0 _ (F0 m 0 ls [])
  rw [← hH]
  refine lv_aload_n hx hb dX3_planByTrying_0 rfl (lv_at hl 0 rfl) ?_
  refine lv_aload_n hx hb dX3_planByTrying_1 rfl (lv_at hl 0 rfl) ?_
  refine zz_after (pc := 2) rfl (zz_runV (ci := 6) (q0 := (RX3, TX3, 22)) (b := ad 0 0) (As := []) (rest := [.ref (ad 0 0)]) hx hb hml hown hts (c_X3_best l (K := K) (A := A) (ad := ad) (th := th) (N := N) (G := G) (L := L) hI ) zw_943 zw_945 zs_40 zw_5 zw_946 zd_X3_best ⟨Nat.le_of_ble_eq_true rfl, Nat.le_of_ble_eq_true rfl⟩ hZ.E hZ.A (zm_ob hZ.W).1 rfl rfl hZ.W hl.1 (Nat.le_of_ble_eq_true rfl) dX3_planByTrying_2 ⟨Nat.le_of_ble_eq_true rfl, Nat.le_of_ble_eq_true rfl⟩) hS (fun _ h => h.elim) (fun v_3 H locs hq_1 hF_2 hS => ?_)
  refine W.widen (k := 0) (n := 0) (Nat.le_of_ble_eq_true rfl) (Nat.le_of_ble_eq_true rfl) ?_
  obtain rfl := hq_1
  have hZ := hZ.ro hF_2
  refine W.eq (g2 := F0 m 5 ls [.int (nI (zplan N)), .ref (ad 0 0)]) rfl ?_
  have hS : va_S A s.heap H _ := zz_Smono hS (fun _ h => h.elim)
  refine zz_after (pc := 5) rfl (zz_runV (ci := 6) (q0 := (RX3, TX3, 22)) (b := ad 0 0) (As := [.int (nI (zplan N))]) (rest := []) hx hb hml hown hts (c_X3_tells l (K := K) (A := A) (ad := ad) (th := th) (N := N) (G := G) (L := L) (nI (zplan N))) zw_891 zw_893 zs_35 zw_5 zw_894 zd_X3_tells ⟨Nat.le_of_ble_eq_true rfl, Nat.le_of_ble_eq_true rfl⟩ hZ.E hZ.A (zm_ob hZ.W).1 rfl rfl hZ.W hl.1 (Nat.le_of_ble_eq_true rfl) dX3_planByTrying_5 ⟨Nat.le_of_ble_eq_true rfl, Nat.le_of_ble_eq_true rfl⟩) hS (fun _ h => h) (fun v_6 H locs hq_4 hF_5 hS => ?_)
  refine W.widen (k := 0) (n := 0) (Nat.le_of_ble_eq_true rfl) (Nat.le_of_ble_eq_true rfl) ?_
  obtain ⟨rfl, hW9⟩ := hq_4
  have hZ : zz_Z K A s ad (zm_c K ad (nI 0) N G L) H := hZ.mut hF_5 hW9
  refine W.eq (g2 := F0 m 8 ls [.int (nI (zplan N))]) rfl ?_
  refine zz_iret hx hb hr hlocks hS (Nat.le_of_ble_eq_true rfl) (Nat.le_of_ble_eq_true rfl) dX3_planByTrying_8 ?_
  refine ⟨?_, ?_⟩
  · skip
    first | rfl | (simp []; done) | (simp_all; done) | (split <;> first | rfl | omega | (simp_all; done); done)
  · first | exact hZ.W | (refine zm_co ?_ ?_ ?_ ?_ hZ.W <;> first | rfl | (simp []; done) | (simp_all; done) | (split <;> first | rfl | omega | (simp_all; done); done))

set_option maxHeartbeats 4000000 in
set_option maxRecDepth 100000 in
theorem c_X3_planLoss (l : Launch) {K : zz_G} {A : Nat → Prop} {ad : Nat → Nat → Nat} {th : Int32} {N : Nat → Nat → Nat} {G : Nat → Nat → Int32} {L : Nat → Int64} (hI : zq N)  : zz_C l yX3_planLoss cX3_planLoss 1 (Option.some FieldType.int) ({ frames := 3, cells := 0, slots := 0, locals := 68 } : Room) K A [.ref (ad 0 0)] (fun H => zz_W K A ad (zm_c K ad th N G L) H) (fun v9 _ H9 => v9 = some (.int (nI (zls 6 N (zplan N)))) ∧ zz_W K A ad (zm_c K ad (nI 0) N G L) H9) zz_nx A := by
  refine zz_body (by decide +kernel) (Nat.le_of_ble_eq_true rfl) ?_
  intro p e s m below meth c ls hx hb hr hml hts hown hlocks hmn htab hE hA hP hl
  have hN := hE.N
  have hK := hE.K
  have hown : s.vm.findClass RX3 = some m.cls := hown
  have hl : lv_has ls 1 [(0, .ref (ad 0 0))] := hl
  have hZ : zz_Z K A s ad (zm_c K ad th N G L) s.heap := ⟨hE, hA, hP⟩
  have hS : va_S zz_no s.heap s.heap [] := va_S.rf
  obtain ⟨H, hH⟩ : ∃ z, z = s.heap := ⟨_, rfl⟩
  have hS0 : va_S zz_no s.heap H [] := by rw [hH]; exact hS
  rw [← hH] at hZ
  have hE0 := hE
  clear hS
  have hS := hS0
  have hB := hI.B
  have h00 := hI.f
  have h01 := hI.p
  have h02 := hI.b
  have hUd : ∀ z : Nat, zplan N < 2 ^ 31 := fun _ => zplan_b hI
  have hUp := zplan_b hI
  show W p l e _ s m _ below meth c s.heap [] 0 0 _ (F0 m 0 ls [])
  rw [← hH]
  refine lv_aload_n hx hb dX3_planLoss_0 rfl (lv_at hl 0 rfl) ?_
  refine lv_aload_n hx hb dX3_planLoss_1 rfl (lv_at hl 0 rfl) ?_
  refine lv_aload_n hx hb dX3_planLoss_2 rfl (lv_at hl 0 rfl) ?_
  refine zz_after (pc := 3) rfl (zz_runV (ci := 6) (q0 := (RX3, TX3, 22)) (b := ad 0 0) (As := []) (rest := [.ref (ad 0 0), .ref (ad 0 0)]) hx hb hml hown hts (c_X3_best l (K := K) (A := A) (ad := ad) (th := th) (N := N) (G := G) (L := L) hI ) zw_943 zw_945 zs_40 zw_5 zw_946 zd_X3_best ⟨Nat.le_of_ble_eq_true rfl, Nat.le_of_ble_eq_true rfl⟩ hZ.E hZ.A (zm_ob hZ.W).1 rfl rfl hZ.W hl.1 (Nat.le_of_ble_eq_true rfl) dX3_planLoss_3 ⟨Nat.le_of_ble_eq_true rfl, Nat.le_of_ble_eq_true rfl⟩) hS (fun _ h => h.elim) (fun v_3 H locs hq_1 hF_2 hS => ?_)
  refine W.widen (k := 0) (n := 0) (Nat.le_of_ble_eq_true rfl) (Nat.le_of_ble_eq_true rfl) ?_
  obtain rfl := hq_1
  have hZ := hZ.ro hF_2
  refine W.eq (g2 := F0 m 6 ls [.int (nI (zplan N)), .ref (ad 0 0), .ref (ad 0 0)]) rfl ?_
  refine zz_after (pc := 6) rfl (zz_runV (ci := 6) (q0 := (RX3, TX3, 22)) (b := ad 0 0) (As := [.int (nI (zplan N))]) (rest := [.ref (ad 0 0)]) hx hb hml hown hts (c_X3_loss l (K := K) (A := A) (ad := ad) (th := th) (N := N) (G := G) (L := L) hI (by first | exact hB _ _ | exact hUa _ | exact hUb _ | exact hUc _ | exact hUd _ | omega)) zw_951 zw_953 zs_42 zw_5 zw_954 zd_X3_loss ⟨Nat.le_of_ble_eq_true rfl, Nat.le_of_ble_eq_true rfl⟩ hZ.E hZ.A (zm_ob hZ.W).1 rfl rfl hZ.W hl.1 (Nat.le_of_ble_eq_true rfl) dX3_planLoss_6 ⟨Nat.le_of_ble_eq_true rfl, Nat.le_of_ble_eq_true rfl⟩) hS (fun _ h => h.elim) (fun v_6 H locs hq_4 hF_5 hS => ?_)
  refine W.widen (k := 0) (n := 0) (Nat.le_of_ble_eq_true rfl) (Nat.le_of_ble_eq_true rfl) ?_
  obtain rfl := hq_4
  have hZ := hZ.ro hF_5
  refine W.eq (g2 := F0 m 9 ls [.int (nI (zls 6 N (zplan N))), .ref (ad 0 0)]) rfl ?_
  have hS : va_S A s.heap H _ := zz_Smono hS (fun _ h => h.elim)
  refine zz_after (pc := 9) rfl (zz_runV (ci := 6) (q0 := (RX3, TX3, 22)) (b := ad 0 0) (As := [.int (nI (zls 6 N (zplan N)))]) (rest := []) hx hb hml hown hts (c_X3_tells l (K := K) (A := A) (ad := ad) (th := th) (N := N) (G := G) (L := L) (nI (zls 6 N (zplan N)))) zw_891 zw_893 zs_35 zw_5 zw_894 zd_X3_tells ⟨Nat.le_of_ble_eq_true rfl, Nat.le_of_ble_eq_true rfl⟩ hZ.E hZ.A (zm_ob hZ.W).1 rfl rfl hZ.W hl.1 (Nat.le_of_ble_eq_true rfl) dX3_planLoss_9 ⟨Nat.le_of_ble_eq_true rfl, Nat.le_of_ble_eq_true rfl⟩) hS (fun _ h => h) (fun v_9 H locs hq_7 hF_8 hS => ?_)
  refine W.widen (k := 0) (n := 0) (Nat.le_of_ble_eq_true rfl) (Nat.le_of_ble_eq_true rfl) ?_
  obtain ⟨rfl, hW9⟩ := hq_7
  have hZ : zz_Z K A s ad (zm_c K ad (nI 0) N G L) H := hZ.mut hF_8 hW9
  refine W.eq (g2 := F0 m 12 ls [.int (nI (zls 6 N (zplan N)))]) rfl ?_
  refine zz_iret hx hb hr hlocks hS (Nat.le_of_ble_eq_true rfl) (Nat.le_of_ble_eq_true rfl) dX3_planLoss_12 ?_
  refine ⟨?_, ?_⟩
  · skip
    first | rfl | (simp []; done) | (simp_all; done) | (split <;> first | rfl | omega | (simp_all; done); done)
  · first | exact hZ.W | (refine zm_co ?_ ?_ ?_ ?_ hZ.W <;> first | rfl | (simp []; done) | (simp_all; done) | (split <;> first | rfl | omega | (simp_all; done); done))

set_option maxHeartbeats 4000000 in
set_option maxRecDepth 100000 in
theorem c_X3_lossOf (l : Launch) {K : zz_G} {A : Nat → Prop} {ad : Nat → Nat → Nat} {th : Int32} {N : Nat → Nat → Nat} {G : Nat → Nat → Int32} {L : Nat → Int64} (hI : zq N) (x : Int32) : zz_C l yX3_lossOf cX3_lossOf 2 (Option.some FieldType.int) ({ frames := 2, cells := 0, slots := 0, locals := 46 } : Room) K A [.ref (ad 0 0), .int x] (fun H => zz_W K A ad (zm_c K ad th N G L) H) (fun v9 _ H9 => v9 = some (.int ((zs_lossOf N x).2)) ∧ zz_W K A ad (zm_c K ad (nI (zs_lossOf N x).1) N G L) H9) zz_nx A := by
  refine zz_body (by decide +kernel) (Nat.le_of_ble_eq_true rfl) ?_
  intro p e s m below meth c ls hx hb hr hml hts hown hlocks hmn htab hE hA hP hl
  have hN := hE.N
  have hK := hE.K
  have hown : s.vm.findClass RX3 = some m.cls := hown
  have hl : lv_has ls 2 [(0, .ref (ad 0 0)), (1, .int x)] := hl
  have hZ : zz_Z K A s ad (zm_c K ad th N G L) s.heap := ⟨hE, hA, hP⟩
  have hS : va_S zz_no s.heap s.heap [] := va_S.rf
  obtain ⟨H, hH⟩ : ∃ z, z = s.heap := ⟨_, rfl⟩
  have hS0 : va_S zz_no s.heap H [] := by rw [hH]; exact hS
  rw [← hH] at hZ
  have hE0 := hE
  clear hS
  have hS := hS0
  have hB := hI.B
  have h00 := hI.f
  have h01 := hI.p
  have h02 := hI.b
  have hUx := zss_b hI
  have hUb : ∀ S, zls 6 N S < 2 ^ 31 := fun S => by have := zls_b hI (c := 6) S (by decide); omega
  have hUa : ∀ S, zss N S < 2 ^ 31 := fun S => by have := zss_b hI S; omega
  have hp2 : 2 ^ N 0 0 ≤ 64 := Nat.le_trans (Nat.pow_le_pow_right (by decide) h00) (by decide)
  show W p l e _ s m _ below meth c s.heap [] 0 0 _ (F0 m 0 ls [])
  rw [← hH]
  refine lv_iload_n hx hb dX3_lossOf_0 rfl (lv_at hl 1 rfl) ?_
  refine zz_con 0 hx hb dX3_lossOf_1 (by decide) ?_
  refine zz_con 1 hx hb dX3_lossOf_2 (by decide) ?_
  refine lv_aload_n hx hb dX3_lossOf_3 rfl (lv_at hl 0 rfl) ?_
  refine zz_get (ci := 6) (C := RX3) (T := TX3) (N := 22) (v := .int (nI (N 0 0))) hx hb hts hown hK (zm_ob hZ.W).1 rfl zf_X3 1 (by decide) zw_809 (fun _ h9 => h9) rfl dX3_lossOf_4 ?_
  refine lv_ishl hx hb dX3_lossOf_7 ?_
  refine zz_cv (y := nI (2 ^ (N 0 0))) (zz_bit1b h00) ?_
  refine zz_con 1 hx hb dX3_lossOf_8 (by decide) ?_
  refine lv_isub hx hb dX3_lossOf_9 ?_
  refine zz_after (pc := 10) rfl (zz_runS (As := [.int x, .int (nI 0), .int ((nI (2 ^ (N 0 0))) - (nI 1))]) (rest := []) hx hb hml hown hts (c_X3_in l (K := K) (A := A) x (nI 0) ((nI (2 ^ (N 0 0))) - (nI 1))) zw_884 zw_885 zw_5 zw_886 zd_X3_in ⟨Nat.le_of_ble_eq_true rfl, Nat.le_of_ble_eq_true rfl⟩ hZ.E hZ.A trivial hl.1 (Nat.le_of_ble_eq_true rfl) dX3_lossOf_10 ⟨Nat.le_of_ble_eq_true rfl, Nat.le_of_ble_eq_true rfl⟩) hS (fun _ h => h.elim) (fun v_3 H locs hq_1 hF_2 hS => ?_)
  refine W.widen (k := 0) (n := 0) (Nat.le_of_ble_eq_true rfl) (Nat.le_of_ble_eq_true rfl) ?_
  obtain rfl := hq_1
  have hZ := hZ.ro hF_2
  refine W.eq (g2 := F0 m 13 ls [.int (zz_bo (nI 0 ≤ x ∧ x ≤ (nI (2 ^ (N 0 0))) - (nI 1)))]) rfl ?_
  refine zz_bi_ne (tgt := 22) hx hb dX3_lossOf_13 (by decide) (fun c_4 => ?_) (fun c_4 => ?_)
  · skip
    obtain ⟨j, hj, rfl⟩ := zz_rng (n := 2 ^ N 0 0) (by omega) ((zin_in (by omega)).mp c_4).1 ((zin_in (by omega)).mp c_4).2
    have hjc : (nI j).toNatClampNeg = j := nI_clamp (by omega)
    have hjb : j < 2 ^ 31 := by omega
    refine lv_aload_n hx hb dX3_lossOf_22 rfl (lv_at hl 0 rfl) ?_
    refine lv_iload_n hx hb dX3_lossOf_23 rfl (lv_at hl 1 rfl) ?_
    refine zz_after (pc := 24) rfl (zz_runV (ci := 6) (q0 := (RX3, TX3, 22)) (b := ad 0 0) (As := [.int (nI j)]) (rest := []) hx hb hml hown hts (c_X3_fits l (K := K) (A := A) (ad := ad) (th := th) (N := N) (G := G) (L := L) hI (by first | exact hB _ _ | exact hUa _ | exact hUb _ | exact hUc _ | exact hUd _ | omega)) zw_947 zw_949 zs_41 zw_5 zw_950 zd_X3_fits ⟨Nat.le_of_ble_eq_true rfl, Nat.le_of_ble_eq_true rfl⟩ hZ.E hZ.A (zm_ob hZ.W).1 rfl rfl hZ.W hl.1 (Nat.le_of_ble_eq_true rfl) dX3_lossOf_24 ⟨Nat.le_of_ble_eq_true rfl, Nat.le_of_ble_eq_true rfl⟩) hS (fun _ h => h.elim) (fun v_7 H locs hq_5 hF_6 hS => ?_)
    refine W.widen (k := 0) (n := 0) (Nat.le_of_ble_eq_true rfl) (Nat.le_of_ble_eq_true rfl) ?_
    obtain rfl := hq_5
    have hZ := hZ.ro hF_6
    refine W.eq (g2 := F0 m 27 ls [.int (zz_bo (zfit N j))]) rfl ?_
    refine zz_bi_eq (tgt := 42) hx hb dX3_lossOf_27 (by decide) (fun c_8 => ?_) (fun c_8 => ?_)
    · skip
      refine lv_aload_n hx hb dX3_lossOf_42 rfl (lv_at hl 0 rfl) ?_
      refine zz_con 2 hx hb dX3_lossOf_43 (by decide) ?_
      have hS : va_S A s.heap H _ := zz_Smono hS (fun _ h => h.elim)
      refine zz_after (pc := 44) rfl (zz_runV (ci := 6) (q0 := (RX3, TX3, 22)) (b := ad 0 0) (As := [.int (nI 2)]) (rest := []) hx hb hml hown hts (c_X3_fails l (K := K) (A := A) (ad := ad) (th := th) (N := N) (G := G) (L := L) (nI 2)) zw_887 zw_889 zs_34 zw_5 zw_890 zd_X3_fails ⟨Nat.le_of_ble_eq_true rfl, Nat.le_of_ble_eq_true rfl⟩ hZ.E hZ.A (zm_ob hZ.W).1 rfl rfl hZ.W hl.1 (Nat.le_of_ble_eq_true rfl) dX3_lossOf_44 ⟨Nat.le_of_ble_eq_true rfl, Nat.le_of_ble_eq_true rfl⟩) hS (fun _ h => h) (fun v_11 H locs hq_9 hF_10 hS => ?_)
      refine W.widen (k := 0) (n := 0) (Nat.le_of_ble_eq_true rfl) (Nat.le_of_ble_eq_true rfl) ?_
      obtain ⟨rfl, hW9⟩ := hq_9
      have hZ : zz_Z K A s ad (zm_c K ad (nI 2) N G L) H := hZ.mut hF_10 hW9
      refine W.eq (g2 := F0 m 47 ls [.int (nI 0)]) rfl ?_
      refine zz_iret hx hb hr hlocks hS (Nat.le_of_ble_eq_true rfl) (Nat.le_of_ble_eq_true rfl) dX3_lossOf_47 ?_
      refine ⟨?_, ?_⟩
      · skip
        first | rfl | ((have := zin_nI hj (by omega); simp [zs_lossOf, c_4, hjc, c_8]; done); done) | ((have := zin_nI hj (by omega); simp_all [zs_lossOf]; done); done) | (simp [zs_lossOf, c_4, hjc, c_8]; done) | (simp_all [zs_lossOf]; done) | (simp [c_4, hjc, c_8]; done) | (simp_all; done) | (split <;> first | rfl | omega | (simp_all; done); done)
      · first | exact hZ.W | (refine zm_co ?_ ?_ ?_ ?_ hZ.W <;> first | rfl | ((have := zin_nI hj (by omega); simp [zs_lossOf, c_4, hjc, c_8]; done); done) | ((have := zin_nI hj (by omega); simp_all [zs_lossOf]; done); done) | (simp [zs_lossOf, c_4, hjc, c_8]; done) | (simp_all [zs_lossOf]; done) | (simp [c_4, hjc, c_8]; done) | (simp_all; done) | (split <;> first | rfl | omega | (simp_all; done); done))
    · skip
      refine lv_aload_n hx hb dX3_lossOf_30 rfl (lv_at hl 0 rfl) ?_
      refine lv_aload_n hx hb dX3_lossOf_31 rfl (lv_at hl 0 rfl) ?_
      refine lv_iload_n hx hb dX3_lossOf_32 rfl (lv_at hl 1 rfl) ?_
      refine zz_after (pc := 33) rfl (zz_runV (ci := 6) (q0 := (RX3, TX3, 22)) (b := ad 0 0) (As := [.int (nI j)]) (rest := [.ref (ad 0 0)]) hx hb hml hown hts (c_X3_loss l (K := K) (A := A) (ad := ad) (th := th) (N := N) (G := G) (L := L) hI (by first | exact hB _ _ | exact hUa _ | exact hUb _ | exact hUc _ | exact hUd _ | omega)) zw_951 zw_953 zs_42 zw_5 zw_954 zd_X3_loss ⟨Nat.le_of_ble_eq_true rfl, Nat.le_of_ble_eq_true rfl⟩ hZ.E hZ.A (zm_ob hZ.W).1 rfl rfl hZ.W hl.1 (Nat.le_of_ble_eq_true rfl) dX3_lossOf_33 ⟨Nat.le_of_ble_eq_true rfl, Nat.le_of_ble_eq_true rfl⟩) hS (fun _ h => h.elim) (fun v_14 H locs hq_12 hF_13 hS => ?_)
      refine W.widen (k := 0) (n := 0) (Nat.le_of_ble_eq_true rfl) (Nat.le_of_ble_eq_true rfl) ?_
      obtain rfl := hq_12
      have hZ := hZ.ro hF_13
      refine W.eq (g2 := F0 m 36 ls [.int (nI (zls 6 N j)), .ref (ad 0 0)]) rfl ?_
      have hS : va_S A s.heap H _ := zz_Smono hS (fun _ h => h.elim)
      refine zz_after (pc := 36) rfl (zz_runV (ci := 6) (q0 := (RX3, TX3, 22)) (b := ad 0 0) (As := [.int (nI (zls 6 N j))]) (rest := []) hx hb hml hown hts (c_X3_tells l (K := K) (A := A) (ad := ad) (th := th) (N := N) (G := G) (L := L) (nI (zls 6 N j))) zw_891 zw_893 zs_35 zw_5 zw_894 zd_X3_tells ⟨Nat.le_of_ble_eq_true rfl, Nat.le_of_ble_eq_true rfl⟩ hZ.E hZ.A (zm_ob hZ.W).1 rfl rfl hZ.W hl.1 (Nat.le_of_ble_eq_true rfl) dX3_lossOf_36 ⟨Nat.le_of_ble_eq_true rfl, Nat.le_of_ble_eq_true rfl⟩) hS (fun _ h => h) (fun v_17 H locs hq_15 hF_16 hS => ?_)
      refine W.widen (k := 0) (n := 0) (Nat.le_of_ble_eq_true rfl) (Nat.le_of_ble_eq_true rfl) ?_
      obtain ⟨rfl, hW9⟩ := hq_15
      have hZ : zz_Z K A s ad (zm_c K ad (nI 0) N G L) H := hZ.mut hF_16 hW9
      refine W.eq (g2 := F0 m 39 ls [.int (nI (zls 6 N j))]) rfl ?_
      refine lv_goto (tgt := 47) hx hb dX3_lossOf_39 (by decide) ?_
      refine zz_iret hx hb hr hlocks hS (Nat.le_of_ble_eq_true rfl) (Nat.le_of_ble_eq_true rfl) dX3_lossOf_47 ?_
      refine ⟨?_, ?_⟩
      · skip
        first | rfl | ((have := zin_nI hj (by omega); simp [zs_lossOf, c_4, hjc, c_8]; done); done) | ((have := zin_nI hj (by omega); simp_all [zs_lossOf]; done); done) | (simp [zs_lossOf, c_4, hjc, c_8]; done) | (simp_all [zs_lossOf]; done) | (simp [c_4, hjc, c_8]; done) | (simp_all; done) | (split <;> first | rfl | omega | (simp_all; done); done)
      · first | exact hZ.W | (refine zm_co ?_ ?_ ?_ ?_ hZ.W <;> first | rfl | ((have := zin_nI hj (by omega); simp [zs_lossOf, c_4, hjc, c_8]; done); done) | ((have := zin_nI hj (by omega); simp_all [zs_lossOf]; done); done) | (simp [zs_lossOf, c_4, hjc, c_8]; done) | (simp_all [zs_lossOf]; done) | (simp [c_4, hjc, c_8]; done) | (simp_all; done) | (split <;> first | rfl | omega | (simp_all; done); done))
  · skip
    rw [zin_in (by omega)] at c_4
    refine lv_aload_n hx hb dX3_lossOf_16 rfl (lv_at hl 0 rfl) ?_
    refine zz_con 1 hx hb dX3_lossOf_17 (by decide) ?_
    have hS : va_S A s.heap H _ := zz_Smono hS (fun _ h => h.elim)
    refine zz_after (pc := 18) rfl (zz_runV (ci := 6) (q0 := (RX3, TX3, 22)) (b := ad 0 0) (As := [.int (nI 1)]) (rest := []) hx hb hml hown hts (c_X3_fails l (K := K) (A := A) (ad := ad) (th := th) (N := N) (G := G) (L := L) (nI 1)) zw_887 zw_889 zs_34 zw_5 zw_890 zd_X3_fails ⟨Nat.le_of_ble_eq_true rfl, Nat.le_of_ble_eq_true rfl⟩ hZ.E hZ.A (zm_ob hZ.W).1 rfl rfl hZ.W hl.1 (Nat.le_of_ble_eq_true rfl) dX3_lossOf_18 ⟨Nat.le_of_ble_eq_true rfl, Nat.le_of_ble_eq_true rfl⟩) hS (fun _ h => h) (fun v_20 H locs hq_18 hF_19 hS => ?_)
    refine W.widen (k := 0) (n := 0) (Nat.le_of_ble_eq_true rfl) (Nat.le_of_ble_eq_true rfl) ?_
    obtain ⟨rfl, hW9⟩ := hq_18
    have hZ : zz_Z K A s ad (zm_c K ad (nI 1) N G L) H := hZ.mut hF_19 hW9
    refine W.eq (g2 := F0 m 21 ls [.int (nI 0)]) rfl ?_
    refine zz_iret hx hb hr hlocks hS (Nat.le_of_ble_eq_true rfl) (Nat.le_of_ble_eq_true rfl) dX3_lossOf_21 ?_
    refine ⟨?_, ?_⟩
    · skip
      first | rfl | ((have := zin_nI hj (by omega); simp [zs_lossOf, c_4]; done); done) | ((have := zin_nI hj (by omega); simp_all [zs_lossOf]; done); done) | (simp [zs_lossOf, c_4]; done) | (simp_all [zs_lossOf]; done) | (simp [c_4]; done) | (simp_all; done) | (split <;> first | rfl | omega | (simp_all; done); done)
    · first | exact hZ.W | (refine zm_co ?_ ?_ ?_ ?_ hZ.W <;> first | rfl | ((have := zin_nI hj (by omega); simp [zs_lossOf, c_4]; done); done) | ((have := zin_nI hj (by omega); simp_all [zs_lossOf]; done); done) | (simp [zs_lossOf, c_4]; done) | (simp_all [zs_lossOf]; done) | (simp [c_4]; done) | (simp_all; done) | (split <;> first | rfl | omega | (simp_all; done); done))

set_option maxHeartbeats 4000000 in
set_option maxRecDepth 100000 in
theorem c_X3_sitting (l : Launch) {K : zz_G} {A : Nat → Prop} {ad : Nat → Nat → Nat} {th : Int32} {N : Nat → Nat → Nat} {G : Nat → Nat → Int32} {L : Nat → Int64} (hI : zq N) {f c1 : Nat} (hf : f < 2 ^ 30) (hc1 : c1 < 2 ^ 30) : zz_C l yX3_sitting cX3_sitting 5 (Option.some FieldType.int) ({ frames := 0, cells := 0, slots := 0, locals := 0 } : Room) K A [.ref (ad 0 0), .int (nI f), .int (nI c1 - 1)] (fun H => zz_W K A ad (zm_c K ad th N G L) H) (fun v9 _ _ => v9 = some (.int (nI (zsit N f c1)))) zz_nx zz_no := by
  refine zz_body (by decide +kernel) (Nat.le_of_ble_eq_true rfl) ?_
  intro p e s m below meth c ls hx hb hr hml hts hown hlocks hmn htab hE hA hP hl
  have hN := hE.N
  have hK := hE.K
  have hown : s.vm.findClass RX3 = some m.cls := hown
  have hl : lv_has ls 5 [(0, .ref (ad 0 0)), (1, .int (nI f)), (2, .int (nI c1 - 1))] := hl
  have hZ : zz_Z K A s ad (zm_c K ad th N G L) s.heap := ⟨hE, hA, hP⟩
  have hS : va_S zz_no s.heap s.heap [] := va_S.rf
  obtain ⟨H, hH⟩ : ∃ z, z = s.heap := ⟨_, rfl⟩
  have hS0 : va_S zz_no s.heap H [] := by rw [hH]; exact hS
  rw [← hH] at hZ
  have hE0 := hE
  clear hS
  have hS := hS0
  have hB := hI.B
  have h00 := hI.f
  have h01 := hI.p
  have h02 := hI.b
  show W p l e _ s m _ below meth c s.heap [] 0 0 _ (F0 m 0 ls [])
  rw [← hH]
  refine zz_con 0 hx hb dX3_sitting_0 (by decide) ?_
  refine lv_istore_n (lv' := [(3, .int (nI 0)), (0, .ref (ad 0 0)), (1, .int (nI f)), (2, .int (nI c1 - 1))]) hx hb dX3_sitting_1 rfl hl (Nat.le_of_ble_eq_true rfl) rfl (fun ls hl => ?_)
  refine zz_con 0 hx hb dX3_sitting_2 (by decide) ?_
  refine lv_istore (lv' := [(4, .int (nI 0)), (3, .int (nI 0)), (0, .ref (ad 0 0)), (1, .int (nI f)), (2, .int (nI c1 - 1))]) hx hb dX3_sitting_3 hl (Nat.le_of_ble_eq_true rfl) rfl (fun ls hl => ?_)
  have hL_2 : ∀ (k i : Nat), i ≤ N 0 1 → N 0 1 < i + k → ∀ (H : Heap) (locs : List Loc) (ls : Array Slot), zz_Z K A s ad (zm_c K ad th N G L) H → va_S zz_no s.heap H locs → lv_has ls 5 [(4, .int (nI i)), (3, .int (nI (zc (fun q => N 6 q = f + 1 ∧ (c1 = 0 ∨ N 4 q + 1 = c1)) i))), (0, .ref (ad 0 0)), (1, .int (nI f)), (2, .int (nI c1 - 1))] → W p l e ({ frames := 0, cells := 0, slots := 0, locals := 0 } : Room) s m ([.ref (ad 0 0), .int (nI f), .int (nI c1 - 1)] : List Value).toArray below meth c H locs 0 0 (vx_MQ below (zz_Qc (fun v9 _ _ => v9 = some (.int (nI (zsit N f c1)))) zz_no) (zz_XC zz_nx) ([.ref (ad 0 0), .int (nI f), .int (nI c1 - 1)] : List Value).toArray s ({ frames := 0, cells := 0, slots := 0, locals := 0 } : Room).cells ({ frames := 0, cells := 0, slots := 0, locals := 0 } : Room).slots zz_no) (F0 m 5 ls []) := by
    intro k
    induction k with
    | zero => intro i hi hik; omega
    | succ k ih_i =>
      intro i hii hiki H locs ls hZ hS hl
      have h4 := (hI.sm i).2.2.2.2
      refine lv_iload hx hb dX3_sitting_5 (lv_at hl 0 rfl) ?_
      refine lv_aload_n hx hb dX3_sitting_7 rfl (lv_at hl 2 rfl) ?_
      refine zz_get (ci := 6) (C := RX3) (T := TX3) (N := 22) (v := .int (nI (N 0 1))) hx hb hts hown hK (zm_ob hZ.W).1 rfl zf_X3 2 (by decide) zw_810 (fun _ h9 => h9) rfl dX3_sitting_8 ?_
      refine zz_ic_ge (tgt := 55) (by first | exact hB _ _ | exact hUa _ | exact hUb _ | exact hUc _ | exact hUd _ | omega) (by first | exact hB _ _ | exact hUa _ | exact hUb _ | exact hUc _ | exact hUd _ | omega) hx hb dX3_sitting_11 (by decide) (fun c_3 => ?_) (fun c_3 => ?_)
      · skip
        obtain rfl : i = N 0 1 := by omega
        refine lv_iload_n hx hb dX3_sitting_55 rfl (lv_at hl 1 rfl) ?_
        refine zz_iret hx hb hr hlocks hS (Nat.le_of_ble_eq_true rfl) (Nat.le_of_ble_eq_true rfl) dX3_sitting_56 ?_
        first | rfl | (simp [c_3]; done) | (simp_all; done) | (split <;> first | rfl | omega | (simp_all; done); done)
      · skip
        refine lv_iload_n hx hb dX3_sitting_14 rfl (lv_at hl 1 rfl) ?_
        refine lv_aload_n hx hb dX3_sitting_15 rfl (lv_at hl 2 rfl) ?_
        refine zz_get (ci := 6) (C := RX3) (T := TX3) (N := 22) (v := .ref (ad 1 7)) hx hb hts hown hK (zm_ob hZ.W).1 rfl zf_X3 13 (by decide) zw_821 (fun _ h9 => h9) rfl dX3_sitting_16 ?_
        refine lv_iload hx hb dX3_sitting_19 (lv_at hl 0 rfl) ?_
        refine zz_iald (y := nI (N 6 i) - 1) hx hb hK (zm_seat hZ.W).1 (vp_in_nI (show i < 12 by omega) (by decide)) dX3_sitting_21 (by rw [nI_clamp (by omega)] <;> rfl) ?_
        refine lv_iload_n hx hb dX3_sitting_22 rfl (lv_at hl 3 rfl) ?_
        refine zz_ik_nen (tgt := 46) (by first | exact hB _ _ | exact hUa _ | exact hUb _ | exact hUc _ | exact hUd _ | omega) (by omega) hx hb dX3_sitting_23 (by decide) (fun c_4 => ?_) (fun c_4 => ?_)
        · skip
          refine zz_con 0 hx hb dX3_sitting_46 (by decide) ?_
          refine zz_add hx hb dX3_sitting_47 ?_
          refine lv_istore_n (lv' := [(3, .int (nI ((zc (fun q => N 6 q = f + 1 ∧ (c1 = 0 ∨ N 4 q + 1 = c1)) i) + 0))), (4, .int (nI i)), (0, .ref (ad 0 0)), (1, .int (nI f)), (2, .int (nI c1 - 1))]) hx hb dX3_sitting_48 rfl hl (Nat.le_of_ble_eq_true rfl) rfl (fun ls hl => ?_)
          refine zz_inc (k := 1) (lv' := [(4, .int (nI (i + 1))), (3, .int (nI ((zc (fun q => N 6 q = f + 1 ∧ (c1 = 0 ∨ N 4 q + 1 = c1)) i) + 0))), (0, .ref (ad 0 0)), (1, .int (nI f)), (2, .int (nI c1 - 1))]) hx hb dX3_sitting_49 hl rfl (Nat.le_of_ble_eq_true rfl) rfl (fun ls hl => ?_)
          refine lv_goto (tgt := 5) hx hb dX3_sitting_52 (by decide) ?_
          refine ih_i (i + 1) (by omega) (by omega) _ _ _ ?_ hS ?_
          · exact hZ
          · skip
            rw [show (.int (nI (zc (fun q => N 6 q = f + 1 ∧ (c1 = 0 ∨ N 4 q + 1 = c1)) (i + 1))) : Value) = .int (nI ((zc (fun q => N 6 q = f + 1 ∧ (c1 = 0 ∨ N 4 q + 1 = c1)) i) + 0)) from congrArg Value.int (by first | rfl | (simp [zc, c_3, c_4]; done) | (simp_all [zc]; done) | ((rw [zc_t (by refine ⟨by assumption, ?_⟩; omega)]); done) | ((rw [zc_f (by rintro ⟨h1, h2⟩; omega)]); done))]
            exact lv_sub hl [0, 1, 2, 3, 4] rfl
        · skip
          refine lv_iload_n hx hb dX3_sitting_26 rfl (lv_at hl 4 rfl) ?_
          refine lv_iconst (v := (-1)) hx hb dX3_sitting_27 (by decide) ?_
          refine zz_ik_eq0 (tgt := 42) (by first | exact hB _ _ | exact hUa _ | exact hUb _ | exact hUc _ | exact hUd _ | omega) hx hb dX3_sitting_28 (by decide) (fun c_5 => ?_) (fun c_5 => ?_)
          · skip
            refine zz_con 1 hx hb dX3_sitting_42 (by decide) ?_
            refine lv_goto (tgt := 47) hx hb dX3_sitting_43 (by decide) ?_
            refine zz_add hx hb dX3_sitting_47 ?_
            refine lv_istore_n (lv' := [(3, .int (nI ((zc (fun q => N 6 q = f + 1 ∧ (c1 = 0 ∨ N 4 q + 1 = c1)) i) + 1))), (4, .int (nI i)), (0, .ref (ad 0 0)), (1, .int (nI f)), (2, .int (nI c1 - 1))]) hx hb dX3_sitting_48 rfl hl (Nat.le_of_ble_eq_true rfl) rfl (fun ls hl => ?_)
            refine zz_inc (k := 1) (lv' := [(4, .int (nI (i + 1))), (3, .int (nI ((zc (fun q => N 6 q = f + 1 ∧ (c1 = 0 ∨ N 4 q + 1 = c1)) i) + 1))), (0, .ref (ad 0 0)), (1, .int (nI f)), (2, .int (nI c1 - 1))]) hx hb dX3_sitting_49 hl rfl (Nat.le_of_ble_eq_true rfl) rfl (fun ls hl => ?_)
            refine lv_goto (tgt := 5) hx hb dX3_sitting_52 (by decide) ?_
            refine ih_i (i + 1) (by omega) (by omega) _ _ _ ?_ hS ?_
            · exact hZ
            · skip
              rw [show (.int (nI (zc (fun q => N 6 q = f + 1 ∧ (c1 = 0 ∨ N 4 q + 1 = c1)) (i + 1))) : Value) = .int (nI ((zc (fun q => N 6 q = f + 1 ∧ (c1 = 0 ∨ N 4 q + 1 = c1)) i) + 1)) from congrArg Value.int (by first | rfl | (simp [zc, c_3, c_4, c_5]; done) | (simp_all [zc]; done) | ((rw [zc_t (by refine ⟨by assumption, ?_⟩; omega)]); done) | ((rw [zc_f (by rintro ⟨h1, h2⟩; omega)]); done))]
              exact lv_sub hl [0, 1, 2, 3, 4] rfl
          · skip
            refine lv_aload_n hx hb dX3_sitting_31 rfl (lv_at hl 2 rfl) ?_
            refine zz_get (ci := 6) (C := RX3) (T := TX3) (N := 22) (v := .ref (ad 1 5)) hx hb hts hown hK (zm_ob hZ.W).1 rfl zf_X3 11 (by decide) zw_819 (fun _ h9 => h9) rfl dX3_sitting_32 ?_
            refine lv_iload hx hb dX3_sitting_35 (lv_at hl 0 rfl) ?_
            refine zz_iald (y := nI (N 4 i)) hx hb hK (zm_team hZ.W).1 (vp_in_nI (show i < 12 by omega) (by decide)) dX3_sitting_37 (by rw [nI_clamp (by omega)] <;> rfl) ?_
            refine lv_iload_n hx hb dX3_sitting_38 rfl (lv_at hl 4 rfl) ?_
            refine zz_ink_ne (tgt := 46) (by first | exact hB _ _ | exact hUa _ | exact hUb _ | exact hUc _ | exact hUd _ | omega) (by omega) hx hb dX3_sitting_39 (by decide) (fun c_6 => ?_) (fun c_6 => ?_)
            · skip
              refine zz_con 0 hx hb dX3_sitting_46 (by decide) ?_
              refine zz_add hx hb dX3_sitting_47 ?_
              refine lv_istore_n (lv' := [(3, .int (nI ((zc (fun q => N 6 q = f + 1 ∧ (c1 = 0 ∨ N 4 q + 1 = c1)) i) + 0))), (4, .int (nI i)), (0, .ref (ad 0 0)), (1, .int (nI f)), (2, .int (nI c1 - 1))]) hx hb dX3_sitting_48 rfl hl (Nat.le_of_ble_eq_true rfl) rfl (fun ls hl => ?_)
              refine zz_inc (k := 1) (lv' := [(4, .int (nI (i + 1))), (3, .int (nI ((zc (fun q => N 6 q = f + 1 ∧ (c1 = 0 ∨ N 4 q + 1 = c1)) i) + 0))), (0, .ref (ad 0 0)), (1, .int (nI f)), (2, .int (nI c1 - 1))]) hx hb dX3_sitting_49 hl rfl (Nat.le_of_ble_eq_true rfl) rfl (fun ls hl => ?_)
              refine lv_goto (tgt := 5) hx hb dX3_sitting_52 (by decide) ?_
              refine ih_i (i + 1) (by omega) (by omega) _ _ _ ?_ hS ?_
              · exact hZ
              · skip
                rw [show (.int (nI (zc (fun q => N 6 q = f + 1 ∧ (c1 = 0 ∨ N 4 q + 1 = c1)) (i + 1))) : Value) = .int (nI ((zc (fun q => N 6 q = f + 1 ∧ (c1 = 0 ∨ N 4 q + 1 = c1)) i) + 0)) from congrArg Value.int (by first | rfl | (simp [zc, c_3, c_4, c_5, c_6]; done) | (simp_all [zc]; done) | ((rw [zc_t (by refine ⟨by assumption, ?_⟩; omega)]); done) | ((rw [zc_f (by rintro ⟨h1, h2⟩; omega)]); done))]
                exact lv_sub hl [0, 1, 2, 3, 4] rfl
            · skip
              refine zz_con 1 hx hb dX3_sitting_42 (by decide) ?_
              refine lv_goto (tgt := 47) hx hb dX3_sitting_43 (by decide) ?_
              refine zz_add hx hb dX3_sitting_47 ?_
              refine lv_istore_n (lv' := [(3, .int (nI ((zc (fun q => N 6 q = f + 1 ∧ (c1 = 0 ∨ N 4 q + 1 = c1)) i) + 1))), (4, .int (nI i)), (0, .ref (ad 0 0)), (1, .int (nI f)), (2, .int (nI c1 - 1))]) hx hb dX3_sitting_48 rfl hl (Nat.le_of_ble_eq_true rfl) rfl (fun ls hl => ?_)
              refine zz_inc (k := 1) (lv' := [(4, .int (nI (i + 1))), (3, .int (nI ((zc (fun q => N 6 q = f + 1 ∧ (c1 = 0 ∨ N 4 q + 1 = c1)) i) + 1))), (0, .ref (ad 0 0)), (1, .int (nI f)), (2, .int (nI c1 - 1))]) hx hb dX3_sitting_49 hl rfl (Nat.le_of_ble_eq_true rfl) rfl (fun ls hl => ?_)
              refine lv_goto (tgt := 5) hx hb dX3_sitting_52 (by decide) ?_
              refine ih_i (i + 1) (by omega) (by omega) _ _ _ ?_ hS ?_
              · exact hZ
              · skip
                rw [show (.int (nI (zc (fun q => N 6 q = f + 1 ∧ (c1 = 0 ∨ N 4 q + 1 = c1)) (i + 1))) : Value) = .int (nI ((zc (fun q => N 6 q = f + 1 ∧ (c1 = 0 ∨ N 4 q + 1 = c1)) i) + 1)) from congrArg Value.int (by first | rfl | (simp [zc, c_3, c_4, c_5, c_6]; done) | (simp_all [zc]; done) | ((rw [zc_t (by refine ⟨by assumption, ?_⟩; omega)]); done) | ((rw [zc_f (by rintro ⟨h1, h2⟩; omega)]); done))]
                exact lv_sub hl [0, 1, 2, 3, 4] rfl
  refine hL_2 (N 0 1 + 1) 0 (by first | omega | exact Nat.zero_le _) (by first | omega | (rw [Nat.zero_add]; exact Nat.lt_succ_self _)) _ _ _ hZ hS ?_
  exact lv_sub hl [0, 1, 2, 3, 4] rfl
