/-! by program (gen.py): contracts of methods -/
theorem zd_X3_hour : yX3_hour.cls ≠ "java/lang/invoke/MethodHandle" ∧ yX3_hour.cls ≠ "java/lang/invoke/VarHandle" ∧ (parseMethodDescriptor yX3_hour.desc).map (fun d => d.parameters.length) = some 1 := by decide +kernel
theorem zd_X3_inside : yX3_inside.cls ≠ "java/lang/invoke/MethodHandle" ∧ yX3_inside.cls ≠ "java/lang/invoke/VarHandle" ∧ (parseMethodDescriptor yX3_inside.desc).map (fun d => d.parameters.length) = some 1 := by decide +kernel
set_option maxHeartbeats 4000000 in
set_option maxRecDepth 100000 in
theorem c_X3_hour (l : Launch) {K : zz_G} {A : Nat → Prop} {ad : Nat → Nat → Nat} {th : Int32} {N : Nat → Nat → Nat} {G : Nat → Nat → Int32} {L : Nat → Int64} (hI : zq N) (hg : zgi N G) {f : Nat} (hf : f < N 0 0) : zz_C l yX3_hour cX3_hour 6 (Option.some FieldType.int) ({ frames := 1, cells := 0, slots := 0, locals := 23 } : Room) K A [.ref (ad 0 0), .int (nI f)] (fun H => zz_W K A ad (zm_c K ad th N G L) H) (fun v9 _ H9 => v9 = some (.int (zw_use (N 3 f) (zins N f) (G 0 f))) ∧ zz_W K A ad (zm_c K ad th N (zg (zg G 0 f (G 0 f + zw_chg (N 3 f) (zins N f) (G 0 f))) 1 f (zw_air (N 3 f) (zins N f) (G 1 f))) (zl L 1 (L 1 + (nI (zins N f) * zw_one (G 0 f + zw_chg (N 3 f) (zins N f) (G 0 f)) (zw_air (N 3 f) (zins N f) (G 1 f))).toInt64))) H9) zz_nx A := by
  refine zz_body (by decide +kernel) (Nat.le_of_ble_eq_true rfl) ?_
  intro p e s m below meth c ls hx hb hr hml hts hown hlocks hmn htab hE hA hP hl
  have hN := hE.N
  have hK := hE.K
  have hown : s.vm.findClass RX3 = some m.cls := hown
  have hl : lv_has ls 6 [(0, .ref (ad 0 0)), (1, .int (nI f))] := hl
  have hZ : zz_Z K A s ad (zm_c K ad th N G L) s.heap := ⟨hE, hA, hP⟩
  have hS : va_S zz_no s.heap s.heap [] := va_S.rf
  obtain ⟨H, hH⟩ : ∃ z, z = s.heap := ⟨_, rfl⟩
  have hS0 : va_S zz_no s.heap H [] := by rw [hH]; exact hS
  rw [← hH] at hZ
  have hE0 := hE
  clear hS
  have hS := hS0
  have hB := hI.B
  have h00 := hI.f
  have h01 := hI.p
  have h02 := hI.b
  have hnb := zins_b hI f
  show W p l e _ s m _ below meth c s.heap [] 0 0 _ (F0 m 0 ls [])
  rw [← hH]
  refine lv_aload_n hx hb dX3_hour_0 rfl (lv_at hl 0 rfl) ?_
  refine lv_iload_n hx hb dX3_hour_1 rfl (lv_at hl 1 rfl) ?_
  refine zz_after (pc := 2) rfl (zz_runV (ci := 6) (q0 := (RX3, TX3, 22)) (b := ad 0 0) (As := [.int (nI f)]) (rest := []) hx hb hml hown hts (c_X3_inside l (K := K) (A := A) (ad := ad) (th := th) (N := N) (G := G) (L := L) hI (by omega)) zw_1036 zw_1038 zs_50 zw_5 zw_1039 zd_X3_inside ⟨Nat.le_of_ble_eq_true rfl, Nat.le_of_ble_eq_true rfl⟩ hZ.E hZ.A (zm_ob hZ.W).1 rfl rfl hZ.W hl.1 (Nat.le_of_ble_eq_true rfl) dX3_hour_2 ⟨Nat.le_of_ble_eq_true rfl, Nat.le_of_ble_eq_true rfl⟩) hS (fun _ h => h.elim) (fun v_3 H locs hq_1 hF_2 hS => ?_)
  refine W.widen (k := 0) (n := 0) (Nat.le_of_ble_eq_true rfl) (Nat.le_of_ble_eq_true rfl) ?_
  obtain rfl := hq_1
  have hZ := hZ.ro hF_2
  refine W.eq (g2 := F0 m 5 ls [.int (nI (zins N f))]) rfl ?_
  refine lv_istore_n (lv' := [(2, .int (nI (zins N f))), (0, .ref (ad 0 0)), (1, .int (nI f))]) hx hb dX3_hour_5 rfl hl (Nat.le_of_ble_eq_true rfl) rfl (fun ls hl => ?_)
  refine lv_aload_n hx hb dX3_hour_6 rfl (lv_at hl 1 rfl) ?_
  refine zz_get (ci := 6) (C := RX3) (T := TX3) (N := 22) (v := .ref (ad 1 4)) hx hb hts hown hK (zm_ob hZ.W).1 rfl zf_X3 10 (by decide) zw_818 (fun _ h9 => h9) rfl dX3_hour_7 ?_
  refine lv_iload_n hx hb dX3_hour_10 rfl (lv_at hl 2 rfl) ?_
  refine zz_zald (y := nI (N 3 f)) hx hb hK (zm_isOpen hZ.W).1 (vp_in_nI (show f < 6 by omega) (by decide)) dX3_hour_11 (by rw [nI_clamp (by omega)] <;> rfl) ?_
  refine zz_if_eq (tgt := 25) (by first | exact hB _ _ | exact hUa _ | exact hUb _ | exact hUc _ | exact hUd _ | omega) hx hb dX3_hour_12 (by decide) (fun c_4 => ?_) (fun c_4 => ?_)
  · skip
    have hw9 : ∃ a, a < 109 ∧ G 0 f + (nI 150 - G 0 f) / nI 4 = nI (150 + a) := by (have h := zw_gb (o := N 3 f) hnb (hg f hf); unfold zw_chg zw_want at h; rw [if_pos c_4] at h; exact h)
    have hch : zw_chg (N 3 f) (zins N f) (G 0 f) = (nI 150 - G 0 f) / nI 4 := by (unfold zw_chg zw_want; rw [if_pos c_4])
    have hop : (if N 3 f = 0 then 10 else 30) = 10 := by rw [if_pos c_4]
    refine lv_sipush (v := nI 150) hx hb dX3_hour_25 (by decide) ?_
    refine lv_istore_n (lv' := [(3, .int (nI 150)), (2, .int (nI (zins N f))), (0, .ref (ad 0 0)), (1, .int (nI f))]) hx hb dX3_hour_28 rfl hl (Nat.le_of_ble_eq_true rfl) rfl (fun ls hl => ?_)
    refine lv_iload_n hx hb dX3_hour_29 rfl (lv_at hl 0 rfl) ?_
    refine lv_aload_n hx hb dX3_hour_30 rfl (lv_at hl 2 rfl) ?_
    refine zz_get (ci := 6) (C := RX3) (T := TX3) (N := 22) (v := .ref (ad 1 2)) hx hb hts hown hK (zm_ob hZ.W).1 rfl zf_X3 8 (by decide) zw_816 (fun _ h9 => h9) rfl dX3_hour_31 ?_
    refine lv_iload_n hx hb dX3_hour_34 rfl (lv_at hl 3 rfl) ?_
    refine zz_iald (y := G 0 f) hx hb hK (zm_warmth hZ.W).1 (vp_in_nI (show f < 6 by omega) (by decide)) dX3_hour_35 (by rw [nI_clamp (by omega)] <;> rfl) ?_
    refine lv_isub hx hb dX3_hour_36 ?_
    refine zz_con 4 hx hb dX3_hour_37 (by decide) ?_
    refine lv_idiv hx hb dX3_hour_38 (by decide) ?_
    refine lv_istore (lv' := [(4, .int (((nI 150) - (G 0 f)) / (nI 4))), (3, .int (nI 150)), (2, .int (nI (zins N f))), (0, .ref (ad 0 0)), (1, .int (nI f))]) hx hb dX3_hour_39 hl (Nat.le_of_ble_eq_true rfl) rfl (fun ls hl => ?_)
    refine lv_aload_n hx hb dX3_hour_41 rfl (lv_at hl 3 rfl) ?_
    refine zz_get (ci := 6) (C := RX3) (T := TX3) (N := 22) (v := .ref (ad 1 2)) hx hb hts hown hK (zm_ob hZ.W).1 rfl zf_X3 8 (by decide) zw_816 (fun _ h9 => h9) rfl dX3_hour_42 ?_
    refine lv_iload_n hx hb dX3_hour_45 rfl (lv_at hl 4 rfl) ?_
    refine lv_dup2_11 hx hb dX3_hour_46 rfl rfl ?_
    refine zz_iald (y := G 0 f) hx hb hK (zm_warmth hZ.W).1 (vp_in_nI (show f < 6 by omega) (by decide)) dX3_hour_47 (by rw [nI_clamp (by omega)] <;> rfl) ?_
    refine lv_iload hx hb dX3_hour_48 (lv_at hl 0 rfl) ?_
    refine lv_iadd hx hb dX3_hour_50 ?_
    have hS : va_S A s.heap H _ := zz_Smono hS (fun _ h => h.elim)
    have haA_8 := (zm_warmth hZ.W).2
    refine zz_iast (x := (G 0 f) + (((nI 150) - (G 0 f)) / (nI 4))) hx hb hK hS (zm_warmth hZ.W).1 haA_8 (vp_in_nI (show f < 6 by omega) (by decide)) dX3_hour_51 (fun H locs ha_6 hz_7 ho_5 hS => ?_)
    have hZ : zz_Z K A s ad (zm_c K ad th N (zg G 0 f ((G 0 f) + (((nI 150) - (G 0 f)) / (nI 4)))) L) H := hZ.put haA_8 hz_7 ho_5 (zm_put_a_warmth hZ.W (by omega) (nI_clamp (by omega)) rfl ha_6 ho_5)
    refine lv_aload_n hx hb dX3_hour_52 rfl (lv_at hl 3 rfl) ?_
    refine zz_get (ci := 6) (C := RX3) (T := TX3) (N := 22) (v := .ref (ad 1 3)) hx hb hts hown hK (zm_ob hZ.W).1 rfl zf_X3 9 (by decide) zw_817 (fun _ h9 => h9) rfl dX3_hour_53 ?_
    refine lv_iload_n hx hb dX3_hour_56 rfl (lv_at hl 4 rfl) ?_
    refine zz_iald (y := G 1 f) hx hb hK (zm_air hZ.W).1 (vp_in_nI (show f < 6 by omega) (by decide)) dX3_hour_57 (by rw [nI_clamp (by omega)] <;> simp [zg]) ?_
    refine lv_bipush (v := nI 25) hx hb dX3_hour_58 (by decide) ?_
    refine lv_iload_n hx hb dX3_hour_60 rfl (lv_at hl 2 rfl) ?_
    refine zz_mul hx hb dX3_hour_61 ?_
    refine lv_iadd hx hb dX3_hour_62 ?_
    refine lv_aload_n hx hb dX3_hour_63 rfl (lv_at hl 3 rfl) ?_
    refine zz_get (ci := 6) (C := RX3) (T := TX3) (N := 22) (v := .ref (ad 1 4)) hx hb hts hown hK (zm_ob hZ.W).1 rfl zf_X3 10 (by decide) zw_818 (fun _ h9 => h9) rfl dX3_hour_64 ?_
    refine lv_iload_n hx hb dX3_hour_67 rfl (lv_at hl 4 rfl) ?_
    refine zz_zald (y := nI (N 3 f)) hx hb hK (zm_isOpen hZ.W).1 (vp_in_nI (show f < 6 by omega) (by decide)) dX3_hour_68 (by rw [nI_clamp (by omega)] <;> rfl) ?_
    refine zz_if_eq (tgt := 77) (by first | exact hB _ _ | exact hUa _ | exact hUb _ | exact hUc _ | exact hUd _ | omega) hx hb dX3_hour_69 (by decide) (fun c_9 => ?_) (fun c_9 => ?_)
    · skip
      refine lv_bipush (v := nI 10) hx hb dX3_hour_77 (by decide) ?_
      refine lv_isub hx hb dX3_hour_79 ?_
      refine lv_istore (lv' := [(5, .int (((G 1 f) + (nI (25 * (zins N f)))) - (nI 10))), (4, .int (((nI 150) - (G 0 f)) / (nI 4))), (3, .int (nI 150)), (2, .int (nI (zins N f))), (0, .ref (ad 0 0)), (1, .int (nI f))]) hx hb dX3_hour_80 hl (Nat.le_of_ble_eq_true rfl) rfl (fun ls hl => ?_)
      refine lv_aload_n hx hb dX3_hour_82 rfl (lv_at hl 4 rfl) ?_
      refine zz_get (ci := 6) (C := RX3) (T := TX3) (N := 22) (v := .ref (ad 1 3)) hx hb hts hown hK (zm_ob hZ.W).1 rfl zf_X3 9 (by decide) zw_817 (fun _ h9 => h9) rfl dX3_hour_83 ?_
      refine lv_iload_n hx hb dX3_hour_86 rfl (lv_at hl 5 rfl) ?_
      refine lv_iload hx hb dX3_hour_87 (lv_at hl 0 rfl) ?_
      refine lv_sipush (v := nI 400) hx hb dX3_hour_89 (by decide) ?_
      refine lv_icmp_ge (tgt := 101) hx hb dX3_hour_92 (by decide) (fun c_10 => ?_) (fun c_10 => ?_)
      · skip
        refine lv_iload hx hb dX3_hour_101 (lv_at hl 0 rfl) ?_
        have haA_14 := (zm_air hZ.W).2
        refine zz_iast (x := ((G 1 f) + (nI (25 * (zins N f)))) - (nI 10)) hx hb hK hS (zm_air hZ.W).1 haA_14 (vp_in_nI (show f < 6 by omega) (by decide)) dX3_hour_103 (fun H locs ha_12 hz_13 ho_11 hS => ?_)
        have hZ : zz_Z K A s ad (zm_c K ad th N (zg (zg G 0 f ((G 0 f) + (((nI 150) - (G 0 f)) / (nI 4)))) 1 f (((G 1 f) + (nI (25 * (zins N f)))) - (nI 10))) L) H := hZ.put haA_14 hz_13 ho_11 (zm_put_a_air hZ.W (by omega) (nI_clamp (by omega)) rfl ha_12 ho_11)
        refine lv_aload_n hx hb dX3_hour_104 rfl (lv_at hl 4 rfl) ?_
        refine lv_dup hx hb dX3_hour_105 rfl ?_
        refine zz_get (ci := 6) (C := RX3) (T := TX3) (N := 22) (v := .long (L 1)) hx hb hts hown hK (zm_ob hZ.W).1 rfl zf_X3 20 (by decide) zw_828 (fun _ h9 => h9) rfl dX3_hour_106 ?_
        refine lv_iload_n hx hb dX3_hour_109 rfl (lv_at hl 3 rfl) ?_
        refine lv_aload_n hx hb dX3_hour_110 rfl (lv_at hl 4 rfl) ?_
        refine zz_get (ci := 6) (C := RX3) (T := TX3) (N := 22) (v := .ref (ad 1 2)) hx hb hts hown hK (zm_ob hZ.W).1 rfl zf_X3 8 (by decide) zw_816 (fun _ h9 => h9) rfl dX3_hour_111 ?_
        refine lv_iload_n hx hb dX3_hour_114 rfl (lv_at hl 5 rfl) ?_
        refine zz_iald (y := (G 0 f) + (((nI 150) - (G 0 f)) / (nI 4))) hx hb hK (zm_warmth hZ.W).1 (vp_in_nI (show f < 6 by omega) (by decide)) dX3_hour_115 (by rw [nI_clamp (by omega)] <;> simp [zg]) ?_
        refine lv_sipush (v := nI 215) hx hb dX3_hour_116 (by decide) ?_
        refine zz_after (pc := 119) rfl (zz_runS (As := [.int ((G 0 f) + (((nI 150) - (G 0 f)) / (nI 4))), .int (nI 215)]) (rest := [.int (nI (zins N f)), .long (L 1), .ref (ad 0 0)]) hx hb hml hown hts (c_X3_apart l (K := K) (A := A) ((G 0 f) + (((nI 150) - (G 0 f)) / (nI 4))) (nI 215)) zw_955 zw_956 zw_5 zw_957 zd_X3_apart ⟨Nat.le_of_ble_eq_true rfl, Nat.le_of_ble_eq_true rfl⟩ hZ.E hZ.A trivial hl.1 (Nat.le_of_ble_eq_true rfl) dX3_hour_119 ⟨Nat.le_of_ble_eq_true rfl, Nat.le_of_ble_eq_true rfl⟩) hS (fun _ h => h.elim) (fun v_17 H locs hq_15 hF_16 hS => ?_)
        refine W.widen (k := 0) (n := 0) (Nat.le_of_ble_eq_true rfl) (Nat.le_of_ble_eq_true rfl) ?_
        obtain rfl := hq_15
        have hZ := hZ.ro hF_16
        refine W.eq (g2 := F0 m 122 ls [.int (if (nI 215) < ((G 0 f) + (((nI 150) - (G 0 f)) / (nI 4))) then ((G 0 f) + (((nI 150) - (G 0 f)) / (nI 4))) - (nI 215) else (nI 215) - ((G 0 f) + (((nI 150) - (G 0 f)) / (nI 4)))), .int (nI (zins N f)), .long (L 1), .ref (ad 0 0)]) rfl ?_
        refine zz_cv (y := if 0 ≤ ((G 0 f) + (((nI 150) - (G 0 f)) / (nI 4))) - nI 215 then ((G 0 f) + (((nI 150) - (G 0 f)) / (nI 4))) - nI 215 else 0 - (((G 0 f) + (((nI 150) - (G 0 f)) / (nI 4))) - nI 215)) (zw_abs hw9) ?_
        refine lv_bipush (v := nI 10) hx hb dX3_hour_122 (by decide) ?_
        refine lv_idiv hx hb dX3_hour_124 (by decide) ?_
        refine lv_aload_n hx hb dX3_hour_125 rfl (lv_at hl 4 rfl) ?_
        refine zz_get (ci := 6) (C := RX3) (T := TX3) (N := 22) (v := .ref (ad 1 3)) hx hb hts hown hK (zm_ob hZ.W).1 rfl zf_X3 9 (by decide) zw_817 (fun _ h9 => h9) rfl dX3_hour_126 ?_
        refine lv_iload_n hx hb dX3_hour_129 rfl (lv_at hl 5 rfl) ?_
        refine zz_iald (y := ((G 1 f) + (nI (25 * (zins N f)))) - (nI 10)) hx hb hK (zm_air hZ.W).1 (vp_in_nI (show f < 6 by omega) (by decide)) dX3_hour_130 (by rw [nI_clamp (by omega)] <;> simp [zg]) ?_
        refine lv_sipush (v := nI 500) hx hb dX3_hour_131 (by decide) ?_
        refine lv_icmp_le (tgt := 141) hx hb dX3_hour_134 (by decide) (fun c_18 => ?_) (fun c_18 => ?_)
        · skip
          refine zz_con 0 hx hb dX3_hour_141 (by decide) ?_
          refine lv_iadd hx hb dX3_hour_142 ?_
          refine lv_imul hx hb dX3_hour_143 ?_
          refine lv_i2l hx hb dX3_hour_144 rfl ?_
          refine lv_ladd hx hb dX3_hour_145 ?_
          have haA_22 := (zm_ob hZ.W).2
          refine zz_put (ci := 6) (C := RX3) (T := TX3) (N := 22) (v := .long ((L 1) + (Int32.toInt64 ((nI (zins N f)) * (((if 0 ≤ ((G 0 f) + (((nI 150) - (G 0 f)) / (nI 4))) - nI 215 then ((G 0 f) + (((nI 150) - (G 0 f)) / (nI 4))) - nI 215 else 0 - (((G 0 f) + (((nI 150) - (G 0 f)) / (nI 4))) - nI 215)) / (nI 10)) + (nI 0)))))) (ty1 := .long) hx hb hts hown hK hS (zm_ob hZ.W).1 haA_22 rfl zf_X3 tyX3_ok nmX3 20 (by decide) zw_828 (fun _ h9 => h9) rfl (by decide +kernel) rfl rfl (Nat.le_of_ble_eq_true rfl) dX3_hour_146 (fun H locs ha_20 hz_21 ho_19 hS => ?_)
          have hZ : zz_Z K A s ad (zm_c K ad th N (zg (zg G 0 f ((G 0 f) + (((nI 150) - (G 0 f)) / (nI 4)))) 1 f (((G 1 f) + (nI (25 * (zins N f)))) - (nI 10))) (zl L 1 ((L 1) + (Int32.toInt64 ((nI (zins N f)) * (((if 0 ≤ ((G 0 f) + (((nI 150) - (G 0 f)) / (nI 4))) - nI 215 then ((G 0 f) + (((nI 150) - (G 0 f)) / (nI 4))) - nI 215 else 0 - (((G 0 f) + (((nI 150) - (G 0 f)) / (nI 4))) - nI 215)) / (nI 10)) + (nI 0))))))) H := hZ.put haA_22 hz_21 ho_19 (zm_put_mdiscomfort hZ.W ha_20 ho_19)
          refine lv_aload_n hx hb dX3_hour_149 rfl (lv_at hl 4 rfl) ?_
          refine zz_get (ci := 6) (C := RX3) (T := TX3) (N := 22) (v := .ref (ad 1 4)) hx hb hts hown hK (zm_ob hZ.W).1 rfl zf_X3 10 (by decide) zw_818 (fun _ h9 => h9) rfl dX3_hour_150 ?_
          refine lv_iload_n hx hb dX3_hour_153 rfl (lv_at hl 5 rfl) ?_
          refine zz_zald (y := nI (N 3 f)) hx hb hK (zm_isOpen hZ.W).1 (vp_in_nI (show f < 6 by omega) (by decide)) dX3_hour_154 (by rw [nI_clamp (by omega)] <;> rfl) ?_
          refine zz_if_eq (tgt := 167) (by first | exact hB _ _ | exact hUa _ | exact hUb _ | exact hUc _ | exact hUd _ | omega) hx hb dX3_hour_155 (by decide) (fun c_23 => ?_) (fun c_23 => ?_)
          · skip
            refine zz_con 0 hx hb dX3_hour_167 (by decide) ?_
            refine zz_iret hx hb hr hlocks hS (Nat.le_of_ble_eq_true rfl) (Nat.le_of_ble_eq_true rfl) dX3_hour_168 ?_
            have ha9 : zw_air (N 3 f) (zins N f) (G 1 f) = ((G 1 f) + (nI (25 * (zins N f)))) - (nI 10) := by (unfold zw_air; rw [hop]; first | rw [if_neg (Int32.not_lt.mpr (show nI 400 ≤ _ by assumption))] | rw [if_pos (Int32.not_le.mp (show ¬ nI 400 ≤ _ by assumption))])
            refine ⟨?_, ?_⟩
            · first | rfl | (unfold zw_use; rw [hch]; first | rw [if_pos (by assumption)] | rw [if_neg (by assumption)]) | (simp [zw_use, c_4, hch, c_9, c_10, c_18, c_23]; done)
            · refine zm_co rfl rfl ?_ ?_ hZ.W
              · rw [ha9, hch]
              · refine congrArg (zl L 1) ?_
                refine congrArg (fun z => L 1 + (nI (zins N f) * z).toInt64) ?_
                unfold zw_one; rw [ha9, hch]; first | (rw [if_pos (show _ ≤ nI 500 by assumption)]; exact Int32.add_zero _) | rw [if_neg (show ¬ _ ≤ nI 500 by assumption)]
          · skip
            exact absurd c_4 c_23
        · skip
          refine zz_con 1 hx hb dX3_hour_137 (by decide) ?_
          refine lv_goto (tgt := 142) hx hb dX3_hour_138 (by decide) ?_
          refine lv_iadd hx hb dX3_hour_142 ?_
          refine lv_imul hx hb dX3_hour_143 ?_
          refine lv_i2l hx hb dX3_hour_144 rfl ?_
          refine lv_ladd hx hb dX3_hour_145 ?_
          have haA_27 := (zm_ob hZ.W).2
          refine zz_put (ci := 6) (C := RX3) (T := TX3) (N := 22) (v := .long ((L 1) + (Int32.toInt64 ((nI (zins N f)) * (((if 0 ≤ ((G 0 f) + (((nI 150) - (G 0 f)) / (nI 4))) - nI 215 then ((G 0 f) + (((nI 150) - (G 0 f)) / (nI 4))) - nI 215 else 0 - (((G 0 f) + (((nI 150) - (G 0 f)) / (nI 4))) - nI 215)) / (nI 10)) + (nI 1)))))) (ty1 := .long) hx hb hts hown hK hS (zm_ob hZ.W).1 haA_27 rfl zf_X3 tyX3_ok nmX3 20 (by decide) zw_828 (fun _ h9 => h9) rfl (by decide +kernel) rfl rfl (Nat.le_of_ble_eq_true rfl) dX3_hour_146 (fun H locs ha_25 hz_26 ho_24 hS => ?_)
          have hZ : zz_Z K A s ad (zm_c K ad th N (zg (zg G 0 f ((G 0 f) + (((nI 150) - (G 0 f)) / (nI 4)))) 1 f (((G 1 f) + (nI (25 * (zins N f)))) - (nI 10))) (zl L 1 ((L 1) + (Int32.toInt64 ((nI (zins N f)) * (((if 0 ≤ ((G 0 f) + (((nI 150) - (G 0 f)) / (nI 4))) - nI 215 then ((G 0 f) + (((nI 150) - (G 0 f)) / (nI 4))) - nI 215 else 0 - (((G 0 f) + (((nI 150) - (G 0 f)) / (nI 4))) - nI 215)) / (nI 10)) + (nI 1))))))) H := hZ.put haA_27 hz_26 ho_24 (zm_put_mdiscomfort hZ.W ha_25 ho_24)
          refine lv_aload_n hx hb dX3_hour_149 rfl (lv_at hl 4 rfl) ?_
          refine zz_get (ci := 6) (C := RX3) (T := TX3) (N := 22) (v := .ref (ad 1 4)) hx hb hts hown hK (zm_ob hZ.W).1 rfl zf_X3 10 (by decide) zw_818 (fun _ h9 => h9) rfl dX3_hour_150 ?_
          refine lv_iload_n hx hb dX3_hour_153 rfl (lv_at hl 5 rfl) ?_
          refine zz_zald (y := nI (N 3 f)) hx hb hK (zm_isOpen hZ.W).1 (vp_in_nI (show f < 6 by omega) (by decide)) dX3_hour_154 (by rw [nI_clamp (by omega)] <;> rfl) ?_
          refine zz_if_eq (tgt := 167) (by first | exact hB _ _ | exact hUa _ | exact hUb _ | exact hUc _ | exact hUd _ | omega) hx hb dX3_hour_155 (by decide) (fun c_28 => ?_) (fun c_28 => ?_)
          · skip
            refine zz_con 0 hx hb dX3_hour_167 (by decide) ?_
            refine zz_iret hx hb hr hlocks hS (Nat.le_of_ble_eq_true rfl) (Nat.le_of_ble_eq_true rfl) dX3_hour_168 ?_
            have ha9 : zw_air (N 3 f) (zins N f) (G 1 f) = ((G 1 f) + (nI (25 * (zins N f)))) - (nI 10) := by (unfold zw_air; rw [hop]; first | rw [if_neg (Int32.not_lt.mpr (show nI 400 ≤ _ by assumption))] | rw [if_pos (Int32.not_le.mp (show ¬ nI 400 ≤ _ by assumption))])
            refine ⟨?_, ?_⟩
            · first | rfl | (unfold zw_use; rw [hch]; first | rw [if_pos (by assumption)] | rw [if_neg (by assumption)]) | (simp [zw_use, c_4, hch, c_9, c_10, c_18, c_28]; done)
            · refine zm_co rfl rfl ?_ ?_ hZ.W
              · rw [ha9, hch]
              · refine congrArg (zl L 1) ?_
                refine congrArg (fun z => L 1 + (nI (zins N f) * z).toInt64) ?_
                unfold zw_one; rw [ha9, hch]; first | (rw [if_pos (show _ ≤ nI 500 by assumption)]; exact Int32.add_zero _) | rw [if_neg (show ¬ _ ≤ nI 500 by assumption)]
          · skip
            exact absurd c_4 c_28
      · skip
        refine lv_sipush (v := nI 400) hx hb dX3_hour_95 (by decide) ?_
        refine lv_goto (tgt := 103) hx hb dX3_hour_98 (by decide) ?_
        have haA_32 := (zm_air hZ.W).2
        refine zz_iast (x := nI 400) hx hb hK hS (zm_air hZ.W).1 haA_32 (vp_in_nI (show f < 6 by omega) (by decide)) dX3_hour_103 (fun H locs ha_30 hz_31 ho_29 hS => ?_)
        have hZ : zz_Z K A s ad (zm_c K ad th N (zg (zg G 0 f ((G 0 f) + (((nI 150) - (G 0 f)) / (nI 4)))) 1 f (nI 400)) L) H := hZ.put haA_32 hz_31 ho_29 (zm_put_a_air hZ.W (by omega) (nI_clamp (by omega)) rfl ha_30 ho_29)
        refine lv_aload_n hx hb dX3_hour_104 rfl (lv_at hl 4 rfl) ?_
        refine lv_dup hx hb dX3_hour_105 rfl ?_
        refine zz_get (ci := 6) (C := RX3) (T := TX3) (N := 22) (v := .long (L 1)) hx hb hts hown hK (zm_ob hZ.W).1 rfl zf_X3 20 (by decide) zw_828 (fun _ h9 => h9) rfl dX3_hour_106 ?_
        refine lv_iload_n hx hb dX3_hour_109 rfl (lv_at hl 3 rfl) ?_
        refine lv_aload_n hx hb dX3_hour_110 rfl (lv_at hl 4 rfl) ?_
        refine zz_get (ci := 6) (C := RX3) (T := TX3) (N := 22) (v := .ref (ad 1 2)) hx hb hts hown hK (zm_ob hZ.W).1 rfl zf_X3 8 (by decide) zw_816 (fun _ h9 => h9) rfl dX3_hour_111 ?_
        refine lv_iload_n hx hb dX3_hour_114 rfl (lv_at hl 5 rfl) ?_
        refine zz_iald (y := (G 0 f) + (((nI 150) - (G 0 f)) / (nI 4))) hx hb hK (zm_warmth hZ.W).1 (vp_in_nI (show f < 6 by omega) (by decide)) dX3_hour_115 (by rw [nI_clamp (by omega)] <;> simp [zg]) ?_
        refine lv_sipush (v := nI 215) hx hb dX3_hour_116 (by decide) ?_
        refine zz_after (pc := 119) rfl (zz_runS (As := [.int ((G 0 f) + (((nI 150) - (G 0 f)) / (nI 4))), .int (nI 215)]) (rest := [.int (nI (zins N f)), .long (L 1), .ref (ad 0 0)]) hx hb hml hown hts (c_X3_apart l (K := K) (A := A) ((G 0 f) + (((nI 150) - (G 0 f)) / (nI 4))) (nI 215)) zw_955 zw_956 zw_5 zw_957 zd_X3_apart ⟨Nat.le_of_ble_eq_true rfl, Nat.le_of_ble_eq_true rfl⟩ hZ.E hZ.A trivial hl.1 (Nat.le_of_ble_eq_true rfl) dX3_hour_119 ⟨Nat.le_of_ble_eq_true rfl, Nat.le_of_ble_eq_true rfl⟩) hS (fun _ h => h.elim) (fun v_35 H locs hq_33 hF_34 hS => ?_)
        refine W.widen (k := 0) (n := 0) (Nat.le_of_ble_eq_true rfl) (Nat.le_of_ble_eq_true rfl) ?_
        obtain rfl := hq_33
        have hZ := hZ.ro hF_34
        refine W.eq (g2 := F0 m 122 ls [.int (if (nI 215) < ((G 0 f) + (((nI 150) - (G 0 f)) / (nI 4))) then ((G 0 f) + (((nI 150) - (G 0 f)) / (nI 4))) - (nI 215) else (nI 215) - ((G 0 f) + (((nI 150) - (G 0 f)) / (nI 4)))), .int (nI (zins N f)), .long (L 1), .ref (ad 0 0)]) rfl ?_
        refine zz_cv (y := if 0 ≤ ((G 0 f) + (((nI 150) - (G 0 f)) / (nI 4))) - nI 215 then ((G 0 f) + (((nI 150) - (G 0 f)) / (nI 4))) - nI 215 else 0 - (((G 0 f) + (((nI 150) - (G 0 f)) / (nI 4))) - nI 215)) (zw_abs hw9) ?_
        refine lv_bipush (v := nI 10) hx hb dX3_hour_122 (by decide) ?_
        refine lv_idiv hx hb dX3_hour_124 (by decide) ?_
        refine lv_aload_n hx hb dX3_hour_125 rfl (lv_at hl 4 rfl) ?_
        refine zz_get (ci := 6) (C := RX3) (T := TX3) (N := 22) (v := .ref (ad 1 3)) hx hb hts hown hK (zm_ob hZ.W).1 rfl zf_X3 9 (by decide) zw_817 (fun _ h9 => h9) rfl dX3_hour_126 ?_
        refine lv_iload_n hx hb dX3_hour_129 rfl (lv_at hl 5 rfl) ?_
        refine zz_iald (y := nI 400) hx hb hK (zm_air hZ.W).1 (vp_in_nI (show f < 6 by omega) (by decide)) dX3_hour_130 (by rw [nI_clamp (by omega)] <;> simp [zg]) ?_
        refine lv_sipush (v := nI 500) hx hb dX3_hour_131 (by decide) ?_
        refine lv_icmp_le (tgt := 141) hx hb dX3_hour_134 (by decide) (fun c_36 => ?_) (fun c_36 => ?_)
        · skip
          refine zz_con 0 hx hb dX3_hour_141 (by decide) ?_
          refine lv_iadd hx hb dX3_hour_142 ?_
          refine lv_imul hx hb dX3_hour_143 ?_
          refine lv_i2l hx hb dX3_hour_144 rfl ?_
          refine lv_ladd hx hb dX3_hour_145 ?_
          have haA_40 := (zm_ob hZ.W).2
          refine zz_put (ci := 6) (C := RX3) (T := TX3) (N := 22) (v := .long ((L 1) + (Int32.toInt64 ((nI (zins N f)) * (((if 0 ≤ ((G 0 f) + (((nI 150) - (G 0 f)) / (nI 4))) - nI 215 then ((G 0 f) + (((nI 150) - (G 0 f)) / (nI 4))) - nI 215 else 0 - (((G 0 f) + (((nI 150) - (G 0 f)) / (nI 4))) - nI 215)) / (nI 10)) + (nI 0)))))) (ty1 := .long) hx hb hts hown hK hS (zm_ob hZ.W).1 haA_40 rfl zf_X3 tyX3_ok nmX3 20 (by decide) zw_828 (fun _ h9 => h9) rfl (by decide +kernel) rfl rfl (Nat.le_of_ble_eq_true rfl) dX3_hour_146 (fun H locs ha_38 hz_39 ho_37 hS => ?_)
          have hZ : zz_Z K A s ad (zm_c K ad th N (zg (zg G 0 f ((G 0 f) + (((nI 150) - (G 0 f)) / (nI 4)))) 1 f (nI 400)) (zl L 1 ((L 1) + (Int32.toInt64 ((nI (zins N f)) * (((if 0 ≤ ((G 0 f) + (((nI 150) - (G 0 f)) / (nI 4))) - nI 215 then ((G 0 f) + (((nI 150) - (G 0 f)) / (nI 4))) - nI 215 else 0 - (((G 0 f) + (((nI 150) - (G 0 f)) / (nI 4))) - nI 215)) / (nI 10)) + (nI 0))))))) H := hZ.put haA_40 hz_39 ho_37 (zm_put_mdiscomfort hZ.W ha_38 ho_37)
          refine lv_aload_n hx hb dX3_hour_149 rfl (lv_at hl 4 rfl) ?_
          refine zz_get (ci := 6) (C := RX3) (T := TX3) (N := 22) (v := .ref (ad 1 4)) hx hb hts hown hK (zm_ob hZ.W).1 rfl zf_X3 10 (by decide) zw_818 (fun _ h9 => h9) rfl dX3_hour_150 ?_
          refine lv_iload_n hx hb dX3_hour_153 rfl (lv_at hl 5 rfl) ?_
          refine zz_zald (y := nI (N 3 f)) hx hb hK (zm_isOpen hZ.W).1 (vp_in_nI (show f < 6 by omega) (by decide)) dX3_hour_154 (by rw [nI_clamp (by omega)] <;> rfl) ?_
          refine zz_if_eq (tgt := 167) (by first | exact hB _ _ | exact hUa _ | exact hUb _ | exact hUc _ | exact hUd _ | omega) hx hb dX3_hour_155 (by decide) (fun c_41 => ?_) (fun c_41 => ?_)
          · skip
            refine zz_con 0 hx hb dX3_hour_167 (by decide) ?_
            refine zz_iret hx hb hr hlocks hS (Nat.le_of_ble_eq_true rfl) (Nat.le_of_ble_eq_true rfl) dX3_hour_168 ?_
            have ha9 : zw_air (N 3 f) (zins N f) (G 1 f) = nI 400 := by (unfold zw_air; rw [hop]; first | rw [if_neg (Int32.not_lt.mpr (show nI 400 ≤ _ by assumption))] | rw [if_pos (Int32.not_le.mp (show ¬ nI 400 ≤ _ by assumption))])
            refine ⟨?_, ?_⟩
            · first | rfl | (unfold zw_use; rw [hch]; first | rw [if_pos (by assumption)] | rw [if_neg (by assumption)]) | (simp [zw_use, c_4, hch, c_9, c_10, c_36, c_41]; done)
            · refine zm_co rfl rfl ?_ ?_ hZ.W
              · rw [ha9, hch]
              · refine congrArg (zl L 1) ?_
                refine congrArg (fun z => L 1 + (nI (zins N f) * z).toInt64) ?_
                unfold zw_one; rw [ha9, hch]; first | (rw [if_pos (show _ ≤ nI 500 by assumption)]; exact Int32.add_zero _) | rw [if_neg (show ¬ _ ≤ nI 500 by assumption)]
          · skip
            exact absurd c_4 c_41
        · skip
          refine zz_con 1 hx hb dX3_hour_137 (by decide) ?_
          refine lv_goto (tgt := 142) hx hb dX3_hour_138 (by decide) ?_
          refine lv_iadd hx hb dX3_hour_142 ?_
          refine lv_imul hx hb dX3_hour_143 ?_
          refine lv_i2l hx hb dX3_hour_144 rfl ?_
          refine lv_ladd hx hb dX3_hour_145 ?_
          have haA_45 := (zm_ob hZ.W).2
          refine zz_put (ci := 6) (C := RX3) (T := TX3) (N := 22) (v := .long ((L 1) + (Int32.toInt64 ((nI (zins N f)) * (((if 0 ≤ ((G 0 f) + (((nI 150) - (G 0 f)) / (nI 4))) - nI 215 then ((G 0 f) + (((nI 150) - (G 0 f)) / (nI 4))) - nI 215 else 0 - (((G 0 f) + (((nI 150) - (G 0 f)) / (nI 4))) - nI 215)) / (nI 10)) + (nI 1)))))) (ty1 := .long) hx hb hts hown hK hS (zm_ob hZ.W).1 haA_45 rfl zf_X3 tyX3_ok nmX3 20 (by decide) zw_828 (fun _ h9 => h9) rfl (by decide +kernel) rfl rfl (Nat.le_of_ble_eq_true rfl) dX3_hour_146 (fun H locs ha_43 hz_44 ho_42 hS => ?_)
          have hZ : zz_Z K A s ad (zm_c K ad th N (zg (zg G 0 f ((G 0 f) + (((nI 150) - (G 0 f)) / (nI 4)))) 1 f (nI 400)) (zl L 1 ((L 1) + (Int32.toInt64 ((nI (zins N f)) * (((if 0 ≤ ((G 0 f) + (((nI 150) - (G 0 f)) / (nI 4))) - nI 215 then ((G 0 f) + (((nI 150) - (G 0 f)) / (nI 4))) - nI 215 else 0 - (((G 0 f) + (((nI 150) - (G 0 f)) / (nI 4))) - nI 215)) / (nI 10)) + (nI 1))))))) H := hZ.put haA_45 hz_44 ho_42 (zm_put_mdiscomfort hZ.W ha_43 ho_42)
          refine lv_aload_n hx hb dX3_hour_149 rfl (lv_at hl 4 rfl) ?_
          refine zz_get (ci := 6) (C := RX3) (T := TX3) (N := 22) (v := .ref (ad 1 4)) hx hb hts hown hK (zm_ob hZ.W).1 rfl zf_X3 10 (by decide) zw_818 (fun _ h9 => h9) rfl dX3_hour_150 ?_
          refine lv_iload_n hx hb dX3_hour_153 rfl (lv_at hl 5 rfl) ?_
          refine zz_zald (y := nI (N 3 f)) hx hb hK (zm_isOpen hZ.W).1 (vp_in_nI (show f < 6 by omega) (by decide)) dX3_hour_154 (by rw [nI_clamp (by omega)] <;> rfl) ?_
          refine zz_if_eq (tgt := 167) (by first | exact hB _ _ | exact hUa _ | exact hUb _ | exact hUc _ | exact hUd _ | omega) hx hb dX3_hour_155 (by decide) (fun c_46 => ?_) (fun c_46 => ?_)
          · skip
            refine zz_con 0 hx hb dX3_hour_167 (by decide) ?_
            refine zz_iret hx hb hr hlocks hS (Nat.le_of_ble_eq_true rfl) (Nat.le_of_ble_eq_true rfl) dX3_hour_168 ?_
            have ha9 : zw_air (N 3 f) (zins N f) (G 1 f) = nI 400 := by (unfold zw_air; rw [hop]; first | rw [if_neg (Int32.not_lt.mpr (show nI 400 ≤ _ by assumption))] | rw [if_pos (Int32.not_le.mp (show ¬ nI 400 ≤ _ by assumption))])
            refine ⟨?_, ?_⟩
            · first | rfl | (unfold zw_use; rw [hch]; first | rw [if_pos (by assumption)] | rw [if_neg (by assumption)]) | (simp [zw_use, c_4, hch, c_9, c_10, c_36, c_46]; done)
            · refine zm_co rfl rfl ?_ ?_ hZ.W
              · rw [ha9, hch]
              · refine congrArg (zl L 1) ?_
                refine congrArg (fun z => L 1 + (nI (zins N f) * z).toInt64) ?_
                unfold zw_one; rw [ha9, hch]; first | (rw [if_pos (show _ ≤ nI 500 by assumption)]; exact Int32.add_zero _) | rw [if_neg (show ¬ _ ≤ nI 500 by assumption)]
          · skip
            exact absurd c_4 c_46
    · skip
      exact absurd c_4 c_9
  · skip
    have hw9 : ∃ a, a < 109 ∧ G 0 f + (nI (210 + (4 * (zins N f))) - G 0 f) / nI 4 = nI (150 + a) := by (have h := zw_gb (o := N 3 f) hnb (hg f hf); unfold zw_chg zw_want at h; rw [if_neg c_4] at h; exact h)
    have hch : zw_chg (N 3 f) (zins N f) (G 0 f) = (nI (210 + (4 * (zins N f))) - G 0 f) / nI 4 := by (unfold zw_chg zw_want; rw [if_neg c_4])
    have hop : (if N 3 f = 0 then 10 else 30) = 30 := by rw [if_neg c_4]
    refine lv_sipush (v := nI 210) hx hb dX3_hour_15 (by decide) ?_
    refine zz_con 4 hx hb dX3_hour_18 (by decide) ?_
    refine lv_iload_n hx hb dX3_hour_19 rfl (lv_at hl 0 rfl) ?_
    refine zz_mul hx hb dX3_hour_20 ?_
    refine zz_add hx hb dX3_hour_21 ?_
    refine lv_goto (tgt := 28) hx hb dX3_hour_22 (by decide) ?_
    refine lv_istore_n (lv' := [(3, .int (nI (210 + (4 * (zins N f))))), (2, .int (nI (zins N f))), (0, .ref (ad 0 0)), (1, .int (nI f))]) hx hb dX3_hour_28 rfl hl (Nat.le_of_ble_eq_true rfl) rfl (fun ls hl => ?_)
    refine lv_iload_n hx hb dX3_hour_29 rfl (lv_at hl 0 rfl) ?_
    refine lv_aload_n hx hb dX3_hour_30 rfl (lv_at hl 2 rfl) ?_
    refine zz_get (ci := 6) (C := RX3) (T := TX3) (N := 22) (v := .ref (ad 1 2)) hx hb hts hown hK (zm_ob hZ.W).1 rfl zf_X3 8 (by decide) zw_816 (fun _ h9 => h9) rfl dX3_hour_31 ?_
    refine lv_iload_n hx hb dX3_hour_34 rfl (lv_at hl 3 rfl) ?_
    refine zz_iald (y := G 0 f) hx hb hK (zm_warmth hZ.W).1 (vp_in_nI (show f < 6 by omega) (by decide)) dX3_hour_35 (by rw [nI_clamp (by omega)] <;> rfl) ?_
    refine lv_isub hx hb dX3_hour_36 ?_
    refine zz_con 4 hx hb dX3_hour_37 (by decide) ?_
    refine lv_idiv hx hb dX3_hour_38 (by decide) ?_
    refine lv_istore (lv' := [(4, .int (((nI (210 + (4 * (zins N f)))) - (G 0 f)) / (nI 4))), (3, .int (nI (210 + (4 * (zins N f))))), (2, .int (nI (zins N f))), (0, .ref (ad 0 0)), (1, .int (nI f))]) hx hb dX3_hour_39 hl (Nat.le_of_ble_eq_true rfl) rfl (fun ls hl => ?_)
    refine lv_aload_n hx hb dX3_hour_41 rfl (lv_at hl 3 rfl) ?_
    refine zz_get (ci := 6) (C := RX3) (T := TX3) (N := 22) (v := .ref (ad 1 2)) hx hb hts hown hK (zm_ob hZ.W).1 rfl zf_X3 8 (by decide) zw_816 (fun _ h9 => h9) rfl dX3_hour_42 ?_
    refine lv_iload_n hx hb dX3_hour_45 rfl (lv_at hl 4 rfl) ?_
    refine lv_dup2_11 hx hb dX3_hour_46 rfl rfl ?_
    refine zz_iald (y := G 0 f) hx hb hK (zm_warmth hZ.W).1 (vp_in_nI (show f < 6 by omega) (by decide)) dX3_hour_47 (by rw [nI_clamp (by omega)] <;> rfl) ?_
    refine lv_iload hx hb dX3_hour_48 (lv_at hl 0 rfl) ?_
    refine lv_iadd hx hb dX3_hour_50 ?_
    have hS : va_S A s.heap H _ := zz_Smono hS (fun _ h => h.elim)
    have haA_50 := (zm_warmth hZ.W).2
    refine zz_iast (x := (G 0 f) + (((nI (210 + (4 * (zins N f)))) - (G 0 f)) / (nI 4))) hx hb hK hS (zm_warmth hZ.W).1 haA_50 (vp_in_nI (show f < 6 by omega) (by decide)) dX3_hour_51 (fun H locs ha_48 hz_49 ho_47 hS => ?_)
    have hZ : zz_Z K A s ad (zm_c K ad th N (zg G 0 f ((G 0 f) + (((nI (210 + (4 * (zins N f)))) - (G 0 f)) / (nI 4)))) L) H := hZ.put haA_50 hz_49 ho_47 (zm_put_a_warmth hZ.W (by omega) (nI_clamp (by omega)) rfl ha_48 ho_47)
    refine lv_aload_n hx hb dX3_hour_52 rfl (lv_at hl 3 rfl) ?_
    refine zz_get (ci := 6) (C := RX3) (T := TX3) (N := 22) (v := .ref (ad 1 3)) hx hb hts hown hK (zm_ob hZ.W).1 rfl zf_X3 9 (by decide) zw_817 (fun _ h9 => h9) rfl dX3_hour_53 ?_
    refine lv_iload_n hx hb dX3_hour_56 rfl (lv_at hl 4 rfl) ?_
    refine zz_iald (y := G 1 f) hx hb hK (zm_air hZ.W).1 (vp_in_nI (show f < 6 by omega) (by decide)) dX3_hour_57 (by rw [nI_clamp (by omega)] <;> simp [zg]) ?_
    refine lv_bipush (v := nI 25) hx hb dX3_hour_58 (by decide) ?_
    refine lv_iload_n hx hb dX3_hour_60 rfl (lv_at hl 2 rfl) ?_
    refine zz_mul hx hb dX3_hour_61 ?_
    refine lv_iadd hx hb dX3_hour_62 ?_
    refine lv_aload_n hx hb dX3_hour_63 rfl (lv_at hl 3 rfl) ?_
    refine zz_get (ci := 6) (C := RX3) (T := TX3) (N := 22) (v := .ref (ad 1 4)) hx hb hts hown hK (zm_ob hZ.W).1 rfl zf_X3 10 (by decide) zw_818 (fun _ h9 => h9) rfl dX3_hour_64 ?_
    refine lv_iload_n hx hb dX3_hour_67 rfl (lv_at hl 4 rfl) ?_
    refine zz_zald (y := nI (N 3 f)) hx hb hK (zm_isOpen hZ.W).1 (vp_in_nI (show f < 6 by omega) (by decide)) dX3_hour_68 (by rw [nI_clamp (by omega)] <;> rfl) ?_
    refine zz_if_eq (tgt := 77) (by first | exact hB _ _ | exact hUa _ | exact hUb _ | exact hUc _ | exact hUd _ | omega) hx hb dX3_hour_69 (by decide) (fun c_51 => ?_) (fun c_51 => ?_)
    · skip
      exact absurd c_51 c_4
    · skip
      refine lv_bipush (v := nI 30) hx hb dX3_hour_72 (by decide) ?_
      refine lv_goto (tgt := 79) hx hb dX3_hour_74 (by decide) ?_
      refine lv_isub hx hb dX3_hour_79 ?_
      refine lv_istore (lv' := [(5, .int (((G 1 f) + (nI (25 * (zins N f)))) - (nI 30))), (4, .int (((nI (210 + (4 * (zins N f)))) - (G 0 f)) / (nI 4))), (3, .int (nI (210 + (4 * (zins N f))))), (2, .int (nI (zins N f))), (0, .ref (ad 0 0)), (1, .int (nI f))]) hx hb dX3_hour_80 hl (Nat.le_of_ble_eq_true rfl) rfl (fun ls hl => ?_)
      refine lv_aload_n hx hb dX3_hour_82 rfl (lv_at hl 4 rfl) ?_
      refine zz_get (ci := 6) (C := RX3) (T := TX3) (N := 22) (v := .ref (ad 1 3)) hx hb hts hown hK (zm_ob hZ.W).1 rfl zf_X3 9 (by decide) zw_817 (fun _ h9 => h9) rfl dX3_hour_83 ?_
      refine lv_iload_n hx hb dX3_hour_86 rfl (lv_at hl 5 rfl) ?_
      refine lv_iload hx hb dX3_hour_87 (lv_at hl 0 rfl) ?_
      refine lv_sipush (v := nI 400) hx hb dX3_hour_89 (by decide) ?_
      refine lv_icmp_ge (tgt := 101) hx hb dX3_hour_92 (by decide) (fun c_52 => ?_) (fun c_52 => ?_)
      · skip
        refine lv_iload hx hb dX3_hour_101 (lv_at hl 0 rfl) ?_
        have haA_56 := (zm_air hZ.W).2
        refine zz_iast (x := ((G 1 f) + (nI (25 * (zins N f)))) - (nI 30)) hx hb hK hS (zm_air hZ.W).1 haA_56 (vp_in_nI (show f < 6 by omega) (by decide)) dX3_hour_103 (fun H locs ha_54 hz_55 ho_53 hS => ?_)
        have hZ : zz_Z K A s ad (zm_c K ad th N (zg (zg G 0 f ((G 0 f) + (((nI (210 + (4 * (zins N f)))) - (G 0 f)) / (nI 4)))) 1 f (((G 1 f) + (nI (25 * (zins N f)))) - (nI 30))) L) H := hZ.put haA_56 hz_55 ho_53 (zm_put_a_air hZ.W (by omega) (nI_clamp (by omega)) rfl ha_54 ho_53)
        refine lv_aload_n hx hb dX3_hour_104 rfl (lv_at hl 4 rfl) ?_
        refine lv_dup hx hb dX3_hour_105 rfl ?_
        refine zz_get (ci := 6) (C := RX3) (T := TX3) (N := 22) (v := .long (L 1)) hx hb hts hown hK (zm_ob hZ.W).1 rfl zf_X3 20 (by decide) zw_828 (fun _ h9 => h9) rfl dX3_hour_106 ?_
        refine lv_iload_n hx hb dX3_hour_109 rfl (lv_at hl 3 rfl) ?_
        refine lv_aload_n hx hb dX3_hour_110 rfl (lv_at hl 4 rfl) ?_
        refine zz_get (ci := 6) (C := RX3) (T := TX3) (N := 22) (v := .ref (ad 1 2)) hx hb hts hown hK (zm_ob hZ.W).1 rfl zf_X3 8 (by decide) zw_816 (fun _ h9 => h9) rfl dX3_hour_111 ?_
        refine lv_iload_n hx hb dX3_hour_114 rfl (lv_at hl 5 rfl) ?_
        refine zz_iald (y := (G 0 f) + (((nI (210 + (4 * (zins N f)))) - (G 0 f)) / (nI 4))) hx hb hK (zm_warmth hZ.W).1 (vp_in_nI (show f < 6 by omega) (by decide)) dX3_hour_115 (by rw [nI_clamp (by omega)] <;> simp [zg]) ?_
        refine lv_sipush (v := nI 215) hx hb dX3_hour_116 (by decide) ?_
        refine zz_after (pc := 119) rfl (zz_runS (As := [.int ((G 0 f) + (((nI (210 + (4 * (zins N f)))) - (G 0 f)) / (nI 4))), .int (nI 215)]) (rest := [.int (nI (zins N f)), .long (L 1), .ref (ad 0 0)]) hx hb hml hown hts (c_X3_apart l (K := K) (A := A) ((G 0 f) + (((nI (210 + (4 * (zins N f)))) - (G 0 f)) / (nI 4))) (nI 215)) zw_955 zw_956 zw_5 zw_957 zd_X3_apart ⟨Nat.le_of_ble_eq_true rfl, Nat.le_of_ble_eq_true rfl⟩ hZ.E hZ.A trivial hl.1 (Nat.le_of_ble_eq_true rfl) dX3_hour_119 ⟨Nat.le_of_ble_eq_true rfl, Nat.le_of_ble_eq_true rfl⟩) hS (fun _ h => h.elim) (fun v_59 H locs hq_57 hF_58 hS => ?_)
        refine W.widen (k := 0) (n := 0) (Nat.le_of_ble_eq_true rfl) (Nat.le_of_ble_eq_true rfl) ?_
        obtain rfl := hq_57
        have hZ := hZ.ro hF_58
        refine W.eq (g2 := F0 m 122 ls [.int (if (nI 215) < ((G 0 f) + (((nI (210 + (4 * (zins N f)))) - (G 0 f)) / (nI 4))) then ((G 0 f) + (((nI (210 + (4 * (zins N f)))) - (G 0 f)) / (nI 4))) - (nI 215) else (nI 215) - ((G 0 f) + (((nI (210 + (4 * (zins N f)))) - (G 0 f)) / (nI 4)))), .int (nI (zins N f)), .long (L 1), .ref (ad 0 0)]) rfl ?_
        refine zz_cv (y := if 0 ≤ ((G 0 f) + (((nI (210 + (4 * (zins N f)))) - (G 0 f)) / (nI 4))) - nI 215 then ((G 0 f) + (((nI (210 + (4 * (zins N f)))) - (G 0 f)) / (nI 4))) - nI 215 else 0 - (((G 0 f) + (((nI (210 + (4 * (zins N f)))) - (G 0 f)) / (nI 4))) - nI 215)) (zw_abs hw9) ?_
        refine lv_bipush (v := nI 10) hx hb dX3_hour_122 (by decide) ?_
        refine lv_idiv hx hb dX3_hour_124 (by decide) ?_
        refine lv_aload_n hx hb dX3_hour_125 rfl (lv_at hl 4 rfl) ?_
        refine zz_get (ci := 6) (C := RX3) (T := TX3) (N := 22) (v := .ref (ad 1 3)) hx hb hts hown hK (zm_ob hZ.W).1 rfl zf_X3 9 (by decide) zw_817 (fun _ h9 => h9) rfl dX3_hour_126 ?_
        refine lv_iload_n hx hb dX3_hour_129 rfl (lv_at hl 5 rfl) ?_
        refine zz_iald (y := ((G 1 f) + (nI (25 * (zins N f)))) - (nI 30)) hx hb hK (zm_air hZ.W).1 (vp_in_nI (show f < 6 by omega) (by decide)) dX3_hour_130 (by rw [nI_clamp (by omega)] <;> simp [zg]) ?_
        refine lv_sipush (v := nI 500) hx hb dX3_hour_131 (by decide) ?_
        refine lv_icmp_le (tgt := 141) hx hb dX3_hour_134 (by decide) (fun c_60 => ?_) (fun c_60 => ?_)
        · skip
          refine zz_con 0 hx hb dX3_hour_141 (by decide) ?_
          refine lv_iadd hx hb dX3_hour_142 ?_
          refine lv_imul hx hb dX3_hour_143 ?_
          refine lv_i2l hx hb dX3_hour_144 rfl ?_
          refine lv_ladd hx hb dX3_hour_145 ?_
          have haA_64 := (zm_ob hZ.W).2
          refine zz_put (ci := 6) (C := RX3) (T := TX3) (N := 22) (v := .long ((L 1) + (Int32.toInt64 ((nI (zins N f)) * (((if 0 ≤ ((G 0 f) + (((nI (210 + (4 * (zins N f)))) - (G 0 f)) / (nI 4))) - nI 215 then ((G 0 f) + (((nI (210 + (4 * (zins N f)))) - (G 0 f)) / (nI 4))) - nI 215 else 0 - (((G 0 f) + (((nI (210 + (4 * (zins N f)))) - (G 0 f)) / (nI 4))) - nI 215)) / (nI 10)) + (nI 0)))))) (ty1 := .long) hx hb hts hown hK hS (zm_ob hZ.W).1 haA_64 rfl zf_X3 tyX3_ok nmX3 20 (by decide) zw_828 (fun _ h9 => h9) rfl (by decide +kernel) rfl rfl (Nat.le_of_ble_eq_true rfl) dX3_hour_146 (fun H locs ha_62 hz_63 ho_61 hS => ?_)
          have hZ : zz_Z K A s ad (zm_c K ad th N (zg (zg G 0 f ((G 0 f) + (((nI (210 + (4 * (zins N f)))) - (G 0 f)) / (nI 4)))) 1 f (((G 1 f) + (nI (25 * (zins N f)))) - (nI 30))) (zl L 1 ((L 1) + (Int32.toInt64 ((nI (zins N f)) * (((if 0 ≤ ((G 0 f) + (((nI (210 + (4 * (zins N f)))) - (G 0 f)) / (nI 4))) - nI 215 then ((G 0 f) + (((nI (210 + (4 * (zins N f)))) - (G 0 f)) / (nI 4))) - nI 215 else 0 - (((G 0 f) + (((nI (210 + (4 * (zins N f)))) - (G 0 f)) / (nI 4))) - nI 215)) / (nI 10)) + (nI 0))))))) H := hZ.put haA_64 hz_63 ho_61 (zm_put_mdiscomfort hZ.W ha_62 ho_61)
          refine lv_aload_n hx hb dX3_hour_149 rfl (lv_at hl 4 rfl) ?_
          refine zz_get (ci := 6) (C := RX3) (T := TX3) (N := 22) (v := .ref (ad 1 4)) hx hb hts hown hK (zm_ob hZ.W).1 rfl zf_X3 10 (by decide) zw_818 (fun _ h9 => h9) rfl dX3_hour_150 ?_
          refine lv_iload_n hx hb dX3_hour_153 rfl (lv_at hl 5 rfl) ?_
          refine zz_zald (y := nI (N 3 f)) hx hb hK (zm_isOpen hZ.W).1 (vp_in_nI (show f < 6 by omega) (by decide)) dX3_hour_154 (by rw [nI_clamp (by omega)] <;> rfl) ?_
          refine zz_if_eq (tgt := 167) (by first | exact hB _ _ | exact hUa _ | exact hUb _ | exact hUc _ | exact hUd _ | omega) hx hb dX3_hour_155 (by decide) (fun c_65 => ?_) (fun c_65 => ?_)
          · skip
            exact absurd c_65 c_4
          · skip
            refine lv_iload hx hb dX3_hour_158 (lv_at hl 1 rfl) ?_
            refine zz_con 0 hx hb dX3_hour_160 (by decide) ?_
            refine zz_after (pc := 161) rfl (zz_runS (As := [.int (((nI (210 + (4 * (zins N f)))) - (G 0 f)) / (nI 4)), .int (nI 0)]) (rest := []) hx hb hml hown hts (c_X3_apart l (K := K) (A := A) (((nI (210 + (4 * (zins N f)))) - (G 0 f)) / (nI 4)) (nI 0)) zw_955 zw_956 zw_5 zw_957 zd_X3_apart ⟨Nat.le_of_ble_eq_true rfl, Nat.le_of_ble_eq_true rfl⟩ hZ.E hZ.A trivial hl.1 (Nat.le_of_ble_eq_true rfl) dX3_hour_161 ⟨Nat.le_of_ble_eq_true rfl, Nat.le_of_ble_eq_true rfl⟩) hS (fun _ h => h.elim) (fun v_68 H locs hq_66 hF_67 hS => ?_)
            refine W.widen (k := 0) (n := 0) (Nat.le_of_ble_eq_true rfl) (Nat.le_of_ble_eq_true rfl) ?_
            obtain rfl := hq_66
            have hZ := hZ.ro hF_67
            refine W.eq (g2 := F0 m 164 ls [.int (if (nI 0) < (((nI (210 + (4 * (zins N f)))) - (G 0 f)) / (nI 4)) then (((nI (210 + (4 * (zins N f)))) - (G 0 f)) / (nI 4)) - (nI 0) else (nI 0) - (((nI (210 + (4 * (zins N f)))) - (G 0 f)) / (nI 4)))]) rfl ?_
            refine zz_cv (y := if 0 ≤ (((nI (210 + (4 * (zins N f)))) - (G 0 f)) / (nI 4)) then (((nI (210 + (4 * (zins N f)))) - (G 0 f)) / (nI 4)) else 0 - (((nI (210 + (4 * (zins N f)))) - (G 0 f)) / (nI 4))) (zw_use0 _) ?_
            refine lv_goto (tgt := 168) hx hb dX3_hour_164 (by decide) ?_
            refine zz_iret hx hb hr hlocks hS (Nat.le_of_ble_eq_true rfl) (Nat.le_of_ble_eq_true rfl) dX3_hour_168 ?_
            have ha9 : zw_air (N 3 f) (zins N f) (G 1 f) = ((G 1 f) + (nI (25 * (zins N f)))) - (nI 30) := by (unfold zw_air; rw [hop]; first | rw [if_neg (Int32.not_lt.mpr (show nI 400 ≤ _ by assumption))] | rw [if_pos (Int32.not_le.mp (show ¬ nI 400 ≤ _ by assumption))])
            refine ⟨?_, ?_⟩
            · first | rfl | (unfold zw_use; rw [hch]; first | rw [if_pos (by assumption)] | rw [if_neg (by assumption)]) | (simp [zw_use, c_4, hch, c_51, c_52, c_60, c_65]; done)
            · refine zm_co rfl rfl ?_ ?_ hZ.W
              · rw [ha9, hch]
              · refine congrArg (zl L 1) ?_
                refine congrArg (fun z => L 1 + (nI (zins N f) * z).toInt64) ?_
                unfold zw_one; rw [ha9, hch]; first | (rw [if_pos (show _ ≤ nI 500 by assumption)]; exact Int32.add_zero _) | rw [if_neg (show ¬ _ ≤ nI 500 by assumption)]
        · skip
          refine zz_con 1 hx hb dX3_hour_137 (by decide) ?_
          refine lv_goto (tgt := 142) hx hb dX3_hour_138 (by decide) ?_
          refine lv_iadd hx hb dX3_hour_142 ?_
          refine lv_imul hx hb dX3_hour_143 ?_
          refine lv_i2l hx hb dX3_hour_144 rfl ?_
          refine lv_ladd hx hb dX3_hour_145 ?_
          have haA_72 := (zm_ob hZ.W).2
          refine zz_put (ci := 6) (C := RX3) (T := TX3) (N := 22) (v := .long ((L 1) + (Int32.toInt64 ((nI (zins N f)) * (((if 0 ≤ ((G 0 f) + (((nI (210 + (4 * (zins N f)))) - (G 0 f)) / (nI 4))) - nI 215 then ((G 0 f) + (((nI (210 + (4 * (zins N f)))) - (G 0 f)) / (nI 4))) - nI 215 else 0 - (((G 0 f) + (((nI (210 + (4 * (zins N f)))) - (G 0 f)) / (nI 4))) - nI 215)) / (nI 10)) + (nI 1)))))) (ty1 := .long) hx hb hts hown hK hS (zm_ob hZ.W).1 haA_72 rfl zf_X3 tyX3_ok nmX3 20 (by decide) zw_828 (fun _ h9 => h9) rfl (by decide +kernel) rfl rfl (Nat.le_of_ble_eq_true rfl) dX3_hour_146 (fun H locs ha_70 hz_71 ho_69 hS => ?_)
          have hZ : zz_Z K A s ad (zm_c K ad th N (zg (zg G 0 f ((G 0 f) + (((nI (210 + (4 * (zins N f)))) - (G 0 f)) / (nI 4)))) 1 f (((G 1 f) + (nI (25 * (zins N f)))) - (nI 30))) (zl L 1 ((L 1) + (Int32.toInt64 ((nI (zins N f)) * (((if 0 ≤ ((G 0 f) + (((nI (210 + (4 * (zins N f)))) - (G 0 f)) / (nI 4))) - nI 215 then ((G 0 f) + (((nI (210 + (4 * (zins N f)))) - (G 0 f)) / (nI 4))) - nI 215 else 0 - (((G 0 f) + (((nI (210 + (4 * (zins N f)))) - (G 0 f)) / (nI 4))) - nI 215)) / (nI 10)) + (nI 1))))))) H := hZ.put haA_72 hz_71 ho_69 (zm_put_mdiscomfort hZ.W ha_70 ho_69)
          refine lv_aload_n hx hb dX3_hour_149 rfl (lv_at hl 4 rfl) ?_
          refine zz_get (ci := 6) (C := RX3) (T := TX3) (N := 22) (v := .ref (ad 1 4)) hx hb hts hown hK (zm_ob hZ.W).1 rfl zf_X3 10 (by decide) zw_818 (fun _ h9 => h9) rfl dX3_hour_150 ?_
          refine lv_iload_n hx hb dX3_hour_153 rfl (lv_at hl 5 rfl) ?_
          refine zz_zald (y := nI (N 3 f)) hx hb hK (zm_isOpen hZ.W).1 (vp_in_nI (show f < 6 by omega) (by decide)) dX3_hour_154 (by rw [nI_clamp (by omega)] <;> rfl) ?_
          refine zz_if_eq (tgt := 167) (by first | exact hB _ _ | exact hUa _ | exact hUb _ | exact hUc _ | exact hUd _ | omega) hx hb dX3_hour_155 (by decide) (fun c_73 => ?_) (fun c_73 => ?_)
          · skip
            exact absurd c_73 c_4
          · skip
            refine lv_iload hx hb dX3_hour_158 (lv_at hl 1 rfl) ?_
            refine zz_con 0 hx hb dX3_hour_160 (by decide) ?_
            refine zz_after (pc := 161) rfl (zz_runS (As := [.int (((nI (210 + (4 * (zins N f)))) - (G 0 f)) / (nI 4)), .int (nI 0)]) (rest := []) hx hb hml hown hts (c_X3_apart l (K := K) (A := A) (((nI (210 + (4 * (zins N f)))) - (G 0 f)) / (nI 4)) (nI 0)) zw_955 zw_956 zw_5 zw_957 zd_X3_apart ⟨Nat.le_of_ble_eq_true rfl, Nat.le_of_ble_eq_true rfl⟩ hZ.E hZ.A trivial hl.1 (Nat.le_of_ble_eq_true rfl) dX3_hour_161 ⟨Nat.le_of_ble_eq_true rfl, Nat.le_of_ble_eq_true rfl⟩) hS (fun _ h => h.elim) (fun v_76 H locs hq_74 hF_75 hS => ?_)
            refine W.widen (k := 0) (n := 0) (Nat.le_of_ble_eq_true rfl) (Nat.le_of_ble_eq_true rfl) ?_
            obtain rfl := hq_74
            have hZ := hZ.ro hF_75
            refine W.eq (g2 := F0 m 164 ls [.int (if (nI 0) < (((nI (210 + (4 * (zins N f)))) - (G 0 f)) / (nI 4)) then (((nI (210 + (4 * (zins N f)))) - (G 0 f)) / (nI 4)) - (nI 0) else (nI 0) - (((nI (210 + (4 * (zins N f)))) - (G 0 f)) / (nI 4)))]) rfl ?_
            refine zz_cv (y := if 0 ≤ (((nI (210 + (4 * (zins N f)))) - (G 0 f)) / (nI 4)) then (((nI (210 + (4 * (zins N f)))) - (G 0 f)) / (nI 4)) else 0 - (((nI (210 + (4 * (zins N f)))) - (G 0 f)) / (nI 4))) (zw_use0 _) ?_
            refine lv_goto (tgt := 168) hx hb dX3_hour_164 (by decide) ?_
            refine zz_iret hx hb hr hlocks hS (Nat.le_of_ble_eq_true rfl) (Nat.le_of_ble_eq_true rfl) dX3_hour_168 ?_
            have ha9 : zw_air (N 3 f) (zins N f) (G 1 f) = ((G 1 f) + (nI (25 * (zins N f)))) - (nI 30) := by (unfold zw_air; rw [hop]; first | rw [if_neg (Int32.not_lt.mpr (show nI 400 ≤ _ by assumption))] | rw [if_pos (Int32.not_le.mp (show ¬ nI 400 ≤ _ by assumption))])
            refine ⟨?_, ?_⟩
            · first | rfl | (unfold zw_use; rw [hch]; first | rw [if_pos (by assumption)] | rw [if_neg (by assumption)]) | (simp [zw_use, c_4, hch, c_51, c_52, c_60, c_73]; done)
            · refine zm_co rfl rfl ?_ ?_ hZ.W
              · rw [ha9, hch]
              · refine congrArg (zl L 1) ?_
                refine congrArg (fun z => L 1 + (nI (zins N f) * z).toInt64) ?_
                unfold zw_one; rw [ha9, hch]; first | (rw [if_pos (show _ ≤ nI 500 by assumption)]; exact Int32.add_zero _) | rw [if_neg (show ¬ _ ≤ nI 500 by assumption)]
      · skip
        refine lv_sipush (v := nI 400) hx hb dX3_hour_95 (by decide) ?_
        refine lv_goto (tgt := 103) hx hb dX3_hour_98 (by decide) ?_
        have haA_80 := (zm_air hZ.W).2
        refine zz_iast (x := nI 400) hx hb hK hS (zm_air hZ.W).1 haA_80 (vp_in_nI (show f < 6 by omega) (by decide)) dX3_hour_103 (fun H locs ha_78 hz_79 ho_77 hS => ?_)
        have hZ : zz_Z K A s ad (zm_c K ad th N (zg (zg G 0 f ((G 0 f) + (((nI (210 + (4 * (zins N f)))) - (G 0 f)) / (nI 4)))) 1 f (nI 400)) L) H := hZ.put haA_80 hz_79 ho_77 (zm_put_a_air hZ.W (by omega) (nI_clamp (by omega)) rfl ha_78 ho_77)
        refine lv_aload_n hx hb dX3_hour_104 rfl (lv_at hl 4 rfl) ?_
        refine lv_dup hx hb dX3_hour_105 rfl ?_
        refine zz_get (ci := 6) (C := RX3) (T := TX3) (N := 22) (v := .long (L 1)) hx hb hts hown hK (zm_ob hZ.W).1 rfl zf_X3 20 (by decide) zw_828 (fun _ h9 => h9) rfl dX3_hour_106 ?_
        refine lv_iload_n hx hb dX3_hour_109 rfl (lv_at hl 3 rfl) ?_
        refine lv_aload_n hx hb dX3_hour_110 rfl (lv_at hl 4 rfl) ?_
        refine zz_get (ci := 6) (C := RX3) (T := TX3) (N := 22) (v := .ref (ad 1 2)) hx hb hts hown hK (zm_ob hZ.W).1 rfl zf_X3 8 (by decide) zw_816 (fun _ h9 => h9) rfl dX3_hour_111 ?_
        refine lv_iload_n hx hb dX3_hour_114 rfl (lv_at hl 5 rfl) ?_
        refine zz_iald (y := (G 0 f) + (((nI (210 + (4 * (zins N f)))) - (G 0 f)) / (nI 4))) hx hb hK (zm_warmth hZ.W).1 (vp_in_nI (show f < 6 by omega) (by decide)) dX3_hour_115 (by rw [nI_clamp (by omega)] <;> simp [zg]) ?_
        refine lv_sipush (v := nI 215) hx hb dX3_hour_116 (by decide) ?_
        refine zz_after (pc := 119) rfl (zz_runS (As := [.int ((G 0 f) + (((nI (210 + (4 * (zins N f)))) - (G 0 f)) / (nI 4))), .int (nI 215)]) (rest := [.int (nI (zins N f)), .long (L 1), .ref (ad 0 0)]) hx hb hml hown hts (c_X3_apart l (K := K) (A := A) ((G 0 f) + (((nI (210 + (4 * (zins N f)))) - (G 0 f)) / (nI 4))) (nI 215)) zw_955 zw_956 zw_5 zw_957 zd_X3_apart ⟨Nat.le_of_ble_eq_true rfl, Nat.le_of_ble_eq_true rfl⟩ hZ.E hZ.A trivial hl.1 (Nat.le_of_ble_eq_true rfl) dX3_hour_119 ⟨Nat.le_of_ble_eq_true rfl, Nat.le_of_ble_eq_true rfl⟩) hS (fun _ h => h.elim) (fun v_83 H locs hq_81 hF_82 hS => ?_)
        refine W.widen (k := 0) (n := 0) (Nat.le_of_ble_eq_true rfl) (Nat.le_of_ble_eq_true rfl) ?_
        obtain rfl := hq_81
        have hZ := hZ.ro hF_82
        refine W.eq (g2 := F0 m 122 ls [.int (if (nI 215) < ((G 0 f) + (((nI (210 + (4 * (zins N f)))) - (G 0 f)) / (nI 4))) then ((G 0 f) + (((nI (210 + (4 * (zins N f)))) - (G 0 f)) / (nI 4))) - (nI 215) else (nI 215) - ((G 0 f) + (((nI (210 + (4 * (zins N f)))) - (G 0 f)) / (nI 4)))), .int (nI (zins N f)), .long (L 1), .ref (ad 0 0)]) rfl ?_
        refine zz_cv (y := if 0 ≤ ((G 0 f) + (((nI (210 + (4 * (zins N f)))) - (G 0 f)) / (nI 4))) - nI 215 then ((G 0 f) + (((nI (210 + (4 * (zins N f)))) - (G 0 f)) / (nI 4))) - nI 215 else 0 - (((G 0 f) + (((nI (210 + (4 * (zins N f)))) - (G 0 f)) / (nI 4))) - nI 215)) (zw_abs hw9) ?_
        refine lv_bipush (v := nI 10) hx hb dX3_hour_122 (by decide) ?_
        refine lv_idiv hx hb dX3_hour_124 (by decide) ?_
        refine lv_aload_n hx hb dX3_hour_125 rfl (lv_at hl 4 rfl) ?_
        refine zz_get (ci := 6) (C := RX3) (T := TX3) (N := 22) (v := .ref (ad 1 3)) hx hb hts hown hK (zm_ob hZ.W).1 rfl zf_X3 9 (by decide) zw_817 (fun _ h9 => h9) rfl dX3_hour_126 ?_
        refine lv_iload_n hx hb dX3_hour_129 rfl (lv_at hl 5 rfl) ?_
        refine zz_iald (y := nI 400) hx hb hK (zm_air hZ.W).1 (vp_in_nI (show f < 6 by omega) (by decide)) dX3_hour_130 (by rw [nI_clamp (by omega)] <;> simp [zg]) ?_
        refine lv_sipush (v := nI 500) hx hb dX3_hour_131 (by decide) ?_
        refine lv_icmp_le (tgt := 141) hx hb dX3_hour_134 (by decide) (fun c_84 => ?_) (fun c_84 => ?_)
        · skip
          refine zz_con 0 hx hb dX3_hour_141 (by decide) ?_
          refine lv_iadd hx hb dX3_hour_142 ?_
          refine lv_imul hx hb dX3_hour_143 ?_
          refine lv_i2l hx hb dX3_hour_144 rfl ?_
          refine lv_ladd hx hb dX3_hour_145 ?_
          have haA_88 := (zm_ob hZ.W).2
          refine zz_put (ci := 6) (C := RX3) (T := TX3) (N := 22) (v := .long ((L 1) + (Int32.toInt64 ((nI (zins N f)) * (((if 0 ≤ ((G 0 f) + (((nI (210 + (4 * (zins N f)))) - (G 0 f)) / (nI 4))) - nI 215 then ((G 0 f) + (((nI (210 + (4 * (zins N f)))) - (G 0 f)) / (nI 4))) - nI 215 else 0 - (((G 0 f) + (((nI (210 + (4 * (zins N f)))) - (G 0 f)) / (nI 4))) - nI 215)) / (nI 10)) + (nI 0)))))) (ty1 := .long) hx hb hts hown hK hS (zm_ob hZ.W).1 haA_88 rfl zf_X3 tyX3_ok nmX3 20 (by decide) zw_828 (fun _ h9 => h9) rfl (by decide +kernel) rfl rfl (Nat.le_of_ble_eq_true rfl) dX3_hour_146 (fun H locs ha_86 hz_87 ho_85 hS => ?_)
          have hZ : zz_Z K A s ad (zm_c K ad th N (zg (zg G 0 f ((G 0 f) + (((nI (210 + (4 * (zins N f)))) - (G 0 f)) / (nI 4)))) 1 f (nI 400)) (zl L 1 ((L 1) + (Int32.toInt64 ((nI (zins N f)) * (((if 0 ≤ ((G 0 f) + (((nI (210 + (4 * (zins N f)))) - (G 0 f)) / (nI 4))) - nI 215 then ((G 0 f) + (((nI (210 + (4 * (zins N f)))) - (G 0 f)) / (nI 4))) - nI 215 else 0 - (((G 0 f) + (((nI (210 + (4 * (zins N f)))) - (G 0 f)) / (nI 4))) - nI 215)) / (nI 10)) + (nI 0))))))) H := hZ.put haA_88 hz_87 ho_85 (zm_put_mdiscomfort hZ.W ha_86 ho_85)
          refine lv_aload_n hx hb dX3_hour_149 rfl (lv_at hl 4 rfl) ?_
          refine zz_get (ci := 6) (C := RX3) (T := TX3) (N := 22) (v := .ref (ad 1 4)) hx hb hts hown hK (zm_ob hZ.W).1 rfl zf_X3 10 (by decide) zw_818 (fun _ h9 => h9) rfl dX3_hour_150 ?_
          refine lv_iload_n hx hb dX3_hour_153 rfl (lv_at hl 5 rfl) ?_
          refine zz_zald (y := nI (N 3 f)) hx hb hK (zm_isOpen hZ.W).1 (vp_in_nI (show f < 6 by omega) (by decide)) dX3_hour_154 (by rw [nI_clamp (by omega)] <;> rfl) ?_
          refine zz_if_eq (tgt := 167) (by first | exact hB _ _ | exact hUa _ | exact hUb _ | exact hUc _ | exact hUd _ | omega) hx hb dX3_hour_155 (by decide) (fun c_89 => ?_) (fun c_89 => ?_)
          · skip
            exact absurd c_89 c_4
          · skip
            refine lv_iload hx hb dX3_hour_158 (lv_at hl 1 rfl) ?_
            refine zz_con 0 hx hb dX3_hour_160 (by decide) ?_
            refine zz_after (pc := 161) rfl (zz_runS (As := [.int (((nI (210 + (4 * (zins N f)))) - (G 0 f)) / (nI 4)), .int (nI 0)]) (rest := []) hx hb hml hown hts (c_X3_apart l (K := K) (A := A) (((nI (210 + (4 * (zins N f)))) - (G 0 f)) / (nI 4)) (nI 0)) zw_955 zw_956 zw_5 zw_957 zd_X3_apart ⟨Nat.le_of_ble_eq_true rfl, Nat.le_of_ble_eq_true rfl⟩ hZ.E hZ.A trivial hl.1 (Nat.le_of_ble_eq_true rfl) dX3_hour_161 ⟨Nat.le_of_ble_eq_true rfl, Nat.le_of_ble_eq_true rfl⟩) hS (fun _ h => h.elim) (fun v_92 H locs hq_90 hF_91 hS => ?_)
            refine W.widen (k := 0) (n := 0) (Nat.le_of_ble_eq_true rfl) (Nat.le_of_ble_eq_true rfl) ?_
            obtain rfl := hq_90
            have hZ := hZ.ro hF_91
            refine W.eq (g2 := F0 m 164 ls [.int (if (nI 0) < (((nI (210 + (4 * (zins N f)))) - (G 0 f)) / (nI 4)) then (((nI (210 + (4 * (zins N f)))) - (G 0 f)) / (nI 4)) - (nI 0) else (nI 0) - (((nI (210 + (4 * (zins N f)))) - (G 0 f)) / (nI 4)))]) rfl ?_
            refine zz_cv (y := if 0 ≤ (((nI (210 + (4 * (zins N f)))) - (G 0 f)) / (nI 4)) then (((nI (210 + (4 * (zins N f)))) - (G 0 f)) / (nI 4)) else 0 - (((nI (210 + (4 * (zins N f)))) - (G 0 f)) / (nI 4))) (zw_use0 _) ?_
            refine lv_goto (tgt := 168) hx hb dX3_hour_164 (by decide) ?_
            refine zz_iret hx hb hr hlocks hS (Nat.le_of_ble_eq_true rfl) (Nat.le_of_ble_eq_true rfl) dX3_hour_168 ?_
            have ha9 : zw_air (N 3 f) (zins N f) (G 1 f) = nI 400 := by (unfold zw_air; rw [hop]; first | rw [if_neg (Int32.not_lt.mpr (show nI 400 ≤ _ by assumption))] | rw [if_pos (Int32.not_le.mp (show ¬ nI 400 ≤ _ by assumption))])
            refine ⟨?_, ?_⟩
            · first | rfl | (unfold zw_use; rw [hch]; first | rw [if_pos (by assumption)] | rw [if_neg (by assumption)]) | (simp [zw_use, c_4, hch, c_51, c_52, c_84, c_89]; done)
            · refine zm_co rfl rfl ?_ ?_ hZ.W
              · rw [ha9, hch]
              · refine congrArg (zl L 1) ?_
                refine congrArg (fun z => L 1 + (nI (zins N f) * z).toInt64) ?_
                unfold zw_one; rw [ha9, hch]; first | (rw [if_pos (show _ ≤ nI 500 by assumption)]; exact Int32.add_zero _) | rw [if_neg (show ¬ _ ≤ nI 500 by assumption)]
        · skip
          refine zz_con 1 hx hb dX3_hour_137 (by decide) ?_
          refine lv_goto (tgt := 142) hx hb dX3_hour_138 (by decide) ?_
          refine lv_iadd hx hb dX3_hour_142 ?_
          refine lv_imul hx hb dX3_hour_143 ?_
          refine lv_i2l hx hb dX3_hour_144 rfl ?_
          refine lv_ladd hx hb dX3_hour_145 ?_
          have haA_96 := (zm_ob hZ.W).2
          refine zz_put (ci := 6) (C := RX3) (T := TX3) (N := 22) (v := .long ((L 1) + (Int32.toInt64 ((nI (zins N f)) * (((if 0 ≤ ((G 0 f) + (((nI (210 + (4 * (zins N f)))) - (G 0 f)) / (nI 4))) - nI 215 then ((G 0 f) + (((nI (210 + (4 * (zins N f)))) - (G 0 f)) / (nI 4))) - nI 215 else 0 - (((G 0 f) + (((nI (210 + (4 * (zins N f)))) - (G 0 f)) / (nI 4))) - nI 215)) / (nI 10)) + (nI 1)))))) (ty1 := .long) hx hb hts hown hK hS (zm_ob hZ.W).1 haA_96 rfl zf_X3 tyX3_ok nmX3 20 (by decide) zw_828 (fun _ h9 => h9) rfl (by decide +kernel) rfl rfl (Nat.le_of_ble_eq_true rfl) dX3_hour_146 (fun H locs ha_94 hz_95 ho_93 hS => ?_)
          have hZ : zz_Z K A s ad (zm_c K ad th N (zg (zg G 0 f ((G 0 f) + (((nI (210 + (4 * (zins N f)))) - (G 0 f)) / (nI 4)))) 1 f (nI 400)) (zl L 1 ((L 1) + (Int32.toInt64 ((nI (zins N f)) * (((if 0 ≤ ((G 0 f) + (((nI (210 + (4 * (zins N f)))) - (G 0 f)) / (nI 4))) - nI 215 then ((G 0 f) + (((nI (210 + (4 * (zins N f)))) - (G 0 f)) / (nI 4))) - nI 215 else 0 - (((G 0 f) + (((nI (210 + (4 * (zins N f)))) - (G 0 f)) / (nI 4))) - nI 215)) / (nI 10)) + (nI 1))))))) H := hZ.put haA_96 hz_95 ho_93 (zm_put_mdiscomfort hZ.W ha_94 ho_93)
          refine lv_aload_n hx hb dX3_hour_149 rfl (lv_at hl 4 rfl) ?_
          refine zz_get (ci := 6) (C := RX3) (T := TX3) (N := 22) (v := .ref (ad 1 4)) hx hb hts hown hK (zm_ob hZ.W).1 rfl zf_X3 10 (by decide) zw_818 (fun _ h9 => h9) rfl dX3_hour_150 ?_
          refine lv_iload_n hx hb dX3_hour_153 rfl (lv_at hl 5 rfl) ?_
          refine zz_zald (y := nI (N 3 f)) hx hb hK (zm_isOpen hZ.W).1 (vp_in_nI (show f < 6 by omega) (by decide)) dX3_hour_154 (by rw [nI_clamp (by omega)] <;> rfl) ?_
          refine zz_if_eq (tgt := 167) (by first | exact hB _ _ | exact hUa _ | exact hUb _ | exact hUc _ | exact hUd _ | omega) hx hb dX3_hour_155 (by decide) (fun c_97 => ?_) (fun c_97 => ?_)
          · skip
            exact absurd c_97 c_4
          · skip
            refine lv_iload hx hb dX3_hour_158 (lv_at hl 1 rfl) ?_
            refine zz_con 0 hx hb dX3_hour_160 (by decide) ?_
            refine zz_after (pc := 161) rfl (zz_runS (As := [.int (((nI (210 + (4 * (zins N f)))) - (G 0 f)) / (nI 4)), .int (nI 0)]) (rest := []) hx hb hml hown hts (c_X3_apart l (K := K) (A := A) (((nI (210 + (4 * (zins N f)))) - (G 0 f)) / (nI 4)) (nI 0)) zw_955 zw_956 zw_5 zw_957 zd_X3_apart ⟨Nat.le_of_ble_eq_true rfl, Nat.le_of_ble_eq_true rfl⟩ hZ.E hZ.A trivial hl.1 (Nat.le_of_ble_eq_true rfl) dX3_hour_161 ⟨Nat.le_of_ble_eq_true rfl, Nat.le_of_ble_eq_true rfl⟩) hS (fun _ h => h.elim) (fun v_100 H locs hq_98 hF_99 hS => ?_)
            refine W.widen (k := 0) (n := 0) (Nat.le_of_ble_eq_true rfl) (Nat.le_of_ble_eq_true rfl) ?_
            obtain rfl := hq_98
            have hZ := hZ.ro hF_99
            refine W.eq (g2 := F0 m 164 ls [.int (if (nI 0) < (((nI (210 + (4 * (zins N f)))) - (G 0 f)) / (nI 4)) then (((nI (210 + (4 * (zins N f)))) - (G 0 f)) / (nI 4)) - (nI 0) else (nI 0) - (((nI (210 + (4 * (zins N f)))) - (G 0 f)) / (nI 4)))]) rfl ?_
            refine zz_cv (y := if 0 ≤ (((nI (210 + (4 * (zins N f)))) - (G 0 f)) / (nI 4)) then (((nI (210 + (4 * (zins N f)))) - (G 0 f)) / (nI 4)) else 0 - (((nI (210 + (4 * (zins N f)))) - (G 0 f)) / (nI 4))) (zw_use0 _) ?_
            refine lv_goto (tgt := 168) hx hb dX3_hour_164 (by decide) ?_
            refine zz_iret hx hb hr hlocks hS (Nat.le_of_ble_eq_true rfl) (Nat.le_of_ble_eq_true rfl) dX3_hour_168 ?_
            have ha9 : zw_air (N 3 f) (zins N f) (G 1 f) = nI 400 := by (unfold zw_air; rw [hop]; first | rw [if_neg (Int32.not_lt.mpr (show nI 400 ≤ _ by assumption))] | rw [if_pos (Int32.not_le.mp (show ¬ nI 400 ≤ _ by assumption))])
            refine ⟨?_, ?_⟩
            · first | rfl | (unfold zw_use; rw [hch]; first | rw [if_pos (by assumption)] | rw [if_neg (by assumption)]) | (simp [zw_use, c_4, hch, c_51, c_52, c_84, c_97]; done)
            · refine zm_co rfl rfl ?_ ?_ hZ.W
              · rw [ha9, hch]
              · refine congrArg (zl L 1) ?_
                refine congrArg (fun z => L 1 + (nI (zins N f) * z).toInt64) ?_
                unfold zw_one; rw [ha9, hch]; first | (rw [if_pos (show _ ≤ nI 500 by assumption)]; exact Int32.add_zero _) | rw [if_neg (show ¬ _ ≤ nI 500 by assumption)]

set_option maxHeartbeats 4000000 in
set_option maxRecDepth 100000 in
theorem c_X3_pass (l : Launch) {K : zz_G} {A : Nat → Prop} {ad : Nat → Nat → Nat} {th : Int32} {N : Nat → Nat → Nat} {G : Nat → Nat → Int32} {L : Nat → Int64} (hI : zq N) (hg : zgi N G) (x : Int32) : zz_C l yX3_pass cX3_pass 5 (Option.some FieldType.int) ({ frames := 2, cells := 0, slots := 0, locals := 48 } : Room) K A [.ref (ad 0 0), .int x] (fun H => zz_W K A ad (zm_c K ad th N G L) H) (fun v9 _ H9 => v9 = some (.int ((zs_pass N G L x).2.1)) ∧ zz_W K A ad (zm_c K ad (nI (zs_pass N G L x).1) N ((zs_pass N G L x).2.2.1) ((zs_pass N G L x).2.2.2)) H9) zz_nx A := by
  refine zz_body (by decide +kernel) (Nat.le_of_ble_eq_true rfl) ?_
  intro p e s m below meth c ls hx hb hr hml hts hown hlocks hmn htab hE hA hP hl
  have hN := hE.N
  have hK := hE.K
  have hown : s.vm.findClass RX3 = some m.cls := hown
  have hl : lv_has ls 5 [(0, .ref (ad 0 0)), (1, .int x)] := hl
  have hZ : zz_Z K A s ad (zm_c K ad th N G L) s.heap := ⟨hE, hA, hP⟩
  have hS : va_S zz_no s.heap s.heap [] := va_S.rf
  obtain ⟨H, hH⟩ : ∃ z, z = s.heap := ⟨_, rfl⟩
  have hS0 : va_S zz_no s.heap H [] := by rw [hH]; exact hS
  rw [← hH] at hZ
  have hE0 := hE
  clear hS
  have hS := hS0
  have hB := hI.B
  have h00 := hI.f
  have h01 := hI.p
  have h02 := hI.b
  show W p l e _ s m _ below meth c s.heap [] 0 0 _ (F0 m 0 ls [])
  rw [← hH]
  refine lv_iload_n hx hb dX3_pass_0 rfl (lv_at hl 1 rfl) ?_
  refine zz_con 1 hx hb dX3_pass_1 (by decide) ?_
  refine lv_bipush (v := nI 24) hx hb dX3_pass_2 (by decide) ?_
  refine zz_after (pc := 4) rfl (zz_runS (As := [.int x, .int (nI 1), .int (nI 24)]) (rest := []) hx hb hml hown hts (c_X3_in l (K := K) (A := A) x (nI 1) (nI 24)) zw_884 zw_885 zw_5 zw_886 zd_X3_in ⟨Nat.le_of_ble_eq_true rfl, Nat.le_of_ble_eq_true rfl⟩ hZ.E hZ.A trivial hl.1 (Nat.le_of_ble_eq_true rfl) dX3_pass_4 ⟨Nat.le_of_ble_eq_true rfl, Nat.le_of_ble_eq_true rfl⟩) hS (fun _ h => h.elim) (fun v_3 H locs hq_1 hF_2 hS => ?_)
  refine W.widen (k := 0) (n := 0) (Nat.le_of_ble_eq_true rfl) (Nat.le_of_ble_eq_true rfl) ?_
  obtain rfl := hq_1
  have hZ := hZ.ro hF_2
  refine W.eq (g2 := F0 m 7 ls [.int (zz_bo (nI 1 ≤ x ∧ x ≤ nI 24))]) rfl ?_
  refine zz_bi_ne (tgt := 16) hx hb dX3_pass_7 (by decide) (fun c_4 => ?_) (fun c_4 => ?_)
  · skip
    obtain ⟨j, hj, rfl⟩ := zz_rng2 (a := 1) (b := 24) (by decide) (by decide) c_4
    have hjc : (nI j).toNatClampNeg = j := nI_clamp (by omega)
    have hjb : j < 2 ^ 31 := by omega
    refine zz_con 0 hx hb dX3_pass_16 (by decide) ?_
    refine lv_istore_n (lv' := [(2, .int (nI 0)), (0, .ref (ad 0 0)), (1, .int (nI j))]) hx hb dX3_pass_17 rfl hl (Nat.le_of_ble_eq_true rfl) rfl (fun ls hl => ?_)
    refine zz_con 0 hx hb dX3_pass_18 (by decide) ?_
    refine lv_istore_n (lv' := [(3, .int (nI 0)), (2, .int (nI 0)), (0, .ref (ad 0 0)), (1, .int (nI j))]) hx hb dX3_pass_19 rfl hl (Nat.le_of_ble_eq_true rfl) rfl (fun ls hl => ?_)
    have hS : va_S A s.heap H _ := zz_Smono hS (fun _ h => h.elim)
    have hL_6 : ∀ (k i : Nat), i ≤ j → j < i + k → ∀ (H : Heap) (locs : List Loc) (ls : Array Slot), zz_Z K A s ad (zm_c K ad th N ((zhh N (G, L, nI 0) i).1) ((zhh N (G, L, nI 0) i).2.1)) H → va_S A s.heap H locs → lv_has ls 5 [(3, .int (nI i)), (2, .int ((zhh N (G, L, nI 0) i).2.2)), (0, .ref (ad 0 0)), (1, .int (nI j))] → W p l e ({ frames := 2, cells := 0, slots := 0, locals := 48 } : Room) s m ([.ref (ad 0 0), .int (nI j)] : List Value).toArray below meth c H locs 0 0 (vx_MQ below (zz_Qc (fun v9 _ H9 => v9 = some (.int ((zs_pass N G L (nI j)).2.1)) ∧ zz_W K A ad (zm_c K ad (nI (zs_pass N G L (nI j)).1) N ((zs_pass N G L (nI j)).2.2.1) ((zs_pass N G L (nI j)).2.2.2)) H9) A) (zz_XC zz_nx) ([.ref (ad 0 0), .int (nI j)] : List Value).toArray s ({ frames := 2, cells := 0, slots := 0, locals := 48 } : Room).cells ({ frames := 2, cells := 0, slots := 0, locals := 48 } : Room).slots A) (F0 m 20 ls []) := by
      intro k
      induction k with
      | zero => intro i hi hik; omega
      | succ k ih_i =>
        intro i hii hiki H locs ls hZ hS hl
        refine lv_iload_n hx hb dX3_pass_20 rfl (lv_at hl 0 rfl) ?_
        refine lv_iload_n hx hb dX3_pass_21 rfl (lv_at hl 3 rfl) ?_
        refine zz_ic_ge (tgt := 58) (by first | exact hB _ _ | exact hUa _ | exact hUb _ | exact hUc _ | exact hUd _ | omega) (by first | exact hB _ _ | exact hUa _ | exact hUb _ | exact hUc _ | exact hUd _ | omega) hx hb dX3_pass_22 (by decide) (fun c_7 => ?_) (fun c_7 => ?_)
        · skip
          obtain rfl : j = i := by omega
          refine lv_aload_n hx hb dX3_pass_58 rfl (lv_at hl 2 rfl) ?_
          refine lv_dup hx hb dX3_pass_59 rfl ?_
          refine zz_get (ci := 6) (C := RX3) (T := TX3) (N := 22) (v := .long ((zhh N (G, L, nI 0) j).2.1 0)) hx hb hts hown hK (zm_ob hZ.W).1 rfl zf_X3 19 (by decide) zw_827 (fun _ h9 => h9) rfl dX3_pass_60 ?_
          refine lv_iload_n hx hb dX3_pass_63 rfl (lv_at hl 1 rfl) ?_
          refine lv_i2l hx hb dX3_pass_64 rfl ?_
          refine lv_ladd hx hb dX3_pass_65 ?_
          have haA_11 := (zm_ob hZ.W).2
          refine zz_put (ci := 6) (C := RX3) (T := TX3) (N := 22) (v := .long (((zhh N (G, L, nI 0) j).2.1 0) + (Int32.toInt64 ((zhh N (G, L, nI 0) j).2.2)))) (ty1 := .long) hx hb hts hown hK hS (zm_ob hZ.W).1 haA_11 rfl zf_X3 tyX3_ok nmX3 19 (by decide) zw_827 (fun _ h9 => h9) rfl (by decide +kernel) rfl rfl (Nat.le_of_ble_eq_true rfl) dX3_pass_66 (fun H locs ha_9 hz_10 ho_8 hS => ?_)
          have hZ : zz_Z K A s ad (zm_c K ad th N ((zhh N (G, L, nI 0) j).1) (zl (zhh N (G, L, nI 0) j).2.1 0 (((zhh N (G, L, nI 0) j).2.1 0) + (Int32.toInt64 ((zhh N (G, L, nI 0) j).2.2))))) H := hZ.put haA_11 hz_10 ho_8 (zm_put_menergy hZ.W ha_9 ho_8)
          refine lv_aload_n hx hb dX3_pass_69 rfl (lv_at hl 2 rfl) ?_
          refine lv_iload_n hx hb dX3_pass_70 rfl (lv_at hl 1 rfl) ?_
          refine zz_after (pc := 71) rfl (zz_runV (ci := 6) (q0 := (RX3, TX3, 22)) (b := ad 0 0) (As := [.int ((zhh N (G, L, nI 0) j).2.2)]) (rest := []) hx hb hml hown hts (c_X3_tells l (K := K) (A := A) (ad := ad) (th := th) (N := N) (G := (zhh N (G, L, nI 0) j).1) (L := (zl (zhh N (G, L, nI 0) j).2.1 0 (((zhh N (G, L, nI 0) j).2.1 0) + (Int32.toInt64 ((zhh N (G, L, nI 0) j).2.2))))) ((zhh N (G, L, nI 0) j).2.2)) zw_891 zw_893 zs_35 zw_5 zw_894 zd_X3_tells ⟨Nat.le_of_ble_eq_true rfl, Nat.le_of_ble_eq_true rfl⟩ hZ.E hZ.A (zm_ob hZ.W).1 rfl rfl hZ.W hl.1 (Nat.le_of_ble_eq_true rfl) dX3_pass_71 ⟨Nat.le_of_ble_eq_true rfl, Nat.le_of_ble_eq_true rfl⟩) hS (fun _ h => h) (fun v_14 H locs hq_12 hF_13 hS => ?_)
          refine W.widen (k := 0) (n := 0) (Nat.le_of_ble_eq_true rfl) (Nat.le_of_ble_eq_true rfl) ?_
          obtain ⟨rfl, hW9⟩ := hq_12
          have hZ : zz_Z K A s ad (zm_c K ad (nI 0) N ((zhh N (G, L, nI 0) j).1) (zl (zhh N (G, L, nI 0) j).2.1 0 (((zhh N (G, L, nI 0) j).2.1 0) + (Int32.toInt64 ((zhh N (G, L, nI 0) j).2.2))))) H := hZ.mut hF_13 hW9
          refine W.eq (g2 := F0 m 74 ls [.int ((zhh N (G, L, nI 0) j).2.2)]) rfl ?_
          refine zz_iret hx hb hr hlocks hS (Nat.le_of_ble_eq_true rfl) (Nat.le_of_ble_eq_true rfl) dX3_pass_74 ?_
          refine ⟨?_, ?_⟩
          · skip
            first | rfl | (simp [zs_pass, c_4, hjc, c_7]; done) | (simp_all [zs_pass]; done) | (simp [c_4, hjc, c_7]; done) | (simp_all; done) | (split <;> first | rfl | omega | (simp_all; done); done)
          · first | exact hZ.W | (refine zm_co ?_ ?_ ?_ ?_ hZ.W <;> first | rfl | (simp [zs_pass, c_4, hjc, c_7]; done) | (simp_all [zs_pass]; done) | (simp [c_4, hjc, c_7]; done) | (simp_all; done) | (split <;> first | rfl | omega | (simp_all; done); done))
        · skip
          refine zz_con 0 hx hb dX3_pass_25 (by decide) ?_
          refine lv_istore (lv' := [(4, .int (nI 0)), (3, .int (nI i)), (2, .int ((zhh N (G, L, nI 0) i).2.2)), (0, .ref (ad 0 0)), (1, .int (nI j))]) hx hb dX3_pass_26 hl (Nat.le_of_ble_eq_true rfl) rfl (fun ls hl => ?_)
          have hL_16 : ∀ (k i2 : Nat), i2 ≤ N 0 0 → N 0 0 < i2 + k → ∀ (H : Heap) (locs : List Loc) (ls : Array Slot), zz_Z K A s ad (zm_c K ad th N ((zhf N (zhh N (G, L, nI 0) i) i2).1) ((zhf N (zhh N (G, L, nI 0) i) i2).2.1)) H → va_S A s.heap H locs → lv_has ls 5 [(4, .int (nI i2)), (3, .int (nI i)), (2, .int ((zhf N (zhh N (G, L, nI 0) i) i2).2.2)), (0, .ref (ad 0 0)), (1, .int (nI j))] → W p l e ({ frames := 2, cells := 0, slots := 0, locals := 48 } : Room) s m ([.ref (ad 0 0), .int (nI j)] : List Value).toArray below meth c H locs 0 0 (vx_MQ below (zz_Qc (fun v9 _ H9 => v9 = some (.int ((zs_pass N G L (nI j)).2.1)) ∧ zz_W K A ad (zm_c K ad (nI (zs_pass N G L (nI j)).1) N ((zs_pass N G L (nI j)).2.2.1) ((zs_pass N G L (nI j)).2.2.2)) H9) A) (zz_XC zz_nx) ([.ref (ad 0 0), .int (nI j)] : List Value).toArray s ({ frames := 2, cells := 0, slots := 0, locals := 48 } : Room).cells ({ frames := 2, cells := 0, slots := 0, locals := 48 } : Room).slots A) (F0 m 28 ls []) := by
            intro k
            induction k with
            | zero => intro i hi hik; omega
            | succ k ih_i2 =>
              intro i2 hii2 hiki2 H locs ls hZ hS hl
              have hgz := zhf_gi (N := N) hI (zhh_gi (N := N) (σ := (G, L, nI 0)) hI hg i) i2
              refine lv_iload hx hb dX3_pass_28 (lv_at hl 0 rfl) ?_
              refine lv_aload_n hx hb dX3_pass_30 rfl (lv_at hl 3 rfl) ?_
              refine zz_get (ci := 6) (C := RX3) (T := TX3) (N := 22) (v := .int (nI (N 0 0))) hx hb hts hown hK (zm_ob hZ.W).1 rfl zf_X3 1 (by decide) zw_809 (fun _ h9 => h9) rfl dX3_pass_31 ?_
              refine zz_ic_ge (tgt := 52) (by first | exact hB _ _ | exact hUa _ | exact hUb _ | exact hUc _ | exact hUd _ | omega) (by first | exact hB _ _ | exact hUa _ | exact hUb _ | exact hUc _ | exact hUd _ | omega) hx hb dX3_pass_34 (by decide) (fun c_17 => ?_) (fun c_17 => ?_)
              · skip
                obtain rfl : i2 = N 0 0 := by omega
                refine zz_inc (k := 1) (lv' := [(3, .int (nI (i + 1))), (4, .int (nI (N 0 0))), (2, .int ((zhf N (zhh N (G, L, nI 0) i) (N 0 0)).2.2)), (0, .ref (ad 0 0)), (1, .int (nI j))]) hx hb dX3_pass_52 hl rfl (Nat.le_of_ble_eq_true rfl) rfl (fun ls hl => ?_)
                refine lv_goto (tgt := 20) hx hb dX3_pass_55 (by decide) ?_
                refine ih_i (i + 1) (by omega) (by omega) _ _ _ ?_ hS ?_
                · exact hZ
                · skip
                  rw [show (.int ((zhh N (G, L, nI 0) (i + 1)).2.2) : Value) = .int ((zhf N (zhh N (G, L, nI 0) i) (N 0 0)).2.2) from congrArg Value.int (by first | rfl | (rfl; done))]
                  exact lv_sub hl [0, 2, 3, 4] rfl
              · skip
                refine lv_iload_n hx hb dX3_pass_37 rfl (lv_at hl 2 rfl) ?_
                refine lv_aload_n hx hb dX3_pass_38 rfl (lv_at hl 3 rfl) ?_
                refine lv_iload hx hb dX3_pass_39 (lv_at hl 0 rfl) ?_
                refine zz_after (pc := 41) rfl (zz_runV (ci := 6) (q0 := (RX3, TX3, 22)) (b := ad 0 0) (As := [.int (nI i2)]) (rest := [.int ((zhf N (zhh N (G, L, nI 0) i) i2).2.2)]) hx hb hml hown hts (c_X3_hour l (K := K) (A := A) (ad := ad) (th := th) (N := N) (G := (zhf N (zhh N (G, L, nI 0) i) i2).1) (L := (zhf N (zhh N (G, L, nI 0) i) i2).2.1) hI (by first | exact hgz | exact zhf_gi hI (zhh_gi hI hg _) _) (by omega)) zw_1032 zw_1034 zs_49 zw_5 zw_1035 zd_X3_hour ⟨Nat.le_of_ble_eq_true rfl, Nat.le_of_ble_eq_true rfl⟩ hZ.E hZ.A (zm_ob hZ.W).1 rfl rfl hZ.W hl.1 (Nat.le_of_ble_eq_true rfl) dX3_pass_41 ⟨Nat.le_of_ble_eq_true rfl, Nat.le_of_ble_eq_true rfl⟩) hS (fun _ h => h) (fun v_20 H locs hq_18 hF_19 hS => ?_)
                refine W.widen (k := 0) (n := 0) (Nat.le_of_ble_eq_true rfl) (Nat.le_of_ble_eq_true rfl) ?_
                obtain ⟨rfl, hW9⟩ := hq_18
                have hZ : zz_Z K A s ad (zm_c K ad th N (zg (zg (zhf N (zhh N (G, L, nI 0) i) i2).1 0 i2 ((zhf N (zhh N (G, L, nI 0) i) i2).1 0 i2 + zw_chg (N 3 i2) (zins N i2) ((zhf N (zhh N (G, L, nI 0) i) i2).1 0 i2))) 1 i2 (zw_air (N 3 i2) (zins N i2) ((zhf N (zhh N (G, L, nI 0) i) i2).1 1 i2))) (zl (zhf N (zhh N (G, L, nI 0) i) i2).2.1 1 ((zhf N (zhh N (G, L, nI 0) i) i2).2.1 1 + (nI (zins N i2) * zw_one ((zhf N (zhh N (G, L, nI 0) i) i2).1 0 i2 + zw_chg (N 3 i2) (zins N i2) ((zhf N (zhh N (G, L, nI 0) i) i2).1 0 i2)) (zw_air (N 3 i2) (zins N i2) ((zhf N (zhh N (G, L, nI 0) i) i2).1 1 i2))).toInt64))) H := hZ.mut hF_19 hW9
                refine W.eq (g2 := F0 m 44 ls [.int (zw_use (N 3 i2) (zins N i2) ((zhf N (zhh N (G, L, nI 0) i) i2).1 0 i2)), .int ((zhf N (zhh N (G, L, nI 0) i) i2).2.2)]) rfl ?_
                refine lv_iadd hx hb dX3_pass_44 ?_
                refine lv_istore_n (lv' := [(2, .int (((zhf N (zhh N (G, L, nI 0) i) i2).2.2) + (zw_use (N 3 i2) (zins N i2) ((zhf N (zhh N (G, L, nI 0) i) i2).1 0 i2)))), (4, .int (nI i2)), (3, .int (nI i)), (0, .ref (ad 0 0)), (1, .int (nI j))]) hx hb dX3_pass_45 rfl hl (Nat.le_of_ble_eq_true rfl) rfl (fun ls hl => ?_)
                refine zz_inc (k := 1) (lv' := [(4, .int (nI (i2 + 1))), (2, .int (((zhf N (zhh N (G, L, nI 0) i) i2).2.2) + (zw_use (N 3 i2) (zins N i2) ((zhf N (zhh N (G, L, nI 0) i) i2).1 0 i2)))), (3, .int (nI i)), (0, .ref (ad 0 0)), (1, .int (nI j))]) hx hb dX3_pass_46 hl rfl (Nat.le_of_ble_eq_true rfl) rfl (fun ls hl => ?_)
                refine lv_goto (tgt := 28) hx hb dX3_pass_49 (by decide) ?_
                refine ih_i2 (i2 + 1) (by omega) (by omega) _ _ _ ?_ hS ?_
                · exact hZ
                · skip
                  rw [show (.int ((zhf N (zhh N (G, L, nI 0) i) (i2 + 1)).2.2) : Value) = .int (((zhf N (zhh N (G, L, nI 0) i) i2).2.2) + (zw_use (N 3 i2) (zins N i2) ((zhf N (zhh N (G, L, nI 0) i) i2).1 0 i2))) from congrArg Value.int (by first | rfl | (rfl; done))]
                  exact lv_sub hl [0, 2, 1, 3, 4] rfl
          refine hL_16 (N 0 0 + 1) 0 (by first | omega | exact Nat.zero_le _) (by first | omega | (rw [Nat.zero_add]; exact Nat.lt_succ_self _)) _ _ _ ?_ hS ?_
          · exact hZ
          exact lv_sub (show lv_has _ _ _ from hl) [0, 1, 2, 3, 4] rfl
    refine hL_6 (j + 1) 0 (by first | omega | exact Nat.zero_le _) (by first | omega | (rw [Nat.zero_add]; exact Nat.lt_succ_self _)) _ _ _ ?_ hS ?_
    · exact hZ
    exact lv_sub (show lv_has _ _ _ from hl) [0, 1, 2, 3] rfl
  · skip
    refine lv_aload_n hx hb dX3_pass_10 rfl (lv_at hl 0 rfl) ?_
    refine zz_con 1 hx hb dX3_pass_11 (by decide) ?_
    have hS : va_S A s.heap H _ := zz_Smono hS (fun _ h => h.elim)
    refine zz_after (pc := 12) rfl (zz_runV (ci := 6) (q0 := (RX3, TX3, 22)) (b := ad 0 0) (As := [.int (nI 1)]) (rest := []) hx hb hml hown hts (c_X3_fails l (K := K) (A := A) (ad := ad) (th := th) (N := N) (G := G) (L := L) (nI 1)) zw_887 zw_889 zs_34 zw_5 zw_890 zd_X3_fails ⟨Nat.le_of_ble_eq_true rfl, Nat.le_of_ble_eq_true rfl⟩ hZ.E hZ.A (zm_ob hZ.W).1 rfl rfl hZ.W hl.1 (Nat.le_of_ble_eq_true rfl) dX3_pass_12 ⟨Nat.le_of_ble_eq_true rfl, Nat.le_of_ble_eq_true rfl⟩) hS (fun _ h => h) (fun v_23 H locs hq_21 hF_22 hS => ?_)
    refine W.widen (k := 0) (n := 0) (Nat.le_of_ble_eq_true rfl) (Nat.le_of_ble_eq_true rfl) ?_
    obtain ⟨rfl, hW9⟩ := hq_21
    have hZ : zz_Z K A s ad (zm_c K ad (nI 1) N G L) H := hZ.mut hF_22 hW9
    refine W.eq (g2 := F0 m 15 ls [.int (nI 0)]) rfl ?_
    refine zz_iret hx hb hr hlocks hS (Nat.le_of_ble_eq_true rfl) (Nat.le_of_ble_eq_true rfl) dX3_pass_15 ?_
    refine ⟨?_, ?_⟩
    · skip
      first | rfl | (simp [zs_pass, c_4]; done) | (simp_all [zs_pass]; done) | (simp [c_4]; done) | (simp_all; done) | (split <;> first | rfl | omega | (simp_all; done); done)
    · first | exact hZ.W | (refine zm_co ?_ ?_ ?_ ?_ hZ.W <;> first | rfl | (simp [zs_pass, c_4]; done) | (simp_all [zs_pass]; done) | (simp [c_4]; done) | (simp_all; done) | (split <;> first | rfl | omega | (simp_all; done); done))
