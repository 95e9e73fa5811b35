/-! by program (gen.py): contracts of methods -/
theorem zd_X3_asks : yX3_asks.cls ≠ "java/lang/invoke/MethodHandle" ∧ yX3_asks.cls ≠ "java/lang/invoke/VarHandle" ∧ (parseMethodDescriptor yX3_asks.desc).map (fun d => d.parameters.length) = some 2 := by decide +kernel
theorem zd_X3_isNearer : yX3_isNearer.cls ≠ "java/lang/invoke/MethodHandle" ∧ yX3_isNearer.cls ≠ "java/lang/invoke/VarHandle" ∧ (parseMethodDescriptor yX3_isNearer.desc).map (fun d => d.parameters.length) = some 3 := by decide +kernel
theorem zd_X3_sitting : yX3_sitting.cls ≠ "java/lang/invoke/MethodHandle" ∧ yX3_sitting.cls ≠ "java/lang/invoke/VarHandle" ∧ (parseMethodDescriptor yX3_sitting.desc).map (fun d => d.parameters.length) = some 2 := by decide +kernel
set_option maxHeartbeats 4000000 in
set_option maxRecDepth 100000 in
theorem c_X3_isNearer (l : Launch) {K : zz_G} {A : Nat → Prop} {ad : Nat → Nat → Nat} {th : Int32} {N : Nat → Nat → Nat} {G : Nat → Nat → Int32} {L : Nat → Int64} (hI : zq N) {k : Nat} (hk : k < N 0 2) {f t : Nat} (hf : f < N 0 0) (ht : t ≤ N 0 0) : zz_C l yX3_isNearer cX3_isNearer 6 (Option.some FieldType.boolean) ({ frames := 1, cells := 0, slots := 0, locals := 24 } : Room) K A [.ref (ad 0 0), .int (nI k), .int (nI f), .int (nI t - 1)] (fun H => zz_W K A ad (zm_c K ad th N G L) H) (fun v9 _ _ => v9 = some (.int (zz_bo (zner N k f t)))) zz_nx zz_no := by
  refine zz_body (by decide +kernel) (Nat.le_of_ble_eq_true rfl) ?_
  intro p e s m below meth c ls hx hb hr hml hts hown hlocks hmn htab hE hA hP hl
  have hN := hE.N
  have hK := hE.K
  have hown : s.vm.findClass RX3 = some m.cls := hown
  have hl : lv_has ls 6 [(0, .ref (ad 0 0)), (1, .int (nI k)), (2, .int (nI f)), (3, .int (nI t - 1))] := hl
  have hZ : zz_Z K A s ad (zm_c K ad th N G L) s.heap := ⟨hE, hA, hP⟩
  have hS : va_S zz_no s.heap s.heap [] := va_S.rf
  obtain ⟨H, hH⟩ : ∃ z, z = s.heap := ⟨_, rfl⟩
  have hS0 : va_S zz_no s.heap H [] := by rw [hH]; exact hS
  rw [← hH] at hZ
  have hE0 := hE
  clear hS
  have hS := hS0
  have hB := hI.B
  have h00 := hI.f
  have h01 := hI.p
  have h02 := hI.b
  have hbk := hI.bk k hk
  have hbf := hI.bf k hk
  have hzd1 : zd f (N 10 k) < 2 ^ 31 := by unfold zd; split <;> omega
  have hs1 := zsit_b hI f (N 4 (N 9 k) + 1)
  have h4 := (hI.sm (N 9 k)).2.2.2.2
  show W p l e _ s m _ below meth c s.heap [] 0 0 _ (F0 m 0 ls [])
  rw [← hH]
  refine lv_iload_n hx hb dX3_isNearer_0 rfl (lv_at hl 3 rfl) ?_
  refine lv_iconst (v := (-1)) hx hb dX3_isNearer_1 (by decide) ?_
  refine zz_ik_ne0 (tgt := 7) (by first | exact hB _ _ | exact hUa _ | exact hUb _ | exact hUc _ | exact hUd _ | omega) hx hb dX3_isNearer_2 (by decide) (fun c_1 => ?_) (fun c_1 => ?_)
  · skip
    obtain ⟨t1, rfl⟩ : ∃ z, t = z + 1 := ⟨t - 1, by omega⟩
    rw [← zz_nk] at hl
    have hzd2 : zd t1 (N 10 k) < 2 ^ 31 := by unfold zd; split <;> omega
    have hs2 := zsit_b hI t1 (N 4 (N 9 k) + 1)
    refine lv_iload_n hx hb dX3_isNearer_7 rfl (lv_at hl 2 rfl) ?_
    refine lv_aload_n hx hb dX3_isNearer_8 rfl (lv_at hl 0 rfl) ?_
    refine zz_get (ci := 6) (C := RX3) (T := TX3) (N := 22) (v := .ref (ad 1 12)) hx hb hts hown hK (zm_ob hZ.W).1 rfl zf_X3 18 (by decide) zw_826 (fun _ h9 => h9) rfl dX3_isNearer_9 ?_
    refine lv_iload_n hx hb dX3_isNearer_12 rfl (lv_at hl 1 rfl) ?_
    refine zz_iald (y := nI (N 10 k)) hx hb hK (zm_wanted hZ.W).1 (vp_in_nI (show k < 12 by omega) (by decide)) dX3_isNearer_13 (by rw [nI_clamp (by omega)] <;> rfl) ?_
    refine zz_after (pc := 14) rfl (zz_runS (As := [.int (nI f), .int (nI (N 10 k))]) (rest := []) hx hb hml hown hts (c_X3_apart l (K := K) (A := A) (nI f) (nI (N 10 k))) zw_955 zw_956 zw_5 zw_957 zd_X3_apart ⟨Nat.le_of_ble_eq_true rfl, Nat.le_of_ble_eq_true rfl⟩ hZ.E hZ.A trivial hl.1 (Nat.le_of_ble_eq_true rfl) dX3_isNearer_14 ⟨Nat.le_of_ble_eq_true rfl, Nat.le_of_ble_eq_true rfl⟩) hS (fun _ h => h.elim) (fun v_4 H locs hq_2 hF_3 hS => ?_)
    refine W.widen (k := 0) (n := 0) (Nat.le_of_ble_eq_true rfl) (Nat.le_of_ble_eq_true rfl) ?_
    obtain rfl := hq_2
    have hZ := hZ.ro hF_3
    refine W.eq (g2 := F0 m 17 ls [.int (if (nI (N 10 k)) < (nI f) then (nI f) - (nI (N 10 k)) else (nI (N 10 k)) - (nI f))]) rfl ?_
    refine zz_cv (y := nI (zd f (N 10 k))) (zd_ap (by omega) (by omega)) ?_
    refine lv_istore (lv' := [(4, .int (nI (zd f (N 10 k)))), (0, .ref (ad 0 0)), (1, .int (nI k)), (2, .int (nI f)), (3, .int (nI t1))]) hx hb dX3_isNearer_17 hl (Nat.le_of_ble_eq_true rfl) rfl (fun ls hl => ?_)
    refine lv_iload_n hx hb dX3_isNearer_19 rfl (lv_at hl 4 rfl) ?_
    refine lv_aload_n hx hb dX3_isNearer_20 rfl (lv_at hl 1 rfl) ?_
    refine zz_get (ci := 6) (C := RX3) (T := TX3) (N := 22) (v := .ref (ad 1 12)) hx hb hts hown hK (zm_ob hZ.W).1 rfl zf_X3 18 (by decide) zw_826 (fun _ h9 => h9) rfl dX3_isNearer_21 ?_
    refine lv_iload_n hx hb dX3_isNearer_24 rfl (lv_at hl 2 rfl) ?_
    refine zz_iald (y := nI (N 10 k)) hx hb hK (zm_wanted hZ.W).1 (vp_in_nI (show k < 12 by omega) (by decide)) dX3_isNearer_25 (by rw [nI_clamp (by omega)] <;> rfl) ?_
    refine zz_after (pc := 26) rfl (zz_runS (As := [.int (nI t1), .int (nI (N 10 k))]) (rest := []) hx hb hml hown hts (c_X3_apart l (K := K) (A := A) (nI t1) (nI (N 10 k))) zw_955 zw_956 zw_5 zw_957 zd_X3_apart ⟨Nat.le_of_ble_eq_true rfl, Nat.le_of_ble_eq_true rfl⟩ hZ.E hZ.A trivial hl.1 (Nat.le_of_ble_eq_true rfl) dX3_isNearer_26 ⟨Nat.le_of_ble_eq_true rfl, Nat.le_of_ble_eq_true rfl⟩) hS (fun _ h => h.elim) (fun v_7 H locs hq_5 hF_6 hS => ?_)
    refine W.widen (k := 0) (n := 0) (Nat.le_of_ble_eq_true rfl) (Nat.le_of_ble_eq_true rfl) ?_
    obtain rfl := hq_5
    have hZ := hZ.ro hF_6
    refine W.eq (g2 := F0 m 29 ls [.int (if (nI (N 10 k)) < (nI t1) then (nI t1) - (nI (N 10 k)) else (nI (N 10 k)) - (nI t1))]) rfl ?_
    refine zz_cv (y := nI (zd t1 (N 10 k))) (zd_ap (by omega) (by omega)) ?_
    refine lv_istore (lv' := [(5, .int (nI (zd t1 (N 10 k)))), (4, .int (nI (zd f (N 10 k)))), (0, .ref (ad 0 0)), (1, .int (nI k)), (2, .int (nI f)), (3, .int (nI t1))]) hx hb dX3_isNearer_29 hl (Nat.le_of_ble_eq_true rfl) rfl (fun ls hl => ?_)
    refine lv_iload hx hb dX3_isNearer_31 (lv_at hl 1 rfl) ?_
    refine lv_iload hx hb dX3_isNearer_33 (lv_at hl 0 rfl) ?_
    refine zz_ic_eq (tgt := 51) (by first | exact hB _ _ | exact hUa _ | exact hUb _ | exact hUc _ | exact hUd _ | omega) (by first | exact hB _ _ | exact hUa _ | exact hUb _ | exact hUc _ | exact hUd _ | omega) hx hb dX3_isNearer_35 (by decide) (fun c_8 => ?_) (fun c_8 => ?_)
    · skip
      refine lv_aload_n hx hb dX3_isNearer_51 rfl (lv_at hl 2 rfl) ?_
      refine lv_iload_n hx hb dX3_isNearer_52 rfl (lv_at hl 4 rfl) ?_
      refine lv_aload_n hx hb dX3_isNearer_53 rfl (lv_at hl 2 rfl) ?_
      refine zz_get (ci := 6) (C := RX3) (T := TX3) (N := 22) (v := .ref (ad 1 5)) hx hb hts hown hK (zm_ob hZ.W).1 rfl zf_X3 11 (by decide) zw_819 (fun _ h9 => h9) rfl dX3_isNearer_54 ?_
      refine lv_aload_n hx hb dX3_isNearer_57 rfl (lv_at hl 2 rfl) ?_
      refine zz_get (ci := 6) (C := RX3) (T := TX3) (N := 22) (v := .ref (ad 1 11)) hx hb hts hown hK (zm_ob hZ.W).1 rfl zf_X3 17 (by decide) zw_825 (fun _ h9 => h9) rfl dX3_isNearer_58 ?_
      refine lv_iload_n hx hb dX3_isNearer_61 rfl (lv_at hl 3 rfl) ?_
      refine zz_iald (y := nI (N 9 k)) hx hb hK (zm_booker hZ.W).1 (vp_in_nI (show k < 12 by omega) (by decide)) dX3_isNearer_62 (by rw [nI_clamp (by omega)] <;> rfl) ?_
      refine zz_iald (y := nI (N 4 (N 9 k))) hx hb hK (zm_team hZ.W).1 (vp_in_nI (show N 9 k < 12 by omega) (by decide)) dX3_isNearer_63 (by rw [nI_clamp (by omega)] <;> rfl) ?_
      refine zz_cv (y := nI (N 4 (N 9 k) + 1) - 1) (zz_nk _) ?_
      refine zz_after (pc := 64) rfl (zz_runV (ci := 6) (q0 := (RX3, TX3, 22)) (b := ad 0 0) (As := [.int (nI f), .int (nI (N 4 (N 9 k) + 1) - 1)]) (rest := []) hx hb hml hown hts (c_X3_sitting l (K := K) (A := A) (ad := ad) (th := th) (N := N) (G := G) (L := L) hI (by omega) (by omega)) zw_988 zw_990 zs_46 zw_5 zw_991 zd_X3_sitting ⟨Nat.le_of_ble_eq_true rfl, Nat.le_of_ble_eq_true rfl⟩ hZ.E hZ.A (zm_ob hZ.W).1 rfl rfl hZ.W hl.1 (Nat.le_of_ble_eq_true rfl) dX3_isNearer_64 ⟨Nat.le_of_ble_eq_true rfl, Nat.le_of_ble_eq_true rfl⟩) hS (fun _ h => h.elim) (fun v_11 H locs hq_9 hF_10 hS => ?_)
      refine W.widen (k := 0) (n := 0) (Nat.le_of_ble_eq_true rfl) (Nat.le_of_ble_eq_true rfl) ?_
      obtain rfl := hq_9
      have hZ := hZ.ro hF_10
      refine W.eq (g2 := F0 m 67 ls [.int (nI (zsit N f (N 4 (N 9 k) + 1)))]) rfl ?_
      refine lv_aload_n hx hb dX3_isNearer_67 rfl (lv_at hl 2 rfl) ?_
      refine lv_iload_n hx hb dX3_isNearer_68 rfl (lv_at hl 5 rfl) ?_
      refine lv_aload_n hx hb dX3_isNearer_69 rfl (lv_at hl 2 rfl) ?_
      refine zz_get (ci := 6) (C := RX3) (T := TX3) (N := 22) (v := .ref (ad 1 5)) hx hb hts hown hK (zm_ob hZ.W).1 rfl zf_X3 11 (by decide) zw_819 (fun _ h9 => h9) rfl dX3_isNearer_70 ?_
      refine lv_aload_n hx hb dX3_isNearer_73 rfl (lv_at hl 2 rfl) ?_
      refine zz_get (ci := 6) (C := RX3) (T := TX3) (N := 22) (v := .ref (ad 1 11)) hx hb hts hown hK (zm_ob hZ.W).1 rfl zf_X3 17 (by decide) zw_825 (fun _ h9 => h9) rfl dX3_isNearer_74 ?_
      refine lv_iload_n hx hb dX3_isNearer_77 rfl (lv_at hl 3 rfl) ?_
      refine zz_iald (y := nI (N 9 k)) hx hb hK (zm_booker hZ.W).1 (vp_in_nI (show k < 12 by omega) (by decide)) dX3_isNearer_78 (by rw [nI_clamp (by omega)] <;> rfl) ?_
      refine zz_iald (y := nI (N 4 (N 9 k))) hx hb hK (zm_team hZ.W).1 (vp_in_nI (show N 9 k < 12 by omega) (by decide)) dX3_isNearer_79 (by rw [nI_clamp (by omega)] <;> rfl) ?_
      refine zz_cv (y := nI (N 4 (N 9 k) + 1) - 1) (zz_nk _) ?_
      refine zz_after (pc := 80) rfl (zz_runV (ci := 6) (q0 := (RX3, TX3, 22)) (b := ad 0 0) (As := [.int (nI t1), .int (nI (N 4 (N 9 k) + 1) - 1)]) (rest := [.int (nI (zsit N f (N 4 (N 9 k) + 1)))]) hx hb hml hown hts (c_X3_sitting l (K := K) (A := A) (ad := ad) (th := th) (N := N) (G := G) (L := L) hI (by omega) (by omega)) zw_988 zw_990 zs_46 zw_5 zw_991 zd_X3_sitting ⟨Nat.le_of_ble_eq_true rfl, Nat.le_of_ble_eq_true rfl⟩ hZ.E hZ.A (zm_ob hZ.W).1 rfl rfl hZ.W hl.1 (Nat.le_of_ble_eq_true rfl) dX3_isNearer_80 ⟨Nat.le_of_ble_eq_true rfl, Nat.le_of_ble_eq_true rfl⟩) hS (fun _ h => h.elim) (fun v_14 H locs hq_12 hF_13 hS => ?_)
      refine W.widen (k := 0) (n := 0) (Nat.le_of_ble_eq_true rfl) (Nat.le_of_ble_eq_true rfl) ?_
      obtain rfl := hq_12
      have hZ := hZ.ro hF_13
      refine W.eq (g2 := F0 m 83 ls [.int (nI (zsit N t1 (N 4 (N 9 k) + 1))), .int (nI (zsit N f (N 4 (N 9 k) + 1)))]) rfl ?_
      refine zz_ic_le (tgt := 90) (by first | exact hB _ _ | exact hUa _ | exact hUb _ | exact hUc _ | exact hUd _ | omega) (by first | exact hB _ _ | exact hUa _ | exact hUb _ | exact hUc _ | exact hUd _ | omega) hx hb dX3_isNearer_83 (by decide) (fun c_15 => ?_) (fun c_15 => ?_)
      · skip
        refine zz_con 0 hx hb dX3_isNearer_90 (by decide) ?_
        refine zz_zret hx hb hr hlocks hS (Nat.le_of_ble_eq_true rfl) (Nat.le_of_ble_eq_true rfl) dX3_isNearer_91 (show nI 0 = 0 ∨ nI 0 = 1 by decide) ?_
        refine congrArg (fun z => some (Value.int z)) (zz_bo_f ?_).symm
        first | assumption | omega | (exact Or.inl (by assumption); done) | ((refine Or.inr (Or.inl ?_); simp only [Nat.add_sub_cancel]; omega); done) | ((refine Or.inr (Or.inr ?_); simp only [Nat.add_sub_cancel]; omega); done) | ((simp [zner]; omega); done) | ((intro h; simp only [zner, Nat.add_sub_cancel] at h; omega); done) | (simp [c_1, c_8, c_15]; done) | (simp_all; done) | (split <;> first | rfl | omega | (simp_all; done); done)
      · skip
        refine zz_con 1 hx hb dX3_isNearer_86 (by decide) ?_
        refine lv_goto (tgt := 91) hx hb dX3_isNearer_87 (by decide) ?_
        refine zz_zret hx hb hr hlocks hS (Nat.le_of_ble_eq_true rfl) (Nat.le_of_ble_eq_true rfl) dX3_isNearer_91 (show nI 1 = 0 ∨ nI 1 = 1 by decide) ?_
        refine congrArg (fun z => some (Value.int z)) (zz_bo_t ?_).symm
        first | assumption | omega | (exact Or.inl (by assumption); done) | ((refine Or.inr (Or.inl ?_); simp only [Nat.add_sub_cancel]; omega); done) | ((refine Or.inr (Or.inr ?_); simp only [Nat.add_sub_cancel]; omega); done) | ((simp [zner]; omega); done) | ((intro h; simp only [zner, Nat.add_sub_cancel] at h; omega); done) | (simp [c_1, c_8, c_15]; done) | (simp_all; done) | (split <;> first | rfl | omega | (simp_all; done); done)
    · skip
      refine lv_iload hx hb dX3_isNearer_38 (lv_at hl 1 rfl) ?_
      refine lv_iload hx hb dX3_isNearer_40 (lv_at hl 0 rfl) ?_
      refine zz_ic_ge (tgt := 49) (by first | exact hB _ _ | exact hUa _ | exact hUb _ | exact hUc _ | exact hUd _ | omega) (by first | exact hB _ _ | exact hUa _ | exact hUb _ | exact hUc _ | exact hUd _ | omega) hx hb dX3_isNearer_42 (by decide) (fun c_16 => ?_) (fun c_16 => ?_)
      · skip
        refine zz_con 0 hx hb dX3_isNearer_49 (by decide) ?_
        refine zz_zret hx hb hr hlocks hS (Nat.le_of_ble_eq_true rfl) (Nat.le_of_ble_eq_true rfl) dX3_isNearer_50 (show nI 0 = 0 ∨ nI 0 = 1 by decide) ?_
        refine congrArg (fun z => some (Value.int z)) (zz_bo_f ?_).symm
        first | assumption | omega | (exact Or.inl (by assumption); done) | ((refine Or.inr (Or.inl ?_); simp only [Nat.add_sub_cancel]; omega); done) | ((refine Or.inr (Or.inr ?_); simp only [Nat.add_sub_cancel]; omega); done) | ((simp [zner]; omega); done) | ((intro h; simp only [zner, Nat.add_sub_cancel] at h; omega); done) | (simp [c_1, c_8, c_16]; done) | (simp_all; done) | (split <;> first | rfl | omega | (simp_all; done); done)
      · skip
        refine zz_con 1 hx hb dX3_isNearer_45 (by decide) ?_
        refine lv_goto (tgt := 50) hx hb dX3_isNearer_46 (by decide) ?_
        refine zz_zret hx hb hr hlocks hS (Nat.le_of_ble_eq_true rfl) (Nat.le_of_ble_eq_true rfl) dX3_isNearer_50 (show nI 1 = 0 ∨ nI 1 = 1 by decide) ?_
        refine congrArg (fun z => some (Value.int z)) (zz_bo_t ?_).symm
        first | assumption | omega | (exact Or.inl (by assumption); done) | ((refine Or.inr (Or.inl ?_); simp only [Nat.add_sub_cancel]; omega); done) | ((refine Or.inr (Or.inr ?_); simp only [Nat.add_sub_cancel]; omega); done) | ((simp [zner]; omega); done) | ((intro h; simp only [zner, Nat.add_sub_cancel] at h; omega); done) | (simp [c_1, c_8, c_16]; done) | (simp_all; done) | (split <;> first | rfl | omega | (simp_all; done); done)
  · skip
    refine zz_con 1 hx hb dX3_isNearer_5 (by decide) ?_
    refine zz_zret hx hb hr hlocks hS (Nat.le_of_ble_eq_true rfl) (Nat.le_of_ble_eq_true rfl) dX3_isNearer_6 (show nI 1 = 0 ∨ nI 1 = 1 by decide) ?_
    refine congrArg (fun z => some (Value.int z)) (zz_bo_t ?_).symm
    first | assumption | omega | (exact Or.inl (by assumption); done) | ((refine Or.inr (Or.inl ?_); simp only [Nat.add_sub_cancel]; omega); done) | ((refine Or.inr (Or.inr ?_); simp only [Nat.add_sub_cancel]; omega); done) | ((simp [zner]; omega); done) | ((intro h; simp only [zner, Nat.add_sub_cancel] at h; omega); done) | (simp [c_1]; done) | (simp_all; done) | (split <;> first | rfl | omega | (simp_all; done); done)

set_option maxHeartbeats 4000000 in
set_option maxRecDepth 100000 in
theorem c_X3_gives (l : Launch) {K : zz_G} {A : Nat → Prop} {ad : Nat → Nat → Nat} {th : Int32} {N : Nat → Nat → Nat} {G : Nat → Nat → Int32} {L : Nat → Int64} (hI : zq N) {v : Nat} (hv : v < N 0 2) : zz_C l yX3_gives cX3_gives 4 (Option.none : Option Jvm.ClassFile.FieldType) ({ frames := 2, cells := 0, slots := 0, locals := 49 } : Room) K A [.ref (ad 0 0), .int (nI v)] (fun H => zz_W K A ad (zm_c K ad th N G L) H) (fun v9 _ H9 => v9 = none ∧ zz_W K A ad (zm_c K ad th (zu N 6 (N 9 v) (zgv N v (N 0 0))) G L) H9) zz_nx A := by
  refine zz_body (by decide +kernel) (Nat.le_of_ble_eq_true rfl) ?_
  intro p e s m below meth c ls hx hb hr hml hts hown hlocks hmn htab hE hA hP hl
  have hN := hE.N
  have hK := hE.K
  have hown : s.vm.findClass RX3 = some m.cls := hown
  have hl : lv_has ls 4 [(0, .ref (ad 0 0)), (1, .int (nI v))] := hl
  have hZ : zz_Z K A s ad (zm_c K ad th N G L) s.heap := ⟨hE, hA, hP⟩
  have hS : va_S zz_no s.heap s.heap [] := va_S.rf
  obtain ⟨H, hH⟩ : ∃ z, z = s.heap := ⟨_, rfl⟩
  have hS0 : va_S zz_no s.heap H [] := by rw [hH]; exact hS
  rw [← hH] at hZ
  have hE0 := hE
  clear hS
  have hS := hS0
  have hB := hI.B
  have h00 := hI.f
  have h01 := hI.p
  have h02 := hI.b
  have hbk := hI.bk v hv
  show W p l e _ s m _ below meth c s.heap [] 0 0 _ (F0 m 0 ls [])
  rw [← hH]
  refine lv_iconst (v := (-1)) hx hb dX3_gives_0 (by decide) ?_
  refine zz_cv (y := nI 0 - 1) zz_k0 ?_
  refine lv_istore_n (lv' := [(2, .int (nI 0 - 1)), (0, .ref (ad 0 0)), (1, .int (nI v))]) hx hb dX3_gives_1 rfl hl (Nat.le_of_ble_eq_true rfl) rfl (fun ls hl => ?_)
  refine zz_con 0 hx hb dX3_gives_2 (by decide) ?_
  refine lv_istore_n (lv' := [(3, .int (nI 0)), (2, .int (nI 0 - 1)), (0, .ref (ad 0 0)), (1, .int (nI v))]) hx hb dX3_gives_3 rfl hl (Nat.le_of_ble_eq_true rfl) rfl (fun ls hl => ?_)
  have hL_2 : ∀ (k i : Nat), i ≤ N 0 0 → N 0 0 < i + k → ∀ (H : Heap) (locs : List Loc) (ls : Array Slot), zz_Z K A s ad (zm_c K ad th N G L) H → va_S zz_no s.heap H locs → lv_has ls 4 [(3, .int (nI i)), (2, .int (nI (zgv N v i) - 1)), (0, .ref (ad 0 0)), (1, .int (nI v))] → W p l e ({ frames := 2, cells := 0, slots := 0, locals := 49 } : Room) s m ([.ref (ad 0 0), .int (nI v)] : List Value).toArray below meth c H locs 0 0 (vx_MQ below (zz_Qc (fun v9 _ H9 => v9 = none ∧ zz_W K A ad (zm_c K ad th (zu N 6 (N 9 v) (zgv N v (N 0 0))) G L) H9) A) (zz_XC zz_nx) ([.ref (ad 0 0), .int (nI v)] : List Value).toArray s ({ frames := 2, cells := 0, slots := 0, locals := 49 } : Room).cells ({ frames := 2, cells := 0, slots := 0, locals := 49 } : Room).slots A) (F0 m 4 ls []) := by
    intro k
    induction k with
    | zero => intro i hi hik; omega
    | succ k ih_i =>
      intro i hii hiki H locs ls hZ hS hl
      have hgl := zgv_le N v i
      have hs1 := zsit_b hI i 0
      refine lv_iload_n hx hb dX3_gives_4 rfl (lv_at hl 0 rfl) ?_
      refine lv_aload_n hx hb dX3_gives_5 rfl (lv_at hl 2 rfl) ?_
      refine zz_get (ci := 6) (C := RX3) (T := TX3) (N := 22) (v := .int (nI (N 0 0))) hx hb hts hown hK (zm_ob hZ.W).1 rfl zf_X3 1 (by decide) zw_809 (fun _ h9 => h9) rfl dX3_gives_6 ?_
      refine zz_ic_ge (tgt := 54) (by first | exact hB _ _ | exact hUa _ | exact hUb _ | exact hUc _ | exact hUd _ | omega) (by first | exact hB _ _ | exact hUa _ | exact hUb _ | exact hUc _ | exact hUd _ | omega) hx hb dX3_gives_9 (by decide) (fun c_3 => ?_) (fun c_3 => ?_)
      · skip
        obtain rfl : i = N 0 0 := by omega
        have hgl := zgv_le N v (N 0 0)
        refine lv_aload_n hx hb dX3_gives_54 rfl (lv_at hl 2 rfl) ?_
        refine zz_get (ci := 6) (C := RX3) (T := TX3) (N := 22) (v := .ref (ad 1 7)) hx hb hts hown hK (zm_ob hZ.W).1 rfl zf_X3 13 (by decide) zw_821 (fun _ h9 => h9) rfl dX3_gives_55 ?_
        refine lv_aload_n hx hb dX3_gives_58 rfl (lv_at hl 2 rfl) ?_
        refine zz_get (ci := 6) (C := RX3) (T := TX3) (N := 22) (v := .ref (ad 1 11)) hx hb hts hown hK (zm_ob hZ.W).1 rfl zf_X3 17 (by decide) zw_825 (fun _ h9 => h9) rfl dX3_gives_59 ?_
        refine lv_iload_n hx hb dX3_gives_62 rfl (lv_at hl 3 rfl) ?_
        refine zz_iald (y := nI (N 9 v)) hx hb hK (zm_booker hZ.W).1 (vp_in_nI (show v < 12 by omega) (by decide)) dX3_gives_63 (by rw [nI_clamp (by omega)] <;> rfl) ?_
        refine lv_iload_n hx hb dX3_gives_64 rfl (lv_at hl 1 rfl) ?_
        have hS : va_S A s.heap H _ := zz_Smono hS (fun _ h => h.elim)
        have haA_7 := (zm_seat hZ.W).2
        refine zz_iast (x := nI (zgv N v (N 0 0)) - 1) hx hb hK hS (zm_seat hZ.W).1 haA_7 (vp_in_nI (show N 9 v < 12 by omega) (by decide)) dX3_gives_65 (fun H locs ha_5 hz_6 ho_4 hS => ?_)
        have hZ : zz_Z K A s ad (zm_c K ad th (zu N 6 (N 9 v) (zgv N v (N 0 0))) G L) H := hZ.put haA_7 hz_6 ho_4 (zm_put_a_seat hZ.W (by omega) (nI_clamp (by omega)) rfl ha_5 ho_4)
        refine zz_vret hx hb hr hlocks hS (Nat.le_of_ble_eq_true rfl) (Nat.le_of_ble_eq_true rfl) dX3_gives_66 ?_
        refine ⟨?_, ?_⟩
        · skip
          first | rfl | (simp [c_3]; done) | (simp_all; done) | (split <;> first | rfl | omega | (simp_all; done); done)
        · first | exact hZ.W | (refine zm_co ?_ ?_ ?_ ?_ hZ.W <;> first | rfl | (simp [c_3]; done) | (simp_all; done) | (split <;> first | rfl | omega | (simp_all; done); done))
      · skip
        refine lv_aload_n hx hb dX3_gives_12 rfl (lv_at hl 2 rfl) ?_
        refine zz_get (ci := 6) (C := RX3) (T := TX3) (N := 22) (v := .ref (ad 1 4)) hx hb hts hown hK (zm_ob hZ.W).1 rfl zf_X3 10 (by decide) zw_818 (fun _ h9 => h9) rfl dX3_gives_13 ?_
        refine lv_iload_n hx hb dX3_gives_16 rfl (lv_at hl 0 rfl) ?_
        refine zz_zald (y := nI (N 3 i)) hx hb hK (zm_isOpen hZ.W).1 (vp_in_nI (show i < 6 by omega) (by decide)) dX3_gives_17 (by rw [nI_clamp (by omega)] <;> rfl) ?_
        refine zz_if_eq (tgt := 48) (by first | exact hB _ _ | exact hUa _ | exact hUb _ | exact hUc _ | exact hUd _ | omega) hx hb dX3_gives_18 (by decide) (fun c_8 => ?_) (fun c_8 => ?_)
        · skip
          refine zz_inc (k := 0) (lv' := [(3, .int (nI (i + 1))), (2, .int (nI (zgv N v i) - 1)), (0, .ref (ad 0 0)), (1, .int (nI v))]) hx hb dX3_gives_48 hl rfl (Nat.le_of_ble_eq_true rfl) rfl (fun ls hl => ?_)
          refine lv_goto (tgt := 4) hx hb dX3_gives_51 (by decide) ?_
          refine ih_i (i + 1) (by omega) (by omega) _ _ _ ?_ hS ?_
          · exact hZ
          · skip
            rw [show (.int (nI (zgv N v (i + 1)) - 1) : Value) = .int (nI (zgv N v i) - 1) from congrArg Value.int (by first | rfl | ((rw [zgv, if_pos ⟨by assumption, by assumption, by assumption⟩]; exact (zz_nk _).symm); done) | ((rw [zgv, if_pos ⟨by omega, by omega, by assumption⟩]; exact (zz_nk _).symm); done) | ((rw [zgv, if_neg (fun h => absurd h.2.2 (by assumption))]); done) | ((rw [zgv, if_neg (fun h => by have := h.1; have := h.2.1; omega)]); done))]
            exact lv_sub hl [0, 1, 2, 3] rfl
        · skip
          refine lv_aload_n hx hb dX3_gives_21 rfl (lv_at hl 2 rfl) ?_
          refine lv_iload_n hx hb dX3_gives_22 rfl (lv_at hl 0 rfl) ?_
          refine lv_iconst (v := (-1)) hx hb dX3_gives_23 (by decide) ?_
          refine zz_cv (y := nI 0 - 1) zz_k0 ?_
          refine zz_after (pc := 24) rfl (zz_runV (ci := 6) (q0 := (RX3, TX3, 22)) (b := ad 0 0) (As := [.int (nI i), .int (nI 0 - 1)]) (rest := []) hx hb hml hown hts (c_X3_sitting l (K := K) (A := A) (ad := ad) (th := th) (N := N) (G := G) (L := L) hI (by omega) (by omega)) zw_988 zw_990 zs_46 zw_5 zw_991 zd_X3_sitting ⟨Nat.le_of_ble_eq_true rfl, Nat.le_of_ble_eq_true rfl⟩ hZ.E hZ.A (zm_ob hZ.W).1 rfl rfl hZ.W hl.1 (Nat.le_of_ble_eq_true rfl) dX3_gives_24 ⟨Nat.le_of_ble_eq_true rfl, Nat.le_of_ble_eq_true rfl⟩) hS (fun _ h => h.elim) (fun v_11 H locs hq_9 hF_10 hS => ?_)
          refine W.widen (k := 0) (n := 0) (Nat.le_of_ble_eq_true rfl) (Nat.le_of_ble_eq_true rfl) ?_
          obtain rfl := hq_9
          have hZ := hZ.ro hF_10
          refine W.eq (g2 := F0 m 27 ls [.int (nI (zsit N i 0))]) rfl ?_
          refine lv_aload_n hx hb dX3_gives_27 rfl (lv_at hl 2 rfl) ?_
          refine zz_get (ci := 6) (C := RX3) (T := TX3) (N := 22) (v := .ref (ad 1 0)) hx hb hts hown hK (zm_ob hZ.W).1 rfl zf_X3 6 (by decide) zw_814 (fun _ h9 => h9) rfl dX3_gives_28 ?_
          refine lv_iload_n hx hb dX3_gives_31 rfl (lv_at hl 0 rfl) ?_
          refine zz_iald (y := nI (N 1 i)) hx hb hK (zm_seats hZ.W).1 (vp_in_nI (show i < 6 by omega) (by decide)) dX3_gives_32 (by rw [nI_clamp (by omega)] <;> rfl) ?_
          refine zz_ic_ge (tgt := 48) (by first | exact hB _ _ | exact hUa _ | exact hUb _ | exact hUc _ | exact hUd _ | omega) (by first | exact hB _ _ | exact hUa _ | exact hUb _ | exact hUc _ | exact hUd _ | omega) hx hb dX3_gives_33 (by decide) (fun c_12 => ?_) (fun c_12 => ?_)
          · skip
            refine zz_inc (k := 0) (lv' := [(3, .int (nI (i + 1))), (2, .int (nI (zgv N v i) - 1)), (0, .ref (ad 0 0)), (1, .int (nI v))]) hx hb dX3_gives_48 hl rfl (Nat.le_of_ble_eq_true rfl) rfl (fun ls hl => ?_)
            refine lv_goto (tgt := 4) hx hb dX3_gives_51 (by decide) ?_
            refine ih_i (i + 1) (by omega) (by omega) _ _ _ ?_ hS ?_
            · exact hZ
            · skip
              rw [show (.int (nI (zgv N v (i + 1)) - 1) : Value) = .int (nI (zgv N v i) - 1) from congrArg Value.int (by first | rfl | ((rw [zgv, if_pos ⟨by assumption, by assumption, by assumption⟩]; exact (zz_nk _).symm); done) | ((rw [zgv, if_pos ⟨by omega, by omega, by assumption⟩]; exact (zz_nk _).symm); done) | ((rw [zgv, if_neg (fun h => absurd h.2.2 (by assumption))]); done) | ((rw [zgv, if_neg (fun h => by have := h.1; have := h.2.1; omega)]); done))]
              exact lv_sub hl [0, 1, 2, 3] rfl
          · skip
            refine lv_aload_n hx hb dX3_gives_36 rfl (lv_at hl 2 rfl) ?_
            refine lv_iload_n hx hb dX3_gives_37 rfl (lv_at hl 3 rfl) ?_
            refine lv_iload_n hx hb dX3_gives_38 rfl (lv_at hl 0 rfl) ?_
            refine lv_iload_n hx hb dX3_gives_39 rfl (lv_at hl 1 rfl) ?_
            refine zz_after (pc := 40) rfl (zz_runV (ci := 6) (q0 := (RX3, TX3, 22)) (b := ad 0 0) (As := [.int (nI v), .int (nI i), .int (nI (zgv N v i) - 1)]) (rest := []) hx hb hml hown hts (c_X3_isNearer l (K := K) (A := A) (ad := ad) (th := th) (N := N) (G := G) (L := L) hI (by omega) (by omega) (by first | exact Nat.le_trans (zgv_le _ _ _) (by omega) | omega)) zw_992 zw_994 zs_47 zw_5 zw_995 zd_X3_isNearer ⟨Nat.le_of_ble_eq_true rfl, Nat.le_of_ble_eq_true rfl⟩ hZ.E hZ.A (zm_ob hZ.W).1 rfl rfl hZ.W hl.1 (Nat.le_of_ble_eq_true rfl) dX3_gives_40 ⟨Nat.le_of_ble_eq_true rfl, Nat.le_of_ble_eq_true rfl⟩) hS (fun _ h => h.elim) (fun v_15 H locs hq_13 hF_14 hS => ?_)
            refine W.widen (k := 0) (n := 0) (Nat.le_of_ble_eq_true rfl) (Nat.le_of_ble_eq_true rfl) ?_
            obtain rfl := hq_13
            have hZ := hZ.ro hF_14
            refine W.eq (g2 := F0 m 43 ls [.int (zz_bo (zner N v i (zgv N v i)))]) rfl ?_
            refine zz_bi_eq (tgt := 48) hx hb dX3_gives_43 (by decide) (fun c_16 => ?_) (fun c_16 => ?_)
            · skip
              refine zz_inc (k := 0) (lv' := [(3, .int (nI (i + 1))), (2, .int (nI (zgv N v i) - 1)), (0, .ref (ad 0 0)), (1, .int (nI v))]) hx hb dX3_gives_48 hl rfl (Nat.le_of_ble_eq_true rfl) rfl (fun ls hl => ?_)
              refine lv_goto (tgt := 4) hx hb dX3_gives_51 (by decide) ?_
              refine ih_i (i + 1) (by omega) (by omega) _ _ _ ?_ hS ?_
              · exact hZ
              · skip
                rw [show (.int (nI (zgv N v (i + 1)) - 1) : Value) = .int (nI (zgv N v i) - 1) from congrArg Value.int (by first | rfl | ((rw [zgv, if_pos ⟨by assumption, by assumption, by assumption⟩]; exact (zz_nk _).symm); done) | ((rw [zgv, if_pos ⟨by omega, by omega, by assumption⟩]; exact (zz_nk _).symm); done) | ((rw [zgv, if_neg (fun h => absurd h.2.2 (by assumption))]); done) | ((rw [zgv, if_neg (fun h => by have := h.1; have := h.2.1; omega)]); done))]
                exact lv_sub hl [0, 1, 2, 3] rfl
            · skip
              refine lv_iload_n hx hb dX3_gives_46 rfl (lv_at hl 0 rfl) ?_
              refine lv_istore_n (lv' := [(2, .int (nI i)), (3, .int (nI i)), (0, .ref (ad 0 0)), (1, .int (nI v))]) hx hb dX3_gives_47 rfl hl (Nat.le_of_ble_eq_true rfl) rfl (fun ls hl => ?_)
              refine zz_inc (k := 1) (lv' := [(3, .int (nI (i + 1))), (2, .int (nI i)), (0, .ref (ad 0 0)), (1, .int (nI v))]) hx hb dX3_gives_48 hl rfl (Nat.le_of_ble_eq_true rfl) rfl (fun ls hl => ?_)
              refine lv_goto (tgt := 4) hx hb dX3_gives_51 (by decide) ?_
              refine ih_i (i + 1) (by omega) (by omega) _ _ _ ?_ hS ?_
              · exact hZ
              · skip
                rw [show (.int (nI (zgv N v (i + 1)) - 1) : Value) = .int (nI i) from congrArg Value.int (by first | rfl | ((rw [zgv, if_pos ⟨by assumption, by assumption, by assumption⟩]; exact (zz_nk _).symm); done) | ((rw [zgv, if_pos ⟨by omega, by omega, by assumption⟩]; exact (zz_nk _).symm); done) | ((rw [zgv, if_neg (fun h => absurd h.2.2 (by assumption))]); done) | ((rw [zgv, if_neg (fun h => by have := h.1; have := h.2.1; omega)]); done))]
                exact lv_sub hl [0, 1, 2, 3] rfl
  refine hL_2 (N 0 0 + 1) 0 (by first | omega | exact Nat.zero_le _) (by first | omega | (rw [Nat.zero_add]; exact Nat.lt_succ_self _)) _ _ _ hZ hS ?_
  exact lv_sub hl [0, 1, 2, 3] rfl

set_option maxHeartbeats 4000000 in
set_option maxRecDepth 100000 in
theorem c_X3_comeIn (l : Launch) {K : zz_G} {A : Nat → Prop} {ad : Nat → Nat → Nat} {th : Int32} {N : Nat → Nat → Nat} {G : Nat → Nat → Int32} {L : Nat → Int64} (hI : zq N) (x : Int32) : zz_C l yX3_comeIn cX3_comeIn 2 (Option.some FieldType.int) ({ frames := 2, cells := 0, slots := 0, locals := 43 } : Room) K A [.ref (ad 0 0), .int x] (fun H => zz_W K A ad (zm_c K ad th N G L) H) (fun v9 _ H9 => v9 = some (.int ((zs_comeIn N x).2.1)) ∧ zz_W K A ad (zm_c K ad (nI (zs_comeIn N x).1) ((zs_comeIn N x).2.2) G L) H9) zz_nx A := by
  refine zz_body (by decide +kernel) (Nat.le_of_ble_eq_true rfl) ?_
  intro p e s m below meth c ls hx hb hr hml hts hown hlocks hmn htab hE hA hP hl
  have hN := hE.N
  have hK := hE.K
  have hown : s.vm.findClass RX3 = some m.cls := hown
  have hl : lv_has ls 2 [(0, .ref (ad 0 0)), (1, .int x)] := hl
  have hZ : zz_Z K A s ad (zm_c K ad th N G L) s.heap := ⟨hE, hA, hP⟩
  have hS : va_S zz_no s.heap s.heap [] := va_S.rf
  obtain ⟨H, hH⟩ : ∃ z, z = s.heap := ⟨_, rfl⟩
  have hS0 : va_S zz_no s.heap H [] := by rw [hH]; exact hS
  rw [← hH] at hZ
  have hE0 := hE
  clear hS
  have hS := hS0
  have hB := hI.B
  have h00 := hI.f
  have h01 := hI.p
  have h02 := hI.b
  show W p l e _ s m _ below meth c s.heap [] 0 0 _ (F0 m 0 ls [])
  rw [← hH]
  refine lv_aload_n hx hb dX3_comeIn_0 rfl (lv_at hl 0 rfl) ?_
  refine lv_iload_n hx hb dX3_comeIn_1 rfl (lv_at hl 1 rfl) ?_
  refine zz_after (pc := 2) rfl (zz_runV (ci := 6) (q0 := (RX3, TX3, 22)) (b := ad 0 0) (As := [.int x]) (rest := []) hx hb hml hown hts (c_X3_isPerson l (K := K) (A := A) (ad := ad) (th := th) (N := N) (G := G) (L := L) hI x) zw_911 zw_913 zs_37 zw_5 zw_914 zd_X3_isPerson ⟨Nat.le_of_ble_eq_true rfl, Nat.le_of_ble_eq_true rfl⟩ hZ.E hZ.A (zm_ob hZ.W).1 rfl rfl hZ.W hl.1 (Nat.le_of_ble_eq_true rfl) dX3_comeIn_2 ⟨Nat.le_of_ble_eq_true rfl, Nat.le_of_ble_eq_true rfl⟩) hS (fun _ h => h.elim) (fun v_3 H locs hq_1 hF_2 hS => ?_)
  refine W.widen (k := 0) (n := 0) (Nat.le_of_ble_eq_true rfl) (Nat.le_of_ble_eq_true rfl) ?_
  obtain rfl := hq_1
  have hZ := hZ.ro hF_2
  refine W.eq (g2 := F0 m 5 ls [.int (zz_bo (zin x (N 0 1)))]) rfl ?_
  refine zz_bi_eq (tgt := 18) hx hb dX3_comeIn_5 (by decide) (fun c_4 => ?_) (fun c_4 => ?_)
  · skip
    refine lv_aload_n hx hb dX3_comeIn_18 rfl (lv_at hl 0 rfl) ?_
    refine zz_con 1 hx hb dX3_comeIn_19 (by decide) ?_
    have hS : va_S A s.heap H _ := zz_Smono hS (fun _ h => h.elim)
    refine zz_after (pc := 20) rfl (zz_runV (ci := 6) (q0 := (RX3, TX3, 22)) (b := ad 0 0) (As := [.int (nI 1)]) (rest := []) hx hb hml hown hts (c_X3_fails l (K := K) (A := A) (ad := ad) (th := th) (N := N) (G := G) (L := L) (nI 1)) zw_887 zw_889 zs_34 zw_5 zw_890 zd_X3_fails ⟨Nat.le_of_ble_eq_true rfl, Nat.le_of_ble_eq_true rfl⟩ hZ.E hZ.A (zm_ob hZ.W).1 rfl rfl hZ.W hl.1 (Nat.le_of_ble_eq_true rfl) dX3_comeIn_20 ⟨Nat.le_of_ble_eq_true rfl, Nat.le_of_ble_eq_true rfl⟩) hS (fun _ h => h) (fun v_7 H locs hq_5 hF_6 hS => ?_)
    refine W.widen (k := 0) (n := 0) (Nat.le_of_ble_eq_true rfl) (Nat.le_of_ble_eq_true rfl) ?_
    obtain ⟨rfl, hW9⟩ := hq_5
    have hZ : zz_Z K A s ad (zm_c K ad (nI 1) N G L) H := hZ.mut hF_6 hW9
    refine W.eq (g2 := F0 m 23 ls [.int (nI 0)]) rfl ?_
    refine zz_iret hx hb hr hlocks hS (Nat.le_of_ble_eq_true rfl) (Nat.le_of_ble_eq_true rfl) dX3_comeIn_23 ?_
    refine ⟨?_, ?_⟩
    · skip
      first | rfl | (simp [zs_comeIn, c_4]; done) | (simp_all [zs_comeIn]; done) | (simp [c_4]; done) | (simp_all; done) | (split <;> first | rfl | omega | (simp_all; done); done)
    · first | exact hZ.W | (refine zm_co ?_ ?_ ?_ ?_ hZ.W <;> first | rfl | (simp [zs_comeIn, c_4]; done) | (simp_all [zs_comeIn]; done) | (simp [c_4]; done) | (simp_all; done) | (split <;> first | rfl | omega | (simp_all; done); done))
  · skip
    obtain ⟨j, hj, rfl⟩ := zz_rng (by omega) c_4.1 c_4.2
    have hjc : (nI j).toNatClampNeg = j := nI_clamp (by omega)
    have hjb : j < 2 ^ 31 := by omega
    refine lv_aload_n hx hb dX3_comeIn_8 rfl (lv_at hl 0 rfl) ?_
    refine zz_get (ci := 6) (C := RX3) (T := TX3) (N := 22) (v := .ref (ad 1 7)) hx hb hts hown hK (zm_ob hZ.W).1 rfl zf_X3 13 (by decide) zw_821 (fun _ h9 => h9) rfl dX3_comeIn_9 ?_
    refine lv_iload_n hx hb dX3_comeIn_12 rfl (lv_at hl 1 rfl) ?_
    refine zz_iald (y := nI (N 6 j) - 1) hx hb hK (zm_seat hZ.W).1 (vp_in_nI (show j < 12 by omega) (by decide)) dX3_comeIn_13 (by rw [nI_clamp (by omega)] <;> rfl) ?_
    refine lv_iconst (v := (-1)) hx hb dX3_comeIn_14 (by decide) ?_
    refine zz_ik_ne0 (tgt := 24) (by first | exact hB _ _ | exact hUa _ | exact hUb _ | exact hUc _ | exact hUd _ | omega) hx hb dX3_comeIn_15 (by decide) (fun c_8 => ?_) (fun c_8 => ?_)
    · skip
      refine lv_aload_n hx hb dX3_comeIn_24 rfl (lv_at hl 0 rfl) ?_
      refine zz_get (ci := 6) (C := RX3) (T := TX3) (N := 22) (v := .ref (ad 1 8)) hx hb hts hown hK (zm_ob hZ.W).1 rfl zf_X3 14 (by decide) zw_822 (fun _ h9 => h9) rfl dX3_comeIn_25 ?_
      refine lv_iload_n hx hb dX3_comeIn_28 rfl (lv_at hl 1 rfl) ?_
      refine zz_zald (y := nI (N 7 j)) hx hb hK (zm_isIn hZ.W).1 (vp_in_nI (show j < 12 by omega) (by decide)) dX3_comeIn_29 (by rw [nI_clamp (by omega)] <;> rfl) ?_
      refine zz_if_eq (tgt := 39) (by first | exact hB _ _ | exact hUa _ | exact hUb _ | exact hUc _ | exact hUd _ | omega) hx hb dX3_comeIn_30 (by decide) (fun c_9 => ?_) (fun c_9 => ?_)
      · skip
        refine lv_aload_n hx hb dX3_comeIn_39 rfl (lv_at hl 0 rfl) ?_
        refine zz_get (ci := 6) (C := RX3) (T := TX3) (N := 22) (v := .ref (ad 1 8)) hx hb hts hown hK (zm_ob hZ.W).1 rfl zf_X3 14 (by decide) zw_822 (fun _ h9 => h9) rfl dX3_comeIn_40 ?_
        refine lv_iload_n hx hb dX3_comeIn_43 rfl (lv_at hl 1 rfl) ?_
        refine zz_con 1 hx hb dX3_comeIn_44 (by decide) ?_
        have hS : va_S A s.heap H _ := zz_Smono hS (fun _ h => h.elim)
        have haA_13 := (zm_isIn hZ.W).2
        refine zz_zast (x := nI 1) hx hb hK hS (zm_isIn hZ.W).1 haA_13 (vp_in_nI (show j < 12 by omega) (by decide)) (show nI 1 = 0 ∨ nI 1 = 1 by decide) dX3_comeIn_45 (fun H locs ha_11 hz_12 ho_10 hS => ?_)
        have hZ : zz_Z K A s ad (zm_c K ad th (zu N 7 j 1) G L) H := hZ.put haA_13 hz_12 ho_10 (zm_put_a_isIn hZ.W (by omega) (nI_clamp (by omega)) rfl ha_11 ho_10)
        refine lv_aload_n hx hb dX3_comeIn_46 rfl (lv_at hl 0 rfl) ?_
        refine zz_get (ci := 6) (C := RX3) (T := TX3) (N := 22) (v := .ref (ad 1 9)) hx hb hts hown hK (zm_ob hZ.W).1 rfl zf_X3 15 (by decide) zw_823 (fun _ h9 => h9) rfl dX3_comeIn_47 ?_
        refine lv_iload_n hx hb dX3_comeIn_50 rfl (lv_at hl 1 rfl) ?_
        refine zz_con 1 hx hb dX3_comeIn_51 (by decide) ?_
        have haA_17 := (zm_hasCome hZ.W).2
        refine zz_zast (x := nI 1) hx hb hK hS (zm_hasCome hZ.W).1 haA_17 (vp_in_nI (show j < 12 by omega) (by decide)) (show nI 1 = 0 ∨ nI 1 = 1 by decide) dX3_comeIn_52 (fun H locs ha_15 hz_16 ho_14 hS => ?_)
        have hZ : zz_Z K A s ad (zm_c K ad th (zu (zu N 7 j 1) 8 j 1) G L) H := hZ.put haA_17 hz_16 ho_14 (zm_put_a_hasCome hZ.W (by omega) (nI_clamp (by omega)) rfl ha_15 ho_14)
        refine lv_aload_n hx hb dX3_comeIn_53 rfl (lv_at hl 0 rfl) ?_
        refine lv_aload_n hx hb dX3_comeIn_54 rfl (lv_at hl 0 rfl) ?_
        refine zz_get (ci := 6) (C := RX3) (T := TX3) (N := 22) (v := .ref (ad 1 7)) hx hb hts hown hK (zm_ob hZ.W).1 rfl zf_X3 13 (by decide) zw_821 (fun _ h9 => h9) rfl dX3_comeIn_55 ?_
        refine lv_iload_n hx hb dX3_comeIn_58 rfl (lv_at hl 1 rfl) ?_
        refine zz_iald (y := nI (N 6 j) - 1) hx hb hK (zm_seat hZ.W).1 (vp_in_nI (show j < 12 by omega) (by decide)) dX3_comeIn_59 (by rw [nI_clamp (by omega)] <;> rfl) ?_
        refine zz_after (pc := 60) rfl (zz_runV (ci := 6) (q0 := (RX3, TX3, 22)) (b := ad 0 0) (As := [.int (nI (N 6 j) - 1)]) (rest := []) hx hb hml hown hts (c_X3_tells l (K := K) (A := A) (ad := ad) (th := th) (N := (zu (zu N 7 j 1) 8 j 1)) (G := G) (L := L) (nI (N 6 j) - 1)) zw_891 zw_893 zs_35 zw_5 zw_894 zd_X3_tells ⟨Nat.le_of_ble_eq_true rfl, Nat.le_of_ble_eq_true rfl⟩ hZ.E hZ.A (zm_ob hZ.W).1 rfl rfl hZ.W hl.1 (Nat.le_of_ble_eq_true rfl) dX3_comeIn_60 ⟨Nat.le_of_ble_eq_true rfl, Nat.le_of_ble_eq_true rfl⟩) hS (fun _ h => h) (fun v_20 H locs hq_18 hF_19 hS => ?_)
        refine W.widen (k := 0) (n := 0) (Nat.le_of_ble_eq_true rfl) (Nat.le_of_ble_eq_true rfl) ?_
        obtain ⟨rfl, hW9⟩ := hq_18
        have hZ : zz_Z K A s ad (zm_c K ad (nI 0) (zu (zu N 7 j 1) 8 j 1) G L) H := hZ.mut hF_19 hW9
        refine W.eq (g2 := F0 m 63 ls [.int (nI (N 6 j) - 1)]) rfl ?_
        refine zz_iret hx hb hr hlocks hS (Nat.le_of_ble_eq_true rfl) (Nat.le_of_ble_eq_true rfl) dX3_comeIn_63 ?_
        refine ⟨?_, ?_⟩
        · skip
          first | rfl | (simp [zs_comeIn, c_4, hjc, c_8, c_9]; done) | (simp_all [zs_comeIn]; done) | (simp [c_4, hjc, c_8, c_9]; done) | (simp_all; done) | (split <;> first | rfl | omega | (simp_all; done); done)
        · first | exact hZ.W | (refine zm_co ?_ ?_ ?_ ?_ hZ.W <;> first | rfl | (simp [zs_comeIn, c_4, hjc, c_8, c_9]; done) | (simp_all [zs_comeIn]; done) | (simp [c_4, hjc, c_8, c_9]; done) | (simp_all; done) | (split <;> first | rfl | omega | (simp_all; done); done))
      · skip
        refine lv_aload_n hx hb dX3_comeIn_33 rfl (lv_at hl 0 rfl) ?_
        refine zz_con 2 hx hb dX3_comeIn_34 (by decide) ?_
        have hS : va_S A s.heap H _ := zz_Smono hS (fun _ h => h.elim)
        refine zz_after (pc := 35) rfl (zz_runV (ci := 6) (q0 := (RX3, TX3, 22)) (b := ad 0 0) (As := [.int (nI 2)]) (rest := []) hx hb hml hown hts (c_X3_fails l (K := K) (A := A) (ad := ad) (th := th) (N := N) (G := G) (L := L) (nI 2)) zw_887 zw_889 zs_34 zw_5 zw_890 zd_X3_fails ⟨Nat.le_of_ble_eq_true rfl, Nat.le_of_ble_eq_true rfl⟩ hZ.E hZ.A (zm_ob hZ.W).1 rfl rfl hZ.W hl.1 (Nat.le_of_ble_eq_true rfl) dX3_comeIn_35 ⟨Nat.le_of_ble_eq_true rfl, Nat.le_of_ble_eq_true rfl⟩) hS (fun _ h => h) (fun v_23 H locs hq_21 hF_22 hS => ?_)
        refine W.widen (k := 0) (n := 0) (Nat.le_of_ble_eq_true rfl) (Nat.le_of_ble_eq_true rfl) ?_
        obtain ⟨rfl, hW9⟩ := hq_21
        have hZ : zz_Z K A s ad (zm_c K ad (nI 2) N G L) H := hZ.mut hF_22 hW9
        refine W.eq (g2 := F0 m 38 ls [.int (nI 0)]) rfl ?_
        refine zz_iret hx hb hr hlocks hS (Nat.le_of_ble_eq_true rfl) (Nat.le_of_ble_eq_true rfl) dX3_comeIn_38 ?_
        refine ⟨?_, ?_⟩
        · skip
          first | rfl | (simp [zs_comeIn, c_4, hjc, c_8, c_9]; done) | (simp_all [zs_comeIn]; done) | (simp [c_4, hjc, c_8, c_9]; done) | (simp_all; done) | (split <;> first | rfl | omega | (simp_all; done); done)
        · first | exact hZ.W | (refine zm_co ?_ ?_ ?_ ?_ hZ.W <;> first | rfl | (simp [zs_comeIn, c_4, hjc, c_8, c_9]; done) | (simp_all [zs_comeIn]; done) | (simp [c_4, hjc, c_8, c_9]; done) | (simp_all; done) | (split <;> first | rfl | omega | (simp_all; done); done))
    · skip
      refine lv_aload_n hx hb dX3_comeIn_18 rfl (lv_at hl 0 rfl) ?_
      refine zz_con 1 hx hb dX3_comeIn_19 (by decide) ?_
      have hS : va_S A s.heap H _ := zz_Smono hS (fun _ h => h.elim)
      refine zz_after (pc := 20) rfl (zz_runV (ci := 6) (q0 := (RX3, TX3, 22)) (b := ad 0 0) (As := [.int (nI 1)]) (rest := []) hx hb hml hown hts (c_X3_fails l (K := K) (A := A) (ad := ad) (th := th) (N := N) (G := G) (L := L) (nI 1)) zw_887 zw_889 zs_34 zw_5 zw_890 zd_X3_fails ⟨Nat.le_of_ble_eq_true rfl, Nat.le_of_ble_eq_true rfl⟩ hZ.E hZ.A (zm_ob hZ.W).1 rfl rfl hZ.W hl.1 (Nat.le_of_ble_eq_true rfl) dX3_comeIn_20 ⟨Nat.le_of_ble_eq_true rfl, Nat.le_of_ble_eq_true rfl⟩) hS (fun _ h => h) (fun v_26 H locs hq_24 hF_25 hS => ?_)
      refine W.widen (k := 0) (n := 0) (Nat.le_of_ble_eq_true rfl) (Nat.le_of_ble_eq_true rfl) ?_
      obtain ⟨rfl, hW9⟩ := hq_24
      have hZ : zz_Z K A s ad (zm_c K ad (nI 1) N G L) H := hZ.mut hF_25 hW9
      refine W.eq (g2 := F0 m 23 ls [.int (nI 0)]) rfl ?_
      refine zz_iret hx hb hr hlocks hS (Nat.le_of_ble_eq_true rfl) (Nat.le_of_ble_eq_true rfl) dX3_comeIn_23 ?_
      refine ⟨?_, ?_⟩
      · skip
        first | rfl | (simp [zs_comeIn, c_4, hjc, c_8]; done) | (simp_all [zs_comeIn]; done) | (simp [c_4, hjc, c_8]; done) | (simp_all; done) | (split <;> first | rfl | omega | (simp_all; done); done)
      · first | exact hZ.W | (refine zm_co ?_ ?_ ?_ ?_ hZ.W <;> first | rfl | (simp [zs_comeIn, c_4, hjc, c_8]; done) | (simp_all [zs_comeIn]; done) | (simp [c_4, hjc, c_8]; done) | (simp_all; done) | (split <;> first | rfl | omega | (simp_all; done); done))

set_option maxHeartbeats 4000000 in
set_option maxRecDepth 100000 in
theorem c_X3_leave (l : Launch) {K : zz_G} {A : Nat → Prop} {ad : Nat → Nat → Nat} {th : Int32} {N : Nat → Nat → Nat} {G : Nat → Nat → Int32} {L : Nat → Int64} (hI : zq N) (x : Int32) : zz_C l yX3_leave cX3_leave 4 (Option.some FieldType.int) ({ frames := 2, cells := 0, slots := 0, locals := 43 } : Room) K A [.ref (ad 0 0), .int x] (fun H => zz_W K A ad (zm_c K ad th N G L) H) (fun v9 _ H9 => v9 = some (.int ((zs_leave N x).2.1)) ∧ zz_W K A ad (zm_c K ad (nI (zs_leave N x).1) ((zs_leave N x).2.2) G L) H9) zz_nx A := by
  refine zz_body (by decide +kernel) (Nat.le_of_ble_eq_true rfl) ?_
  intro p e s m below meth c ls hx hb hr hml hts hown hlocks hmn htab hE hA hP hl
  have hN := hE.N
  have hK := hE.K
  have hown : s.vm.findClass RX3 = some m.cls := hown
  have hl : lv_has ls 4 [(0, .ref (ad 0 0)), (1, .int x)] := hl
  have hZ : zz_Z K A s ad (zm_c K ad th N G L) s.heap := ⟨hE, hA, hP⟩
  have hS : va_S zz_no s.heap s.heap [] := va_S.rf
  obtain ⟨H, hH⟩ : ∃ z, z = s.heap := ⟨_, rfl⟩
  have hS0 : va_S zz_no s.heap H [] := by rw [hH]; exact hS
  rw [← hH] at hZ
  have hE0 := hE
  clear hS
  have hS := hS0
  have hB := hI.B
  have h00 := hI.f
  have h01 := hI.p
  have h02 := hI.b
  show W p l e _ s m _ below meth c s.heap [] 0 0 _ (F0 m 0 ls [])
  rw [← hH]
  refine lv_aload_n hx hb dX3_leave_0 rfl (lv_at hl 0 rfl) ?_
  refine lv_iload_n hx hb dX3_leave_1 rfl (lv_at hl 1 rfl) ?_
  refine zz_after (pc := 2) rfl (zz_runV (ci := 6) (q0 := (RX3, TX3, 22)) (b := ad 0 0) (As := [.int x]) (rest := []) hx hb hml hown hts (c_X3_isPerson l (K := K) (A := A) (ad := ad) (th := th) (N := N) (G := G) (L := L) hI x) zw_911 zw_913 zs_37 zw_5 zw_914 zd_X3_isPerson ⟨Nat.le_of_ble_eq_true rfl, Nat.le_of_ble_eq_true rfl⟩ hZ.E hZ.A (zm_ob hZ.W).1 rfl rfl hZ.W hl.1 (Nat.le_of_ble_eq_true rfl) dX3_leave_2 ⟨Nat.le_of_ble_eq_true rfl, Nat.le_of_ble_eq_true rfl⟩) hS (fun _ h => h.elim) (fun v_3 H locs hq_1 hF_2 hS => ?_)
  refine W.widen (k := 0) (n := 0) (Nat.le_of_ble_eq_true rfl) (Nat.le_of_ble_eq_true rfl) ?_
  obtain rfl := hq_1
  have hZ := hZ.ro hF_2
  refine W.eq (g2 := F0 m 5 ls [.int (zz_bo (zin x (N 0 1)))]) rfl ?_
  refine zz_bi_ne (tgt := 14) hx hb dX3_leave_5 (by decide) (fun c_4 => ?_) (fun c_4 => ?_)
  · skip
    obtain ⟨j, hj, rfl⟩ := zz_rng (by omega) c_4.1 c_4.2
    have hjc : (nI j).toNatClampNeg = j := nI_clamp (by omega)
    have hjb : j < 2 ^ 31 := by omega
    refine lv_aload_n hx hb dX3_leave_14 rfl (lv_at hl 0 rfl) ?_
    refine zz_get (ci := 6) (C := RX3) (T := TX3) (N := 22) (v := .ref (ad 1 8)) hx hb hts hown hK (zm_ob hZ.W).1 rfl zf_X3 14 (by decide) zw_822 (fun _ h9 => h9) rfl dX3_leave_15 ?_
    refine lv_iload_n hx hb dX3_leave_18 rfl (lv_at hl 1 rfl) ?_
    refine zz_zald (y := nI (N 7 j)) hx hb hK (zm_isIn hZ.W).1 (vp_in_nI (show j < 12 by omega) (by decide)) dX3_leave_19 (by rw [nI_clamp (by omega)] <;> rfl) ?_
    refine zz_if_ne (tgt := 29) (by first | exact hB _ _ | exact hUa _ | exact hUb _ | exact hUc _ | exact hUd _ | omega) hx hb dX3_leave_20 (by decide) (fun c_5 => ?_) (fun c_5 => ?_)
    · skip
      refine lv_aload_n hx hb dX3_leave_29 rfl (lv_at hl 0 rfl) ?_
      refine zz_get (ci := 6) (C := RX3) (T := TX3) (N := 22) (v := .ref (ad 1 8)) hx hb hts hown hK (zm_ob hZ.W).1 rfl zf_X3 14 (by decide) zw_822 (fun _ h9 => h9) rfl dX3_leave_30 ?_
      refine lv_iload_n hx hb dX3_leave_33 rfl (lv_at hl 1 rfl) ?_
      refine zz_con 0 hx hb dX3_leave_34 (by decide) ?_
      have hS : va_S A s.heap H _ := zz_Smono hS (fun _ h => h.elim)
      have haA_9 := (zm_isIn hZ.W).2
      refine zz_zast (x := nI 0) hx hb hK hS (zm_isIn hZ.W).1 haA_9 (vp_in_nI (show j < 12 by omega) (by decide)) (show nI 0 = 0 ∨ nI 0 = 1 by decide) dX3_leave_35 (fun H locs ha_7 hz_8 ho_6 hS => ?_)
      have hZ : zz_Z K A s ad (zm_c K ad th (zu N 7 j 0) G L) H := hZ.put haA_9 hz_8 ho_6 (zm_put_a_isIn hZ.W (by omega) (nI_clamp (by omega)) rfl ha_7 ho_6)
      refine zz_con 0 hx hb dX3_leave_36 (by decide) ?_
      refine lv_istore_n (lv' := [(2, .int (nI 0)), (0, .ref (ad 0 0)), (1, .int (nI j))]) hx hb dX3_leave_37 rfl hl (Nat.le_of_ble_eq_true rfl) rfl (fun ls hl => ?_)
      refine zz_con 0 hx hb dX3_leave_38 (by decide) ?_
      refine lv_istore_n (lv' := [(3, .int (nI 0)), (2, .int (nI 0)), (0, .ref (ad 0 0)), (1, .int (nI j))]) hx hb dX3_leave_39 rfl hl (Nat.le_of_ble_eq_true rfl) rfl (fun ls hl => ?_)
      have hL_11 : ∀ (k i : Nat), i ≤ N 0 1 → N 0 1 < i + k → ∀ (H : Heap) (locs : List Loc) (ls : Array Slot), zz_Z K A s ad (zm_c K ad th (zu N 7 j 0) G L) H → va_S A s.heap H locs → lv_has ls 4 [(3, .int (nI i)), (2, .int (nI (zc (fun q => zu N 7 j 0 7 q ≠ 0) i))), (0, .ref (ad 0 0)), (1, .int (nI j))] → W p l e ({ frames := 2, cells := 0, slots := 0, locals := 43 } : Room) s m ([.ref (ad 0 0), .int (nI j)] : List Value).toArray below meth c H locs 0 0 (vx_MQ below (zz_Qc (fun v9 _ H9 => v9 = some (.int ((zs_leave N (nI j)).2.1)) ∧ zz_W K A ad (zm_c K ad (nI (zs_leave N (nI j)).1) ((zs_leave N (nI j)).2.2) G L) H9) A) (zz_XC zz_nx) ([.ref (ad 0 0), .int (nI j)] : List Value).toArray s ({ frames := 2, cells := 0, slots := 0, locals := 43 } : Room).cells ({ frames := 2, cells := 0, slots := 0, locals := 43 } : Room).slots A) (F0 m 40 ls []) := by
        intro k
        induction k with
        | zero => intro i hi hik; omega
        | succ k ih_i =>
          intro i hii hiki H locs ls hZ hS hl
          have hcl := zc_le (fun q => zu N 7 j 0 7 q ≠ 0) i
          have hB7 : ∀ a b, zu N 7 j 0 a b < 2 ^ 31 := fun a b => zu_b (hB a b) (by decide)
          have hB7i := hB7 7 i
          refine lv_iload_n hx hb dX3_leave_40 rfl (lv_at hl 0 rfl) ?_
          refine lv_aload_n hx hb dX3_leave_41 rfl (lv_at hl 2 rfl) ?_
          refine zz_get (ci := 6) (C := RX3) (T := TX3) (N := 22) (v := .int (nI (N 0 1))) hx hb hts hown hK (zm_ob hZ.W).1 rfl zf_X3 2 (by decide) zw_810 (fun _ h9 => h9) rfl dX3_leave_42 ?_
          refine zz_ic_ge (tgt := 71) (by first | exact hB _ _ | exact hUa _ | exact hUb _ | exact hUc _ | exact hUd _ | omega) (by first | exact hB _ _ | exact hUa _ | exact hUb _ | exact hUc _ | exact hUd _ | omega) hx hb dX3_leave_45 (by decide) (fun c_12 => ?_) (fun c_12 => ?_)
          · skip
            obtain rfl : i = N 0 1 := by omega
            have hcl := zc_le (fun q => zu N 7 j 0 7 q ≠ 0) (N 0 1)
            refine lv_aload_n hx hb dX3_leave_71 rfl (lv_at hl 2 rfl) ?_
            refine lv_iload_n hx hb dX3_leave_72 rfl (lv_at hl 1 rfl) ?_
            refine zz_after (pc := 73) rfl (zz_runV (ci := 6) (q0 := (RX3, TX3, 22)) (b := ad 0 0) (As := [.int (nI (zc (fun q => zu N 7 j 0 7 q ≠ 0) (N 0 1)))]) (rest := []) hx hb hml hown hts (c_X3_tells l (K := K) (A := A) (ad := ad) (th := th) (N := (zu N 7 j 0)) (G := G) (L := L) (nI (zc (fun q => zu N 7 j 0 7 q ≠ 0) (N 0 1)))) zw_891 zw_893 zs_35 zw_5 zw_894 zd_X3_tells ⟨Nat.le_of_ble_eq_true rfl, Nat.le_of_ble_eq_true rfl⟩ hZ.E hZ.A (zm_ob hZ.W).1 rfl rfl hZ.W hl.1 (Nat.le_of_ble_eq_true rfl) dX3_leave_73 ⟨Nat.le_of_ble_eq_true rfl, Nat.le_of_ble_eq_true rfl⟩) hS (fun _ h => h) (fun v_15 H locs hq_13 hF_14 hS => ?_)
            refine W.widen (k := 0) (n := 0) (Nat.le_of_ble_eq_true rfl) (Nat.le_of_ble_eq_true rfl) ?_
            obtain ⟨rfl, hW9⟩ := hq_13
            have hZ : zz_Z K A s ad (zm_c K ad (nI 0) (zu N 7 j 0) G L) H := hZ.mut hF_14 hW9
            refine W.eq (g2 := F0 m 76 ls [.int (nI (zc (fun q => zu N 7 j 0 7 q ≠ 0) (N 0 1)))]) rfl ?_
            refine zz_iret hx hb hr hlocks hS (Nat.le_of_ble_eq_true rfl) (Nat.le_of_ble_eq_true rfl) dX3_leave_76 ?_
            refine ⟨?_, ?_⟩
            · skip
              first | rfl | (simp [zs_leave, c_4, hjc, c_5, c_12]; done) | (simp_all [zs_leave]; done) | (simp [c_4, hjc, c_5, c_12]; done) | (simp_all; done) | (split <;> first | rfl | omega | (simp_all; done); done)
            · first | exact hZ.W | (refine zm_co ?_ ?_ ?_ ?_ hZ.W <;> first | rfl | (simp [zs_leave, c_4, hjc, c_5, c_12]; done) | (simp_all [zs_leave]; done) | (simp [c_4, hjc, c_5, c_12]; done) | (simp_all; done) | (split <;> first | rfl | omega | (simp_all; done); done))
          · skip
            refine lv_iload_n hx hb dX3_leave_48 rfl (lv_at hl 1 rfl) ?_
            refine lv_aload_n hx hb dX3_leave_49 rfl (lv_at hl 2 rfl) ?_
            refine zz_get (ci := 6) (C := RX3) (T := TX3) (N := 22) (v := .ref (ad 1 8)) hx hb hts hown hK (zm_ob hZ.W).1 rfl zf_X3 14 (by decide) zw_822 (fun _ h9 => h9) rfl dX3_leave_50 ?_
            refine lv_iload_n hx hb dX3_leave_53 rfl (lv_at hl 0 rfl) ?_
            refine zz_zald (y := nI ((zu N 7 j 0) 7 i)) hx hb hK (zm_isIn hZ.W).1 (vp_in_nI (show i < 12 by omega) (by decide)) dX3_leave_54 (by rw [nI_clamp (by omega)] <;> rfl) ?_
            refine zz_if_eq (tgt := 62) (by first | exact hB _ _ | exact hUa _ | exact hUb _ | exact hUc _ | exact hUd _ | omega) hx hb dX3_leave_55 (by decide) (fun c_16 => ?_) (fun c_16 => ?_)
            · skip
              refine zz_con 0 hx hb dX3_leave_62 (by decide) ?_
              refine zz_add hx hb dX3_leave_63 ?_
              refine lv_istore_n (lv' := [(2, .int (nI ((zc (fun q => zu N 7 j 0 7 q ≠ 0) i) + 0))), (3, .int (nI i)), (0, .ref (ad 0 0)), (1, .int (nI j))]) hx hb dX3_leave_64 rfl hl (Nat.le_of_ble_eq_true rfl) rfl (fun ls hl => ?_)
              refine zz_inc (k := 1) (lv' := [(3, .int (nI (i + 1))), (2, .int (nI ((zc (fun q => zu N 7 j 0 7 q ≠ 0) i) + 0))), (0, .ref (ad 0 0)), (1, .int (nI j))]) hx hb dX3_leave_65 hl rfl (Nat.le_of_ble_eq_true rfl) rfl (fun ls hl => ?_)
              refine lv_goto (tgt := 40) hx hb dX3_leave_68 (by decide) ?_
              refine ih_i (i + 1) (by omega) (by omega) _ _ _ ?_ hS ?_
              · exact hZ
              · skip
                rw [show (.int (nI (zc (fun q => zu N 7 j 0 7 q ≠ 0) (i + 1))) : Value) = .int (nI ((zc (fun q => zu N 7 j 0 7 q ≠ 0) i) + 0)) from congrArg Value.int (by first | rfl | ((exact congrArg nI (zc_t (by assumption))); done) | ((exact congrArg nI (zc_f (by simpa using (by assumption)))); done) | ((rw [zc_t (by assumption)]); done) | ((rw [zc_f (fun h => h (by assumption))]); done))]
                exact lv_sub hl [0, 1, 2, 3] rfl
            · skip
              refine zz_con 1 hx hb dX3_leave_58 (by decide) ?_
              refine lv_goto (tgt := 63) hx hb dX3_leave_59 (by decide) ?_
              refine zz_add hx hb dX3_leave_63 ?_
              refine lv_istore_n (lv' := [(2, .int (nI ((zc (fun q => zu N 7 j 0 7 q ≠ 0) i) + 1))), (3, .int (nI i)), (0, .ref (ad 0 0)), (1, .int (nI j))]) hx hb dX3_leave_64 rfl hl (Nat.le_of_ble_eq_true rfl) rfl (fun ls hl => ?_)
              refine zz_inc (k := 1) (lv' := [(3, .int (nI (i + 1))), (2, .int (nI ((zc (fun q => zu N 7 j 0 7 q ≠ 0) i) + 1))), (0, .ref (ad 0 0)), (1, .int (nI j))]) hx hb dX3_leave_65 hl rfl (Nat.le_of_ble_eq_true rfl) rfl (fun ls hl => ?_)
              refine lv_goto (tgt := 40) hx hb dX3_leave_68 (by decide) ?_
              refine ih_i (i + 1) (by omega) (by omega) _ _ _ ?_ hS ?_
              · exact hZ
              · skip
                rw [show (.int (nI (zc (fun q => zu N 7 j 0 7 q ≠ 0) (i + 1))) : Value) = .int (nI ((zc (fun q => zu N 7 j 0 7 q ≠ 0) i) + 1)) from congrArg Value.int (by first | rfl | ((exact congrArg nI (zc_t (by assumption))); done) | ((exact congrArg nI (zc_f (by simpa using (by assumption)))); done) | ((rw [zc_t (by assumption)]); done) | ((rw [zc_f (fun h => h (by assumption))]); done))]
                exact lv_sub hl [0, 1, 2, 3] rfl
      refine hL_11 (N 0 1 + 1) 0 (by first | omega | exact Nat.zero_le _) (by first | omega | (rw [Nat.zero_add]; exact Nat.lt_succ_self _)) _ _ _ hZ hS ?_
      exact lv_sub hl [0, 1, 2, 3] rfl
    · skip
      refine lv_aload_n hx hb dX3_leave_23 rfl (lv_at hl 0 rfl) ?_
      refine zz_con 2 hx hb dX3_leave_24 (by decide) ?_
      have hS : va_S A s.heap H _ := zz_Smono hS (fun _ h => h.elim)
      refine zz_after (pc := 25) rfl (zz_runV (ci := 6) (q0 := (RX3, TX3, 22)) (b := ad 0 0) (As := [.int (nI 2)]) (rest := []) hx hb hml hown hts (c_X3_fails l (K := K) (A := A) (ad := ad) (th := th) (N := N) (G := G) (L := L) (nI 2)) zw_887 zw_889 zs_34 zw_5 zw_890 zd_X3_fails ⟨Nat.le_of_ble_eq_true rfl, Nat.le_of_ble_eq_true rfl⟩ hZ.E hZ.A (zm_ob hZ.W).1 rfl rfl hZ.W hl.1 (Nat.le_of_ble_eq_true rfl) dX3_leave_25 ⟨Nat.le_of_ble_eq_true rfl, Nat.le_of_ble_eq_true rfl⟩) hS (fun _ h => h) (fun v_19 H locs hq_17 hF_18 hS => ?_)
      refine W.widen (k := 0) (n := 0) (Nat.le_of_ble_eq_true rfl) (Nat.le_of_ble_eq_true rfl) ?_
      obtain ⟨rfl, hW9⟩ := hq_17
      have hZ : zz_Z K A s ad (zm_c K ad (nI 2) N G L) H := hZ.mut hF_18 hW9
      refine W.eq (g2 := F0 m 28 ls [.int (nI 0)]) rfl ?_
      refine zz_iret hx hb hr hlocks hS (Nat.le_of_ble_eq_true rfl) (Nat.le_of_ble_eq_true rfl) dX3_leave_28 ?_
      refine ⟨?_, ?_⟩
      · skip
        first | rfl | (simp [zs_leave, c_4, hjc, c_5]; done) | (simp_all [zs_leave]; done) | (simp [c_4, hjc, c_5]; done) | (simp_all; done) | (split <;> first | rfl | omega | (simp_all; done); done)
      · first | exact hZ.W | (refine zm_co ?_ ?_ ?_ ?_ hZ.W <;> first | rfl | (simp [zs_leave, c_4, hjc, c_5]; done) | (simp_all [zs_leave]; done) | (simp [c_4, hjc, c_5]; done) | (simp_all; done) | (split <;> first | rfl | omega | (simp_all; done); done))
  · skip
    refine lv_aload_n hx hb dX3_leave_8 rfl (lv_at hl 0 rfl) ?_
    refine zz_con 1 hx hb dX3_leave_9 (by decide) ?_
    have hS : va_S A s.heap H _ := zz_Smono hS (fun _ h => h.elim)
    refine zz_after (pc := 10) rfl (zz_runV (ci := 6) (q0 := (RX3, TX3, 22)) (b := ad 0 0) (As := [.int (nI 1)]) (rest := []) hx hb hml hown hts (c_X3_fails l (K := K) (A := A) (ad := ad) (th := th) (N := N) (G := G) (L := L) (nI 1)) zw_887 zw_889 zs_34 zw_5 zw_890 zd_X3_fails ⟨Nat.le_of_ble_eq_true rfl, Nat.le_of_ble_eq_true rfl⟩ hZ.E hZ.A (zm_ob hZ.W).1 rfl rfl hZ.W hl.1 (Nat.le_of_ble_eq_true rfl) dX3_leave_10 ⟨Nat.le_of_ble_eq_true rfl, Nat.le_of_ble_eq_true rfl⟩) hS (fun _ h => h) (fun v_22 H locs hq_20 hF_21 hS => ?_)
    refine W.widen (k := 0) (n := 0) (Nat.le_of_ble_eq_true rfl) (Nat.le_of_ble_eq_true rfl) ?_
    obtain ⟨rfl, hW9⟩ := hq_20
    have hZ : zz_Z K A s ad (zm_c K ad (nI 1) N G L) H := hZ.mut hF_21 hW9
    refine W.eq (g2 := F0 m 13 ls [.int (nI 0)]) rfl ?_
    refine zz_iret hx hb hr hlocks hS (Nat.le_of_ble_eq_true rfl) (Nat.le_of_ble_eq_true rfl) dX3_leave_13 ?_
    refine ⟨?_, ?_⟩
    · skip
      first | rfl | (simp [zs_leave, c_4]; done) | (simp_all [zs_leave]; done) | (simp [c_4]; done) | (simp_all; done) | (split <;> first | rfl | omega | (simp_all; done); done)
    · first | exact hZ.W | (refine zm_co ?_ ?_ ?_ ?_ hZ.W <;> first | rfl | (simp [zs_leave, c_4]; done) | (simp_all [zs_leave]; done) | (simp [c_4]; done) | (simp_all; done) | (split <;> first | rfl | omega | (simp_all; done); done))

set_option maxHeartbeats 4000000 in
set_option maxRecDepth 100000 in
theorem c_X3_seatOf (l : Launch) {K : zz_G} {A : Nat → Prop} {ad : Nat → Nat → Nat} {th : Int32} {N : Nat → Nat → Nat} {G : Nat → Nat → Int32} {L : Nat → Int64} (hI : zq N) (x : Int32) : zz_C l yX3_seatOf cX3_seatOf 2 (Option.some FieldType.int) ({ frames := 2, cells := 0, slots := 0, locals := 43 } : Room) K A [.ref (ad 0 0), .int x] (fun H => zz_W K A ad (zm_c K ad th N G L) H) (fun v9 _ H9 => v9 = some (.int ((zs_seatOf N x).2)) ∧ zz_W K A ad (zm_c K ad (nI (zs_seatOf N x).1) N G L) H9) zz_nx A := by
  refine zz_body (by decide +kernel) (Nat.le_of_ble_eq_true rfl) ?_
  intro p e s m below meth c ls hx hb hr hml hts hown hlocks hmn htab hE hA hP hl
  have hN := hE.N
  have hK := hE.K
  have hown : s.vm.findClass RX3 = some m.cls := hown
  have hl : lv_has ls 2 [(0, .ref (ad 0 0)), (1, .int x)] := hl
  have hZ : zz_Z K A s ad (zm_c K ad th N G L) s.heap := ⟨hE, hA, hP⟩
  have hS : va_S zz_no s.heap s.heap [] := va_S.rf
  obtain ⟨H, hH⟩ : ∃ z, z = s.heap := ⟨_, rfl⟩
  have hS0 : va_S zz_no s.heap H [] := by rw [hH]; exact hS
  rw [← hH] at hZ
  have hE0 := hE
  clear hS
  have hS := hS0
  have hB := hI.B
  have h00 := hI.f
  have h01 := hI.p
  have h02 := hI.b
  show W p l e _ s m _ below meth c s.heap [] 0 0 _ (F0 m 0 ls [])
  rw [← hH]
  refine lv_aload_n hx hb dX3_seatOf_0 rfl (lv_at hl 0 rfl) ?_
  refine lv_iload_n hx hb dX3_seatOf_1 rfl (lv_at hl 1 rfl) ?_
  refine zz_after (pc := 2) rfl (zz_runV (ci := 6) (q0 := (RX3, TX3, 22)) (b := ad 0 0) (As := [.int x]) (rest := []) hx hb hml hown hts (c_X3_isPerson l (K := K) (A := A) (ad := ad) (th := th) (N := N) (G := G) (L := L) hI x) zw_911 zw_913 zs_37 zw_5 zw_914 zd_X3_isPerson ⟨Nat.le_of_ble_eq_true rfl, Nat.le_of_ble_eq_true rfl⟩ hZ.E hZ.A (zm_ob hZ.W).1 rfl rfl hZ.W hl.1 (Nat.le_of_ble_eq_true rfl) dX3_seatOf_2 ⟨Nat.le_of_ble_eq_true rfl, Nat.le_of_ble_eq_true rfl⟩) hS (fun _ h => h.elim) (fun v_3 H locs hq_1 hF_2 hS => ?_)
  refine W.widen (k := 0) (n := 0) (Nat.le_of_ble_eq_true rfl) (Nat.le_of_ble_eq_true rfl) ?_
  obtain rfl := hq_1
  have hZ := hZ.ro hF_2
  refine W.eq (g2 := F0 m 5 ls [.int (zz_bo (zin x (N 0 1)))]) rfl ?_
  refine zz_bi_eq (tgt := 21) hx hb dX3_seatOf_5 (by decide) (fun c_4 => ?_) (fun c_4 => ?_)
  · skip
    refine lv_aload_n hx hb dX3_seatOf_21 rfl (lv_at hl 0 rfl) ?_
    refine zz_con 1 hx hb dX3_seatOf_22 (by decide) ?_
    have hS : va_S A s.heap H _ := zz_Smono hS (fun _ h => h.elim)
    refine zz_after (pc := 23) rfl (zz_runV (ci := 6) (q0 := (RX3, TX3, 22)) (b := ad 0 0) (As := [.int (nI 1)]) (rest := []) hx hb hml hown hts (c_X3_fails l (K := K) (A := A) (ad := ad) (th := th) (N := N) (G := G) (L := L) (nI 1)) zw_887 zw_889 zs_34 zw_5 zw_890 zd_X3_fails ⟨Nat.le_of_ble_eq_true rfl, Nat.le_of_ble_eq_true rfl⟩ hZ.E hZ.A (zm_ob hZ.W).1 rfl rfl hZ.W hl.1 (Nat.le_of_ble_eq_true rfl) dX3_seatOf_23 ⟨Nat.le_of_ble_eq_true rfl, Nat.le_of_ble_eq_true rfl⟩) hS (fun _ h => h) (fun v_7 H locs hq_5 hF_6 hS => ?_)
    refine W.widen (k := 0) (n := 0) (Nat.le_of_ble_eq_true rfl) (Nat.le_of_ble_eq_true rfl) ?_
    obtain ⟨rfl, hW9⟩ := hq_5
    have hZ : zz_Z K A s ad (zm_c K ad (nI 1) N G L) H := hZ.mut hF_6 hW9
    refine W.eq (g2 := F0 m 26 ls [.int (nI 0)]) rfl ?_
    refine zz_iret hx hb hr hlocks hS (Nat.le_of_ble_eq_true rfl) (Nat.le_of_ble_eq_true rfl) dX3_seatOf_26 ?_
    refine ⟨?_, ?_⟩
    · skip
      first | rfl | (simp [zs_seatOf, c_4]; done) | (simp_all [zs_seatOf]; done) | (simp [c_4]; done) | (simp_all; done) | (split <;> first | rfl | omega | (simp_all; done); done)
    · first | exact hZ.W | (refine zm_co ?_ ?_ ?_ ?_ hZ.W <;> first | rfl | (simp [zs_seatOf, c_4]; done) | (simp_all [zs_seatOf]; done) | (simp [c_4]; done) | (simp_all; done) | (split <;> first | rfl | omega | (simp_all; done); done))
  · skip
    obtain ⟨j, hj, rfl⟩ := zz_rng (by omega) c_4.1 c_4.2
    have hjc : (nI j).toNatClampNeg = j := nI_clamp (by omega)
    have hjb : j < 2 ^ 31 := by omega
    refine lv_aload_n hx hb dX3_seatOf_8 rfl (lv_at hl 0 rfl) ?_
    refine lv_aload_n hx hb dX3_seatOf_9 rfl (lv_at hl 0 rfl) ?_
    refine zz_get (ci := 6) (C := RX3) (T := TX3) (N := 22) (v := .ref (ad 1 7)) hx hb hts hown hK (zm_ob hZ.W).1 rfl zf_X3 13 (by decide) zw_821 (fun _ h9 => h9) rfl dX3_seatOf_10 ?_
    refine lv_iload_n hx hb dX3_seatOf_13 rfl (lv_at hl 1 rfl) ?_
    refine zz_iald (y := nI (N 6 j) - 1) hx hb hK (zm_seat hZ.W).1 (vp_in_nI (show j < 12 by omega) (by decide)) dX3_seatOf_14 (by rw [nI_clamp (by omega)] <;> rfl) ?_
    have hS : va_S A s.heap H _ := zz_Smono hS (fun _ h => h.elim)
    refine zz_after (pc := 15) rfl (zz_runV (ci := 6) (q0 := (RX3, TX3, 22)) (b := ad 0 0) (As := [.int (nI (N 6 j) - 1)]) (rest := []) hx hb hml hown hts (c_X3_tells l (K := K) (A := A) (ad := ad) (th := th) (N := N) (G := G) (L := L) (nI (N 6 j) - 1)) zw_891 zw_893 zs_35 zw_5 zw_894 zd_X3_tells ⟨Nat.le_of_ble_eq_true rfl, Nat.le_of_ble_eq_true rfl⟩ hZ.E hZ.A (zm_ob hZ.W).1 rfl rfl hZ.W hl.1 (Nat.le_of_ble_eq_true rfl) dX3_seatOf_15 ⟨Nat.le_of_ble_eq_true rfl, Nat.le_of_ble_eq_true rfl⟩) hS (fun _ h => h) (fun v_10 H locs hq_8 hF_9 hS => ?_)
    refine W.widen (k := 0) (n := 0) (Nat.le_of_ble_eq_true rfl) (Nat.le_of_ble_eq_true rfl) ?_
    obtain ⟨rfl, hW9⟩ := hq_8
    have hZ : zz_Z K A s ad (zm_c K ad (nI 0) N G L) H := hZ.mut hF_9 hW9
    refine W.eq (g2 := F0 m 18 ls [.int (nI (N 6 j) - 1)]) rfl ?_
    refine lv_goto (tgt := 26) hx hb dX3_seatOf_18 (by decide) ?_
    refine zz_iret hx hb hr hlocks hS (Nat.le_of_ble_eq_true rfl) (Nat.le_of_ble_eq_true rfl) dX3_seatOf_26 ?_
    refine ⟨?_, ?_⟩
    · skip
      first | rfl | (simp [zs_seatOf, c_4, hjc]; done) | (simp_all [zs_seatOf]; done) | (simp [c_4, hjc]; done) | (simp_all; done) | (split <;> first | rfl | omega | (simp_all; done); done)
    · first | exact hZ.W | (refine zm_co ?_ ?_ ?_ ?_ hZ.W <;> first | rfl | (simp [zs_seatOf, c_4, hjc]; done) | (simp_all [zs_seatOf]; done) | (simp [c_4, hjc]; done) | (simp_all; done) | (split <;> first | rfl | omega | (simp_all; done); done))

set_option maxHeartbeats 4000000 in
set_option maxRecDepth 100000 in
theorem c_X3_isIn (l : Launch) {K : zz_G} {A : Nat → Prop} {ad : Nat → Nat → Nat} {th : Int32} {N : Nat → Nat → Nat} {G : Nat → Nat → Int32} {L : Nat → Int64} (hI : zq N) (x : Int32) : zz_C l yX3_isIn cX3_isIn 2 (Option.some FieldType.boolean) ({ frames := 2, cells := 0, slots := 0, locals := 43 } : Room) K A [.ref (ad 0 0), .int x] (fun H => zz_W K A ad (zm_c K ad th N G L) H) (fun v9 _ H9 => v9 = some (.int (zz_bo (zp_isIn N x))) ∧ zz_W K A ad (zm_c K ad (nI (zs_isIn N x)) N G L) H9) zz_nx A := by
  refine zz_body (by decide +kernel) (Nat.le_of_ble_eq_true rfl) ?_
  intro p e s m below meth c ls hx hb hr hml hts hown hlocks hmn htab hE hA hP hl
  have hN := hE.N
  have hK := hE.K
  have hown : s.vm.findClass RX3 = some m.cls := hown
  have hl : lv_has ls 2 [(0, .ref (ad 0 0)), (1, .int x)] := hl
  have hZ : zz_Z K A s ad (zm_c K ad th N G L) s.heap := ⟨hE, hA, hP⟩
  have hS : va_S zz_no s.heap s.heap [] := va_S.rf
  obtain ⟨H, hH⟩ : ∃ z, z = s.heap := ⟨_, rfl⟩
  have hS0 : va_S zz_no s.heap H [] := by rw [hH]; exact hS
  rw [← hH] at hZ
  have hE0 := hE
  clear hS
  have hS := hS0
  have hB := hI.B
  have h00 := hI.f
  have h01 := hI.p
  have h02 := hI.b
  show W p l e _ s m _ below meth c s.heap [] 0 0 _ (F0 m 0 ls [])
  rw [← hH]
  refine lv_aload_n hx hb dX3_isIn_0 rfl (lv_at hl 0 rfl) ?_
  refine lv_aload_n hx hb dX3_isIn_1 rfl (lv_at hl 0 rfl) ?_
  refine lv_iload_n hx hb dX3_isIn_2 rfl (lv_at hl 1 rfl) ?_
  refine zz_after (pc := 3) rfl (zz_runV (ci := 6) (q0 := (RX3, TX3, 22)) (b := ad 0 0) (As := [.int x]) (rest := [.ref (ad 0 0)]) hx hb hml hown hts (c_X3_isPerson l (K := K) (A := A) (ad := ad) (th := th) (N := N) (G := G) (L := L) hI x) zw_911 zw_913 zs_37 zw_5 zw_914 zd_X3_isPerson ⟨Nat.le_of_ble_eq_true rfl, Nat.le_of_ble_eq_true rfl⟩ hZ.E hZ.A (zm_ob hZ.W).1 rfl rfl hZ.W hl.1 (Nat.le_of_ble_eq_true rfl) dX3_isIn_3 ⟨Nat.le_of_ble_eq_true rfl, Nat.le_of_ble_eq_true rfl⟩) hS (fun _ h => h.elim) (fun v_3 H locs hq_1 hF_2 hS => ?_)
  refine W.widen (k := 0) (n := 0) (Nat.le_of_ble_eq_true rfl) (Nat.le_of_ble_eq_true rfl) ?_
  obtain rfl := hq_1
  have hZ := hZ.ro hF_2
  refine W.eq (g2 := F0 m 6 ls [.int (zz_bo (zin x (N 0 1))), .ref (ad 0 0)]) rfl ?_
  refine zz_bi_eq (tgt := 13) hx hb dX3_isIn_6 (by decide) (fun c_4 => ?_) (fun c_4 => ?_)
  · skip
    refine zz_con 1 hx hb dX3_isIn_13 (by decide) ?_
    refine lv_aload_n hx hb dX3_isIn_14 rfl (lv_at hl 0 rfl) ?_
    refine lv_iload_n hx hb dX3_isIn_15 rfl (lv_at hl 1 rfl) ?_
    refine zz_after (pc := 16) rfl (zz_runV (ci := 6) (q0 := (RX3, TX3, 22)) (b := ad 0 0) (As := [.int x]) (rest := [.int (nI 1), .ref (ad 0 0)]) hx hb hml hown hts (c_X3_isPerson l (K := K) (A := A) (ad := ad) (th := th) (N := N) (G := G) (L := L) hI x) zw_911 zw_913 zs_37 zw_5 zw_914 zd_X3_isPerson ⟨Nat.le_of_ble_eq_true rfl, Nat.le_of_ble_eq_true rfl⟩ hZ.E hZ.A (zm_ob hZ.W).1 rfl rfl hZ.W hl.1 (Nat.le_of_ble_eq_true rfl) dX3_isIn_16 ⟨Nat.le_of_ble_eq_true rfl, Nat.le_of_ble_eq_true rfl⟩) hS (fun _ h => h.elim) (fun v_7 H locs hq_5 hF_6 hS => ?_)
    refine W.widen (k := 0) (n := 0) (Nat.le_of_ble_eq_true rfl) (Nat.le_of_ble_eq_true rfl) ?_
    obtain rfl := hq_5
    have hZ := hZ.ro hF_6
    refine W.eq (g2 := F0 m 19 ls [.int (zz_bo (zin x (N 0 1))), .int (nI 1), .ref (ad 0 0)]) rfl ?_
    refine zz_bi_eq (tgt := 35) hx hb dX3_isIn_19 (by decide) (fun c_8 => ?_) (fun c_8 => ?_)
    · skip
      refine zz_con 0 hx hb dX3_isIn_35 (by decide) ?_
      have hS : va_S A s.heap H _ := zz_Smono hS (fun _ h => h.elim)
      refine zz_after (pc := 36) rfl (zz_runV (ci := 6) (q0 := (RX3, TX3, 22)) (b := ad 0 0) (As := [.int (nI 1), .int (nI 0)]) (rest := []) hx hb hml hown hts (c_X3_asks l (K := K) (A := A) (ad := ad) (th := th) (N := N) (G := G) (L := L) (nI 1) False) zw_1016 zw_1018 zs_48 zw_5 zw_1019 zd_X3_asks ⟨Nat.le_of_ble_eq_true rfl, Nat.le_of_ble_eq_true rfl⟩ hZ.E hZ.A (zm_ob hZ.W).1 rfl rfl hZ.W hl.1 (Nat.le_of_ble_eq_true rfl) dX3_isIn_36 ⟨Nat.le_of_ble_eq_true rfl, Nat.le_of_ble_eq_true rfl⟩) hS (fun _ h => h) (fun v_11 H locs hq_9 hF_10 hS => ?_)
      refine W.widen (k := 0) (n := 0) (Nat.le_of_ble_eq_true rfl) (Nat.le_of_ble_eq_true rfl) ?_
      obtain ⟨rfl, hW9⟩ := hq_9
      have hZ : zz_Z K A s ad (zm_c K ad (nI 1) N G L) H := hZ.mut hF_10 hW9
      refine W.eq (g2 := F0 m 39 ls [.int (zz_bo (nI 1 = 0 ∧ False))]) rfl ?_
      refine zz_zret hx hb hr hlocks hS (Nat.le_of_ble_eq_true rfl) (Nat.le_of_ble_eq_true rfl) dX3_isIn_39 (zz_bo_01 (P := nI 1 = 0 ∧ False)) ?_
      refine ⟨?_, ?_⟩
      · skip
        first | rfl | ((exact congrArg (fun z => some (Value.int z)) (zz_bo_c ⟨fun _ => ⟨zin_nI hj (by omega), by rw [hjc]; assumption⟩, fun _ => ⟨rfl, trivial⟩⟩)); done) | ((exact congrArg (fun z => some (Value.int z)) (zz_bo_c (by have := zin_nI hj (by omega); simp_all))); done) | ((exact congrArg (fun z => some (Value.int z)) (zz_bo_c (by simp_all))); done) | ((exact congrArg (fun z => some (Value.int z)) (zz_bo_c (by have := zin_nI hj (by omega); simp_all [zs_isIn, zp_isIn]))); done) | ((have := zin_nI hj (by omega); simp_all [zs_isIn]); done) | (simp [zs_isIn, c_4, c_8]; done) | (simp_all [zs_isIn]; done) | (simp [c_4, c_8]; done) | (simp_all; done) | (split <;> first | rfl | omega | (simp_all; done); done)
      · first | exact hZ.W | (refine zm_co ?_ ?_ ?_ ?_ hZ.W <;> first | rfl | ((exact congrArg (fun z => some (Value.int z)) (zz_bo_c ⟨fun _ => ⟨zin_nI hj (by omega), by rw [hjc]; assumption⟩, fun _ => ⟨rfl, trivial⟩⟩)); done) | ((exact congrArg (fun z => some (Value.int z)) (zz_bo_c (by have := zin_nI hj (by omega); simp_all))); done) | ((exact congrArg (fun z => some (Value.int z)) (zz_bo_c (by simp_all))); done) | ((exact congrArg (fun z => some (Value.int z)) (zz_bo_c (by have := zin_nI hj (by omega); simp_all [zs_isIn, zp_isIn]))); done) | ((have := zin_nI hj (by omega); simp_all [zs_isIn]); done) | (simp [zs_isIn, c_4, c_8]; done) | (simp_all [zs_isIn]; done) | (simp [c_4, c_8]; done) | (simp_all; done) | (split <;> first | rfl | omega | (simp_all; done); done))
    · skip
      exact absurd c_8 c_4
  · skip
    obtain ⟨j, hj, rfl⟩ := zz_rng (by omega) c_4.1 c_4.2
    have hjc : (nI j).toNatClampNeg = j := nI_clamp (by omega)
    have hjb : j < 2 ^ 31 := by omega
    refine zz_con 0 hx hb dX3_isIn_9 (by decide) ?_
    refine lv_goto (tgt := 14) hx hb dX3_isIn_10 (by decide) ?_
    refine lv_aload_n hx hb dX3_isIn_14 rfl (lv_at hl 0 rfl) ?_
    refine lv_iload_n hx hb dX3_isIn_15 rfl (lv_at hl 1 rfl) ?_
    refine zz_after (pc := 16) rfl (zz_runV (ci := 6) (q0 := (RX3, TX3, 22)) (b := ad 0 0) (As := [.int (nI j)]) (rest := [.int (nI 0), .ref (ad 0 0)]) hx hb hml hown hts (c_X3_isPerson l (K := K) (A := A) (ad := ad) (th := th) (N := N) (G := G) (L := L) hI (nI j)) zw_911 zw_913 zs_37 zw_5 zw_914 zd_X3_isPerson ⟨Nat.le_of_ble_eq_true rfl, Nat.le_of_ble_eq_true rfl⟩ hZ.E hZ.A (zm_ob hZ.W).1 rfl rfl hZ.W hl.1 (Nat.le_of_ble_eq_true rfl) dX3_isIn_16 ⟨Nat.le_of_ble_eq_true rfl, Nat.le_of_ble_eq_true rfl⟩) hS (fun _ h => h.elim) (fun v_14 H locs hq_12 hF_13 hS => ?_)
    refine W.widen (k := 0) (n := 0) (Nat.le_of_ble_eq_true rfl) (Nat.le_of_ble_eq_true rfl) ?_
    obtain rfl := hq_12
    have hZ := hZ.ro hF_13
    refine W.eq (g2 := F0 m 19 ls [.int (zz_bo (zin (nI j) (N 0 1))), .int (nI 0), .ref (ad 0 0)]) rfl ?_
    refine zz_bi_eq (tgt := 35) hx hb dX3_isIn_19 (by decide) (fun c_15 => ?_) (fun c_15 => ?_)
    · skip
      exact absurd (zin_nI hj (by omega)) c_15
    · skip
      refine lv_aload_n hx hb dX3_isIn_22 rfl (lv_at hl 0 rfl) ?_
      refine zz_get (ci := 6) (C := RX3) (T := TX3) (N := 22) (v := .ref (ad 1 8)) hx hb hts hown hK (zm_ob hZ.W).1 rfl zf_X3 14 (by decide) zw_822 (fun _ h9 => h9) rfl dX3_isIn_23 ?_
      refine lv_iload_n hx hb dX3_isIn_26 rfl (lv_at hl 1 rfl) ?_
      refine zz_zald (y := nI (N 7 j)) hx hb hK (zm_isIn hZ.W).1 (vp_in_nI (show j < 12 by omega) (by decide)) dX3_isIn_27 (by rw [nI_clamp (by omega)] <;> rfl) ?_
      refine zz_if_eq (tgt := 35) (by first | exact hB _ _ | exact hUa _ | exact hUb _ | exact hUc _ | exact hUd _ | omega) hx hb dX3_isIn_28 (by decide) (fun c_16 => ?_) (fun c_16 => ?_)
      · skip
        refine zz_con 0 hx hb dX3_isIn_35 (by decide) ?_
        have hS : va_S A s.heap H _ := zz_Smono hS (fun _ h => h.elim)
        refine zz_after (pc := 36) rfl (zz_runV (ci := 6) (q0 := (RX3, TX3, 22)) (b := ad 0 0) (As := [.int (nI 0), .int (nI 0)]) (rest := []) hx hb hml hown hts (c_X3_asks l (K := K) (A := A) (ad := ad) (th := th) (N := N) (G := G) (L := L) (nI 0) False) zw_1016 zw_1018 zs_48 zw_5 zw_1019 zd_X3_asks ⟨Nat.le_of_ble_eq_true rfl, Nat.le_of_ble_eq_true rfl⟩ hZ.E hZ.A (zm_ob hZ.W).1 rfl rfl hZ.W hl.1 (Nat.le_of_ble_eq_true rfl) dX3_isIn_36 ⟨Nat.le_of_ble_eq_true rfl, Nat.le_of_ble_eq_true rfl⟩) hS (fun _ h => h) (fun v_19 H locs hq_17 hF_18 hS => ?_)
        refine W.widen (k := 0) (n := 0) (Nat.le_of_ble_eq_true rfl) (Nat.le_of_ble_eq_true rfl) ?_
        obtain ⟨rfl, hW9⟩ := hq_17
        have hZ : zz_Z K A s ad (zm_c K ad (nI 0) N G L) H := hZ.mut hF_18 hW9
        refine W.eq (g2 := F0 m 39 ls [.int (zz_bo (nI 0 = 0 ∧ False))]) rfl ?_
        refine zz_zret hx hb hr hlocks hS (Nat.le_of_ble_eq_true rfl) (Nat.le_of_ble_eq_true rfl) dX3_isIn_39 (zz_bo_01 (P := nI 0 = 0 ∧ False)) ?_
        refine ⟨?_, ?_⟩
        · skip
          first | rfl | ((exact congrArg (fun z => some (Value.int z)) (zz_bo_c ⟨fun _ => ⟨zin_nI hj (by omega), by rw [hjc]; assumption⟩, fun _ => ⟨rfl, trivial⟩⟩)); done) | ((exact congrArg (fun z => some (Value.int z)) (zz_bo_c (by have := zin_nI hj (by omega); simp_all))); done) | ((exact congrArg (fun z => some (Value.int z)) (zz_bo_c (by simp_all))); done) | ((exact congrArg (fun z => some (Value.int z)) (zz_bo_c (by have := zin_nI hj (by omega); simp_all [zs_isIn, zp_isIn]))); done) | ((have := zin_nI hj (by omega); simp_all [zs_isIn]); done) | (simp [zs_isIn, c_4, hjc, c_15, c_16]; done) | (simp_all [zs_isIn]; done) | (simp [c_4, hjc, c_15, c_16]; done) | (simp_all; done) | (split <;> first | rfl | omega | (simp_all; done); done)
        · first | exact hZ.W | (refine zm_co ?_ ?_ ?_ ?_ hZ.W <;> first | rfl | ((exact congrArg (fun z => some (Value.int z)) (zz_bo_c ⟨fun _ => ⟨zin_nI hj (by omega), by rw [hjc]; assumption⟩, fun _ => ⟨rfl, trivial⟩⟩)); done) | ((exact congrArg (fun z => some (Value.int z)) (zz_bo_c (by have := zin_nI hj (by omega); simp_all))); done) | ((exact congrArg (fun z => some (Value.int z)) (zz_bo_c (by simp_all))); done) | ((exact congrArg (fun z => some (Value.int z)) (zz_bo_c (by have := zin_nI hj (by omega); simp_all [zs_isIn, zp_isIn]))); done) | ((have := zin_nI hj (by omega); simp_all [zs_isIn]); done) | (simp [zs_isIn, c_4, hjc, c_15, c_16]; done) | (simp_all [zs_isIn]; done) | (simp [c_4, hjc, c_15, c_16]; done) | (simp_all; done) | (split <;> first | rfl | omega | (simp_all; done); done))
      · skip
        refine zz_con 1 hx hb dX3_isIn_31 (by decide) ?_
        refine lv_goto (tgt := 36) hx hb dX3_isIn_32 (by decide) ?_
        have hS : va_S A s.heap H _ := zz_Smono hS (fun _ h => h.elim)
        refine zz_after (pc := 36) rfl (zz_runV (ci := 6) (q0 := (RX3, TX3, 22)) (b := ad 0 0) (As := [.int (nI 0), .int (nI 1)]) (rest := []) hx hb hml hown hts (c_X3_asks l (K := K) (A := A) (ad := ad) (th := th) (N := N) (G := G) (L := L) (nI 0) True) zw_1016 zw_1018 zs_48 zw_5 zw_1019 zd_X3_asks ⟨Nat.le_of_ble_eq_true rfl, Nat.le_of_ble_eq_true rfl⟩ hZ.E hZ.A (zm_ob hZ.W).1 rfl rfl hZ.W hl.1 (Nat.le_of_ble_eq_true rfl) dX3_isIn_36 ⟨Nat.le_of_ble_eq_true rfl, Nat.le_of_ble_eq_true rfl⟩) hS (fun _ h => h) (fun v_22 H locs hq_20 hF_21 hS => ?_)
        refine W.widen (k := 0) (n := 0) (Nat.le_of_ble_eq_true rfl) (Nat.le_of_ble_eq_true rfl) ?_
        obtain ⟨rfl, hW9⟩ := hq_20
        have hZ : zz_Z K A s ad (zm_c K ad (nI 0) N G L) H := hZ.mut hF_21 hW9
        refine W.eq (g2 := F0 m 39 ls [.int (zz_bo (nI 0 = 0 ∧ True))]) rfl ?_
        refine zz_zret hx hb hr hlocks hS (Nat.le_of_ble_eq_true rfl) (Nat.le_of_ble_eq_true rfl) dX3_isIn_39 (zz_bo_01 (P := nI 0 = 0 ∧ True)) ?_
        refine ⟨?_, ?_⟩
        · skip
          first | rfl | ((exact congrArg (fun z => some (Value.int z)) (zz_bo_c ⟨fun _ => ⟨zin_nI hj (by omega), by rw [hjc]; assumption⟩, fun _ => ⟨rfl, trivial⟩⟩)); done) | ((exact congrArg (fun z => some (Value.int z)) (zz_bo_c (by have := zin_nI hj (by omega); simp_all))); done) | ((exact congrArg (fun z => some (Value.int z)) (zz_bo_c (by simp_all))); done) | ((exact congrArg (fun z => some (Value.int z)) (zz_bo_c (by have := zin_nI hj (by omega); simp_all [zs_isIn, zp_isIn]))); done) | ((have := zin_nI hj (by omega); simp_all [zs_isIn]); done) | (simp [zs_isIn, c_4, hjc, c_15, c_16]; done) | (simp_all [zs_isIn]; done) | (simp [c_4, hjc, c_15, c_16]; done) | (simp_all; done) | (split <;> first | rfl | omega | (simp_all; done); done)
        · first | exact hZ.W | (refine zm_co ?_ ?_ ?_ ?_ hZ.W <;> first | rfl | ((exact congrArg (fun z => some (Value.int z)) (zz_bo_c ⟨fun _ => ⟨zin_nI hj (by omega), by rw [hjc]; assumption⟩, fun _ => ⟨rfl, trivial⟩⟩)); done) | ((exact congrArg (fun z => some (Value.int z)) (zz_bo_c (by have := zin_nI hj (by omega); simp_all))); done) | ((exact congrArg (fun z => some (Value.int z)) (zz_bo_c (by simp_all))); done) | ((exact congrArg (fun z => some (Value.int z)) (zz_bo_c (by have := zin_nI hj (by omega); simp_all [zs_isIn, zp_isIn]))); done) | ((have := zin_nI hj (by omega); simp_all [zs_isIn]); done) | (simp [zs_isIn, c_4, hjc, c_15, c_16]; done) | (simp_all [zs_isIn]; done) | (simp [c_4, hjc, c_15, c_16]; done) | (simp_all; done) | (split <;> first | rfl | omega | (simp_all; done); done))

set_option maxHeartbeats 4000000 in
set_option maxRecDepth 100000 in
theorem c_X3_isOpen (l : Launch) {K : zz_G} {A : Nat → Prop} {ad : Nat → Nat → Nat} {th : Int32} {N : Nat → Nat → Nat} {G : Nat → Nat → Int32} {L : Nat → Int64} (hI : zq N) (x : Int32) : zz_C l yX3_isOpen cX3_isOpen 2 (Option.some FieldType.boolean) ({ frames := 2, cells := 0, slots := 0, locals := 43 } : Room) K A [.ref (ad 0 0), .int x] (fun H => zz_W K A ad (zm_c K ad th N G L) H) (fun v9 _ H9 => v9 = some (.int (zz_bo (zp_isOpen N x))) ∧ zz_W K A ad (zm_c K ad (nI (zs_isOpen N x)) N G L) H9) zz_nx A := by
  refine zz_body (by decide +kernel) (Nat.le_of_ble_eq_true rfl) ?_
  intro p e s m below meth c ls hx hb hr hml hts hown hlocks hmn htab hE hA hP hl
  have hN := hE.N
  have hK := hE.K
  have hown : s.vm.findClass RX3 = some m.cls := hown
  have hl : lv_has ls 2 [(0, .ref (ad 0 0)), (1, .int x)] := hl
  have hZ : zz_Z K A s ad (zm_c K ad th N G L) s.heap := ⟨hE, hA, hP⟩
  have hS : va_S zz_no s.heap s.heap [] := va_S.rf
  obtain ⟨H, hH⟩ : ∃ z, z = s.heap := ⟨_, rfl⟩
  have hS0 : va_S zz_no s.heap H [] := by rw [hH]; exact hS
  rw [← hH] at hZ
  have hE0 := hE
  clear hS
  have hS := hS0
  have hB := hI.B
  have h00 := hI.f
  have h01 := hI.p
  have h02 := hI.b
  show W p l e _ s m _ below meth c s.heap [] 0 0 _ (F0 m 0 ls [])
  rw [← hH]
  refine lv_aload_n hx hb dX3_isOpen_0 rfl (lv_at hl 0 rfl) ?_
  refine lv_aload_n hx hb dX3_isOpen_1 rfl (lv_at hl 0 rfl) ?_
  refine lv_iload_n hx hb dX3_isOpen_2 rfl (lv_at hl 1 rfl) ?_
  refine zz_after (pc := 3) rfl (zz_runV (ci := 6) (q0 := (RX3, TX3, 22)) (b := ad 0 0) (As := [.int x]) (rest := [.ref (ad 0 0)]) hx hb hml hown hts (c_X3_isFloor l (K := K) (A := A) (ad := ad) (th := th) (N := N) (G := G) (L := L) hI x) zw_899 zw_901 zs_36 zw_5 zw_902 zd_X3_isFloor ⟨Nat.le_of_ble_eq_true rfl, Nat.le_of_ble_eq_true rfl⟩ hZ.E hZ.A (zm_ob hZ.W).1 rfl rfl hZ.W hl.1 (Nat.le_of_ble_eq_true rfl) dX3_isOpen_3 ⟨Nat.le_of_ble_eq_true rfl, Nat.le_of_ble_eq_true rfl⟩) hS (fun _ h => h.elim) (fun v_3 H locs hq_1 hF_2 hS => ?_)
  refine W.widen (k := 0) (n := 0) (Nat.le_of_ble_eq_true rfl) (Nat.le_of_ble_eq_true rfl) ?_
  obtain rfl := hq_1
  have hZ := hZ.ro hF_2
  refine W.eq (g2 := F0 m 6 ls [.int (zz_bo (zin x (N 0 0))), .ref (ad 0 0)]) rfl ?_
  refine zz_bi_eq (tgt := 13) hx hb dX3_isOpen_6 (by decide) (fun c_4 => ?_) (fun c_4 => ?_)
  · skip
    refine zz_con 1 hx hb dX3_isOpen_13 (by decide) ?_
    refine lv_aload_n hx hb dX3_isOpen_14 rfl (lv_at hl 0 rfl) ?_
    refine lv_iload_n hx hb dX3_isOpen_15 rfl (lv_at hl 1 rfl) ?_
    refine zz_after (pc := 16) rfl (zz_runV (ci := 6) (q0 := (RX3, TX3, 22)) (b := ad 0 0) (As := [.int x]) (rest := [.int (nI 1), .ref (ad 0 0)]) hx hb hml hown hts (c_X3_isFloor l (K := K) (A := A) (ad := ad) (th := th) (N := N) (G := G) (L := L) hI x) zw_899 zw_901 zs_36 zw_5 zw_902 zd_X3_isFloor ⟨Nat.le_of_ble_eq_true rfl, Nat.le_of_ble_eq_true rfl⟩ hZ.E hZ.A (zm_ob hZ.W).1 rfl rfl hZ.W hl.1 (Nat.le_of_ble_eq_true rfl) dX3_isOpen_16 ⟨Nat.le_of_ble_eq_true rfl, Nat.le_of_ble_eq_true rfl⟩) hS (fun _ h => h.elim) (fun v_7 H locs hq_5 hF_6 hS => ?_)
    refine W.widen (k := 0) (n := 0) (Nat.le_of_ble_eq_true rfl) (Nat.le_of_ble_eq_true rfl) ?_
    obtain rfl := hq_5
    have hZ := hZ.ro hF_6
    refine W.eq (g2 := F0 m 19 ls [.int (zz_bo (zin x (N 0 0))), .int (nI 1), .ref (ad 0 0)]) rfl ?_
    refine zz_bi_eq (tgt := 35) hx hb dX3_isOpen_19 (by decide) (fun c_8 => ?_) (fun c_8 => ?_)
    · skip
      refine zz_con 0 hx hb dX3_isOpen_35 (by decide) ?_
      have hS : va_S A s.heap H _ := zz_Smono hS (fun _ h => h.elim)
      refine zz_after (pc := 36) rfl (zz_runV (ci := 6) (q0 := (RX3, TX3, 22)) (b := ad 0 0) (As := [.int (nI 1), .int (nI 0)]) (rest := []) hx hb hml hown hts (c_X3_asks l (K := K) (A := A) (ad := ad) (th := th) (N := N) (G := G) (L := L) (nI 1) False) zw_1016 zw_1018 zs_48 zw_5 zw_1019 zd_X3_asks ⟨Nat.le_of_ble_eq_true rfl, Nat.le_of_ble_eq_true rfl⟩ hZ.E hZ.A (zm_ob hZ.W).1 rfl rfl hZ.W hl.1 (Nat.le_of_ble_eq_true rfl) dX3_isOpen_36 ⟨Nat.le_of_ble_eq_true rfl, Nat.le_of_ble_eq_true rfl⟩) hS (fun _ h => h) (fun v_11 H locs hq_9 hF_10 hS => ?_)
      refine W.widen (k := 0) (n := 0) (Nat.le_of_ble_eq_true rfl) (Nat.le_of_ble_eq_true rfl) ?_
      obtain ⟨rfl, hW9⟩ := hq_9
      have hZ : zz_Z K A s ad (zm_c K ad (nI 1) N G L) H := hZ.mut hF_10 hW9
      refine W.eq (g2 := F0 m 39 ls [.int (zz_bo (nI 1 = 0 ∧ False))]) rfl ?_
      refine zz_zret hx hb hr hlocks hS (Nat.le_of_ble_eq_true rfl) (Nat.le_of_ble_eq_true rfl) dX3_isOpen_39 (zz_bo_01 (P := nI 1 = 0 ∧ False)) ?_
      refine ⟨?_, ?_⟩
      · skip
        first | rfl | ((exact congrArg (fun z => some (Value.int z)) (zz_bo_c ⟨fun _ => ⟨zin_nI hj (by omega), by rw [hjc]; assumption⟩, fun _ => ⟨rfl, trivial⟩⟩)); done) | ((exact congrArg (fun z => some (Value.int z)) (zz_bo_c (by have := zin_nI hj (by omega); simp_all))); done) | ((exact congrArg (fun z => some (Value.int z)) (zz_bo_c (by simp_all))); done) | ((exact congrArg (fun z => some (Value.int z)) (zz_bo_c (by have := zin_nI hj (by omega); simp_all [zs_isOpen, zp_isOpen]))); done) | ((have := zin_nI hj (by omega); simp_all [zs_isOpen]); done) | (simp [zs_isOpen, c_4, c_8]; done) | (simp_all [zs_isOpen]; done) | (simp [c_4, c_8]; done) | (simp_all; done) | (split <;> first | rfl | omega | (simp_all; done); done)
      · first | exact hZ.W | (refine zm_co ?_ ?_ ?_ ?_ hZ.W <;> first | rfl | ((exact congrArg (fun z => some (Value.int z)) (zz_bo_c ⟨fun _ => ⟨zin_nI hj (by omega), by rw [hjc]; assumption⟩, fun _ => ⟨rfl, trivial⟩⟩)); done) | ((exact congrArg (fun z => some (Value.int z)) (zz_bo_c (by have := zin_nI hj (by omega); simp_all))); done) | ((exact congrArg (fun z => some (Value.int z)) (zz_bo_c (by simp_all))); done) | ((exact congrArg (fun z => some (Value.int z)) (zz_bo_c (by have := zin_nI hj (by omega); simp_all [zs_isOpen, zp_isOpen]))); done) | ((have := zin_nI hj (by omega); simp_all [zs_isOpen]); done) | (simp [zs_isOpen, c_4, c_8]; done) | (simp_all [zs_isOpen]; done) | (simp [c_4, c_8]; done) | (simp_all; done) | (split <;> first | rfl | omega | (simp_all; done); done))
    · skip
      exact absurd c_8 c_4
  · skip
    obtain ⟨j, hj, rfl⟩ := zz_rng (by omega) c_4.1 c_4.2
    have hjc : (nI j).toNatClampNeg = j := nI_clamp (by omega)
    have hjb : j < 2 ^ 31 := by omega
    refine zz_con 0 hx hb dX3_isOpen_9 (by decide) ?_
    refine lv_goto (tgt := 14) hx hb dX3_isOpen_10 (by decide) ?_
    refine lv_aload_n hx hb dX3_isOpen_14 rfl (lv_at hl 0 rfl) ?_
    refine lv_iload_n hx hb dX3_isOpen_15 rfl (lv_at hl 1 rfl) ?_
    refine zz_after (pc := 16) rfl (zz_runV (ci := 6) (q0 := (RX3, TX3, 22)) (b := ad 0 0) (As := [.int (nI j)]) (rest := [.int (nI 0), .ref (ad 0 0)]) hx hb hml hown hts (c_X3_isFloor l (K := K) (A := A) (ad := ad) (th := th) (N := N) (G := G) (L := L) hI (nI j)) zw_899 zw_901 zs_36 zw_5 zw_902 zd_X3_isFloor ⟨Nat.le_of_ble_eq_true rfl, Nat.le_of_ble_eq_true rfl⟩ hZ.E hZ.A (zm_ob hZ.W).1 rfl rfl hZ.W hl.1 (Nat.le_of_ble_eq_true rfl) dX3_isOpen_16 ⟨Nat.le_of_ble_eq_true rfl, Nat.le_of_ble_eq_true rfl⟩) hS (fun _ h => h.elim) (fun v_14 H locs hq_12 hF_13 hS => ?_)
    refine W.widen (k := 0) (n := 0) (Nat.le_of_ble_eq_true rfl) (Nat.le_of_ble_eq_true rfl) ?_
    obtain rfl := hq_12
    have hZ := hZ.ro hF_13
    refine W.eq (g2 := F0 m 19 ls [.int (zz_bo (zin (nI j) (N 0 0))), .int (nI 0), .ref (ad 0 0)]) rfl ?_
    refine zz_bi_eq (tgt := 35) hx hb dX3_isOpen_19 (by decide) (fun c_15 => ?_) (fun c_15 => ?_)
    · skip
      exact absurd (zin_nI hj (by omega)) c_15
    · skip
      refine lv_aload_n hx hb dX3_isOpen_22 rfl (lv_at hl 0 rfl) ?_
      refine zz_get (ci := 6) (C := RX3) (T := TX3) (N := 22) (v := .ref (ad 1 4)) hx hb hts hown hK (zm_ob hZ.W).1 rfl zf_X3 10 (by decide) zw_818 (fun _ h9 => h9) rfl dX3_isOpen_23 ?_
      refine lv_iload_n hx hb dX3_isOpen_26 rfl (lv_at hl 1 rfl) ?_
      refine zz_zald (y := nI (N 3 j)) hx hb hK (zm_isOpen hZ.W).1 (vp_in_nI (show j < 6 by omega) (by decide)) dX3_isOpen_27 (by rw [nI_clamp (by omega)] <;> rfl) ?_
      refine zz_if_eq (tgt := 35) (by first | exact hB _ _ | exact hUa _ | exact hUb _ | exact hUc _ | exact hUd _ | omega) hx hb dX3_isOpen_28 (by decide) (fun c_16 => ?_) (fun c_16 => ?_)
      · skip
        refine zz_con 0 hx hb dX3_isOpen_35 (by decide) ?_
        have hS : va_S A s.heap H _ := zz_Smono hS (fun _ h => h.elim)
        refine zz_after (pc := 36) rfl (zz_runV (ci := 6) (q0 := (RX3, TX3, 22)) (b := ad 0 0) (As := [.int (nI 0), .int (nI 0)]) (rest := []) hx hb hml hown hts (c_X3_asks l (K := K) (A := A) (ad := ad) (th := th) (N := N) (G := G) (L := L) (nI 0) False) zw_1016 zw_1018 zs_48 zw_5 zw_1019 zd_X3_asks ⟨Nat.le_of_ble_eq_true rfl, Nat.le_of_ble_eq_true rfl⟩ hZ.E hZ.A (zm_ob hZ.W).1 rfl rfl hZ.W hl.1 (Nat.le_of_ble_eq_true rfl) dX3_isOpen_36 ⟨Nat.le_of_ble_eq_true rfl, Nat.le_of_ble_eq_true rfl⟩) hS (fun _ h => h) (fun v_19 H locs hq_17 hF_18 hS => ?_)
        refine W.widen (k := 0) (n := 0) (Nat.le_of_ble_eq_true rfl) (Nat.le_of_ble_eq_true rfl) ?_
        obtain ⟨rfl, hW9⟩ := hq_17
        have hZ : zz_Z K A s ad (zm_c K ad (nI 0) N G L) H := hZ.mut hF_18 hW9
        refine W.eq (g2 := F0 m 39 ls [.int (zz_bo (nI 0 = 0 ∧ False))]) rfl ?_
        refine zz_zret hx hb hr hlocks hS (Nat.le_of_ble_eq_true rfl) (Nat.le_of_ble_eq_true rfl) dX3_isOpen_39 (zz_bo_01 (P := nI 0 = 0 ∧ False)) ?_
        refine ⟨?_, ?_⟩
        · skip
          first | rfl | ((exact congrArg (fun z => some (Value.int z)) (zz_bo_c ⟨fun _ => ⟨zin_nI hj (by omega), by rw [hjc]; assumption⟩, fun _ => ⟨rfl, trivial⟩⟩)); done) | ((exact congrArg (fun z => some (Value.int z)) (zz_bo_c (by have := zin_nI hj (by omega); simp_all))); done) | ((exact congrArg (fun z => some (Value.int z)) (zz_bo_c (by simp_all))); done) | ((exact congrArg (fun z => some (Value.int z)) (zz_bo_c (by have := zin_nI hj (by omega); simp_all [zs_isOpen, zp_isOpen]))); done) | ((have := zin_nI hj (by omega); simp_all [zs_isOpen]); done) | (simp [zs_isOpen, c_4, hjc, c_15, c_16]; done) | (simp_all [zs_isOpen]; done) | (simp [c_4, hjc, c_15, c_16]; done) | (simp_all; done) | (split <;> first | rfl | omega | (simp_all; done); done)
        · first | exact hZ.W | (refine zm_co ?_ ?_ ?_ ?_ hZ.W <;> first | rfl | ((exact congrArg (fun z => some (Value.int z)) (zz_bo_c ⟨fun _ => ⟨zin_nI hj (by omega), by rw [hjc]; assumption⟩, fun _ => ⟨rfl, trivial⟩⟩)); done) | ((exact congrArg (fun z => some (Value.int z)) (zz_bo_c (by have := zin_nI hj (by omega); simp_all))); done) | ((exact congrArg (fun z => some (Value.int z)) (zz_bo_c (by simp_all))); done) | ((exact congrArg (fun z => some (Value.int z)) (zz_bo_c (by have := zin_nI hj (by omega); simp_all [zs_isOpen, zp_isOpen]))); done) | ((have := zin_nI hj (by omega); simp_all [zs_isOpen]); done) | (simp [zs_isOpen, c_4, hjc, c_15, c_16]; done) | (simp_all [zs_isOpen]; done) | (simp [c_4, hjc, c_15, c_16]; done) | (simp_all; done) | (split <;> first | rfl | omega | (simp_all; done); done))
      · skip
        refine zz_con 1 hx hb dX3_isOpen_31 (by decide) ?_
        refine lv_goto (tgt := 36) hx hb dX3_isOpen_32 (by decide) ?_
        have hS : va_S A s.heap H _ := zz_Smono hS (fun _ h => h.elim)
        refine zz_after (pc := 36) rfl (zz_runV (ci := 6) (q0 := (RX3, TX3, 22)) (b := ad 0 0) (As := [.int (nI 0), .int (nI 1)]) (rest := []) hx hb hml hown hts (c_X3_asks l (K := K) (A := A) (ad := ad) (th := th) (N := N) (G := G) (L := L) (nI 0) True) zw_1016 zw_1018 zs_48 zw_5 zw_1019 zd_X3_asks ⟨Nat.le_of_ble_eq_true rfl, Nat.le_of_ble_eq_true rfl⟩ hZ.E hZ.A (zm_ob hZ.W).1 rfl rfl hZ.W hl.1 (Nat.le_of_ble_eq_true rfl) dX3_isOpen_36 ⟨Nat.le_of_ble_eq_true rfl, Nat.le_of_ble_eq_true rfl⟩) hS (fun _ h => h) (fun v_22 H locs hq_20 hF_21 hS => ?_)
        refine W.widen (k := 0) (n := 0) (Nat.le_of_ble_eq_true rfl) (Nat.le_of_ble_eq_true rfl) ?_
        obtain ⟨rfl, hW9⟩ := hq_20
        have hZ : zz_Z K A s ad (zm_c K ad (nI 0) N G L) H := hZ.mut hF_21 hW9
        refine W.eq (g2 := F0 m 39 ls [.int (zz_bo (nI 0 = 0 ∧ True))]) rfl ?_
        refine zz_zret hx hb hr hlocks hS (Nat.le_of_ble_eq_true rfl) (Nat.le_of_ble_eq_true rfl) dX3_isOpen_39 (zz_bo_01 (P := nI 0 = 0 ∧ True)) ?_
        refine ⟨?_, ?_⟩
        · skip
          first | rfl | ((exact congrArg (fun z => some (Value.int z)) (zz_bo_c ⟨fun _ => ⟨zin_nI hj (by omega), by rw [hjc]; assumption⟩, fun _ => ⟨rfl, trivial⟩⟩)); done) | ((exact congrArg (fun z => some (Value.int z)) (zz_bo_c (by have := zin_nI hj (by omega); simp_all))); done) | ((exact congrArg (fun z => some (Value.int z)) (zz_bo_c (by simp_all))); done) | ((exact congrArg (fun z => some (Value.int z)) (zz_bo_c (by have := zin_nI hj (by omega); simp_all [zs_isOpen, zp_isOpen]))); done) | ((have := zin_nI hj (by omega); simp_all [zs_isOpen]); done) | (simp [zs_isOpen, c_4, hjc, c_15, c_16]; done) | (simp_all [zs_isOpen]; done) | (simp [c_4, hjc, c_15, c_16]; done) | (simp_all; done) | (split <;> first | rfl | omega | (simp_all; done); done)
        · first | exact hZ.W | (refine zm_co ?_ ?_ ?_ ?_ hZ.W <;> first | rfl | ((exact congrArg (fun z => some (Value.int z)) (zz_bo_c ⟨fun _ => ⟨zin_nI hj (by omega), by rw [hjc]; assumption⟩, fun _ => ⟨rfl, trivial⟩⟩)); done) | ((exact congrArg (fun z => some (Value.int z)) (zz_bo_c (by have := zin_nI hj (by omega); simp_all))); done) | ((exact congrArg (fun z => some (Value.int z)) (zz_bo_c (by simp_all))); done) | ((exact congrArg (fun z => some (Value.int z)) (zz_bo_c (by have := zin_nI hj (by omega); simp_all [zs_isOpen, zp_isOpen]))); done) | ((have := zin_nI hj (by omega); simp_all [zs_isOpen]); done) | (simp [zs_isOpen, c_4, hjc, c_15, c_16]; done) | (simp_all [zs_isOpen]; done) | (simp [c_4, hjc, c_15, c_16]; done) | (simp_all; done) | (split <;> first | rfl | omega | (simp_all; done); done))

set_option maxHeartbeats 4000000 in
set_option maxRecDepth 100000 in
theorem c_X3_seated (l : Launch) {K : zz_G} {A : Nat → Prop} {ad : Nat → Nat → Nat} {th : Int32} {N : Nat → Nat → Nat} {G : Nat → Nat → Int32} {L : Nat → Int64} (hI : zq N) (x y : Int32) : zz_C l yX3_seated cX3_seated 3 (Option.some FieldType.int) ({ frames := 2, cells := 0, slots := 0, locals := 43 } : Room) K A [.ref (ad 0 0), .int x, .int y] (fun H => zz_W K A ad (zm_c K ad th N G L) H) (fun v9 _ H9 => v9 = some (.int ((zs_seated N x y).2)) ∧ zz_W K A ad (zm_c K ad (nI (zs_seated N x y).1) N G L) H9) zz_nx A := by
  refine zz_body (by decide +kernel) (Nat.le_of_ble_eq_true rfl) ?_
  intro p e s m below meth c ls hx hb hr hml hts hown hlocks hmn htab hE hA hP hl
  have hN := hE.N
  have hK := hE.K
  have hown : s.vm.findClass RX3 = some m.cls := hown
  have hl : lv_has ls 3 [(0, .ref (ad 0 0)), (1, .int x), (2, .int y)] := hl
  have hZ : zz_Z K A s ad (zm_c K ad th N G L) s.heap := ⟨hE, hA, hP⟩
  have hS : va_S zz_no s.heap s.heap [] := va_S.rf
  obtain ⟨H, hH⟩ : ∃ z, z = s.heap := ⟨_, rfl⟩
  have hS0 : va_S zz_no s.heap H [] := by rw [hH]; exact hS
  rw [← hH] at hZ
  have hE0 := hE
  clear hS
  have hS := hS0
  have hB := hI.B
  have h00 := hI.f
  have h01 := hI.p
  have h02 := hI.b
  show W p l e _ s m _ below meth c s.heap [] 0 0 _ (F0 m 0 ls [])
  rw [← hH]
  refine lv_aload_n hx hb dX3_seated_0 rfl (lv_at hl 0 rfl) ?_
  refine lv_iload_n hx hb dX3_seated_1 rfl (lv_at hl 2 rfl) ?_
  refine zz_after (pc := 2) rfl (zz_runV (ci := 6) (q0 := (RX3, TX3, 22)) (b := ad 0 0) (As := [.int y]) (rest := []) hx hb hml hown hts (c_X3_isFloor l (K := K) (A := A) (ad := ad) (th := th) (N := N) (G := G) (L := L) hI y) zw_899 zw_901 zs_36 zw_5 zw_902 zd_X3_isFloor ⟨Nat.le_of_ble_eq_true rfl, Nat.le_of_ble_eq_true rfl⟩ hZ.E hZ.A (zm_ob hZ.W).1 rfl rfl hZ.W hl.1 (Nat.le_of_ble_eq_true rfl) dX3_seated_2 ⟨Nat.le_of_ble_eq_true rfl, Nat.le_of_ble_eq_true rfl⟩) hS (fun _ h => h.elim) (fun v_3 H locs hq_1 hF_2 hS => ?_)
  refine W.widen (k := 0) (n := 0) (Nat.le_of_ble_eq_true rfl) (Nat.le_of_ble_eq_true rfl) ?_
  obtain rfl := hq_1
  have hZ := hZ.ro hF_2
  refine W.eq (g2 := F0 m 5 ls [.int (zz_bo (zin y (N 0 0)))]) rfl ?_
  refine zz_bi_ne (tgt := 14) hx hb dX3_seated_5 (by decide) (fun c_4 => ?_) (fun c_4 => ?_)
  · skip
    obtain ⟨f1, hf1, rfl⟩ := zz_rng (by omega) c_4.1 c_4.2
    have hf1c : (nI f1).toNatClampNeg = f1 := nI_clamp (by omega)
    have hf1b : f1 < 2 ^ 31 := by omega
    refine lv_iload_n hx hb dX3_seated_14 rfl (lv_at hl 1 rfl) ?_
    refine zz_con 0 hx hb dX3_seated_15 (by decide) ?_
    refine zz_con 3 hx hb dX3_seated_16 (by decide) ?_
    refine zz_after (pc := 17) rfl (zz_runS (As := [.int x, .int (nI 0), .int (nI 3)]) (rest := []) hx hb hml hown hts (c_X3_in l (K := K) (A := A) x (nI 0) (nI 3)) zw_884 zw_885 zw_5 zw_886 zd_X3_in ⟨Nat.le_of_ble_eq_true rfl, Nat.le_of_ble_eq_true rfl⟩ hZ.E hZ.A trivial hl.1 (Nat.le_of_ble_eq_true rfl) dX3_seated_17 ⟨Nat.le_of_ble_eq_true rfl, Nat.le_of_ble_eq_true rfl⟩) hS (fun _ h => h.elim) (fun v_7 H locs hq_5 hF_6 hS => ?_)
    refine W.widen (k := 0) (n := 0) (Nat.le_of_ble_eq_true rfl) (Nat.le_of_ble_eq_true rfl) ?_
    obtain rfl := hq_5
    have hZ := hZ.ro hF_6
    refine W.eq (g2 := F0 m 20 ls [.int (zz_bo (nI 0 ≤ x ∧ x ≤ nI 3))]) rfl ?_
    refine zz_bi_eq (tgt := 36) hx hb dX3_seated_20 (by decide) (fun c_8 => ?_) (fun c_8 => ?_)
    · skip
      refine lv_aload_n hx hb dX3_seated_36 rfl (lv_at hl 0 rfl) ?_
      refine zz_con 2 hx hb dX3_seated_37 (by decide) ?_
      have hS : va_S A s.heap H _ := zz_Smono hS (fun _ h => h.elim)
      refine zz_after (pc := 38) rfl (zz_runV (ci := 6) (q0 := (RX3, TX3, 22)) (b := ad 0 0) (As := [.int (nI 2)]) (rest := []) hx hb hml hown hts (c_X3_fails l (K := K) (A := A) (ad := ad) (th := th) (N := N) (G := G) (L := L) (nI 2)) zw_887 zw_889 zs_34 zw_5 zw_890 zd_X3_fails ⟨Nat.le_of_ble_eq_true rfl, Nat.le_of_ble_eq_true rfl⟩ hZ.E hZ.A (zm_ob hZ.W).1 rfl rfl hZ.W hl.1 (Nat.le_of_ble_eq_true rfl) dX3_seated_38 ⟨Nat.le_of_ble_eq_true rfl, Nat.le_of_ble_eq_true rfl⟩) hS (fun _ h => h) (fun v_11 H locs hq_9 hF_10 hS => ?_)
      refine W.widen (k := 0) (n := 0) (Nat.le_of_ble_eq_true rfl) (Nat.le_of_ble_eq_true rfl) ?_
      obtain ⟨rfl, hW9⟩ := hq_9
      have hZ : zz_Z K A s ad (zm_c K ad (nI 2) N G L) H := hZ.mut hF_10 hW9
      refine W.eq (g2 := F0 m 41 ls [.int (nI 0)]) rfl ?_
      refine zz_iret hx hb hr hlocks hS (Nat.le_of_ble_eq_true rfl) (Nat.le_of_ble_eq_true rfl) dX3_seated_41 ?_
      refine ⟨?_, ?_⟩
      · skip
        first | rfl | (simp [zs_seated, c_4, hf1c, c_8]; done) | (simp_all [zs_seated]; done) | (simp [c_4, hf1c, c_8]; done) | (simp_all; done) | (split <;> first | rfl | omega | (simp_all; done); done)
      · first | exact hZ.W | (refine zm_co ?_ ?_ ?_ ?_ hZ.W <;> first | rfl | (simp [zs_seated, c_4, hf1c, c_8]; done) | (simp_all [zs_seated]; done) | (simp [c_4, hf1c, c_8]; done) | (simp_all; done) | (split <;> first | rfl | omega | (simp_all; done); done))
    · skip
      obtain ⟨j, hj, rfl⟩ := zz_rng2 (a := 0) (b := 3) (by decide) (by decide) c_8
      have hjc : (nI j).toNatClampNeg = j := nI_clamp (by omega)
      have hjb : j < 2 ^ 31 := by omega
      refine lv_aload_n hx hb dX3_seated_23 rfl (lv_at hl 0 rfl) ?_
      refine lv_aload_n hx hb dX3_seated_24 rfl (lv_at hl 0 rfl) ?_
      refine lv_iload_n hx hb dX3_seated_25 rfl (lv_at hl 2 rfl) ?_
      refine lv_iload_n hx hb dX3_seated_26 rfl (lv_at hl 1 rfl) ?_
      refine zz_cv (y := nI (j + 1) - 1) (zz_nk _) ?_
      refine zz_after (pc := 27) rfl (zz_runV (ci := 6) (q0 := (RX3, TX3, 22)) (b := ad 0 0) (As := [.int (nI f1), .int (nI (j + 1) - 1)]) (rest := [.ref (ad 0 0)]) hx hb hml hown hts (c_X3_sitting l (K := K) (A := A) (ad := ad) (th := th) (N := N) (G := G) (L := L) hI (by omega) (by omega)) zw_988 zw_990 zs_46 zw_5 zw_991 zd_X3_sitting ⟨Nat.le_of_ble_eq_true rfl, Nat.le_of_ble_eq_true rfl⟩ hZ.E hZ.A (zm_ob hZ.W).1 rfl rfl hZ.W hl.1 (Nat.le_of_ble_eq_true rfl) dX3_seated_27 ⟨Nat.le_of_ble_eq_true rfl, Nat.le_of_ble_eq_true rfl⟩) hS (fun _ h => h.elim) (fun v_14 H locs hq_12 hF_13 hS => ?_)
      refine W.widen (k := 0) (n := 0) (Nat.le_of_ble_eq_true rfl) (Nat.le_of_ble_eq_true rfl) ?_
      obtain rfl := hq_12
      have hZ := hZ.ro hF_13
      refine W.eq (g2 := F0 m 30 ls [.int (nI (zsit N f1 (j + 1))), .ref (ad 0 0)]) rfl ?_
      have hS : va_S A s.heap H _ := zz_Smono hS (fun _ h => h.elim)
      refine zz_after (pc := 30) rfl (zz_runV (ci := 6) (q0 := (RX3, TX3, 22)) (b := ad 0 0) (As := [.int (nI (zsit N f1 (j + 1)))]) (rest := []) hx hb hml hown hts (c_X3_tells l (K := K) (A := A) (ad := ad) (th := th) (N := N) (G := G) (L := L) (nI (zsit N f1 (j + 1)))) zw_891 zw_893 zs_35 zw_5 zw_894 zd_X3_tells ⟨Nat.le_of_ble_eq_true rfl, Nat.le_of_ble_eq_true rfl⟩ hZ.E hZ.A (zm_ob hZ.W).1 rfl rfl hZ.W hl.1 (Nat.le_of_ble_eq_true rfl) dX3_seated_30 ⟨Nat.le_of_ble_eq_true rfl, Nat.le_of_ble_eq_true rfl⟩) hS (fun _ h => h) (fun v_17 H locs hq_15 hF_16 hS => ?_)
      refine W.widen (k := 0) (n := 0) (Nat.le_of_ble_eq_true rfl) (Nat.le_of_ble_eq_true rfl) ?_
      obtain ⟨rfl, hW9⟩ := hq_15
      have hZ : zz_Z K A s ad (zm_c K ad (nI 0) N G L) H := hZ.mut hF_16 hW9
      refine W.eq (g2 := F0 m 33 ls [.int (nI (zsit N f1 (j + 1)))]) rfl ?_
      refine lv_goto (tgt := 41) hx hb dX3_seated_33 (by decide) ?_
      refine zz_iret hx hb hr hlocks hS (Nat.le_of_ble_eq_true rfl) (Nat.le_of_ble_eq_true rfl) dX3_seated_41 ?_
      refine ⟨?_, ?_⟩
      · skip
        first | rfl | (simp [zs_seated, c_4, hf1c, c_8, hjc]; done) | (simp_all [zs_seated]; done) | (simp [c_4, hf1c, c_8, hjc]; done) | (simp_all; done) | (split <;> first | rfl | omega | (simp_all; done); done)
      · first | exact hZ.W | (refine zm_co ?_ ?_ ?_ ?_ hZ.W <;> first | rfl | (simp [zs_seated, c_4, hf1c, c_8, hjc]; done) | (simp_all [zs_seated]; done) | (simp [c_4, hf1c, c_8, hjc]; done) | (simp_all; done) | (split <;> first | rfl | omega | (simp_all; done); done))
  · skip
    refine lv_aload_n hx hb dX3_seated_8 rfl (lv_at hl 0 rfl) ?_
    refine zz_con 1 hx hb dX3_seated_9 (by decide) ?_
    have hS : va_S A s.heap H _ := zz_Smono hS (fun _ h => h.elim)
    refine zz_after (pc := 10) rfl (zz_runV (ci := 6) (q0 := (RX3, TX3, 22)) (b := ad 0 0) (As := [.int (nI 1)]) (rest := []) hx hb hml hown hts (c_X3_fails l (K := K) (A := A) (ad := ad) (th := th) (N := N) (G := G) (L := L) (nI 1)) zw_887 zw_889 zs_34 zw_5 zw_890 zd_X3_fails ⟨Nat.le_of_ble_eq_true rfl, Nat.le_of_ble_eq_true rfl⟩ hZ.E hZ.A (zm_ob hZ.W).1 rfl rfl hZ.W hl.1 (Nat.le_of_ble_eq_true rfl) dX3_seated_10 ⟨Nat.le_of_ble_eq_true rfl, Nat.le_of_ble_eq_true rfl⟩) hS (fun _ h => h) (fun v_20 H locs hq_18 hF_19 hS => ?_)
    refine W.widen (k := 0) (n := 0) (Nat.le_of_ble_eq_true rfl) (Nat.le_of_ble_eq_true rfl) ?_
    obtain ⟨rfl, hW9⟩ := hq_18
    have hZ : zz_Z K A s ad (zm_c K ad (nI 1) N G L) H := hZ.mut hF_19 hW9
    refine W.eq (g2 := F0 m 13 ls [.int (nI 0)]) rfl ?_
    refine zz_iret hx hb hr hlocks hS (Nat.le_of_ble_eq_true rfl) (Nat.le_of_ble_eq_true rfl) dX3_seated_13 ?_
    refine ⟨?_, ?_⟩
    · skip
      first | rfl | (simp [zs_seated, c_4]; done) | (simp_all [zs_seated]; done) | (simp [c_4]; done) | (simp_all; done) | (split <;> first | rfl | omega | (simp_all; done); done)
    · first | exact hZ.W | (refine zm_co ?_ ?_ ?_ ?_ hZ.W <;> first | rfl | (simp [zs_seated, c_4]; done) | (simp_all [zs_seated]; done) | (simp [c_4]; done) | (simp_all; done) | (split <;> first | rfl | omega | (simp_all; done); done))

set_option maxHeartbeats 4000000 in
set_option maxRecDepth 100000 in
theorem c_X3_inside (l : Launch) {K : zz_G} {A : Nat → Prop} {ad : Nat → Nat → Nat} {th : Int32} {N : Nat → Nat → Nat} {G : Nat → Nat → Int32} {L : Nat → Int64} (hI : zq N) {f : Nat} (hf : f < N 0 0) : zz_C l yX3_inside cX3_inside 4 (Option.some FieldType.int) ({ frames := 0, cells := 0, slots := 0, locals := 0 } : Room) K A [.ref (ad 0 0), .int (nI f)] (fun H => zz_W K A ad (zm_c K ad th N G L) H) (fun v9 _ _ => v9 = some (.int (nI (zins N f)))) zz_nx zz_no := by
  refine zz_body (by decide +kernel) (Nat.le_of_ble_eq_true rfl) ?_
  intro p e s m below meth c ls hx hb hr hml hts hown hlocks hmn htab hE hA hP hl
  have hN := hE.N
  have hK := hE.K
  have hown : s.vm.findClass RX3 = some m.cls := hown
  have hl : lv_has ls 4 [(0, .ref (ad 0 0)), (1, .int (nI f))] := hl
  have hZ : zz_Z K A s ad (zm_c K ad th N G L) s.heap := ⟨hE, hA, hP⟩
  have hS : va_S zz_no s.heap s.heap [] := va_S.rf
  obtain ⟨H, hH⟩ : ∃ z, z = s.heap := ⟨_, rfl⟩
  have hS0 : va_S zz_no s.heap H [] := by rw [hH]; exact hS
  rw [← hH] at hZ
  have hE0 := hE
  clear hS
  have hS := hS0
  have hB := hI.B
  have h00 := hI.f
  have h01 := hI.p
  have h02 := hI.b
  show W p l e _ s m _ below meth c s.heap [] 0 0 _ (F0 m 0 ls [])
  rw [← hH]
  refine zz_con 0 hx hb dX3_inside_0 (by decide) ?_
  refine lv_istore_n (lv' := [(2, .int (nI 0)), (0, .ref (ad 0 0)), (1, .int (nI f))]) hx hb dX3_inside_1 rfl hl (Nat.le_of_ble_eq_true rfl) rfl (fun ls hl => ?_)
  refine zz_con 0 hx hb dX3_inside_2 (by decide) ?_
  refine lv_istore_n (lv' := [(3, .int (nI 0)), (2, .int (nI 0)), (0, .ref (ad 0 0)), (1, .int (nI f))]) hx hb dX3_inside_3 rfl hl (Nat.le_of_ble_eq_true rfl) rfl (fun ls hl => ?_)
  have hL_2 : ∀ (k i : Nat), i ≤ N 0 1 → N 0 1 < i + k → ∀ (H : Heap) (locs : List Loc) (ls : Array Slot), zz_Z K A s ad (zm_c K ad th N G L) H → va_S zz_no s.heap H locs → lv_has ls 4 [(3, .int (nI i)), (2, .int (nI (zc (fun q => N 7 q ≠ 0 ∧ N 6 q = f + 1) i))), (0, .ref (ad 0 0)), (1, .int (nI f))] → W p l e ({ frames := 0, cells := 0, slots := 0, locals := 0 } : Room) s m ([.ref (ad 0 0), .int (nI f)] : List Value).toArray below meth c H locs 0 0 (vx_MQ below (zz_Qc (fun v9 _ _ => v9 = some (.int (nI (zins N f)))) zz_no) (zz_XC zz_nx) ([.ref (ad 0 0), .int (nI f)] : List Value).toArray s ({ frames := 0, cells := 0, slots := 0, locals := 0 } : Room).cells ({ frames := 0, cells := 0, slots := 0, locals := 0 } : Room).slots zz_no) (F0 m 4 ls []) := by
    intro k
    induction k with
    | zero => intro i hi hik; omega
    | succ k ih_i =>
      intro i hii hiki H locs ls hZ hS hl
      refine lv_iload_n hx hb dX3_inside_4 rfl (lv_at hl 0 rfl) ?_
      refine lv_aload_n hx hb dX3_inside_5 rfl (lv_at hl 2 rfl) ?_
      refine zz_get (ci := 6) (C := RX3) (T := TX3) (N := 22) (v := .int (nI (N 0 1))) hx hb hts hown hK (zm_ob hZ.W).1 rfl zf_X3 2 (by decide) zw_810 (fun _ h9 => h9) rfl dX3_inside_6 ?_
      refine zz_ic_ge (tgt := 45) (by first | exact hB _ _ | exact hUa _ | exact hUb _ | exact hUc _ | exact hUd _ | omega) (by first | exact hB _ _ | exact hUa _ | exact hUb _ | exact hUc _ | exact hUd _ | omega) hx hb dX3_inside_9 (by decide) (fun c_3 => ?_) (fun c_3 => ?_)
      · skip
        obtain rfl : i = N 0 1 := by omega
        refine lv_iload_n hx hb dX3_inside_45 rfl (lv_at hl 1 rfl) ?_
        refine zz_iret hx hb hr hlocks hS (Nat.le_of_ble_eq_true rfl) (Nat.le_of_ble_eq_true rfl) dX3_inside_46 ?_
        first | rfl | (simp [c_3]; done) | (simp_all; done) | (split <;> first | rfl | omega | (simp_all; done); done)
      · skip
        refine lv_iload_n hx hb dX3_inside_12 rfl (lv_at hl 1 rfl) ?_
        refine lv_aload_n hx hb dX3_inside_13 rfl (lv_at hl 2 rfl) ?_
        refine zz_get (ci := 6) (C := RX3) (T := TX3) (N := 22) (v := .ref (ad 1 8)) hx hb hts hown hK (zm_ob hZ.W).1 rfl zf_X3 14 (by decide) zw_822 (fun _ h9 => h9) rfl dX3_inside_14 ?_
        refine lv_iload_n hx hb dX3_inside_17 rfl (lv_at hl 0 rfl) ?_
        refine zz_zald (y := nI (N 7 i)) hx hb hK (zm_isIn hZ.W).1 (vp_in_nI (show i < 12 by omega) (by decide)) dX3_inside_18 (by rw [nI_clamp (by omega)] <;> rfl) ?_
        refine zz_if_eq (tgt := 36) (by first | exact hB _ _ | exact hUa _ | exact hUb _ | exact hUc _ | exact hUd _ | omega) hx hb dX3_inside_19 (by decide) (fun c_4 => ?_) (fun c_4 => ?_)
        · skip
          refine zz_con 0 hx hb dX3_inside_36 (by decide) ?_
          refine zz_add hx hb dX3_inside_37 ?_
          refine lv_istore_n (lv' := [(2, .int (nI ((zc (fun q => N 7 q ≠ 0 ∧ N 6 q = f + 1) i) + 0))), (3, .int (nI i)), (0, .ref (ad 0 0)), (1, .int (nI f))]) hx hb dX3_inside_38 rfl hl (Nat.le_of_ble_eq_true rfl) rfl (fun ls hl => ?_)
          refine zz_inc (k := 1) (lv' := [(3, .int (nI (i + 1))), (2, .int (nI ((zc (fun q => N 7 q ≠ 0 ∧ N 6 q = f + 1) i) + 0))), (0, .ref (ad 0 0)), (1, .int (nI f))]) hx hb dX3_inside_39 hl rfl (Nat.le_of_ble_eq_true rfl) rfl (fun ls hl => ?_)
          refine lv_goto (tgt := 4) hx hb dX3_inside_42 (by decide) ?_
          refine ih_i (i + 1) (by omega) (by omega) _ _ _ ?_ hS ?_
          · exact hZ
          · skip
            rw [show (.int (nI (zc (fun q => N 7 q ≠ 0 ∧ N 6 q = f + 1) (i + 1))) : Value) = .int (nI ((zc (fun q => N 7 q ≠ 0 ∧ N 6 q = f + 1) i) + 0)) from congrArg Value.int (by first | rfl | ((rw [zc_t ⟨by assumption, by assumption⟩]); done) | ((rw [zc_f (fun h => by have := h.1; have := h.2; omega)]); done) | ((rw [zc_f (fun h => absurd h.1 (by omega))]); done) | ((rw [zc_f (fun h => absurd h.2 (by assumption))]); done))]
            exact lv_sub hl [0, 1, 2, 3] rfl
        · skip
          refine lv_aload_n hx hb dX3_inside_22 rfl (lv_at hl 2 rfl) ?_
          refine zz_get (ci := 6) (C := RX3) (T := TX3) (N := 22) (v := .ref (ad 1 7)) hx hb hts hown hK (zm_ob hZ.W).1 rfl zf_X3 13 (by decide) zw_821 (fun _ h9 => h9) rfl dX3_inside_23 ?_
          refine lv_iload_n hx hb dX3_inside_26 rfl (lv_at hl 0 rfl) ?_
          refine zz_iald (y := nI (N 6 i) - 1) hx hb hK (zm_seat hZ.W).1 (vp_in_nI (show i < 12 by omega) (by decide)) dX3_inside_27 (by rw [nI_clamp (by omega)] <;> rfl) ?_
          refine lv_iload_n hx hb dX3_inside_28 rfl (lv_at hl 3 rfl) ?_
          refine zz_ik_nen (tgt := 36) (by first | exact hB _ _ | exact hUa _ | exact hUb _ | exact hUc _ | exact hUd _ | omega) (by omega) hx hb dX3_inside_29 (by decide) (fun c_5 => ?_) (fun c_5 => ?_)
          · skip
            refine zz_con 0 hx hb dX3_inside_36 (by decide) ?_
            refine zz_add hx hb dX3_inside_37 ?_
            refine lv_istore_n (lv' := [(2, .int (nI ((zc (fun q => N 7 q ≠ 0 ∧ N 6 q = f + 1) i) + 0))), (3, .int (nI i)), (0, .ref (ad 0 0)), (1, .int (nI f))]) hx hb dX3_inside_38 rfl hl (Nat.le_of_ble_eq_true rfl) rfl (fun ls hl => ?_)
            refine zz_inc (k := 1) (lv' := [(3, .int (nI (i + 1))), (2, .int (nI ((zc (fun q => N 7 q ≠ 0 ∧ N 6 q = f + 1) i) + 0))), (0, .ref (ad 0 0)), (1, .int (nI f))]) hx hb dX3_inside_39 hl rfl (Nat.le_of_ble_eq_true rfl) rfl (fun ls hl => ?_)
            refine lv_goto (tgt := 4) hx hb dX3_inside_42 (by decide) ?_
            refine ih_i (i + 1) (by omega) (by omega) _ _ _ ?_ hS ?_
            · exact hZ
            · skip
              rw [show (.int (nI (zc (fun q => N 7 q ≠ 0 ∧ N 6 q = f + 1) (i + 1))) : Value) = .int (nI ((zc (fun q => N 7 q ≠ 0 ∧ N 6 q = f + 1) i) + 0)) from congrArg Value.int (by first | rfl | ((rw [zc_t ⟨by assumption, by assumption⟩]); done) | ((rw [zc_f (fun h => by have := h.1; have := h.2; omega)]); done) | ((rw [zc_f (fun h => absurd h.1 (by omega))]); done) | ((rw [zc_f (fun h => absurd h.2 (by assumption))]); done))]
              exact lv_sub hl [0, 1, 2, 3] rfl
          · skip
            refine zz_con 1 hx hb dX3_inside_32 (by decide) ?_
            refine lv_goto (tgt := 37) hx hb dX3_inside_33 (by decide) ?_
            refine zz_add hx hb dX3_inside_37 ?_
            refine lv_istore_n (lv' := [(2, .int (nI ((zc (fun q => N 7 q ≠ 0 ∧ N 6 q = f + 1) i) + 1))), (3, .int (nI i)), (0, .ref (ad 0 0)), (1, .int (nI f))]) hx hb dX3_inside_38 rfl hl (Nat.le_of_ble_eq_true rfl) rfl (fun ls hl => ?_)
            refine zz_inc (k := 1) (lv' := [(3, .int (nI (i + 1))), (2, .int (nI ((zc (fun q => N 7 q ≠ 0 ∧ N 6 q = f + 1) i) + 1))), (0, .ref (ad 0 0)), (1, .int (nI f))]) hx hb dX3_inside_39 hl rfl (Nat.le_of_ble_eq_true rfl) rfl (fun ls hl => ?_)
            refine lv_goto (tgt := 4) hx hb dX3_inside_42 (by decide) ?_
            refine ih_i (i + 1) (by omega) (by omega) _ _ _ ?_ hS ?_
            · exact hZ
            · skip
              rw [show (.int (nI (zc (fun q => N 7 q ≠ 0 ∧ N 6 q = f + 1) (i + 1))) : Value) = .int (nI ((zc (fun q => N 7 q ≠ 0 ∧ N 6 q = f + 1) i) + 1)) from congrArg Value.int (by first | rfl | ((rw [zc_t ⟨by assumption, by assumption⟩]); done) | ((rw [zc_f (fun h => by have := h.1; have := h.2; omega)]); done) | ((rw [zc_f (fun h => absurd h.1 (by omega))]); done) | ((rw [zc_f (fun h => absurd h.2 (by assumption))]); done))]
              exact lv_sub hl [0, 1, 2, 3] rfl
  refine hL_2 (N 0 1 + 1) 0 (by first | omega | exact Nat.zero_le _) (by first | omega | (rw [Nat.zero_add]; exact Nat.lt_succ_self _)) _ _ _ hZ hS ?_
  exact lv_sub hl [0, 1, 2, 3] rfl

set_option maxHeartbeats 4000000 in
set_option maxRecDepth 100000 in
theorem c_X3_warmth (l : Launch) {K : zz_G} {A : Nat → Prop} {ad : Nat → Nat → Nat} {th : Int32} {N : Nat → Nat → Nat} {G : Nat → Nat → Int32} {L : Nat → Int64} (hI : zq N) (x : Int32) : zz_C l yX3_warmth cX3_warmth 2 (Option.some FieldType.int) ({ frames := 2, cells := 0, slots := 0, locals := 43 } : Room) K A [.ref (ad 0 0), .int x] (fun H => zz_W K A ad (zm_c K ad th N G L) H) (fun v9 _ H9 => v9 = some (.int ((zs_warmth N G 0 x).2)) ∧ zz_W K A ad (zm_c K ad (nI (zs_warmth N G 0 x).1) N G L) H9) zz_nx A := by
  refine zz_body (by decide +kernel) (Nat.le_of_ble_eq_true rfl) ?_
  intro p e s m below meth c ls hx hb hr hml hts hown hlocks hmn htab hE hA hP hl
  have hN := hE.N
  have hK := hE.K
  have hown : s.vm.findClass RX3 = some m.cls := hown
  have hl : lv_has ls 2 [(0, .ref (ad 0 0)), (1, .int x)] := hl
  have hZ : zz_Z K A s ad (zm_c K ad th N G L) s.heap := ⟨hE, hA, hP⟩
  have hS : va_S zz_no s.heap s.heap [] := va_S.rf
  obtain ⟨H, hH⟩ : ∃ z, z = s.heap := ⟨_, rfl⟩
  have hS0 : va_S zz_no s.heap H [] := by rw [hH]; exact hS
  rw [← hH] at hZ
  have hE0 := hE
  clear hS
  have hS := hS0
  have hB := hI.B
  have h00 := hI.f
  have h01 := hI.p
  have h02 := hI.b
  show W p l e _ s m _ below meth c s.heap [] 0 0 _ (F0 m 0 ls [])
  rw [← hH]
  refine lv_aload_n hx hb dX3_warmth_0 rfl (lv_at hl 0 rfl) ?_
  refine lv_iload_n hx hb dX3_warmth_1 rfl (lv_at hl 1 rfl) ?_
  refine zz_after (pc := 2) rfl (zz_runV (ci := 6) (q0 := (RX3, TX3, 22)) (b := ad 0 0) (As := [.int x]) (rest := []) hx hb hml hown hts (c_X3_isFloor l (K := K) (A := A) (ad := ad) (th := th) (N := N) (G := G) (L := L) hI x) zw_899 zw_901 zs_36 zw_5 zw_902 zd_X3_isFloor ⟨Nat.le_of_ble_eq_true rfl, Nat.le_of_ble_eq_true rfl⟩ hZ.E hZ.A (zm_ob hZ.W).1 rfl rfl hZ.W hl.1 (Nat.le_of_ble_eq_true rfl) dX3_warmth_2 ⟨Nat.le_of_ble_eq_true rfl, Nat.le_of_ble_eq_true rfl⟩) hS (fun _ h => h.elim) (fun v_3 H locs hq_1 hF_2 hS => ?_)
  refine W.widen (k := 0) (n := 0) (Nat.le_of_ble_eq_true rfl) (Nat.le_of_ble_eq_true rfl) ?_
  obtain rfl := hq_1
  have hZ := hZ.ro hF_2
  refine W.eq (g2 := F0 m 5 ls [.int (zz_bo (zin x (N 0 0)))]) rfl ?_
  refine zz_bi_eq (tgt := 21) hx hb dX3_warmth_5 (by decide) (fun c_4 => ?_) (fun c_4 => ?_)
  · skip
    refine lv_aload_n hx hb dX3_warmth_21 rfl (lv_at hl 0 rfl) ?_
    refine zz_con 1 hx hb dX3_warmth_22 (by decide) ?_
    have hS : va_S A s.heap H _ := zz_Smono hS (fun _ h => h.elim)
    refine zz_after (pc := 23) rfl (zz_runV (ci := 6) (q0 := (RX3, TX3, 22)) (b := ad 0 0) (As := [.int (nI 1)]) (rest := []) hx hb hml hown hts (c_X3_fails l (K := K) (A := A) (ad := ad) (th := th) (N := N) (G := G) (L := L) (nI 1)) zw_887 zw_889 zs_34 zw_5 zw_890 zd_X3_fails ⟨Nat.le_of_ble_eq_true rfl, Nat.le_of_ble_eq_true rfl⟩ hZ.E hZ.A (zm_ob hZ.W).1 rfl rfl hZ.W hl.1 (Nat.le_of_ble_eq_true rfl) dX3_warmth_23 ⟨Nat.le_of_ble_eq_true rfl, Nat.le_of_ble_eq_true rfl⟩) hS (fun _ h => h) (fun v_7 H locs hq_5 hF_6 hS => ?_)
    refine W.widen (k := 0) (n := 0) (Nat.le_of_ble_eq_true rfl) (Nat.le_of_ble_eq_true rfl) ?_
    obtain ⟨rfl, hW9⟩ := hq_5
    have hZ : zz_Z K A s ad (zm_c K ad (nI 1) N G L) H := hZ.mut hF_6 hW9
    refine W.eq (g2 := F0 m 26 ls [.int (nI 0)]) rfl ?_
    refine zz_iret hx hb hr hlocks hS (Nat.le_of_ble_eq_true rfl) (Nat.le_of_ble_eq_true rfl) dX3_warmth_26 ?_
    refine ⟨?_, ?_⟩
    · skip
      first | rfl | (simp [zs_warmth, c_4]; done) | (simp_all [zs_warmth]; done) | (simp [c_4]; done) | (simp_all; done) | (split <;> first | rfl | omega | (simp_all; done); done)
    · first | exact hZ.W | (refine zm_co ?_ ?_ ?_ ?_ hZ.W <;> first | rfl | (simp [zs_warmth, c_4]; done) | (simp_all [zs_warmth]; done) | (simp [c_4]; done) | (simp_all; done) | (split <;> first | rfl | omega | (simp_all; done); done))
  · skip
    obtain ⟨j, hj, rfl⟩ := zz_rng (by omega) c_4.1 c_4.2
    have hjc : (nI j).toNatClampNeg = j := nI_clamp (by omega)
    have hjb : j < 2 ^ 31 := by omega
    refine lv_aload_n hx hb dX3_warmth_8 rfl (lv_at hl 0 rfl) ?_
    refine lv_aload_n hx hb dX3_warmth_9 rfl (lv_at hl 0 rfl) ?_
    refine zz_get (ci := 6) (C := RX3) (T := TX3) (N := 22) (v := .ref (ad 1 2)) hx hb hts hown hK (zm_ob hZ.W).1 rfl zf_X3 8 (by decide) zw_816 (fun _ h9 => h9) rfl dX3_warmth_10 ?_
    refine lv_iload_n hx hb dX3_warmth_13 rfl (lv_at hl 1 rfl) ?_
    refine zz_iald (y := G 0 j) hx hb hK (zm_warmth hZ.W).1 (vp_in_nI (show j < 6 by omega) (by decide)) dX3_warmth_14 (by rw [nI_clamp (by omega)] <;> rfl) ?_
    have hS : va_S A s.heap H _ := zz_Smono hS (fun _ h => h.elim)
    refine zz_after (pc := 15) rfl (zz_runV (ci := 6) (q0 := (RX3, TX3, 22)) (b := ad 0 0) (As := [.int (G 0 j)]) (rest := []) hx hb hml hown hts (c_X3_tells l (K := K) (A := A) (ad := ad) (th := th) (N := N) (G := G) (L := L) (G 0 j)) zw_891 zw_893 zs_35 zw_5 zw_894 zd_X3_tells ⟨Nat.le_of_ble_eq_true rfl, Nat.le_of_ble_eq_true rfl⟩ hZ.E hZ.A (zm_ob hZ.W).1 rfl rfl hZ.W hl.1 (Nat.le_of_ble_eq_true rfl) dX3_warmth_15 ⟨Nat.le_of_ble_eq_true rfl, Nat.le_of_ble_eq_true rfl⟩) hS (fun _ h => h) (fun v_10 H locs hq_8 hF_9 hS => ?_)
    refine W.widen (k := 0) (n := 0) (Nat.le_of_ble_eq_true rfl) (Nat.le_of_ble_eq_true rfl) ?_
    obtain ⟨rfl, hW9⟩ := hq_8
    have hZ : zz_Z K A s ad (zm_c K ad (nI 0) N G L) H := hZ.mut hF_9 hW9
    refine W.eq (g2 := F0 m 18 ls [.int (G 0 j)]) rfl ?_
    refine lv_goto (tgt := 26) hx hb dX3_warmth_18 (by decide) ?_
    refine zz_iret hx hb hr hlocks hS (Nat.le_of_ble_eq_true rfl) (Nat.le_of_ble_eq_true rfl) dX3_warmth_26 ?_
    refine ⟨?_, ?_⟩
    · skip
      first | rfl | (simp [zs_warmth, c_4, hjc]; done) | (simp_all [zs_warmth]; done) | (simp [c_4, hjc]; done) | (simp_all; done) | (split <;> first | rfl | omega | (simp_all; done); done)
    · first | exact hZ.W | (refine zm_co ?_ ?_ ?_ ?_ hZ.W <;> first | rfl | (simp [zs_warmth, c_4, hjc]; done) | (simp_all [zs_warmth]; done) | (simp [c_4, hjc]; done) | (simp_all; done) | (split <;> first | rfl | omega | (simp_all; done); done))

set_option maxHeartbeats 4000000 in
set_option maxRecDepth 100000 in
theorem c_X3_air (l : Launch) {K : zz_G} {A : Nat → Prop} {ad : Nat → Nat → Nat} {th : Int32} {N : Nat → Nat → Nat} {G : Nat → Nat → Int32} {L : Nat → Int64} (hI : zq N) (x : Int32) : zz_C l yX3_air cX3_air 2 (Option.some FieldType.int) ({ frames := 2, cells := 0, slots := 0, locals := 43 } : Room) K A [.ref (ad 0 0), .int x] (fun H => zz_W K A ad (zm_c K ad th N G L) H) (fun v9 _ H9 => v9 = some (.int ((zs_warmth N G 1 x).2)) ∧ zz_W K A ad (zm_c K ad (nI (zs_warmth N G 1 x).1) N G L) H9) zz_nx A := by
  refine zz_body (by decide +kernel) (Nat.le_of_ble_eq_true rfl) ?_
  intro p e s m below meth c ls hx hb hr hml hts hown hlocks hmn htab hE hA hP hl
  have hN := hE.N
  have hK := hE.K
  have hown : s.vm.findClass RX3 = some m.cls := hown
  have hl : lv_has ls 2 [(0, .ref (ad 0 0)), (1, .int x)] := hl
  have hZ : zz_Z K A s ad (zm_c K ad th N G L) s.heap := ⟨hE, hA, hP⟩
  have hS : va_S zz_no s.heap s.heap [] := va_S.rf
  obtain ⟨H, hH⟩ : ∃ z, z = s.heap := ⟨_, rfl⟩
  have hS0 : va_S zz_no s.heap H [] := by rw [hH]; exact hS
  rw [← hH] at hZ
  have hE0 := hE
  clear hS
  have hS := hS0
  have hB := hI.B
  have h00 := hI.f
  have h01 := hI.p
  have h02 := hI.b
  show W p l e _ s m _ below meth c s.heap [] 0 0 _ (F0 m 0 ls [])
  rw [← hH]
  refine lv_aload_n hx hb dX3_air_0 rfl (lv_at hl 0 rfl) ?_
  refine lv_iload_n hx hb dX3_air_1 rfl (lv_at hl 1 rfl) ?_
  refine zz_after (pc := 2) rfl (zz_runV (ci := 6) (q0 := (RX3, TX3, 22)) (b := ad 0 0) (As := [.int x]) (rest := []) hx hb hml hown hts (c_X3_isFloor l (K := K) (A := A) (ad := ad) (th := th) (N := N) (G := G) (L := L) hI x) zw_899 zw_901 zs_36 zw_5 zw_902 zd_X3_isFloor ⟨Nat.le_of_ble_eq_true rfl, Nat.le_of_ble_eq_true rfl⟩ hZ.E hZ.A (zm_ob hZ.W).1 rfl rfl hZ.W hl.1 (Nat.le_of_ble_eq_true rfl) dX3_air_2 ⟨Nat.le_of_ble_eq_true rfl, Nat.le_of_ble_eq_true rfl⟩) hS (fun _ h => h.elim) (fun v_3 H locs hq_1 hF_2 hS => ?_)
  refine W.widen (k := 0) (n := 0) (Nat.le_of_ble_eq_true rfl) (Nat.le_of_ble_eq_true rfl) ?_
  obtain rfl := hq_1
  have hZ := hZ.ro hF_2
  refine W.eq (g2 := F0 m 5 ls [.int (zz_bo (zin x (N 0 0)))]) rfl ?_
  refine zz_bi_eq (tgt := 21) hx hb dX3_air_5 (by decide) (fun c_4 => ?_) (fun c_4 => ?_)
  · skip
    refine lv_aload_n hx hb dX3_air_21 rfl (lv_at hl 0 rfl) ?_
    refine zz_con 1 hx hb dX3_air_22 (by decide) ?_
    have hS : va_S A s.heap H _ := zz_Smono hS (fun _ h => h.elim)
    refine zz_after (pc := 23) rfl (zz_runV (ci := 6) (q0 := (RX3, TX3, 22)) (b := ad 0 0) (As := [.int (nI 1)]) (rest := []) hx hb hml hown hts (c_X3_fails l (K := K) (A := A) (ad := ad) (th := th) (N := N) (G := G) (L := L) (nI 1)) zw_887 zw_889 zs_34 zw_5 zw_890 zd_X3_fails ⟨Nat.le_of_ble_eq_true rfl, Nat.le_of_ble_eq_true rfl⟩ hZ.E hZ.A (zm_ob hZ.W).1 rfl rfl hZ.W hl.1 (Nat.le_of_ble_eq_true rfl) dX3_air_23 ⟨Nat.le_of_ble_eq_true rfl, Nat.le_of_ble_eq_true rfl⟩) hS (fun _ h => h) (fun v_7 H locs hq_5 hF_6 hS => ?_)
    refine W.widen (k := 0) (n := 0) (Nat.le_of_ble_eq_true rfl) (Nat.le_of_ble_eq_true rfl) ?_
    obtain ⟨rfl, hW9⟩ := hq_5
    have hZ : zz_Z K A s ad (zm_c K ad (nI 1) N G L) H := hZ.mut hF_6 hW9
    refine W.eq (g2 := F0 m 26 ls [.int (nI 0)]) rfl ?_
    refine zz_iret hx hb hr hlocks hS (Nat.le_of_ble_eq_true rfl) (Nat.le_of_ble_eq_true rfl) dX3_air_26 ?_
    refine ⟨?_, ?_⟩
    · skip
      first | rfl | (simp [zs_warmth, c_4]; done) | (simp_all [zs_warmth]; done) | (simp [c_4]; done) | (simp_all; done) | (split <;> first | rfl | omega | (simp_all; done); done)
    · first | exact hZ.W | (refine zm_co ?_ ?_ ?_ ?_ hZ.W <;> first | rfl | (simp [zs_warmth, c_4]; done) | (simp_all [zs_warmth]; done) | (simp [c_4]; done) | (simp_all; done) | (split <;> first | rfl | omega | (simp_all; done); done))
  · skip
    obtain ⟨j, hj, rfl⟩ := zz_rng (by omega) c_4.1 c_4.2
    have hjc : (nI j).toNatClampNeg = j := nI_clamp (by omega)
    have hjb : j < 2 ^ 31 := by omega
    refine lv_aload_n hx hb dX3_air_8 rfl (lv_at hl 0 rfl) ?_
    refine lv_aload_n hx hb dX3_air_9 rfl (lv_at hl 0 rfl) ?_
    refine zz_get (ci := 6) (C := RX3) (T := TX3) (N := 22) (v := .ref (ad 1 3)) hx hb hts hown hK (zm_ob hZ.W).1 rfl zf_X3 9 (by decide) zw_817 (fun _ h9 => h9) rfl dX3_air_10 ?_
    refine lv_iload_n hx hb dX3_air_13 rfl (lv_at hl 1 rfl) ?_
    refine zz_iald (y := G 1 j) hx hb hK (zm_air hZ.W).1 (vp_in_nI (show j < 6 by omega) (by decide)) dX3_air_14 (by rw [nI_clamp (by omega)] <;> rfl) ?_
    have hS : va_S A s.heap H _ := zz_Smono hS (fun _ h => h.elim)
    refine zz_after (pc := 15) rfl (zz_runV (ci := 6) (q0 := (RX3, TX3, 22)) (b := ad 0 0) (As := [.int (G 1 j)]) (rest := []) hx hb hml hown hts (c_X3_tells l (K := K) (A := A) (ad := ad) (th := th) (N := N) (G := G) (L := L) (G 1 j)) zw_891 zw_893 zs_35 zw_5 zw_894 zd_X3_tells ⟨Nat.le_of_ble_eq_true rfl, Nat.le_of_ble_eq_true rfl⟩ hZ.E hZ.A (zm_ob hZ.W).1 rfl rfl hZ.W hl.1 (Nat.le_of_ble_eq_true rfl) dX3_air_15 ⟨Nat.le_of_ble_eq_true rfl, Nat.le_of_ble_eq_true rfl⟩) hS (fun _ h => h) (fun v_10 H locs hq_8 hF_9 hS => ?_)
    refine W.widen (k := 0) (n := 0) (Nat.le_of_ble_eq_true rfl) (Nat.le_of_ble_eq_true rfl) ?_
    obtain ⟨rfl, hW9⟩ := hq_8
    have hZ : zz_Z K A s ad (zm_c K ad (nI 0) N G L) H := hZ.mut hF_9 hW9
    refine W.eq (g2 := F0 m 18 ls [.int (G 1 j)]) rfl ?_
    refine lv_goto (tgt := 26) hx hb dX3_air_18 (by decide) ?_
    refine zz_iret hx hb hr hlocks hS (Nat.le_of_ble_eq_true rfl) (Nat.le_of_ble_eq_true rfl) dX3_air_26 ?_
    refine ⟨?_, ?_⟩
    · skip
      first | rfl | (simp [zs_warmth, c_4, hjc]; done) | (simp_all [zs_warmth]; done) | (simp [c_4, hjc]; done) | (simp_all; done) | (split <;> first | rfl | omega | (simp_all; done); done)
    · first | exact hZ.W | (refine zm_co ?_ ?_ ?_ ?_ hZ.W <;> first | rfl | (simp [zs_warmth, c_4, hjc]; done) | (simp_all [zs_warmth]; done) | (simp [c_4, hjc]; done) | (simp_all; done) | (split <;> first | rfl | omega | (simp_all; done); done))

set_option maxHeartbeats 4000000 in
set_option maxRecDepth 100000 in
theorem c_X3_isSound (l : Launch) {K : zz_G} {A : Nat → Prop} {ad : Nat → Nat → Nat} {th : Int32} {N : Nat → Nat → Nat} {G : Nat → Nat → Int32} {L : Nat → Int64}  : zz_C l yX3_isSound cX3_isSound 1 (Option.some FieldType.boolean) ({ frames := 1, cells := 0, slots := 0, locals := 22 } : Room) K A [.ref (ad 0 0)] (fun H => zz_W K A ad (zm_c K ad th N G L) H) (fun v9 _ H9 => v9 = some (.int (zz_bo True)) ∧ zz_W K A ad (zm_c K ad (nI 0) N G L) H9) zz_nx A := by
  refine zz_body (by decide +kernel) (Nat.le_of_ble_eq_true rfl) ?_
  intro p e s m below meth c ls hx hb hr hml hts hown hlocks hmn htab hE hA hP hl
  have hN := hE.N
  have hK := hE.K
  have hown : s.vm.findClass RX3 = some m.cls := hown
  have hl : lv_has ls 1 [(0, .ref (ad 0 0))] := hl
  have hZ : zz_Z K A s ad (zm_c K ad th N G L) s.heap := ⟨hE, hA, hP⟩
  have hS : va_S zz_no s.heap s.heap [] := va_S.rf
  obtain ⟨H, hH⟩ : ∃ z, z = s.heap := ⟨_, rfl⟩
  have hS0 : va_S zz_no s.heap H [] := by rw [hH]; exact hS
  rw [← hH] at hZ
  have hE0 := hE
  clear hS
  have hS := hS0
  show W p l e _ s m _ below meth c s.heap [] 0 0 _ (F0 m 0 ls [])
  rw [← hH]
  refine lv_aload_n hx hb dX3_isSound_0 rfl (lv_at hl 0 rfl) ?_
  refine zz_con 0 hx hb dX3_isSound_1 (by decide) ?_
  refine zz_con 1 hx hb dX3_isSound_2 (by decide) ?_
  have hS : va_S A s.heap H _ := zz_Smono hS (fun _ h => h.elim)
  refine zz_after (pc := 3) rfl (zz_runV (ci := 6) (q0 := (RX3, TX3, 22)) (b := ad 0 0) (As := [.int (nI 0), .int (nI 1)]) (rest := []) hx hb hml hown hts (c_X3_asks l (K := K) (A := A) (ad := ad) (th := th) (N := N) (G := G) (L := L) (nI 0) True) zw_1016 zw_1018 zs_48 zw_5 zw_1019 zd_X3_asks ⟨Nat.le_of_ble_eq_true rfl, Nat.le_of_ble_eq_true rfl⟩ hZ.E hZ.A (zm_ob hZ.W).1 rfl rfl hZ.W hl.1 (Nat.le_of_ble_eq_true rfl) dX3_isSound_3 ⟨Nat.le_of_ble_eq_true rfl, Nat.le_of_ble_eq_true rfl⟩) hS (fun _ h => h) (fun v_3 H locs hq_1 hF_2 hS => ?_)
  refine W.widen (k := 0) (n := 0) (Nat.le_of_ble_eq_true rfl) (Nat.le_of_ble_eq_true rfl) ?_
  obtain ⟨rfl, hW9⟩ := hq_1
  have hZ : zz_Z K A s ad (zm_c K ad (nI 0) N G L) H := hZ.mut hF_2 hW9
  refine W.eq (g2 := F0 m 6 ls [.int (zz_bo (nI 0 = 0 ∧ True))]) rfl ?_
  refine zz_zret hx hb hr hlocks hS (Nat.le_of_ble_eq_true rfl) (Nat.le_of_ble_eq_true rfl) dX3_isSound_6 (zz_bo_01 (P := nI 0 = 0 ∧ True)) ?_
  refine ⟨?_, ?_⟩
  · skip
    first | rfl | ((exact congrArg (fun z => some (Value.int z)) (zz_bo_c (by simp))); done) | ((exact congrArg (fun z => some (Value.int z)) (zz_bo_c (by decide))); done) | (simp []; done) | (simp_all; done) | (split <;> first | rfl | omega | (simp_all; done); done)
  · first | exact hZ.W | (refine zm_co ?_ ?_ ?_ ?_ hZ.W <;> first | rfl | ((exact congrArg (fun z => some (Value.int z)) (zz_bo_c (by simp))); done) | ((exact congrArg (fun z => some (Value.int z)) (zz_bo_c (by decide))); done) | (simp []; done) | (simp_all; done) | (split <;> first | rfl | omega | (simp_all; done); done))

set_option maxHeartbeats 4000000 in
set_option maxRecDepth 100000 in
theorem c_X3_meanStanding (l : Launch) {K : zz_G} {A : Nat → Prop} {ad : Nat → Nat → Nat} {th : Int32} {N : Nat → Nat → Nat} {G : Nat → Nat → Int32} {L : Nat → Int64} (hI : zq N)  : zz_C l yX3_meanStanding cX3_meanStanding 3 (Option.some FieldType.double) ({ frames := 0, cells := 0, slots := 0, locals := 0 } : Room) K A [.ref (ad 0 0)] (fun H => zz_W K A ad (zm_c K ad th N G L) H) (fun v9 _ H9 => v9 = some (.double (if N 0 1 = 0 then 0 else zmean N)) ∧ zz_W K A ad (zm_c K ad (nI (if N 0 1 = 0 then 1 else 0)) N G L) H9) zz_nx A := by
  refine zz_body (by decide +kernel) (Nat.le_of_ble_eq_true rfl) ?_
  intro p e s m below meth c ls hx hb hr hml hts hown hlocks hmn htab hE hA hP hl
  have hN := hE.N
  have hK := hE.K
  have hown : s.vm.findClass RX3 = some m.cls := hown
  have hl : lv_has ls 3 [(0, .ref (ad 0 0))] := hl
  have hZ : zz_Z K A s ad (zm_c K ad th N G L) s.heap := ⟨hE, hA, hP⟩
  have hS : va_S zz_no s.heap s.heap [] := va_S.rf
  obtain ⟨H, hH⟩ : ∃ z, z = s.heap := ⟨_, rfl⟩
  have hS0 : va_S zz_no s.heap H [] := by rw [hH]; exact hS
  rw [← hH] at hZ
  have hE0 := hE
  clear hS
  have hS := hS0
  have hB := hI.B
  have h00 := hI.f
  have h01 := hI.p
  have h02 := hI.b
  have hsm := zsm_b hI
  show W p l e _ s m _ below meth c s.heap [] 0 0 _ (F0 m 0 ls [])
  rw [← hH]
  refine zz_con 0 hx hb dX3_meanStanding_0 (by decide) ?_
  refine lv_istore_n (lv' := [(1, .int (nI 0)), (0, .ref (ad 0 0))]) hx hb dX3_meanStanding_1 rfl hl (Nat.le_of_ble_eq_true rfl) rfl (fun ls hl => ?_)
  refine zz_con 0 hx hb dX3_meanStanding_2 (by decide) ?_
  refine lv_istore_n (lv' := [(2, .int (nI 0)), (1, .int (nI 0)), (0, .ref (ad 0 0))]) hx hb dX3_meanStanding_3 rfl hl (Nat.le_of_ble_eq_true rfl) rfl (fun ls hl => ?_)
  have hL_2 : ∀ (k i : Nat), i ≤ N 0 1 → N 0 1 < i + k → ∀ (H : Heap) (locs : List Loc) (ls : Array Slot), zz_Z K A s ad (zm_c K ad th N G L) H → va_S zz_no s.heap H locs → lv_has ls 3 [(2, .int (nI i)), (1, .int (nI (zsum (fun q => N 5 q) i))), (0, .ref (ad 0 0))] → W p l e ({ frames := 0, cells := 0, slots := 0, locals := 0 } : Room) s m ([.ref (ad 0 0)] : List Value).toArray below meth c H locs 0 0 (vx_MQ below (zz_Qc (fun v9 _ H9 => v9 = some (.double (if N 0 1 = 0 then 0 else zmean N)) ∧ zz_W K A ad (zm_c K ad (nI (if N 0 1 = 0 then 1 else 0)) N G L) H9) A) (zz_XC zz_nx) ([.ref (ad 0 0)] : List Value).toArray s ({ frames := 0, cells := 0, slots := 0, locals := 0 } : Room).cells ({ frames := 0, cells := 0, slots := 0, locals := 0 } : Room).slots A) (F0 m 4 ls []) := by
    intro k
    induction k with
    | zero => intro i hi hik; omega
    | succ k ih_i =>
      intro i hii hiki H locs ls hZ hS hl
      refine lv_iload_n hx hb dX3_meanStanding_4 rfl (lv_at hl 0 rfl) ?_
      refine lv_aload_n hx hb dX3_meanStanding_5 rfl (lv_at hl 2 rfl) ?_
      refine zz_get (ci := 6) (C := RX3) (T := TX3) (N := 22) (v := .int (nI (N 0 1))) hx hb hts hown hK (zm_ob hZ.W).1 rfl zf_X3 2 (by decide) zw_810 (fun _ h9 => h9) rfl dX3_meanStanding_6 ?_
      refine zz_ic_ge (tgt := 27) (by first | exact hB _ _ | exact hUa _ | exact hUb _ | exact hUc _ | exact hUd _ | omega) (by first | exact hB _ _ | exact hUa _ | exact hUb _ | exact hUc _ | exact hUd _ | omega) hx hb dX3_meanStanding_9 (by decide) (fun c_3 => ?_) (fun c_3 => ?_)
      · skip
        obtain rfl : i = N 0 1 := by omega
        refine lv_aload_n hx hb dX3_meanStanding_27 rfl (lv_at hl 2 rfl) ?_
        refine lv_aload_n hx hb dX3_meanStanding_28 rfl (lv_at hl 2 rfl) ?_
        refine zz_get (ci := 6) (C := RX3) (T := TX3) (N := 22) (v := .int (nI (N 0 1))) hx hb hts hown hK (zm_ob hZ.W).1 rfl zf_X3 2 (by decide) zw_810 (fun _ h9 => h9) rfl dX3_meanStanding_29 ?_
        refine zz_if_ne (tgt := 39) (by first | exact hB _ _ | exact hUa _ | exact hUb _ | exact hUc _ | exact hUd _ | omega) hx hb dX3_meanStanding_32 (by decide) (fun c_4 => ?_) (fun c_4 => ?_)
        · skip
          refine zz_con 0 hx hb dX3_meanStanding_39 (by decide) ?_
          have hS : va_S A s.heap H _ := zz_Smono hS (fun _ h => h.elim)
          have haA_8 := (zm_ob hZ.W).2
          refine zz_put (ci := 6) (C := RX3) (T := TX3) (N := 22) (v := .int (nI 0)) (ty1 := .int) hx hb hts hown hK hS (zm_ob hZ.W).1 haA_8 rfl zf_X3 tyX3_ok nmX3 0 (by decide) zw_808 (fun _ h9 => h9) rfl (by decide +kernel) rfl rfl (Nat.le_of_ble_eq_true rfl) dX3_meanStanding_40 (fun H locs ha_6 hz_7 ho_5 hS => ?_)
          have hZ : zz_Z K A s ad (zm_c K ad (nI 0) N G L) H := hZ.put haA_8 hz_7 ho_5 (zm_put_thrown hZ.W ha_6 ho_5)
          refine lv_aload_n hx hb dX3_meanStanding_43 rfl (lv_at hl 2 rfl) ?_
          refine zz_get (ci := 6) (C := RX3) (T := TX3) (N := 22) (v := .int (nI (N 0 1))) hx hb hts hown hK (zm_ob hZ.W).1 rfl zf_X3 2 (by decide) zw_810 (fun _ h9 => h9) rfl dX3_meanStanding_44 ?_
          refine zz_if_ne (tgt := 54) (by first | exact hB _ _ | exact hUa _ | exact hUb _ | exact hUc _ | exact hUd _ | omega) hx hb dX3_meanStanding_47 (by decide) (fun c_9 => ?_) (fun c_9 => ?_)
          · skip
            refine lv_iload_n hx hb dX3_meanStanding_54 rfl (lv_at hl 1 rfl) ?_
            refine lv_i2d hx hb dX3_meanStanding_55 ?_
            refine lv_aload_n hx hb dX3_meanStanding_56 rfl (lv_at hl 2 rfl) ?_
            refine zz_get (ci := 6) (C := RX3) (T := TX3) (N := 22) (v := .int (nI (N 0 1))) hx hb hts hown hK (zm_ob hZ.W).1 rfl zf_X3 2 (by decide) zw_810 (fun _ h9 => h9) rfl dX3_meanStanding_57 ?_
            refine lv_i2d hx hb dX3_meanStanding_60 ?_
            refine lv_ddiv hx hb dX3_meanStanding_61 (zmean_n hI (by omega)) ?_
            refine zz_dret hx hb hr hlocks hS (Nat.le_of_ble_eq_true rfl) (Nat.le_of_ble_eq_true rfl) dX3_meanStanding_62 ?_
            refine ⟨?_, ?_⟩
            · skip
              first | rfl | (simp [zmean, zsm, c_3, c_4, c_9]; done) | (simp_all [zmean, zsm]; done) | (simp [c_3, c_4, c_9]; done) | (simp_all; done) | (split <;> first | rfl | omega | (simp_all; done); done)
            · first | exact hZ.W | (refine zm_co ?_ ?_ ?_ ?_ hZ.W <;> first | rfl | (simp [zmean, zsm, c_3, c_4, c_9]; done) | (simp_all [zmean, zsm]; done) | (simp [c_3, c_4, c_9]; done) | (simp_all; done) | (split <;> first | rfl | omega | (simp_all; done); done))
          · skip
            exact absurd c_9 c_4
        · skip
          refine zz_con 1 hx hb dX3_meanStanding_35 (by decide) ?_
          refine lv_goto (tgt := 40) hx hb dX3_meanStanding_36 (by decide) ?_
          have hS : va_S A s.heap H _ := zz_Smono hS (fun _ h => h.elim)
          have haA_13 := (zm_ob hZ.W).2
          refine zz_put (ci := 6) (C := RX3) (T := TX3) (N := 22) (v := .int (nI 1)) (ty1 := .int) hx hb hts hown hK hS (zm_ob hZ.W).1 haA_13 rfl zf_X3 tyX3_ok nmX3 0 (by decide) zw_808 (fun _ h9 => h9) rfl (by decide +kernel) rfl rfl (Nat.le_of_ble_eq_true rfl) dX3_meanStanding_40 (fun H locs ha_11 hz_12 ho_10 hS => ?_)
          have hZ : zz_Z K A s ad (zm_c K ad (nI 1) N G L) H := hZ.put haA_13 hz_12 ho_10 (zm_put_thrown hZ.W ha_11 ho_10)
          refine lv_aload_n hx hb dX3_meanStanding_43 rfl (lv_at hl 2 rfl) ?_
          refine zz_get (ci := 6) (C := RX3) (T := TX3) (N := 22) (v := .int (nI (N 0 1))) hx hb hts hown hK (zm_ob hZ.W).1 rfl zf_X3 2 (by decide) zw_810 (fun _ h9 => h9) rfl dX3_meanStanding_44 ?_
          refine zz_if_ne (tgt := 54) (by first | exact hB _ _ | exact hUa _ | exact hUb _ | exact hUc _ | exact hUd _ | omega) hx hb dX3_meanStanding_47 (by decide) (fun c_14 => ?_) (fun c_14 => ?_)
          · skip
            exact absurd c_4 c_14
          · skip
            refine lv_dconst0 hx hb dX3_meanStanding_50 ?_
            refine W.eq (g2 := F0 m 51 ls [.double 0]) rfl ?_
            refine lv_goto (tgt := 62) hx hb dX3_meanStanding_51 (by decide) ?_
            refine zz_dret hx hb hr hlocks hS (Nat.le_of_ble_eq_true rfl) (Nat.le_of_ble_eq_true rfl) dX3_meanStanding_62 ?_
            refine ⟨?_, ?_⟩
            · skip
              first | rfl | (simp [zmean, zsm, c_3, c_4, c_14]; done) | (simp_all [zmean, zsm]; done) | (simp [c_3, c_4, c_14]; done) | (simp_all; done) | (split <;> first | rfl | omega | (simp_all; done); done)
            · first | exact hZ.W | (refine zm_co ?_ ?_ ?_ ?_ hZ.W <;> first | rfl | (simp [zmean, zsm, c_3, c_4, c_14]; done) | (simp_all [zmean, zsm]; done) | (simp [c_3, c_4, c_14]; done) | (simp_all; done) | (split <;> first | rfl | omega | (simp_all; done); done))
      · skip
        refine lv_iload_n hx hb dX3_meanStanding_12 rfl (lv_at hl 1 rfl) ?_
        refine lv_aload_n hx hb dX3_meanStanding_13 rfl (lv_at hl 2 rfl) ?_
        refine zz_get (ci := 6) (C := RX3) (T := TX3) (N := 22) (v := .ref (ad 1 6)) hx hb hts hown hK (zm_ob hZ.W).1 rfl zf_X3 12 (by decide) zw_820 (fun _ h9 => h9) rfl dX3_meanStanding_14 ?_
        refine lv_iload_n hx hb dX3_meanStanding_17 rfl (lv_at hl 0 rfl) ?_
        refine zz_iald (y := nI (N 5 i)) hx hb hK (zm_standing hZ.W).1 (vp_in_nI (show i < 12 by omega) (by decide)) dX3_meanStanding_18 (by rw [nI_clamp (by omega)] <;> rfl) ?_
        refine zz_add hx hb dX3_meanStanding_19 ?_
        refine lv_istore_n (lv' := [(1, .int (nI ((zsum (fun q => N 5 q) i) + (N 5 i)))), (2, .int (nI i)), (0, .ref (ad 0 0))]) hx hb dX3_meanStanding_20 rfl hl (Nat.le_of_ble_eq_true rfl) rfl (fun ls hl => ?_)
        refine zz_inc (k := 1) (lv' := [(2, .int (nI (i + 1))), (1, .int (nI ((zsum (fun q => N 5 q) i) + (N 5 i)))), (0, .ref (ad 0 0))]) hx hb dX3_meanStanding_21 hl rfl (Nat.le_of_ble_eq_true rfl) rfl (fun ls hl => ?_)
        refine lv_goto (tgt := 4) hx hb dX3_meanStanding_24 (by decide) ?_
        refine ih_i (i + 1) (by omega) (by omega) _ _ _ ?_ hS ?_
        · exact hZ
        · skip
          rw [show (.int (nI (zsum (fun q => N 5 q) (i + 1))) : Value) = .int (nI ((zsum (fun q => N 5 q) i) + (N 5 i))) from congrArg Value.int (by first | rfl | (simp [zsum]; done))]
          exact lv_sub hl [0, 1, 2] rfl
  refine hL_2 (N 0 1 + 1) 0 (by first | omega | exact Nat.zero_le _) (by first | omega | (rw [Nat.zero_add]; exact Nat.lt_succ_self _)) _ _ _ hZ hS ?_
  exact lv_sub hl [0, 1, 2] rfl

set_option maxHeartbeats 4000000 in
set_option maxRecDepth 100000 in
theorem c_X3_givenShare (l : Launch) {K : zz_G} {A : Nat → Prop} {ad : Nat → Nat → Nat} {th : Int32} {N : Nat → Nat → Nat} {G : Nat → Nat → Int32} {L : Nat → Int64} (hI : zq N)  : zz_C l yX3_givenShare cX3_givenShare 4 (Option.some FieldType.float) ({ frames := 1, cells := 0, slots := 0, locals := 24 } : Room) K A [.ref (ad 0 0)] (fun H => zz_W K A ad (zm_c K ad th N G L) H) (fun v9 _ H9 => v9 = some (.float (if zos N = 0 then 0 else zshare N)) ∧ zz_W K A ad (zm_c K ad (nI (if zos N = 0 then 1 else 0)) N G L) H9) zz_nx A := by
  refine zz_body (by decide +kernel) (Nat.le_of_ble_eq_true rfl) ?_
  intro p e s m below meth c ls hx hb hr hml hts hown hlocks hmn htab hE hA hP hl
  have hN := hE.N
  have hK := hE.K
  have hown : s.vm.findClass RX3 = some m.cls := hown
  have hl : lv_has ls 4 [(0, .ref (ad 0 0))] := hl
  have hZ : zz_Z K A s ad (zm_c K ad th N G L) s.heap := ⟨hE, hA, hP⟩
  have hS : va_S zz_no s.heap s.heap [] := va_S.rf
  obtain ⟨H, hH⟩ : ∃ z, z = s.heap := ⟨_, rfl⟩
  have hS0 : va_S zz_no s.heap H [] := by rw [hH]; exact hS
  rw [← hH] at hZ
  have hE0 := hE
  clear hS
  have hS := hS0
  have hB := hI.B
  have h00 := hI.f
  have h01 := hI.p
  have h02 := hI.b
  have hos := zos_b hI
  have hos1 : zsum (fun f => if N 3 f = 0 then 0 else N 1 f) (N 0 0) ≤ 72 := hos
  have hgv := zgv2_b hI
  show W p l e _ s m _ below meth c s.heap [] 0 0 _ (F0 m 0 ls [])
  rw [← hH]
  refine zz_con 0 hx hb dX3_givenShare_0 (by decide) ?_
  refine lv_istore_n (lv' := [(1, .int (nI 0)), (0, .ref (ad 0 0))]) hx hb dX3_givenShare_1 rfl hl (Nat.le_of_ble_eq_true rfl) rfl (fun ls hl => ?_)
  refine zz_con 0 hx hb dX3_givenShare_2 (by decide) ?_
  refine lv_istore_n (lv' := [(2, .int (nI 0)), (1, .int (nI 0)), (0, .ref (ad 0 0))]) hx hb dX3_givenShare_3 rfl hl (Nat.le_of_ble_eq_true rfl) rfl (fun ls hl => ?_)
  refine zz_con 0 hx hb dX3_givenShare_4 (by decide) ?_
  refine lv_istore_n (lv' := [(3, .int (nI 0)), (2, .int (nI 0)), (1, .int (nI 0)), (0, .ref (ad 0 0))]) hx hb dX3_givenShare_5 rfl hl (Nat.le_of_ble_eq_true rfl) rfl (fun ls hl => ?_)
  have hL_2 : ∀ (k i : Nat), i ≤ N 0 0 → N 0 0 < i + k → ∀ (H : Heap) (locs : List Loc) (ls : Array Slot), zz_Z K A s ad (zm_c K ad th N G L) H → va_S zz_no s.heap H locs → lv_has ls 4 [(3, .int (nI i)), (2, .int (nI (zsum (fun f => zsit N f 0) i))), (1, .int (nI (zsum (fun f => if N 3 f = 0 then 0 else N 1 f) i))), (0, .ref (ad 0 0))] → W p l e ({ frames := 1, cells := 0, slots := 0, locals := 24 } : Room) s m ([.ref (ad 0 0)] : List Value).toArray below meth c H locs 0 0 (vx_MQ below (zz_Qc (fun v9 _ H9 => v9 = some (.float (if zos N = 0 then 0 else zshare N)) ∧ zz_W K A ad (zm_c K ad (nI (if zos N = 0 then 1 else 0)) N G L) H9) A) (zz_XC zz_nx) ([.ref (ad 0 0)] : List Value).toArray s ({ frames := 1, cells := 0, slots := 0, locals := 24 } : Room).cells ({ frames := 1, cells := 0, slots := 0, locals := 24 } : Room).slots A) (F0 m 6 ls []) := by
    intro k
    induction k with
    | zero => intro i hi hik; omega
    | succ k ih_i =>
      intro i hii hiki H locs ls hZ hS hl
      refine lv_iload_n hx hb dX3_givenShare_6 rfl (lv_at hl 0 rfl) ?_
      refine lv_aload_n hx hb dX3_givenShare_7 rfl (lv_at hl 3 rfl) ?_
      refine zz_get (ci := 6) (C := RX3) (T := TX3) (N := 22) (v := .int (nI (N 0 0))) hx hb hts hown hK (zm_ob hZ.W).1 rfl zf_X3 1 (by decide) zw_809 (fun _ h9 => h9) rfl dX3_givenShare_8 ?_
      refine zz_ic_ge (tgt := 51) (by first | exact hB _ _ | exact hUa _ | exact hUb _ | exact hUc _ | exact hUd _ | omega) (by first | exact hB _ _ | exact hUa _ | exact hUb _ | exact hUc _ | exact hUd _ | omega) hx hb dX3_givenShare_11 (by decide) (fun c_3 => ?_) (fun c_3 => ?_)
      · skip
        obtain rfl : i = N 0 0 := by omega
        refine lv_aload_n hx hb dX3_givenShare_51 rfl (lv_at hl 3 rfl) ?_
        refine lv_iload_n hx hb dX3_givenShare_52 rfl (lv_at hl 2 rfl) ?_
        refine zz_if_ne (tgt := 60) (by first | exact hB _ _ | exact hUa _ | exact hUb _ | exact hUc _ | exact hUd _ | omega) hx hb dX3_givenShare_53 (by decide) (fun c_4 => ?_) (fun c_4 => ?_)
        · skip
          refine zz_con 0 hx hb dX3_givenShare_60 (by decide) ?_
          have hS : va_S A s.heap H _ := zz_Smono hS (fun _ h => h.elim)
          have haA_8 := (zm_ob hZ.W).2
          refine zz_put (ci := 6) (C := RX3) (T := TX3) (N := 22) (v := .int (nI 0)) (ty1 := .int) hx hb hts hown hK hS (zm_ob hZ.W).1 haA_8 rfl zf_X3 tyX3_ok nmX3 0 (by decide) zw_808 (fun _ h9 => h9) rfl (by decide +kernel) rfl rfl (Nat.le_of_ble_eq_true rfl) dX3_givenShare_61 (fun H locs ha_6 hz_7 ho_5 hS => ?_)
          have hZ : zz_Z K A s ad (zm_c K ad (nI 0) N G L) H := hZ.put haA_8 hz_7 ho_5 (zm_put_thrown hZ.W ha_6 ho_5)
          refine lv_iload_n hx hb dX3_givenShare_64 rfl (lv_at hl 2 rfl) ?_
          refine zz_if_ne (tgt := 72) (by first | exact hB _ _ | exact hUa _ | exact hUb _ | exact hUc _ | exact hUd _ | omega) hx hb dX3_givenShare_65 (by decide) (fun c_9 => ?_) (fun c_9 => ?_)
          · skip
            refine lv_iload_n hx hb dX3_givenShare_72 rfl (lv_at hl 1 rfl) ?_
            refine lv_i2f hx hb dX3_givenShare_73 ?_
            refine lv_iload_n hx hb dX3_givenShare_74 rfl (lv_at hl 2 rfl) ?_
            refine lv_i2f hx hb dX3_givenShare_75 ?_
            refine lv_fdiv hx hb dX3_givenShare_76 (zshare_n hI (by first | assumption | omega)) ?_
            refine zz_fret hx hb hr hlocks hS (Nat.le_of_ble_eq_true rfl) (Nat.le_of_ble_eq_true rfl) dX3_givenShare_77 ?_
            refine ⟨?_, ?_⟩
            · skip
              first | rfl | (simp [zshare, zgv2, zos, c_3, c_4, c_9]; done) | (simp_all [zshare, zgv2, zos]; done) | (simp [c_3, c_4, c_9]; done) | (simp_all; done) | (split <;> first | rfl | omega | (simp_all; done); done)
            · first | exact hZ.W | (refine zm_co ?_ ?_ ?_ ?_ hZ.W <;> first | rfl | (simp [zshare, zgv2, zos, c_3, c_4, c_9]; done) | (simp_all [zshare, zgv2, zos]; done) | (simp [c_3, c_4, c_9]; done) | (simp_all; done) | (split <;> first | rfl | omega | (simp_all; done); done))
          · skip
            exact absurd c_9 c_4
        · skip
          refine zz_con 1 hx hb dX3_givenShare_56 (by decide) ?_
          refine lv_goto (tgt := 61) hx hb dX3_givenShare_57 (by decide) ?_
          have hS : va_S A s.heap H _ := zz_Smono hS (fun _ h => h.elim)
          have haA_13 := (zm_ob hZ.W).2
          refine zz_put (ci := 6) (C := RX3) (T := TX3) (N := 22) (v := .int (nI 1)) (ty1 := .int) hx hb hts hown hK hS (zm_ob hZ.W).1 haA_13 rfl zf_X3 tyX3_ok nmX3 0 (by decide) zw_808 (fun _ h9 => h9) rfl (by decide +kernel) rfl rfl (Nat.le_of_ble_eq_true rfl) dX3_givenShare_61 (fun H locs ha_11 hz_12 ho_10 hS => ?_)
          have hZ : zz_Z K A s ad (zm_c K ad (nI 1) N G L) H := hZ.put haA_13 hz_12 ho_10 (zm_put_thrown hZ.W ha_11 ho_10)
          refine lv_iload_n hx hb dX3_givenShare_64 rfl (lv_at hl 2 rfl) ?_
          refine zz_if_ne (tgt := 72) (by first | exact hB _ _ | exact hUa _ | exact hUb _ | exact hUc _ | exact hUd _ | omega) hx hb dX3_givenShare_65 (by decide) (fun c_14 => ?_) (fun c_14 => ?_)
          · skip
            exact absurd c_4 c_14
          · skip
            refine lv_fconst0 hx hb dX3_givenShare_68 ?_
            refine W.eq (g2 := F0 m 69 ls [.float 0]) rfl ?_
            refine lv_goto (tgt := 77) hx hb dX3_givenShare_69 (by decide) ?_
            refine zz_fret hx hb hr hlocks hS (Nat.le_of_ble_eq_true rfl) (Nat.le_of_ble_eq_true rfl) dX3_givenShare_77 ?_
            refine ⟨?_, ?_⟩
            · skip
              first | rfl | (simp [zshare, zgv2, zos, c_3, c_4, c_14]; done) | (simp_all [zshare, zgv2, zos]; done) | (simp [c_3, c_4, c_14]; done) | (simp_all; done) | (split <;> first | rfl | omega | (simp_all; done); done)
            · first | exact hZ.W | (refine zm_co ?_ ?_ ?_ ?_ hZ.W <;> first | rfl | (simp [zshare, zgv2, zos, c_3, c_4, c_14]; done) | (simp_all [zshare, zgv2, zos]; done) | (simp [c_3, c_4, c_14]; done) | (simp_all; done) | (split <;> first | rfl | omega | (simp_all; done); done))
      · skip
        refine lv_iload_n hx hb dX3_givenShare_14 rfl (lv_at hl 2 rfl) ?_
        refine lv_aload_n hx hb dX3_givenShare_15 rfl (lv_at hl 3 rfl) ?_
        refine zz_get (ci := 6) (C := RX3) (T := TX3) (N := 22) (v := .ref (ad 1 4)) hx hb hts hown hK (zm_ob hZ.W).1 rfl zf_X3 10 (by decide) zw_818 (fun _ h9 => h9) rfl dX3_givenShare_16 ?_
        refine lv_iload_n hx hb dX3_givenShare_19 rfl (lv_at hl 0 rfl) ?_
        refine zz_zald (y := nI (N 3 i)) hx hb hK (zm_isOpen hZ.W).1 (vp_in_nI (show i < 6 by omega) (by decide)) dX3_givenShare_20 (by rw [nI_clamp (by omega)] <;> rfl) ?_
        refine zz_if_eq (tgt := 33) (by first | exact hB _ _ | exact hUa _ | exact hUb _ | exact hUc _ | exact hUd _ | omega) hx hb dX3_givenShare_21 (by decide) (fun c_15 => ?_) (fun c_15 => ?_)
        · skip
          refine zz_con 0 hx hb dX3_givenShare_33 (by decide) ?_
          refine zz_add hx hb dX3_givenShare_34 ?_
          refine lv_istore_n (lv' := [(1, .int (nI ((zsum (fun f => if N 3 f = 0 then 0 else N 1 f) i) + 0))), (3, .int (nI i)), (2, .int (nI (zsum (fun f => zsit N f 0) i))), (0, .ref (ad 0 0))]) hx hb dX3_givenShare_35 rfl hl (Nat.le_of_ble_eq_true rfl) rfl (fun ls hl => ?_)
          refine lv_iload_n hx hb dX3_givenShare_36 rfl (lv_at hl 2 rfl) ?_
          refine lv_aload_n hx hb dX3_givenShare_37 rfl (lv_at hl 3 rfl) ?_
          refine lv_iload_n hx hb dX3_givenShare_38 rfl (lv_at hl 1 rfl) ?_
          refine lv_iconst (v := (-1)) hx hb dX3_givenShare_39 (by decide) ?_
          refine zz_cv (y := nI 0 - 1) zz_k0 ?_
          refine zz_after (pc := 40) rfl (zz_runV (ci := 6) (q0 := (RX3, TX3, 22)) (b := ad 0 0) (As := [.int (nI i), .int (nI 0 - 1)]) (rest := [.int (nI (zsum (fun f => zsit N f 0) i))]) hx hb hml hown hts (c_X3_sitting l (K := K) (A := A) (ad := ad) (th := th) (N := N) (G := G) (L := L) hI (by omega) (by omega)) zw_988 zw_990 zs_46 zw_5 zw_991 zd_X3_sitting ⟨Nat.le_of_ble_eq_true rfl, Nat.le_of_ble_eq_true rfl⟩ hZ.E hZ.A (zm_ob hZ.W).1 rfl rfl hZ.W hl.1 (Nat.le_of_ble_eq_true rfl) dX3_givenShare_40 ⟨Nat.le_of_ble_eq_true rfl, Nat.le_of_ble_eq_true rfl⟩) hS (fun _ h => h.elim) (fun v_18 H locs hq_16 hF_17 hS => ?_)
          refine W.widen (k := 0) (n := 0) (Nat.le_of_ble_eq_true rfl) (Nat.le_of_ble_eq_true rfl) ?_
          obtain rfl := hq_16
          have hZ := hZ.ro hF_17
          refine W.eq (g2 := F0 m 43 ls [.int (nI (zsit N i 0)), .int (nI (zsum (fun f => zsit N f 0) i))]) rfl ?_
          refine zz_add hx hb dX3_givenShare_43 ?_
          refine lv_istore_n (lv' := [(2, .int (nI ((zsum (fun f => zsit N f 0) i) + (zsit N i 0)))), (1, .int (nI ((zsum (fun f => if N 3 f = 0 then 0 else N 1 f) i) + 0))), (3, .int (nI i)), (0, .ref (ad 0 0))]) hx hb dX3_givenShare_44 rfl hl (Nat.le_of_ble_eq_true rfl) rfl (fun ls hl => ?_)
          refine zz_inc (k := 2) (lv' := [(3, .int (nI (i + 1))), (2, .int (nI ((zsum (fun f => zsit N f 0) i) + (zsit N i 0)))), (1, .int (nI ((zsum (fun f => if N 3 f = 0 then 0 else N 1 f) i) + 0))), (0, .ref (ad 0 0))]) hx hb dX3_givenShare_45 hl rfl (Nat.le_of_ble_eq_true rfl) rfl (fun ls hl => ?_)
          refine lv_goto (tgt := 6) hx hb dX3_givenShare_48 (by decide) ?_
          refine ih_i (i + 1) (by omega) (by omega) _ _ _ ?_ hS ?_
          · exact hZ
          · skip
            rw [show (.int (nI (zsum (fun f => if N 3 f = 0 then 0 else N 1 f) (i + 1))) : Value) = .int (nI ((zsum (fun f => if N 3 f = 0 then 0 else N 1 f) i) + 0)) from congrArg Value.int (by first | rfl | (simp [zsum, c_3, c_15]; done) | (simp_all [zsum]; done))]
            rw [show (.int (nI (zsum (fun f => zsit N f 0) (i + 1))) : Value) = .int (nI ((zsum (fun f => zsit N f 0) i) + (zsit N i 0))) from congrArg Value.int (by first | rfl | (simp [zsum, c_3, c_15]; done) | (simp_all [zsum]; done))]
            exact lv_sub hl [0, 1, 2, 3] rfl
        · skip
          refine lv_aload_n hx hb dX3_givenShare_24 rfl (lv_at hl 3 rfl) ?_
          refine zz_get (ci := 6) (C := RX3) (T := TX3) (N := 22) (v := .ref (ad 1 0)) hx hb hts hown hK (zm_ob hZ.W).1 rfl zf_X3 6 (by decide) zw_814 (fun _ h9 => h9) rfl dX3_givenShare_25 ?_
          refine lv_iload_n hx hb dX3_givenShare_28 rfl (lv_at hl 0 rfl) ?_
          refine zz_iald (y := nI (N 1 i)) hx hb hK (zm_seats hZ.W).1 (vp_in_nI (show i < 6 by omega) (by decide)) dX3_givenShare_29 (by rw [nI_clamp (by omega)] <;> rfl) ?_
          refine lv_goto (tgt := 34) hx hb dX3_givenShare_30 (by decide) ?_
          refine zz_add hx hb dX3_givenShare_34 ?_
          refine lv_istore_n (lv' := [(1, .int (nI ((zsum (fun f => if N 3 f = 0 then 0 else N 1 f) i) + (N 1 i)))), (3, .int (nI i)), (2, .int (nI (zsum (fun f => zsit N f 0) i))), (0, .ref (ad 0 0))]) hx hb dX3_givenShare_35 rfl hl (Nat.le_of_ble_eq_true rfl) rfl (fun ls hl => ?_)
          refine lv_iload_n hx hb dX3_givenShare_36 rfl (lv_at hl 2 rfl) ?_
          refine lv_aload_n hx hb dX3_givenShare_37 rfl (lv_at hl 3 rfl) ?_
          refine lv_iload_n hx hb dX3_givenShare_38 rfl (lv_at hl 1 rfl) ?_
          refine lv_iconst (v := (-1)) hx hb dX3_givenShare_39 (by decide) ?_
          refine zz_cv (y := nI 0 - 1) zz_k0 ?_
          refine zz_after (pc := 40) rfl (zz_runV (ci := 6) (q0 := (RX3, TX3, 22)) (b := ad 0 0) (As := [.int (nI i), .int (nI 0 - 1)]) (rest := [.int (nI (zsum (fun f => zsit N f 0) i))]) hx hb hml hown hts (c_X3_sitting l (K := K) (A := A) (ad := ad) (th := th) (N := N) (G := G) (L := L) hI (by omega) (by omega)) zw_988 zw_990 zs_46 zw_5 zw_991 zd_X3_sitting ⟨Nat.le_of_ble_eq_true rfl, Nat.le_of_ble_eq_true rfl⟩ hZ.E hZ.A (zm_ob hZ.W).1 rfl rfl hZ.W hl.1 (Nat.le_of_ble_eq_true rfl) dX3_givenShare_40 ⟨Nat.le_of_ble_eq_true rfl, Nat.le_of_ble_eq_true rfl⟩) hS (fun _ h => h.elim) (fun v_21 H locs hq_19 hF_20 hS => ?_)
          refine W.widen (k := 0) (n := 0) (Nat.le_of_ble_eq_true rfl) (Nat.le_of_ble_eq_true rfl) ?_
          obtain rfl := hq_19
          have hZ := hZ.ro hF_20
          refine W.eq (g2 := F0 m 43 ls [.int (nI (zsit N i 0)), .int (nI (zsum (fun f => zsit N f 0) i))]) rfl ?_
          refine zz_add hx hb dX3_givenShare_43 ?_
          refine lv_istore_n (lv' := [(2, .int (nI ((zsum (fun f => zsit N f 0) i) + (zsit N i 0)))), (1, .int (nI ((zsum (fun f => if N 3 f = 0 then 0 else N 1 f) i) + (N 1 i)))), (3, .int (nI i)), (0, .ref (ad 0 0))]) hx hb dX3_givenShare_44 rfl hl (Nat.le_of_ble_eq_true rfl) rfl (fun ls hl => ?_)
          refine zz_inc (k := 2) (lv' := [(3, .int (nI (i + 1))), (2, .int (nI ((zsum (fun f => zsit N f 0) i) + (zsit N i 0)))), (1, .int (nI ((zsum (fun f => if N 3 f = 0 then 0 else N 1 f) i) + (N 1 i)))), (0, .ref (ad 0 0))]) hx hb dX3_givenShare_45 hl rfl (Nat.le_of_ble_eq_true rfl) rfl (fun ls hl => ?_)
          refine lv_goto (tgt := 6) hx hb dX3_givenShare_48 (by decide) ?_
          refine ih_i (i + 1) (by omega) (by omega) _ _ _ ?_ hS ?_
          · exact hZ
          · skip
            rw [show (.int (nI (zsum (fun f => if N 3 f = 0 then 0 else N 1 f) (i + 1))) : Value) = .int (nI ((zsum (fun f => if N 3 f = 0 then 0 else N 1 f) i) + (N 1 i))) from congrArg Value.int (by first | rfl | (simp [zsum, c_3, c_15]; done) | (simp_all [zsum]; done))]
            rw [show (.int (nI (zsum (fun f => zsit N f 0) (i + 1))) : Value) = .int (nI ((zsum (fun f => zsit N f 0) i) + (zsit N i 0))) from congrArg Value.int (by first | rfl | (simp [zsum, c_3, c_15]; done) | (simp_all [zsum]; done))]
            exact lv_sub hl [0, 1, 2, 3] rfl
  refine hL_2 (N 0 0 + 1) 0 (by first | omega | exact Nat.zero_le _) (by first | omega | (rw [Nat.zero_add]; exact Nat.lt_succ_self _)) _ _ _ hZ hS ?_
  exact lv_sub hl [0, 1, 2, 3] rfl

set_option maxHeartbeats 4000000 in
set_option maxRecDepth 100000 in
theorem c_X3_judges (l : Launch) {K : zz_G} {A : Nat → Prop} {ad : Nat → Nat → Nat} {th : Int32} {N : Nat → Nat → Nat} {G : Nat → Nat → Int32} {L : Nat → Int64} (hI : zq N)  : zz_C l yX3_judges cX3_judges 3 (Option.some FieldType.int) ({ frames := 0, cells := 0, slots := 0, locals := 0 } : Room) K A [.ref (ad 0 0)] (fun H => zz_W K A ad (zm_c K ad th N G L) H) (fun v9 _ H9 => v9 = some (.int (nI (zmiss N (N 0 1)))) ∧ zz_W K A ad (zm_c K ad th (zjn N (N 0 1)) G L) H9) zz_nx A := by
  refine zz_body (by decide +kernel) (Nat.le_of_ble_eq_true rfl) ?_
  intro p e s m below meth c ls hx hb hr hml hts hown hlocks hmn htab hE hA hP hl
  have hN := hE.N
  have hK := hE.K
  have hown : s.vm.findClass RX3 = some m.cls := hown
  have hl : lv_has ls 3 [(0, .ref (ad 0 0))] := hl
  have hZ : zz_Z K A s ad (zm_c K ad th N G L) s.heap := ⟨hE, hA, hP⟩
  have hS : va_S zz_no s.heap s.heap [] := va_S.rf
  obtain ⟨H, hH⟩ : ∃ z, z = s.heap := ⟨_, rfl⟩
  have hS0 : va_S zz_no s.heap H [] := by rw [hH]; exact hS
  rw [← hH] at hZ
  have hE0 := hE
  clear hS
  have hS := hS0
  have hB := hI.B
  have h00 := hI.f
  have h01 := hI.p
  have h02 := hI.b
  show W p l e _ s m _ below meth c s.heap [] 0 0 _ (F0 m 0 ls [])
  rw [← hH]
  refine zz_con 0 hx hb dX3_judges_0 (by decide) ?_
  refine lv_istore_n (lv' := [(1, .int (nI 0)), (0, .ref (ad 0 0))]) hx hb dX3_judges_1 rfl hl (Nat.le_of_ble_eq_true rfl) rfl (fun ls hl => ?_)
  refine zz_con 0 hx hb dX3_judges_2 (by decide) ?_
  refine lv_istore_n (lv' := [(2, .int (nI 0)), (1, .int (nI 0)), (0, .ref (ad 0 0))]) hx hb dX3_judges_3 rfl hl (Nat.le_of_ble_eq_true rfl) rfl (fun ls hl => ?_)
  have hS : va_S A s.heap H _ := zz_Smono hS (fun _ h => h.elim)
  have hL_2 : ∀ (k i : Nat), i ≤ N 0 1 → N 0 1 < i + k → ∀ (H : Heap) (locs : List Loc) (ls : Array Slot), zz_Z K A s ad (zm_c K ad th (zjn N i) G L) H → va_S A s.heap H locs → lv_has ls 3 [(2, .int (nI i)), (1, .int (nI (zc (fun q => N 6 q ≠ 0 ∧ N 8 q = 0) i))), (0, .ref (ad 0 0))] → W p l e ({ frames := 0, cells := 0, slots := 0, locals := 0 } : Room) s m ([.ref (ad 0 0)] : List Value).toArray below meth c H locs 0 0 (vx_MQ below (zz_Qc (fun v9 _ H9 => v9 = some (.int (nI (zmiss N (N 0 1)))) ∧ zz_W K A ad (zm_c K ad th (zjn N (N 0 1)) G L) H9) A) (zz_XC zz_nx) ([.ref (ad 0 0)] : List Value).toArray s ({ frames := 0, cells := 0, slots := 0, locals := 0 } : Room).cells ({ frames := 0, cells := 0, slots := 0, locals := 0 } : Room).slots A) (F0 m 4 ls []) := by
    intro k
    induction k with
    | zero => intro i hi hik; omega
    | succ k ih_i =>
      intro i hii hiki H locs ls hZ hS hl
      have h5 := (hI.sm i).2.2.2.1
      have e5 := zjn_i N i
      have hzm := zc_le (fun q => N 6 q ≠ 0 ∧ N 8 q = 0) i
      refine lv_iload_n hx hb dX3_judges_4 rfl (lv_at hl 0 rfl) ?_
      refine lv_aload_n hx hb dX3_judges_5 rfl (lv_at hl 2 rfl) ?_
      refine zz_get (ci := 6) (C := RX3) (T := TX3) (N := 22) (v := .int (nI (N 0 1))) hx hb hts hown hK (zm_ob hZ.W).1 rfl zf_X3 2 (by decide) zw_810 (fun _ h9 => h9) rfl dX3_judges_6 ?_
      refine zz_ic_ge (tgt := 94) (by first | exact hB _ _ | exact hUa _ | exact hUb _ | exact hUc _ | exact hUd _ | omega) (by first | exact hB _ _ | exact hUa _ | exact hUb _ | exact hUc _ | exact hUd _ | omega) hx hb dX3_judges_9 (by decide) (fun c_3 => ?_) (fun c_3 => ?_)
      · skip
        obtain rfl : i = N 0 1 := by omega
        refine lv_iload_n hx hb dX3_judges_94 rfl (lv_at hl 1 rfl) ?_
        refine zz_iret hx hb hr hlocks hS (Nat.le_of_ble_eq_true rfl) (Nat.le_of_ble_eq_true rfl) dX3_judges_95 ?_
        refine ⟨?_, ?_⟩
        · skip
          first | rfl | (simp [c_3]; done) | (simp_all; done) | (split <;> first | rfl | omega | (simp_all; done); done)
        · first | exact hZ.W | (refine zm_co ?_ ?_ ?_ ?_ hZ.W <;> first | rfl | (simp [c_3]; done) | (simp_all; done) | (split <;> first | rfl | omega | (simp_all; done); done))
      · skip
        refine lv_aload_n hx hb dX3_judges_12 rfl (lv_at hl 2 rfl) ?_
        refine zz_get (ci := 6) (C := RX3) (T := TX3) (N := 22) (v := .ref (ad 1 7)) hx hb hts hown hK (zm_ob hZ.W).1 rfl zf_X3 13 (by decide) zw_821 (fun _ h9 => h9) rfl dX3_judges_13 ?_
        refine lv_iload_n hx hb dX3_judges_16 rfl (lv_at hl 0 rfl) ?_
        refine zz_iald (y := nI (N 6 i) - 1) hx hb hK (zm_seat hZ.W).1 (vp_in_nI (show i < 12 by omega) (by decide)) dX3_judges_17 (by rw [nI_clamp (by omega)] <;> rfl) ?_
        refine lv_iconst (v := (-1)) hx hb dX3_judges_18 (by decide) ?_
        refine zz_ik_ne0 (tgt := 25) (by first | exact hB _ _ | exact hUa _ | exact hUb _ | exact hUc _ | exact hUd _ | omega) hx hb dX3_judges_19 (by decide) (fun c_4 => ?_) (fun c_4 => ?_)
        · skip
          refine lv_aload_n hx hb dX3_judges_25 rfl (lv_at hl 2 rfl) ?_
          refine zz_get (ci := 6) (C := RX3) (T := TX3) (N := 22) (v := .ref (ad 1 9)) hx hb hts hown hK (zm_ob hZ.W).1 rfl zf_X3 15 (by decide) zw_823 (fun _ h9 => h9) rfl dX3_judges_26 ?_
          refine lv_iload_n hx hb dX3_judges_29 rfl (lv_at hl 0 rfl) ?_
          refine zz_zald (y := nI (N 8 i)) hx hb hK (zm_hasCome hZ.W).1 (vp_in_nI (show i < 12 by omega) (by decide)) dX3_judges_30 (by rw [nI_clamp (by omega)] <;> rfl) ?_
          refine zz_if_eq (tgt := 62) (by first | exact hB _ _ | exact hUa _ | exact hUb _ | exact hUc _ | exact hUd _ | omega) hx hb dX3_judges_31 (by decide) (fun c_5 => ?_) (fun c_5 => ?_)
          · skip
            refine lv_aload_n hx hb dX3_judges_62 rfl (lv_at hl 2 rfl) ?_
            refine zz_get (ci := 6) (C := RX3) (T := TX3) (N := 22) (v := .ref (ad 1 6)) hx hb hts hown hK (zm_ob hZ.W).1 rfl zf_X3 12 (by decide) zw_820 (fun _ h9 => h9) rfl dX3_judges_63 ?_
            refine lv_iload_n hx hb dX3_judges_66 rfl (lv_at hl 0 rfl) ?_
            refine lv_dup2_11 hx hb dX3_judges_67 rfl rfl ?_
            refine zz_iald (y := nI ((zjn N i) 5 i)) hx hb hK (zm_standing hZ.W).1 (vp_in_nI (show i < 12 by omega) (by decide)) dX3_judges_68 (by rw [nI_clamp (by omega)] <;> rfl) ?_
            refine lv_aload_n hx hb dX3_judges_69 rfl (lv_at hl 2 rfl) ?_
            refine zz_get (ci := 6) (C := RX3) (T := TX3) (N := 22) (v := .ref (ad 1 6)) hx hb hts hown hK (zm_ob hZ.W).1 rfl zf_X3 12 (by decide) zw_820 (fun _ h9 => h9) rfl dX3_judges_70 ?_
            refine lv_iload_n hx hb dX3_judges_73 rfl (lv_at hl 0 rfl) ?_
            refine zz_iald (y := nI ((zjn N i) 5 i)) hx hb hK (zm_standing hZ.W).1 (vp_in_nI (show i < 12 by omega) (by decide)) dX3_judges_74 (by rw [nI_clamp (by omega)] <;> rfl) ?_
            refine lv_if_le (tgt := 82) hx hb dX3_judges_75 (by decide) (fun c_6 => ?_) (fun c_6 => ?_)
            · skip
              have c9 : zjn N i 5 i ≤ 0 := (nI_leI (by omega) (by omega)).mp c_6
              refine zz_con 0 hx hb dX3_judges_82 (by decide) ?_
              refine zz_sub (by omega) hx hb dX3_judges_83 ?_
              have haA_10 := (zm_standing hZ.W).2
              refine zz_iast (x := nI (((zjn N i) 5 i) - 0)) hx hb hK hS (zm_standing hZ.W).1 haA_10 (vp_in_nI (show i < 12 by omega) (by decide)) dX3_judges_84 (fun H locs ha_8 hz_9 ho_7 hS => ?_)
              have hZ : zz_Z K A s ad (zm_c K ad th (zu (zjn N i) 5 i (((zjn N i) 5 i) - 0)) G L) H := hZ.put haA_10 hz_9 ho_7 (zm_put_a_standing hZ.W (by omega) (nI_clamp (by omega)) rfl ha_8 ho_7)
              refine zz_inc (k := 1) (lv' := [(1, .int (nI (zc (fun q => N 6 q ≠ 0 ∧ N 8 q = 0) i + 1))), (2, .int (nI i)), (0, .ref (ad 0 0))]) hx hb dX3_judges_85 hl rfl (Nat.le_of_ble_eq_true rfl) rfl (fun ls hl => ?_)
              refine zz_inc (k := 1) (lv' := [(2, .int (nI (i + 1))), (1, .int (nI (zc (fun q => N 6 q ≠ 0 ∧ N 8 q = 0) i + 1))), (0, .ref (ad 0 0))]) hx hb dX3_judges_88 hl rfl (Nat.le_of_ble_eq_true rfl) rfl (fun ls hl => ?_)
              refine lv_goto (tgt := 4) hx hb dX3_judges_91 (by decide) ?_
              refine ih_i (i + 1) (by omega) (by omega) _ _ _ ?_ hS ?_
              · have e9 : (zu (zjn N i) 5 i (((zjn N i) 5 i) - 0)) = zjn N (i + 1) := (by rw [← zjn_some (by assumption)]; refine congrArg (zu (zjn N i) 5 i) ?_; unfold zj5; split <;> omega); rw [e9] at hZ; exact hZ
              · skip
                rw [show (.int (nI (zc (fun q => N 6 q ≠ 0 ∧ N 8 q = 0) (i + 1))) : Value) = .int (nI (zc (fun q => N 6 q ≠ 0 ∧ N 8 q = 0) i + 1)) from congrArg Value.int (by first | rfl | ((rw [zc_t ⟨by assumption, by assumption⟩]); done) | (exact congrArg nI (zc_f (fun h => absurd (by assumption) h.1)); done) | (exact congrArg nI (zc_f (fun h => absurd h.2 (by assumption))); done))]
                exact lv_sub hl [0, 1, 2] rfl
            · skip
              have c9 : ¬ zjn N i 5 i ≤ 0 := fun q => c_6 ((nI_leI (by omega) (show 0 < 2 ^ 31 by decide)).mpr q)
              refine zz_con 1 hx hb dX3_judges_78 (by decide) ?_
              refine lv_goto (tgt := 83) hx hb dX3_judges_79 (by decide) ?_
              refine zz_sub (by omega) hx hb dX3_judges_83 ?_
              have haA_14 := (zm_standing hZ.W).2
              refine zz_iast (x := nI (((zjn N i) 5 i) - 1)) hx hb hK hS (zm_standing hZ.W).1 haA_14 (vp_in_nI (show i < 12 by omega) (by decide)) dX3_judges_84 (fun H locs ha_12 hz_13 ho_11 hS => ?_)
              have hZ : zz_Z K A s ad (zm_c K ad th (zu (zjn N i) 5 i (((zjn N i) 5 i) - 1)) G L) H := hZ.put haA_14 hz_13 ho_11 (zm_put_a_standing hZ.W (by omega) (nI_clamp (by omega)) rfl ha_12 ho_11)
              refine zz_inc (k := 1) (lv' := [(1, .int (nI (zc (fun q => N 6 q ≠ 0 ∧ N 8 q = 0) i + 1))), (2, .int (nI i)), (0, .ref (ad 0 0))]) hx hb dX3_judges_85 hl rfl (Nat.le_of_ble_eq_true rfl) rfl (fun ls hl => ?_)
              refine zz_inc (k := 1) (lv' := [(2, .int (nI (i + 1))), (1, .int (nI (zc (fun q => N 6 q ≠ 0 ∧ N 8 q = 0) i + 1))), (0, .ref (ad 0 0))]) hx hb dX3_judges_88 hl rfl (Nat.le_of_ble_eq_true rfl) rfl (fun ls hl => ?_)
              refine lv_goto (tgt := 4) hx hb dX3_judges_91 (by decide) ?_
              refine ih_i (i + 1) (by omega) (by omega) _ _ _ ?_ hS ?_
              · have e9 : (zu (zjn N i) 5 i (((zjn N i) 5 i) - 1)) = zjn N (i + 1) := (by rw [← zjn_some (by assumption)]; refine congrArg (zu (zjn N i) 5 i) ?_; unfold zj5; split <;> omega); rw [e9] at hZ; exact hZ
              · skip
                rw [show (.int (nI (zc (fun q => N 6 q ≠ 0 ∧ N 8 q = 0) (i + 1))) : Value) = .int (nI (zc (fun q => N 6 q ≠ 0 ∧ N 8 q = 0) i + 1)) from congrArg Value.int (by first | rfl | ((rw [zc_t ⟨by assumption, by assumption⟩]); done) | (exact congrArg nI (zc_f (fun h => absurd (by assumption) h.1)); done) | (exact congrArg nI (zc_f (fun h => absurd h.2 (by assumption))); done))]
                exact lv_sub hl [0, 1, 2] rfl
          · skip
            refine lv_aload_n hx hb dX3_judges_34 rfl (lv_at hl 2 rfl) ?_
            refine zz_get (ci := 6) (C := RX3) (T := TX3) (N := 22) (v := .ref (ad 1 6)) hx hb hts hown hK (zm_ob hZ.W).1 rfl zf_X3 12 (by decide) zw_820 (fun _ h9 => h9) rfl dX3_judges_35 ?_
            refine lv_iload_n hx hb dX3_judges_38 rfl (lv_at hl 0 rfl) ?_
            refine lv_dup2_11 hx hb dX3_judges_39 rfl rfl ?_
            refine zz_iald (y := nI ((zjn N i) 5 i)) hx hb hK (zm_standing hZ.W).1 (vp_in_nI (show i < 12 by omega) (by decide)) dX3_judges_40 (by rw [nI_clamp (by omega)] <;> rfl) ?_
            refine lv_aload_n hx hb dX3_judges_41 rfl (lv_at hl 2 rfl) ?_
            refine zz_get (ci := 6) (C := RX3) (T := TX3) (N := 22) (v := .ref (ad 1 6)) hx hb hts hown hK (zm_ob hZ.W).1 rfl zf_X3 12 (by decide) zw_820 (fun _ h9 => h9) rfl dX3_judges_42 ?_
            refine lv_iload_n hx hb dX3_judges_45 rfl (lv_at hl 0 rfl) ?_
            refine zz_iald (y := nI ((zjn N i) 5 i)) hx hb hK (zm_standing hZ.W).1 (vp_in_nI (show i < 12 by omega) (by decide)) dX3_judges_46 (by rw [nI_clamp (by omega)] <;> rfl) ?_
            refine lv_bipush (v := nI 10) hx hb dX3_judges_47 (by decide) ?_
            refine zz_ic_ge (tgt := 56) (by first | exact hB _ _ | exact hUa _ | exact hUb _ | exact hUc _ | exact hUd _ | omega) (by decide) hx hb dX3_judges_49 (by decide) (fun c_15 => ?_) (fun c_15 => ?_)
            · skip
              refine zz_con 0 hx hb dX3_judges_56 (by decide) ?_
              refine zz_add hx hb dX3_judges_57 ?_
              have haA_19 := (zm_standing hZ.W).2
              refine zz_iast (x := nI (((zjn N i) 5 i) + 0)) hx hb hK hS (zm_standing hZ.W).1 haA_19 (vp_in_nI (show i < 12 by omega) (by decide)) dX3_judges_58 (fun H locs ha_17 hz_18 ho_16 hS => ?_)
              have hZ : zz_Z K A s ad (zm_c K ad th (zu (zjn N i) 5 i (((zjn N i) 5 i) + 0)) G L) H := hZ.put haA_19 hz_18 ho_16 (zm_put_a_standing hZ.W (by omega) (nI_clamp (by omega)) rfl ha_17 ho_16)
              refine lv_goto (tgt := 88) hx hb dX3_judges_59 (by decide) ?_
              refine zz_inc (k := 0) (lv' := [(2, .int (nI (i + 1))), (1, .int (nI (zc (fun q => N 6 q ≠ 0 ∧ N 8 q = 0) i))), (0, .ref (ad 0 0))]) hx hb dX3_judges_88 hl rfl (Nat.le_of_ble_eq_true rfl) rfl (fun ls hl => ?_)
              refine lv_goto (tgt := 4) hx hb dX3_judges_91 (by decide) ?_
              refine ih_i (i + 1) (by omega) (by omega) _ _ _ ?_ hS ?_
              · have e9 : (zu (zjn N i) 5 i (((zjn N i) 5 i) + 0)) = zjn N (i + 1) := (by rw [← zjn_some (by assumption)]; refine congrArg (zu (zjn N i) 5 i) ?_; unfold zj5; split <;> omega); rw [e9] at hZ; exact hZ
              · skip
                rw [show (.int (nI (zc (fun q => N 6 q ≠ 0 ∧ N 8 q = 0) (i + 1))) : Value) = .int (nI (zc (fun q => N 6 q ≠ 0 ∧ N 8 q = 0) i)) from congrArg Value.int (by first | rfl | ((rw [zc_t ⟨by assumption, by assumption⟩]); done) | (exact congrArg nI (zc_f (fun h => absurd (by assumption) h.1)); done) | (exact congrArg nI (zc_f (fun h => absurd h.2 (by assumption))); done))]
                exact lv_sub hl [0, 1, 2] rfl
            · skip
              refine zz_con 1 hx hb dX3_judges_52 (by decide) ?_
              refine lv_goto (tgt := 57) hx hb dX3_judges_53 (by decide) ?_
              refine zz_add hx hb dX3_judges_57 ?_
              have haA_23 := (zm_standing hZ.W).2
              refine zz_iast (x := nI (((zjn N i) 5 i) + 1)) hx hb hK hS (zm_standing hZ.W).1 haA_23 (vp_in_nI (show i < 12 by omega) (by decide)) dX3_judges_58 (fun H locs ha_21 hz_22 ho_20 hS => ?_)
              have hZ : zz_Z K A s ad (zm_c K ad th (zu (zjn N i) 5 i (((zjn N i) 5 i) + 1)) G L) H := hZ.put haA_23 hz_22 ho_20 (zm_put_a_standing hZ.W (by omega) (nI_clamp (by omega)) rfl ha_21 ho_20)
              refine lv_goto (tgt := 88) hx hb dX3_judges_59 (by decide) ?_
              refine zz_inc (k := 0) (lv' := [(2, .int (nI (i + 1))), (1, .int (nI (zc (fun q => N 6 q ≠ 0 ∧ N 8 q = 0) i))), (0, .ref (ad 0 0))]) hx hb dX3_judges_88 hl rfl (Nat.le_of_ble_eq_true rfl) rfl (fun ls hl => ?_)
              refine lv_goto (tgt := 4) hx hb dX3_judges_91 (by decide) ?_
              refine ih_i (i + 1) (by omega) (by omega) _ _ _ ?_ hS ?_
              · have e9 : (zu (zjn N i) 5 i (((zjn N i) 5 i) + 1)) = zjn N (i + 1) := (by rw [← zjn_some (by assumption)]; refine congrArg (zu (zjn N i) 5 i) ?_; unfold zj5; split <;> omega); rw [e9] at hZ; exact hZ
              · skip
                rw [show (.int (nI (zc (fun q => N 6 q ≠ 0 ∧ N 8 q = 0) (i + 1))) : Value) = .int (nI (zc (fun q => N 6 q ≠ 0 ∧ N 8 q = 0) i)) from congrArg Value.int (by first | rfl | ((rw [zc_t ⟨by assumption, by assumption⟩]); done) | (exact congrArg nI (zc_f (fun h => absurd (by assumption) h.1)); done) | (exact congrArg nI (zc_f (fun h => absurd h.2 (by assumption))); done))]
                exact lv_sub hl [0, 1, 2] rfl
        · skip
          refine lv_goto (tgt := 88) hx hb dX3_judges_22 (by decide) ?_
          refine zz_inc (k := 0) (lv' := [(2, .int (nI (i + 1))), (1, .int (nI (zc (fun q => N 6 q ≠ 0 ∧ N 8 q = 0) i))), (0, .ref (ad 0 0))]) hx hb dX3_judges_88 hl rfl (Nat.le_of_ble_eq_true rfl) rfl (fun ls hl => ?_)
          refine lv_goto (tgt := 4) hx hb dX3_judges_91 (by decide) ?_
          refine ih_i (i + 1) (by omega) (by omega) _ _ _ ?_ hS ?_
          · rw [← zjn_none (by assumption)]; exact hZ
          · skip
            rw [show (.int (nI (zc (fun q => N 6 q ≠ 0 ∧ N 8 q = 0) (i + 1))) : Value) = .int (nI (zc (fun q => N 6 q ≠ 0 ∧ N 8 q = 0) i)) from congrArg Value.int (by first | rfl | ((rw [zc_t ⟨by assumption, by assumption⟩]); done) | (exact congrArg nI (zc_f (fun h => absurd (by assumption) h.1)); done) | (exact congrArg nI (zc_f (fun h => absurd h.2 (by assumption))); done))]
            exact lv_sub hl [0, 1, 2] rfl
  refine hL_2 (N 0 1 + 1) 0 (by first | omega | exact Nat.zero_le _) (by first | omega | (rw [Nat.zero_add]; exact Nat.lt_succ_self _)) _ _ _ ?_ hS ?_
  · rw [zjn_0]; exact hZ
  exact lv_sub hl [0, 1, 2] rfl

set_option maxHeartbeats 4000000 in
set_option maxRecDepth 100000 in
theorem c_X3_cleans (l : Launch) {K : zz_G} {A : Nat → Prop} {ad : Nat → Nat → Nat} {th : Int32} {N : Nat → Nat → Nat} {G : Nat → Nat → Int32} {L : Nat → Int64} (hI : zq N)  : zz_C l yX3_cleans cX3_cleans 3 (Option.none : Option Jvm.ClassFile.FieldType) ({ frames := 0, cells := 0, slots := 0, locals := 0 } : Room) K A [.ref (ad 0 0)] (fun H => zz_W K A ad (zm_c K ad th N G L) H) (fun v9 _ H9 => v9 = none ∧ zz_W K A ad (zm_c K ad th N G (zl L 2 (zcl N (L 2) (N 0 0)))) H9) zz_nx A := by
  refine zz_body (by decide +kernel) (Nat.le_of_ble_eq_true rfl) ?_
  intro p e s m below meth c ls hx hb hr hml hts hown hlocks hmn htab hE hA hP hl
  have hN := hE.N
  have hK := hE.K
  have hown : s.vm.findClass RX3 = some m.cls := hown
  have hl : lv_has ls 3 [(0, .ref (ad 0 0))] := hl
  have hZ : zz_Z K A s ad (zm_c K ad th N G L) s.heap := ⟨hE, hA, hP⟩
  have hS : va_S zz_no s.heap s.heap [] := va_S.rf
  obtain ⟨H, hH⟩ : ∃ z, z = s.heap := ⟨_, rfl⟩
  have hS0 : va_S zz_no s.heap H [] := by rw [hH]; exact hS
  rw [← hH] at hZ
  have hE0 := hE
  clear hS
  have hS := hS0
  have hB := hI.B
  have h00 := hI.f
  have h01 := hI.p
  have h02 := hI.b
  show W p l e _ s m _ below meth c s.heap [] 0 0 _ (F0 m 0 ls [])
  rw [← hH]
  refine zz_con 0 hx hb dX3_cleans_0 (by decide) ?_
  refine lv_istore_n (lv' := [(1, .int (nI 0)), (0, .ref (ad 0 0))]) hx hb dX3_cleans_1 rfl hl (Nat.le_of_ble_eq_true rfl) rfl (fun ls hl => ?_)
  have hS : va_S A s.heap H _ := zz_Smono hS (fun _ h => h.elim)
  have hL_2 : ∀ (k i : Nat), i ≤ N 0 0 → N 0 0 < i + k → ∀ (H : Heap) (locs : List Loc) (ls : Array Slot), zz_Z K A s ad (zm_c K ad th N G (zl L 2 (zcl N (L 2) i))) H → va_S A s.heap H locs → lv_has ls 3 [(1, .int (nI i)), (0, .ref (ad 0 0))] → W p l e ({ frames := 0, cells := 0, slots := 0, locals := 0 } : Room) s m ([.ref (ad 0 0)] : List Value).toArray below meth c H locs 0 0 (vx_MQ below (zz_Qc (fun v9 _ H9 => v9 = none ∧ zz_W K A ad (zm_c K ad th N G (zl L 2 (zcl N (L 2) (N 0 0)))) H9) A) (zz_XC zz_nx) ([.ref (ad 0 0)] : List Value).toArray s ({ frames := 0, cells := 0, slots := 0, locals := 0 } : Room).cells ({ frames := 0, cells := 0, slots := 0, locals := 0 } : Room).slots A) (F0 m 2 ls []) := by
    intro k
    induction k with
    | zero => intro i hi hik; omega
    | succ k ih_i =>
      intro i hii hiki H locs ls hZ hS hl
      refine lv_iload_n hx hb dX3_cleans_2 rfl (lv_at hl 0 rfl) ?_
      refine lv_aload_n hx hb dX3_cleans_3 rfl (lv_at hl 1 rfl) ?_
      refine zz_get (ci := 6) (C := RX3) (T := TX3) (N := 22) (v := .int (nI (N 0 0))) hx hb hts hown hK (zm_ob hZ.W).1 rfl zf_X3 1 (by decide) zw_809 (fun _ h9 => h9) rfl dX3_cleans_4 ?_
      refine zz_ic_ge (tgt := 91) (by first | exact hB _ _ | exact hUa _ | exact hUb _ | exact hUc _ | exact hUd _ | omega) (by first | exact hB _ _ | exact hUa _ | exact hUb _ | exact hUc _ | exact hUd _ | omega) hx hb dX3_cleans_7 (by decide) (fun c_3 => ?_) (fun c_3 => ?_)
      · skip
        obtain rfl : i = N 0 0 := by omega
        refine zz_vret hx hb hr hlocks hS (Nat.le_of_ble_eq_true rfl) (Nat.le_of_ble_eq_true rfl) dX3_cleans_91 ?_
        refine ⟨?_, ?_⟩
        · skip
          first | rfl | (simp [c_3]; done) | (simp_all; done) | (split <;> first | rfl | omega | (simp_all; done); done)
        · first | exact hZ.W | (refine zm_co ?_ ?_ ?_ ?_ hZ.W <;> first | rfl | (simp [c_3]; done) | (simp_all; done) | (split <;> first | rfl | omega | (simp_all; done); done))
      · skip
        refine lv_aload_n hx hb dX3_cleans_10 rfl (lv_at hl 1 rfl) ?_
        refine zz_get (ci := 6) (C := RX3) (T := TX3) (N := 22) (v := .ref (ad 1 4)) hx hb hts hown hK (zm_ob hZ.W).1 rfl zf_X3 10 (by decide) zw_818 (fun _ h9 => h9) rfl dX3_cleans_11 ?_
        refine lv_iload_n hx hb dX3_cleans_14 rfl (lv_at hl 0 rfl) ?_
        refine zz_zald (y := nI (N 3 i)) hx hb hK (zm_isOpen hZ.W).1 (vp_in_nI (show i < 6 by omega) (by decide)) dX3_cleans_15 (by rw [nI_clamp (by omega)] <;> rfl) ?_
        refine zz_if_ne (tgt := 22) (by first | exact hB _ _ | exact hUa _ | exact hUb _ | exact hUc _ | exact hUd _ | omega) hx hb dX3_cleans_16 (by decide) (fun c_4 => ?_) (fun c_4 => ?_)
        · skip
          refine lv_aload_n hx hb dX3_cleans_22 rfl (lv_at hl 1 rfl) ?_
          refine lv_dup hx hb dX3_cleans_23 rfl ?_
          refine zz_get (ci := 6) (C := RX3) (T := TX3) (N := 22) (v := .long (zcl N (L 2) i)) hx hb hts hown hK (zm_ob hZ.W).1 rfl zf_X3 21 (by decide) zw_829 (fun _ h9 => h9) rfl dX3_cleans_24 ?_
          refine lv_ldc2 (v := 10) hx hb hown (hts _ zw_982) dX3_cleans_27 ?_
          refine lv_ladd hx hb dX3_cleans_30 ?_
          have haA_8 := (zm_ob hZ.W).2
          refine zz_put (ci := 6) (C := RX3) (T := TX3) (N := 22) (v := .long ((zcl N (L 2) i) + 10)) (ty1 := .long) hx hb hts hown hK hS (zm_ob hZ.W).1 haA_8 rfl zf_X3 tyX3_ok nmX3 21 (by decide) zw_829 (fun _ h9 => h9) rfl (by decide +kernel) rfl rfl (Nat.le_of_ble_eq_true rfl) dX3_cleans_31 (fun H locs ha_6 hz_7 ho_5 hS => ?_)
          have hZ : zz_Z K A s ad (zm_c K ad th N G (zl (zl L 2 (zcl N (L 2) i)) 2 ((zcl N (L 2) i) + 10))) H := hZ.put haA_8 hz_7 ho_5 (zm_put_mcleaning hZ.W ha_6 ho_5)
          refine zz_con 0 hx hb dX3_cleans_34 (by decide) ?_
          refine lv_istore_n (lv' := [(2, .int (nI 0)), (1, .int (nI i)), (0, .ref (ad 0 0))]) hx hb dX3_cleans_35 rfl hl (Nat.le_of_ble_eq_true rfl) rfl (fun ls hl => ?_)
          have hL_10 : ∀ (k i2 : Nat), i2 ≤ N 0 1 → N 0 1 < i2 + k → ∀ (H : Heap) (locs : List Loc) (ls : Array Slot), zz_Z K A s ad (zm_c K ad th N G (zl L 2 (zcl N (L 2) i + 10 + lN (5 * zc (fun q => N 6 q = i + 1 ∧ N 8 q ≠ 0) i2)))) H → va_S A s.heap H locs → lv_has ls 3 [(2, .int (nI i2)), (1, .int (nI i)), (0, .ref (ad 0 0))] → W p l e ({ frames := 0, cells := 0, slots := 0, locals := 0 } : Room) s m ([.ref (ad 0 0)] : List Value).toArray below meth c H locs 0 0 (vx_MQ below (zz_Qc (fun v9 _ H9 => v9 = none ∧ zz_W K A ad (zm_c K ad th N G (zl L 2 (zcl N (L 2) (N 0 0)))) H9) A) (zz_XC zz_nx) ([.ref (ad 0 0)] : List Value).toArray s ({ frames := 0, cells := 0, slots := 0, locals := 0 } : Room).cells ({ frames := 0, cells := 0, slots := 0, locals := 0 } : Room).slots A) (F0 m 36 ls []) := by
            intro k
            induction k with
            | zero => intro i hi hik; omega
            | succ k ih_i2 =>
              intro i2 hii2 hiki2 H locs ls hZ hS hl
              refine lv_iload_n hx hb dX3_cleans_36 rfl (lv_at hl 0 rfl) ?_
              refine lv_aload_n hx hb dX3_cleans_37 rfl (lv_at hl 2 rfl) ?_
              refine zz_get (ci := 6) (C := RX3) (T := TX3) (N := 22) (v := .int (nI (N 0 1))) hx hb hts hown hK (zm_ob hZ.W).1 rfl zf_X3 2 (by decide) zw_810 (fun _ h9 => h9) rfl dX3_cleans_38 ?_
              refine zz_ic_ge (tgt := 85) (by first | exact hB _ _ | exact hUa _ | exact hUb _ | exact hUc _ | exact hUd _ | omega) (by first | exact hB _ _ | exact hUa _ | exact hUb _ | exact hUc _ | exact hUd _ | omega) hx hb dX3_cleans_41 (by decide) (fun c_11 => ?_) (fun c_11 => ?_)
              · skip
                obtain rfl : i2 = N 0 1 := by omega
                refine zz_inc (k := 1) (lv' := [(1, .int (nI (i + 1))), (2, .int (nI (N 0 1))), (0, .ref (ad 0 0))]) hx hb dX3_cleans_85 hl rfl (Nat.le_of_ble_eq_true rfl) rfl (fun ls hl => ?_)
                refine lv_goto (tgt := 2) hx hb dX3_cleans_88 (by decide) ?_
                refine ih_i (i + 1) (by omega) (by omega) _ _ _ ?_ hS ?_
                · first | (rw [zcl, if_pos (by assumption)]; exact hZ) | (rw [zcl, if_neg (by assumption)]; rw [zl10] at hZ; exact hZ)
                · skip
                  exact lv_sub hl [0, 2] rfl
              · skip
                refine lv_aload_n hx hb dX3_cleans_44 rfl (lv_at hl 2 rfl) ?_
                refine lv_dup hx hb dX3_cleans_45 rfl ?_
                refine zz_get (ci := 6) (C := RX3) (T := TX3) (N := 22) (v := .long (zcl N (L 2) i + 10 + lN (5 * zc (fun q => N 6 q = i + 1 ∧ N 8 q ≠ 0) i2))) hx hb hts hown hK (zm_ob hZ.W).1 rfl zf_X3 21 (by decide) zw_829 (fun _ h9 => h9) rfl dX3_cleans_46 ?_
                refine lv_aload_n hx hb dX3_cleans_49 rfl (lv_at hl 2 rfl) ?_
                refine zz_get (ci := 6) (C := RX3) (T := TX3) (N := 22) (v := .ref (ad 1 7)) hx hb hts hown hK (zm_ob hZ.W).1 rfl zf_X3 13 (by decide) zw_821 (fun _ h9 => h9) rfl dX3_cleans_50 ?_
                refine lv_iload_n hx hb dX3_cleans_53 rfl (lv_at hl 0 rfl) ?_
                refine zz_iald (y := nI (N 6 i2) - 1) hx hb hK (zm_seat hZ.W).1 (vp_in_nI (show i2 < 12 by omega) (by decide)) dX3_cleans_54 (by rw [nI_clamp (by omega)] <;> rfl) ?_
                refine lv_iload_n hx hb dX3_cleans_55 rfl (lv_at hl 1 rfl) ?_
                refine zz_ik_nen (tgt := 74) (by first | exact hB _ _ | exact hUa _ | exact hUb _ | exact hUc _ | exact hUd _ | omega) (by omega) hx hb dX3_cleans_56 (by decide) (fun c_12 => ?_) (fun c_12 => ?_)
                · skip
                  refine lv_lconst (v := 0) hx hb dX3_cleans_74 (by decide) ?_
                  refine lv_ladd hx hb dX3_cleans_75 ?_
                  have haA_16 := (zm_ob hZ.W).2
                  refine zz_put (ci := 6) (C := RX3) (T := TX3) (N := 22) (v := .long ((zcl N (L 2) i + 10 + lN (5 * zc (fun q => N 6 q = i + 1 ∧ N 8 q ≠ 0) i2)) + 0)) (ty1 := .long) hx hb hts hown hK hS (zm_ob hZ.W).1 haA_16 rfl zf_X3 tyX3_ok nmX3 21 (by decide) zw_829 (fun _ h9 => h9) rfl (by decide +kernel) rfl rfl (Nat.le_of_ble_eq_true rfl) dX3_cleans_76 (fun H locs ha_14 hz_15 ho_13 hS => ?_)
                  have hZ : zz_Z K A s ad (zm_c K ad th N G (zl (zl L 2 (zcl N (L 2) i + 10 + lN (5 * zc (fun q => N 6 q = i + 1 ∧ N 8 q ≠ 0) i2))) 2 ((zcl N (L 2) i + 10 + lN (5 * zc (fun q => N 6 q = i + 1 ∧ N 8 q ≠ 0) i2)) + 0))) H := hZ.put haA_16 hz_15 ho_13 (zm_put_mcleaning hZ.W ha_14 ho_13)
                  refine zz_inc (k := 0) (lv' := [(2, .int (nI (i2 + 1))), (1, .int (nI i)), (0, .ref (ad 0 0))]) hx hb dX3_cleans_79 hl rfl (Nat.le_of_ble_eq_true rfl) rfl (fun ls hl => ?_)
                  refine lv_goto (tgt := 36) hx hb dX3_cleans_82 (by decide) ?_
                  refine ih_i2 (i2 + 1) (by omega) (by omega) _ _ _ ?_ hS ?_
                  · rw [zl_zl] at hZ; first | (rw [zc_t ⟨by assumption, by assumption⟩, ← zl5]; exact hZ) | (rw [zc_f (fun h => by have := h.1; have := h.2; omega), Nat.add_zero]; simpa using hZ)
                  · skip
                    exact lv_sub hl [0, 1, 2] rfl
                · skip
                  refine lv_aload_n hx hb dX3_cleans_59 rfl (lv_at hl 2 rfl) ?_
                  refine zz_get (ci := 6) (C := RX3) (T := TX3) (N := 22) (v := .ref (ad 1 9)) hx hb hts hown hK (zm_ob hZ.W).1 rfl zf_X3 15 (by decide) zw_823 (fun _ h9 => h9) rfl dX3_cleans_60 ?_
                  refine lv_iload_n hx hb dX3_cleans_63 rfl (lv_at hl 0 rfl) ?_
                  refine zz_zald (y := nI (N 8 i2)) hx hb hK (zm_hasCome hZ.W).1 (vp_in_nI (show i2 < 12 by omega) (by decide)) dX3_cleans_64 (by rw [nI_clamp (by omega)] <;> rfl) ?_
                  refine zz_if_eq (tgt := 74) (by first | exact hB _ _ | exact hUa _ | exact hUb _ | exact hUc _ | exact hUd _ | omega) hx hb dX3_cleans_65 (by decide) (fun c_17 => ?_) (fun c_17 => ?_)
                  · skip
                    refine lv_lconst (v := 0) hx hb dX3_cleans_74 (by decide) ?_
                    refine lv_ladd hx hb dX3_cleans_75 ?_
                    have haA_21 := (zm_ob hZ.W).2
                    refine zz_put (ci := 6) (C := RX3) (T := TX3) (N := 22) (v := .long ((zcl N (L 2) i + 10 + lN (5 * zc (fun q => N 6 q = i + 1 ∧ N 8 q ≠ 0) i2)) + 0)) (ty1 := .long) hx hb hts hown hK hS (zm_ob hZ.W).1 haA_21 rfl zf_X3 tyX3_ok nmX3 21 (by decide) zw_829 (fun _ h9 => h9) rfl (by decide +kernel) rfl rfl (Nat.le_of_ble_eq_true rfl) dX3_cleans_76 (fun H locs ha_19 hz_20 ho_18 hS => ?_)
                    have hZ : zz_Z K A s ad (zm_c K ad th N G (zl (zl L 2 (zcl N (L 2) i + 10 + lN (5 * zc (fun q => N 6 q = i + 1 ∧ N 8 q ≠ 0) i2))) 2 ((zcl N (L 2) i + 10 + lN (5 * zc (fun q => N 6 q = i + 1 ∧ N 8 q ≠ 0) i2)) + 0))) H := hZ.put haA_21 hz_20 ho_18 (zm_put_mcleaning hZ.W ha_19 ho_18)
                    refine zz_inc (k := 0) (lv' := [(2, .int (nI (i2 + 1))), (1, .int (nI i)), (0, .ref (ad 0 0))]) hx hb dX3_cleans_79 hl rfl (Nat.le_of_ble_eq_true rfl) rfl (fun ls hl => ?_)
                    refine lv_goto (tgt := 36) hx hb dX3_cleans_82 (by decide) ?_
                    refine ih_i2 (i2 + 1) (by omega) (by omega) _ _ _ ?_ hS ?_
                    · rw [zl_zl] at hZ; first | (rw [zc_t ⟨by assumption, by assumption⟩, ← zl5]; exact hZ) | (rw [zc_f (fun h => by have := h.1; have := h.2; omega), Nat.add_zero]; simpa using hZ)
                    · skip
                      exact lv_sub hl [0, 1, 2] rfl
                  · skip
                    refine lv_ldc2 (v := 5) hx hb hown (hts _ zw_983) dX3_cleans_68 ?_
                    refine lv_goto (tgt := 75) hx hb dX3_cleans_71 (by decide) ?_
                    refine lv_ladd hx hb dX3_cleans_75 ?_
                    have haA_25 := (zm_ob hZ.W).2
                    refine zz_put (ci := 6) (C := RX3) (T := TX3) (N := 22) (v := .long ((zcl N (L 2) i + 10 + lN (5 * zc (fun q => N 6 q = i + 1 ∧ N 8 q ≠ 0) i2)) + 5)) (ty1 := .long) hx hb hts hown hK hS (zm_ob hZ.W).1 haA_25 rfl zf_X3 tyX3_ok nmX3 21 (by decide) zw_829 (fun _ h9 => h9) rfl (by decide +kernel) rfl rfl (Nat.le_of_ble_eq_true rfl) dX3_cleans_76 (fun H locs ha_23 hz_24 ho_22 hS => ?_)
                    have hZ : zz_Z K A s ad (zm_c K ad th N G (zl (zl L 2 (zcl N (L 2) i + 10 + lN (5 * zc (fun q => N 6 q = i + 1 ∧ N 8 q ≠ 0) i2))) 2 ((zcl N (L 2) i + 10 + lN (5 * zc (fun q => N 6 q = i + 1 ∧ N 8 q ≠ 0) i2)) + 5))) H := hZ.put haA_25 hz_24 ho_22 (zm_put_mcleaning hZ.W ha_23 ho_22)
                    refine zz_inc (k := 0) (lv' := [(2, .int (nI (i2 + 1))), (1, .int (nI i)), (0, .ref (ad 0 0))]) hx hb dX3_cleans_79 hl rfl (Nat.le_of_ble_eq_true rfl) rfl (fun ls hl => ?_)
                    refine lv_goto (tgt := 36) hx hb dX3_cleans_82 (by decide) ?_
                    refine ih_i2 (i2 + 1) (by omega) (by omega) _ _ _ ?_ hS ?_
                    · rw [zl_zl] at hZ; first | (rw [zc_t ⟨by assumption, by assumption⟩, ← zl5]; exact hZ) | (rw [zc_f (fun h => by have := h.1; have := h.2; omega), Nat.add_zero]; simpa using hZ)
                    · skip
                      exact lv_sub hl [0, 1, 2] rfl
          refine hL_10 (N 0 1 + 1) 0 (by first | omega | exact Nat.zero_le _) (by first | omega | (rw [Nat.zero_add]; exact Nat.lt_succ_self _)) _ _ _ ?_ hS ?_
          · rw [zc, zl00]; rw [zl_zl] at hZ; exact hZ
          exact lv_sub hl [0, 1, 2] rfl
        · skip
          refine lv_goto (tgt := 85) hx hb dX3_cleans_19 (by decide) ?_
          refine zz_inc (k := 0) (lv' := [(1, .int (nI (i + 1))), (0, .ref (ad 0 0))]) hx hb dX3_cleans_85 hl rfl (Nat.le_of_ble_eq_true rfl) rfl (fun ls hl => ?_)
          refine lv_goto (tgt := 2) hx hb dX3_cleans_88 (by decide) ?_
          refine ih_i (i + 1) (by omega) (by omega) _ _ _ ?_ hS ?_
          · first | (rw [zcl, if_pos (by assumption)]; exact hZ) | (rw [zcl, if_neg (by assumption)]; rw [zl10] at hZ; exact hZ)
          · skip
            exact lv_sub hl [0, 1] rfl
  refine hL_2 (N 0 0 + 1) 0 (by first | omega | exact Nat.zero_le _) (by first | omega | (rw [Nat.zero_add]; exact Nat.lt_succ_self _)) _ _ _ ?_ hS ?_
  · rw [zcl, zl_id]; exact hZ
  exact lv_sub hl [0, 1] rfl
