/-! by program (gen.py): contracts of methods -/
theorem zdr_o {N : zN} {i : Nat} : ∀ n, (∀ b, b < n → N 9 b ≠ i) → zdr N n 11 i = N 11 i
  | 0, _ => rfl
  | n + 1, h => by
    rw [zdr, zdr_k (by decide), zu_i (fun e => h n (by omega) e.symm)]
    exact zdr_o n (fun b hb => h b (by omega))
theorem zday_eq {N : zN} (hI : zq N) : zu (zu (zu (zdr (zs_gd (zdM N) 11) (zs_gd (zdM N) 11 0 2)) 0 2 0) 12 1 (N 12 1 + zmiss N (N 0 1))) 12 0 (N 12 0 + 1) = zs_dayN N := by
  have kd : ∀ k i, k ≠ 3 → k ≠ 5 → k ≠ 6 → k ≠ 7 → k ≠ 8 → zs_gd (zdM N) 11 k i = N k i := fun k i h3 h5 h6 h7 h8 => by rw [zs_gd_k h6, zdM_k h3 h5 h6 h7 h8]
  have d02 := kd 0 2 (by decide) (by decide) (by decide) (by decide) (by decide)
  funext k i
  unfold zs_dayN
  by_cases k11 : k = 11
  · subst k11
    rw [zu_k (by decide), zu_k (by decide), zu_k (by decide), zu_k (by decide), zu_k (by decide), zu_k (by decide), d02]
    by_cases hi : i < N 0 1
    · rw [if_pos ⟨rfl, hi⟩]
      by_cases h0 : N 11 i = 0
      · have := zdr_le (N := zs_gd (zdM N) 11) 11 i (N 0 2)
        rw [kd 11 i (by decide) (by decide) (by decide) (by decide) (by decide)] at this
        omega
      · obtain ⟨b, hb, e⟩ := hI.on i hi h0
        have := zdr_z (N := zs_gd (zdM N) 11) (b := b) (N 0 2) hb
        rw [kd 9 b (by decide) (by decide) (by decide) (by decide) (by decide), e] at this
        exact this
    · rw [if_neg (fun z => hi z.2)]
      exact zdr_o _ (fun b hb e => by
        rw [kd 9 b (by decide) (by decide) (by decide) (by decide) (by decide)] at e
        have := hI.bk b hb
        omega)
  · rw [if_neg (fun z => k11 z.1)]
    by_cases h12 : k = 12
    · subst h12
      by_cases h0 : i = 0
      · subst h0; rw [zu_s, zu_i (by decide), zu_s]
      · rw [zu_i h0]
        by_cases h1 : i = 1
        · subst h1; rw [zu_s, zu_s]
        · rw [zu_i h1, zu_i h1, zu_i h0, zu_k (by decide), zu_k (by decide), zdr_k (by decide)]
    · rw [zu_k h12, zu_k h12, zu_k h12, zu_k h12]
      by_cases h02 : k = 0 ∧ i = 2
      · obtain ⟨rfl, rfl⟩ := h02; rw [zu_s, zu_s]
      · rw [zu_n h02, zu_n h02, zdr_k k11]
theorem zd_X2_cleanOpenFloors : yX2_cleanOpenFloors.cls ≠ "java/lang/invoke/MethodHandle" ∧ yX2_cleanOpenFloors.cls ≠ "java/lang/invoke/VarHandle" ∧ (parseMethodDescriptor yX2_cleanOpenFloors.desc).map (fun d => d.parameters.length) = some 0 := by decide +kernel
theorem zd_X2_countNoShows : yX2_countNoShows.cls ≠ "java/lang/invoke/MethodHandle" ∧ yX2_countNoShows.cls ≠ "java/lang/invoke/VarHandle" ∧ (parseMethodDescriptor yX2_countNoShows.desc).map (fun d => d.parameters.length) = some 0 := by decide +kernel
theorem zd_X2_dropBookings : yX2_dropBookings.cls ≠ "java/lang/invoke/MethodHandle" ∧ yX2_dropBookings.cls ≠ "java/lang/invoke/VarHandle" ∧ (parseMethodDescriptor yX2_dropBookings.desc).map (fun d => d.parameters.length) = some 0 := by decide +kernel
theorem zd_X2_giveSeats : yX2_giveSeats.cls ≠ "java/lang/invoke/MethodHandle" ∧ yX2_giveSeats.cls ≠ "java/lang/invoke/VarHandle" ∧ (parseMethodDescriptor yX2_giveSeats.desc).map (fun d => d.parameters.length) = some 0 := by decide +kernel
theorem zd_X2_judgePeople : yX2_judgePeople.cls ≠ "java/lang/invoke/MethodHandle" ∧ yX2_judgePeople.cls ≠ "java/lang/invoke/VarHandle" ∧ (parseMethodDescriptor yX2_judgePeople.desc).map (fun d => d.parameters.length) = some 0 := by decide +kernel
theorem zd_X2_openFloorsOf : yX2_openFloorsOf.cls ≠ "java/lang/invoke/MethodHandle" ∧ yX2_openFloorsOf.cls ≠ "java/lang/invoke/VarHandle" ∧ (parseMethodDescriptor yX2_openFloorsOf.desc).map (fun d => d.parameters.length) = some 1 := by decide +kernel
theorem zd_X2_sendPeopleHome : yX2_sendPeopleHome.cls ≠ "java/lang/invoke/MethodHandle" ∧ yX2_sendPeopleHome.cls ≠ "java/lang/invoke/VarHandle" ∧ (parseMethodDescriptor yX2_sendPeopleHome.desc).map (fun d => d.parameters.length) = some 0 := by decide +kernel
set_option maxHeartbeats 4000000 in
set_option maxRecDepth 100000 in
theorem c_X2_nextDay (l : Launch) (hfl : l.stackTraces = false) {K : zz_G} {A : Nat → Prop} {ad : Nat → Nat → Nat} {E : Nat → Nat → Int32} {cap : Nat → Nat} {N : Nat → Nat → Nat} {G : Nat → Nat → Int32} {L : Nat → Int64} (hI : zq N) (hk : zk K ad cap N)  : zz_C l yX2_nextDay cX2_nextDay 2 (Option.some FieldType.int) ({ frames := 8, cells := 1, slots := 6, locals := 185 } : Room) K A [.ref (ad 0 0)] (fun H => zz_W K A ad (zx_c K ad E cap N G L) H) (fun v9 _ H9 => (zs_day N L).1 = 0 ∧ v9 = some (.int (zs_day N L).2.1) ∧ ∃ E9, zz_W K A ad (zx_c K ad E9 cap (zs_day N L).2.2.1 G (zs_day N L).2.2.2) H9) (fun E9 _ _ => (E9 = "java/lang/IllegalStateException" ∧ (zs_day N L).1 = 1)) A := by
  refine zz_body (by decide +kernel) (Nat.le_of_ble_eq_true rfl) ?_
  intro p e s m below meth c ls hx hb hr hml hts hown hlocks hmn htab hE hA hP hl
  have hN := hE.N
  have hK := hE.K
  have hown : s.vm.findClass RX2 = some m.cls := hown
  have hl : lv_has ls 2 [(0, .ref (ad 0 0))] := hl
  have hZ : zz_Z K A s ad (zx_c K ad E cap N G L) s.heap := ⟨hE, hA, hP⟩
  have hS : va_S zz_no s.heap s.heap [] := va_S.rf
  obtain ⟨H, hH⟩ : ∃ z, z = s.heap := ⟨_, rfl⟩
  have hS0 : va_S zz_no s.heap H [] := by rw [hH]; exact hS
  rw [← hH] at hZ
  have hE0 := hE
  clear hS
  have hS := hS0
  have hB := hI.B
  have hbk := hI.bk
  have h00 := hI.f
  have h01 := hI.p
  have h02 := hI.b
  have hk0 := hk 0 (by decide)
  have hk1 := hk 1 (by decide)
  have hk2 := hk 2 (by decide)
  have hI0 := hI
  have hd := hI.d
  have hmb := zmiss_b hI
  have hk9 := hk
  show W p l e _ s m _ below meth c s.heap [] 0 0 _ (F0 m 0 ls [])
  rw [← hH]
  refine lv_aload_n hx hb dX2_nextDay_0 rfl (lv_at hl 0 rfl) ?_
  refine zz_get (ci := 5) (C := RX2) (T := TX2) (N := 8) (v := .int (nI (N 12 0))) hx hb hts hown hK (zx_ob hZ.W).1 rfl zf_X2 3 (by decide) zw_62 (fun _ h9 => h9) rfl dX2_nextDay_1 ?_
  refine lv_sipush (v := nI 365) hx hb dX2_nextDay_4 (by decide) ?_
  refine zz_ic_lt (tgt := 20) (by first | exact hB _ _ | exact hUa _ | exact hUb _ | exact hUc _ | exact hUd _ | omega) (by decide) hx hb dX2_nextDay_7 (by decide) (fun c_1 => ?_) (fun c_1 => ?_)
  · skip
    refine lv_aload_n hx hb dX2_nextDay_20 rfl (lv_at hl 0 rfl) ?_
    refine zz_after (pc := 21) rfl (zz_runV (ci := 5) (q0 := (RX2, TX2, 8)) (b := ad 0 0) (As := []) (rest := []) hx hb hml hown hts (c_X2_countNoShows l (K := K) (A := A) (ad := ad) (E := E) (cap := cap) (N := N) (G := G) (L := L) hI hk ) zw_612 zw_614 zs_20 zw_1 zw_615 zd_X2_countNoShows ⟨Nat.le_of_ble_eq_true rfl, Nat.le_of_ble_eq_true rfl⟩ hZ.E hZ.A (zx_ob hZ.W).1 rfl rfl hZ.W hl.1 (Nat.le_of_ble_eq_true rfl) dX2_nextDay_21 ⟨Nat.le_of_ble_eq_true rfl, Nat.le_of_ble_eq_true rfl⟩) hS (fun _ h => h.elim) (fun v_4 H locs hq_2 hF_3 hS => ?_)
    refine W.widen (k := 0) (n := 0) (Nat.le_of_ble_eq_true rfl) (Nat.le_of_ble_eq_true rfl) ?_
    obtain rfl := hq_2
    have hZ := hZ.ro hF_3
    refine W.eq (g2 := F0 m 24 ls [.int (nI (zmiss N (N 0 1)))]) rfl ?_
    refine lv_istore_n (lv' := [(1, .int (nI (zmiss N (N 0 1)))), (0, .ref (ad 0 0))]) hx hb dX2_nextDay_24 rfl hl (Nat.le_of_ble_eq_true rfl) rfl (fun ls hl => ?_)
    refine lv_aload_n hx hb dX2_nextDay_25 rfl (lv_at hl 1 rfl) ?_
    have hS : va_S A s.heap H _ := zz_Smono hS (fun _ h => h.elim)
    refine zz_after (pc := 26) rfl (zz_runV (ci := 5) (q0 := (RX2, TX2, 8)) (b := ad 0 0) (As := []) (rest := []) hx hb hml hown hts (c_X2_judgePeople l (K := K) (A := A) (ad := ad) (E := E) (cap := cap) (N := N) (G := G) (L := L) hI hk ) zw_620 zw_622 zs_21 zw_1 zw_623 zd_X2_judgePeople ⟨Nat.le_of_ble_eq_true rfl, Nat.le_of_ble_eq_true rfl⟩ hZ.E hZ.A (zx_ob hZ.W).1 rfl rfl hZ.W hl.1 (Nat.le_of_ble_eq_true rfl) dX2_nextDay_26 ⟨Nat.le_of_ble_eq_true rfl, Nat.le_of_ble_eq_true rfl⟩) hS (fun _ h => h) (fun v_7 H locs hq_5 hF_6 hS => ?_)
    refine W.widen (k := 0) (n := 0) (Nat.le_of_ble_eq_true rfl) (Nat.le_of_ble_eq_true rfl) ?_
    obtain ⟨rfl, hW9⟩ := hq_5
    have hZ : zz_Z K A s ad (zx_c K ad E cap (zjn N (N 0 1)) G L) H := hZ.mut hF_6 hW9
    refine W.eq (g2 := F0 m 29 ls []) rfl ?_
    have hI := zjn_q hI0 (N 0 1)
    refine lv_aload_n hx hb dX2_nextDay_29 rfl (lv_at hl 1 rfl) ?_
    refine zz_after (pc := 30) rfl (zz_runV (ci := 5) (q0 := (RX2, TX2, 8)) (b := ad 0 0) (As := []) (rest := []) hx hb hml hown hts (c_X2_cleanOpenFloors l (K := K) (A := A) (ad := ad) (E := E) (cap := cap) (N := (zjn N (N 0 1))) (G := G) (L := L) hI hk ) zw_630 zw_632 zs_22 zw_1 zw_633 zd_X2_cleanOpenFloors ⟨Nat.le_of_ble_eq_true rfl, Nat.le_of_ble_eq_true rfl⟩ hZ.E hZ.A (zx_ob hZ.W).1 rfl rfl hZ.W hl.1 (Nat.le_of_ble_eq_true rfl) dX2_nextDay_30 ⟨Nat.le_of_ble_eq_true rfl, Nat.le_of_ble_eq_true rfl⟩) hS (fun _ h => h) (fun v_10 H locs hq_8 hF_9 hS => ?_)
    refine W.widen (k := 0) (n := 0) (Nat.le_of_ble_eq_true rfl) (Nat.le_of_ble_eq_true rfl) ?_
    obtain ⟨rfl, hW9⟩ := hq_8
    have hZ : zz_Z K A s ad (zx_c K ad E cap (zjn N (N 0 1)) G (zl L 2 (zcl (zjn N (N 0 1)) (L 2) ((zjn N (N 0 1)) 0 0)))) H := hZ.mut hF_9 hW9
    refine W.eq (g2 := F0 m 33 ls []) rfl ?_
    refine lv_aload_n hx hb dX2_nextDay_33 rfl (lv_at hl 1 rfl) ?_
    refine zz_after (pc := 34) rfl (zz_runV (ci := 5) (q0 := (RX2, TX2, 8)) (b := ad 0 0) (As := []) (rest := []) hx hb hml hown hts (c_X2_sendPeopleHome l (K := K) (A := A) (ad := ad) (E := E) (cap := cap) (N := (zjn N (N 0 1))) (G := G) (L := (zl L 2 (zcl (zjn N (N 0 1)) (L 2) ((zjn N (N 0 1)) 0 0)))) hI hk ) zw_638 zw_640 zs_24 zw_1 zw_641 zd_X2_sendPeopleHome ⟨Nat.le_of_ble_eq_true rfl, Nat.le_of_ble_eq_true rfl⟩ hZ.E hZ.A (zx_ob hZ.W).1 rfl rfl hZ.W hl.1 (Nat.le_of_ble_eq_true rfl) dX2_nextDay_34 ⟨Nat.le_of_ble_eq_true rfl, Nat.le_of_ble_eq_true rfl⟩) hS (fun _ h => h) (fun v_13 H locs hq_11 hF_12 hS => ?_)
    refine W.widen (k := 0) (n := 0) (Nat.le_of_ble_eq_true rfl) (Nat.le_of_ble_eq_true rfl) ?_
    obtain ⟨rfl, hW9⟩ := hq_11
    have hZ : zz_Z K A s ad (zx_c K ad E cap (zho (zjn N (N 0 1)) ((zjn N (N 0 1)) 0 1)) G (zl L 2 (zcl (zjn N (N 0 1)) (L 2) ((zjn N (N 0 1)) 0 0)))) H := hZ.mut hF_12 hW9
    refine W.eq (g2 := F0 m 37 ls []) rfl ?_
    have hI := zho_q (zjn_q hI0 (N 0 1)) (N 0 1)
    refine lv_aload_n hx hb dX2_nextDay_37 rfl (lv_at hl 1 rfl) ?_
    refine lv_aload_n hx hb dX2_nextDay_38 rfl (lv_at hl 1 rfl) ?_
    refine zz_after (pc := 39) rfl (zz_runV (ci := 5) (q0 := (RX2, TX2, 8)) (b := ad 0 0) (As := []) (rest := [.ref (ad 0 0)]) hx hb hml hown hts (c_X2_plan l (K := K) (A := A) (ad := ad) (E := E) (cap := cap) (N := (zho (zjn N (N 0 1)) ((zjn N (N 0 1)) 0 1))) (G := G) (L := (zl L 2 (zcl (zjn N (N 0 1)) (L 2) ((zjn N (N 0 1)) 0 0)))) hI hk ) zw_213 zw_93 zw_94 zw_1 zw_95 zd_X2_plan ⟨Nat.le_of_ble_eq_true rfl, Nat.le_of_ble_eq_true rfl⟩ hZ.E hZ.A (zx_ob hZ.W).1 rfl rfl hZ.W hl.1 (Nat.le_of_ble_eq_true rfl) dX2_nextDay_39 ⟨Nat.le_of_ble_eq_true rfl, Nat.le_of_ble_eq_true rfl⟩) hS (fun _ h => h) (fun v_16 H locs hq_14 hF_15 hS => ?_)
    refine W.widen (k := 0) (n := 0) (Nat.le_of_ble_eq_true rfl) (Nat.le_of_ble_eq_true rfl) ?_
    obtain ⟨rfl, hW9⟩ := hq_14
    have hZ : zz_Z K A s ad (zx_c K ad (zfE (zho (zjn N (N 0 1)) ((zjn N (N 0 1)) 0 1)) E) cap (zho (zjn N (N 0 1)) ((zjn N (N 0 1)) 0 1)) G (zl L 2 (zcl (zjn N (N 0 1)) (L 2) ((zjn N (N 0 1)) 0 0)))) H := hZ.mut hF_15 hW9
    refine W.eq (g2 := F0 m 42 ls [.int (nI (zplan (zho (zjn N (N 0 1)) ((zjn N (N 0 1)) 0 1)))), .ref (ad 0 0)]) rfl ?_
    have hUz9 : zplan (zho (zjn N (N 0 1)) ((zjn N (N 0 1)) 0 1)) < 2 ^ 31 := zplan_b hI
    refine zz_after (pc := 42) rfl (zz_runV (ci := 5) (q0 := (RX2, TX2, 8)) (b := ad 0 0) (As := [.int (nI (zplan (zho (zjn N (N 0 1)) ((zjn N (N 0 1)) 0 1))))]) (rest := []) hx hb hml hown hts (c_X2_openFloorsOf l (K := K) (A := A) (ad := ad) (E := (zfE (zho (zjn N (N 0 1)) ((zjn N (N 0 1)) 0 1)) E)) (cap := cap) (N := (zho (zjn N (N 0 1)) ((zjn N (N 0 1)) 0 1))) (G := G) (L := (zl L 2 (zcl (zjn N (N 0 1)) (L 2) ((zjn N (N 0 1)) 0 0)))) hI hk (by first | exact hB _ _ | exact hUa _ | exact hUb _ | exact hUc _ | exact hUd _ | omega)) zw_646 zw_648 zs_25 zw_1 zw_649 zd_X2_openFloorsOf ⟨Nat.le_of_ble_eq_true rfl, Nat.le_of_ble_eq_true rfl⟩ hZ.E hZ.A (zx_ob hZ.W).1 rfl rfl hZ.W hl.1 (Nat.le_of_ble_eq_true rfl) dX2_nextDay_42 ⟨Nat.le_of_ble_eq_true rfl, Nat.le_of_ble_eq_true rfl⟩) hS (fun _ h => h) (fun v_19 H locs hq_17 hF_18 hS => ?_)
    refine W.widen (k := 0) (n := 0) (Nat.le_of_ble_eq_true rfl) (Nat.le_of_ble_eq_true rfl) ?_
    obtain ⟨rfl, hW9⟩ := hq_17
    have hZ : zz_Z K A s ad (zx_c K ad (zfE (zho (zjn N (N 0 1)) ((zjn N (N 0 1)) 0 1)) E) cap (zso (zho (zjn N (N 0 1)) ((zjn N (N 0 1)) 0 1)) (zplan (zho (zjn N (N 0 1)) ((zjn N (N 0 1)) 0 1))) ((zho (zjn N (N 0 1)) ((zjn N (N 0 1)) 0 1)) 0 0)) G (zl L 2 (zcl (zjn N (N 0 1)) (L 2) ((zjn N (N 0 1)) 0 0)))) H := hZ.mut hF_18 hW9
    refine W.eq (g2 := F0 m 45 ls []) rfl ?_
    have eM : (zso (zho (zjn N (N 0 1)) ((zjn N (N 0 1)) 0 1)) (zplan (zho (zjn N (N 0 1)) ((zjn N (N 0 1)) 0 1))) ((zho (zjn N (N 0 1)) ((zjn N (N 0 1)) 0 1)) 0 0)) = zdM N := by (show zso (zho (zjn N (N 0 1)) (N 0 1)) (zplan (zho (zjn N (N 0 1)) (N 0 1))) (N 0 0) = zdM N; rw [show zplan (zho (zjn N (N 0 1)) (N 0 1)) = zplan N from zplan_co rfl rfl rfl rfl]; exact (zso_zho _ _ _ _).symm)
    rw [eM] at hZ
    have hI := zdM_q hI0
    have hk : zk K ad cap (zdM N) := fun t ht => by (rw [zdM_k (by decide) (by decide) (by decide) (by decide) (by decide)]; exact hk t ht)
    refine lv_aload_n hx hb dX2_nextDay_45 rfl (lv_at hl 1 rfl) ?_
    refine zz_after (pc := 46) rfl (zz_runV (ci := 5) (q0 := (RX2, TX2, 8)) (b := ad 0 0) (As := []) (rest := []) hx hb hml hown hts (c_X2_giveSeats l (K := K) (A := A) (ad := ad) (E := (zfE (zho (zjn N (N 0 1)) ((zjn N (N 0 1)) 0 1)) E)) (cap := cap) (N := (zdM N)) (G := G) (L := (zl L 2 (zcl (zjn N (N 0 1)) (L 2) ((zjn N (N 0 1)) 0 0)))) hI hk ) zw_650 zw_652 zs_26 zw_1 zw_653 zd_X2_giveSeats ⟨Nat.le_of_ble_eq_true rfl, Nat.le_of_ble_eq_true rfl⟩ hZ.E hZ.A (zx_ob hZ.W).1 rfl rfl hZ.W hl.1 (Nat.le_of_ble_eq_true rfl) dX2_nextDay_46 ⟨Nat.le_of_ble_eq_true rfl, Nat.le_of_ble_eq_true rfl⟩) hS (fun _ h => h) (fun v_22 H locs hq_20 hF_21 hS => ?_)
    refine W.widen (k := 0) (n := 0) (Nat.le_of_ble_eq_true rfl) (Nat.le_of_ble_eq_true rfl) ?_
    obtain ⟨rfl, hW9⟩ := hq_20
    have hZ : zz_Z K A s ad (zx_c K ad (zfE (zho (zjn N (N 0 1)) ((zjn N (N 0 1)) 0 1)) E) cap (zs_gd (zdM N) 11) G (zl L 2 (zcl (zjn N (N 0 1)) (L 2) ((zjn N (N 0 1)) 0 0)))) H := hZ.mut hF_21 hW9
    refine W.eq (g2 := F0 m 49 ls []) rfl ?_
    have hI := zs_gd_q hI 11
    have hk : zk K ad cap (zs_gd (zdM N) 11) := fun t ht => by (rw [zs_gd_k (by decide)]; exact hk t ht)
    refine lv_aload_n hx hb dX2_nextDay_49 rfl (lv_at hl 1 rfl) ?_
    refine zz_after (pc := 50) rfl (zz_runV (ci := 5) (q0 := (RX2, TX2, 8)) (b := ad 0 0) (As := []) (rest := []) hx hb hml hown hts (c_X2_dropBookings l (K := K) (A := A) (ad := ad) (E := (zfE (zho (zjn N (N 0 1)) ((zjn N (N 0 1)) 0 1)) E)) (cap := cap) (N := (zs_gd (zdM N) 11)) (G := G) (L := (zl L 2 (zcl (zjn N (N 0 1)) (L 2) ((zjn N (N 0 1)) 0 0)))) hI hk) zw_666 zw_668 zs_30 zw_1 zw_669 zd_X2_dropBookings ⟨Nat.le_of_ble_eq_true rfl, Nat.le_of_ble_eq_true rfl⟩ hZ.E hZ.A (zx_ob hZ.W).1 rfl rfl hZ.W hl.1 (Nat.le_of_ble_eq_true rfl) dX2_nextDay_50 ⟨Nat.le_of_ble_eq_true rfl, Nat.le_of_ble_eq_true rfl⟩) hS (fun _ h => h) (fun v_25 H locs hq_23 hF_24 hS => ?_)
    refine W.widen (k := 0) (n := 0) (Nat.le_of_ble_eq_true rfl) (Nat.le_of_ble_eq_true rfl) ?_
    obtain ⟨rfl, E9, hW9⟩ := hq_23
    have hZ : zz_Z K A s ad (zx_c K ad E9 cap (zu (zdr (zs_gd (zdM N) 11) ((zs_gd (zdM N) 11) 0 2)) 0 2 0) G (zl L 2 (zcl (zjn N (N 0 1)) (L 2) ((zjn N (N 0 1)) 0 0)))) H := hZ.mut hF_24 hW9
    refine W.eq (g2 := F0 m 53 ls []) rfl ?_
    have d0 : (zu (zdr (zs_gd (zdM N) 11) ((zs_gd (zdM N) 11) 0 2)) 0 2 0) 12 0 = N 12 0 := by rw [zu_k (by decide), zdr_k (by decide), zs_gd_k (by decide), zdM_k (by decide) (by decide) (by decide) (by decide) (by decide)]
    have d1 : (zu (zdr (zs_gd (zdM N) 11) ((zs_gd (zdM N) 11) 0 2)) 0 2 0) 12 1 = N 12 1 := by rw [zu_k (by decide), zdr_k (by decide), zs_gd_k (by decide), zdM_k (by decide) (by decide) (by decide) (by decide) (by decide)]
    refine lv_aload_n hx hb dX2_nextDay_53 rfl (lv_at hl 1 rfl) ?_
    refine lv_dup hx hb dX2_nextDay_54 rfl ?_
    refine zz_get (ci := 5) (C := RX2) (T := TX2) (N := 8) (v := .int (nI ((zu (zdr (zs_gd (zdM N) 11) ((zs_gd (zdM N) 11) 0 2)) 0 2 0) 12 1))) hx hb hts hown hK (zx_ob hZ.W).1 rfl zf_X2 4 (by decide) zw_63 (fun _ h9 => h9) rfl dX2_nextDay_55 ?_
    refine lv_iload_n hx hb dX2_nextDay_58 rfl (lv_at hl 0 rfl) ?_
    refine zz_add hx hb dX2_nextDay_59 ?_
    have haA_29 := (zx_ob hZ.W).2
    refine zz_put (ci := 5) (C := RX2) (T := TX2) (N := 8) (v := .int (nI (((zu (zdr (zs_gd (zdM N) 11) ((zs_gd (zdM N) 11) 0 2)) 0 2 0) 12 1) + (zmiss N (N 0 1))))) (ty1 := .int) hx hb hts hown hK hS (zx_ob hZ.W).1 haA_29 rfl zf_X2 tyX2_ok nmX2 4 (by decide) zw_63 (fun _ h9 => h9) rfl (by decide +kernel) rfl rfl (Nat.le_of_ble_eq_true rfl) dX2_nextDay_60 (fun H locs ha_27 hz_28 ho_26 hS => ?_)
    have hZ : zz_Z K A s ad (zx_c K ad E9 cap (zu (zu (zdr (zs_gd (zdM N) 11) ((zs_gd (zdM N) 11) 0 2)) 0 2 0) 12 1 (((zu (zdr (zs_gd (zdM N) 11) ((zs_gd (zdM N) 11) 0 2)) 0 2 0) 12 1) + (zmiss N (N 0 1)))) G (zl L 2 (zcl (zjn N (N 0 1)) (L 2) ((zjn N (N 0 1)) 0 0)))) H := hZ.put haA_29 hz_28 ho_26 (zx_put_noShows hZ.W ha_27 ho_26)
    refine lv_aload_n hx hb dX2_nextDay_63 rfl (lv_at hl 1 rfl) ?_
    refine lv_dup hx hb dX2_nextDay_64 rfl ?_
    refine zz_get (ci := 5) (C := RX2) (T := TX2) (N := 8) (v := .int (nI ((zu (zdr (zs_gd (zdM N) 11) ((zs_gd (zdM N) 11) 0 2)) 0 2 0) 12 0))) hx hb hts hown hK (zx_ob hZ.W).1 rfl zf_X2 3 (by decide) zw_62 (fun _ h9 => h9) rfl dX2_nextDay_65 ?_
    refine zz_con 1 hx hb dX2_nextDay_68 (by decide) ?_
    refine zz_add hx hb dX2_nextDay_69 ?_
    have haA_33 := (zx_ob hZ.W).2
    refine zz_put (ci := 5) (C := RX2) (T := TX2) (N := 8) (v := .int (nI (((zu (zdr (zs_gd (zdM N) 11) ((zs_gd (zdM N) 11) 0 2)) 0 2 0) 12 0) + 1))) (ty1 := .int) hx hb hts hown hK hS (zx_ob hZ.W).1 haA_33 rfl zf_X2 tyX2_ok nmX2 3 (by decide) zw_62 (fun _ h9 => h9) rfl (by decide +kernel) rfl rfl (Nat.le_of_ble_eq_true rfl) dX2_nextDay_70 (fun H locs ha_31 hz_32 ho_30 hS => ?_)
    have hZ : zz_Z K A s ad (zx_c K ad E9 cap (zu (zu (zu (zdr (zs_gd (zdM N) 11) ((zs_gd (zdM N) 11) 0 2)) 0 2 0) 12 1 (((zu (zdr (zs_gd (zdM N) 11) ((zs_gd (zdM N) 11) 0 2)) 0 2 0) 12 1) + (zmiss N (N 0 1)))) 12 0 (((zu (zdr (zs_gd (zdM N) 11) ((zs_gd (zdM N) 11) 0 2)) 0 2 0) 12 0) + 1)) G (zl L 2 (zcl (zjn N (N 0 1)) (L 2) ((zjn N (N 0 1)) 0 0)))) H := hZ.put haA_33 hz_32 ho_30 (zx_put_day hZ.W ha_31 ho_30)
    refine lv_iload_n hx hb dX2_nextDay_73 rfl (lv_at hl 0 rfl) ?_
    refine zz_iret hx hb hr hlocks hS (Nat.le_of_ble_eq_true rfl) (Nat.le_of_ble_eq_true rfl) dX2_nextDay_74 ?_
    have eL : (zl L 2 (zcl (zjn N (N 0 1)) (L 2) ((zjn N (N 0 1)) 0 0))) = zl L 2 (zcl N (L 2) (N 0 0)) := congrArg (zl L 2) (zcl_co (N := N) (N' := (zjn N (N 0 1))) rfl rfl rfl rfl _ _)
    have eN : (zu (zu (zu (zdr (zs_gd (zdM N) 11) ((zs_gd (zdM N) 11) 0 2)) 0 2 0) 12 1 (((zu (zdr (zs_gd (zdM N) 11) ((zs_gd (zdM N) 11) 0 2)) 0 2 0) 12 1) + (zmiss N (N 0 1)))) 12 0 (((zu (zdr (zs_gd (zdM N) 11) ((zs_gd (zdM N) 11) 0 2)) 0 2 0) 12 0) + 1)) = zs_dayN N := by
      rw [d0, d1]
      exact zday_eq hI0
    have e9 : zs_day N L = (0, nI (zmiss N (N 0 1)), zs_dayN N, zl L 2 (zcl N (L 2) (N 0 0))) := by (unfold zs_day; rw [if_neg (by omega)])
    rw [e9]
    refine ⟨rfl, rfl, E9, ?_⟩
    rw [← eN, ← eL]
    exact hZ.W
  · skip
    refine zz_throw (cls := "java/lang/IllegalStateException") (is := 149) hx hb hfl hown hts hE0 zx_60 zw_312 zw_10 zt_149 hS (fun _ h => h) hl.1 hml dX2_nextDay_10 dX2_nextDay_13 dX2_nextDay_14 dX2_nextDay_16 dX2_nextDay_19 htab (Nat.le_of_ble_eq_true rfl) (Nat.le_of_ble_eq_true rfl) (Nat.le_of_ble_eq_true rfl) (Nat.le_of_ble_eq_true rfl) hlocks (fun H9 hf9 => ?_) (Nat.le_of_ble_eq_true rfl) (Nat.le_of_ble_eq_true rfl)
    exact ⟨rfl, by (unfold zs_day; rw [if_pos (by omega)])⟩
