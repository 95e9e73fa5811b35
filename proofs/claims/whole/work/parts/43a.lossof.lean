/-! by program (gen.py): contracts of methods -/
set_option maxHeartbeats 4000000 in
set_option maxRecDepth 100000 in
theorem c_X2_lossOf (l : Launch) (hfl : l.stackTraces = false) {K : zz_G} {A : Nat → Prop} {ad : Nat → Nat → Nat} {E : Nat → Nat → Int32} {cap : Nat → Nat} {N : Nat → Nat → Nat} {G : Nat → Nat → Int32} {L : Nat → Int64} (hI : zq N) (hk : zk K ad cap N) (x : Int32) : zz_C l yX2_lossOf cX2_lossOf 2 (Option.some FieldType.int) ({ frames := 6, cells := 1, slots := 6, locals := 113 } : Room) K A [.ref (ad 0 0), .int x] (fun H => zz_W K A ad (zx_c K ad E cap N G L) H) (fun v9 _ H9 => (zs_lossOf N x).1 = 0 ∧ v9 = some (.int (zs_lossOf N x).2)) (fun E9 _ _ => (E9 = "java/lang/IllegalArgumentException" ∧ (zs_lossOf N x).1 = 1) ∨ (E9 = "java/lang/UnsupportedOperationException" ∧ (zs_lossOf N x).1 = 2)) zz_no := by
  refine zz_body (by decide +kernel) (Nat.le_of_ble_eq_true rfl) ?_
  intro p e s m below meth c ls hx hb hr hml hts hown hlocks hmn htab hE hA hP hl
  have hN := hE.N
  have hK := hE.K
  have hown : s.vm.findClass RX2 = some m.cls := hown
  have hl : lv_has ls 2 [(0, .ref (ad 0 0)), (1, .int x)] := hl
  have hZ : zz_Z K A s ad (zx_c K ad E cap N G L) s.heap := ⟨hE, hA, hP⟩
  have hS : va_S zz_no s.heap s.heap [] := va_S.rf
  obtain ⟨H, hH⟩ : ∃ z, z = s.heap := ⟨_, rfl⟩
  have hS0 : va_S zz_no s.heap H [] := by rw [hH]; exact hS
  rw [← hH] at hZ
  have hE0 := hE
  clear hS
  have hS := hS0
  have hB := hI.B
  have hbk := hI.bk
  have h00 := hI.f
  have h01 := hI.p
  have h02 := hI.b
  have hk0 := hk 0 (by decide)
  have hk1 := hk 1 (by decide)
  have hk2 := hk 2 (by decide)
  have hnk : ∀ f, nI (f + 1) - 1 = nI f := fun f => (zz_nk f).symm
  have hnk0 : nI 0 - 1 = -1 := zz_k0.symm
  have hUx := zss_b hI
  have hUb : ∀ S, zls 100 N S < 2 ^ 31 := fun S => by have := zls_b hI (c := 100) S (by decide); omega
  have hUa : ∀ S, zss N S < 2 ^ 31 := fun S => by have := zss_b hI S; omega
  have hp2 : 2 ^ N 0 0 ≤ 64 := Nat.le_trans (Nat.pow_le_pow_right (by decide) h00) (by decide)
  have hp1 := Nat.two_pow_pos (N 0 0)
  show W p l e _ s m _ below meth c s.heap [] 0 0 _ (F0 m 0 ls [])
  rw [← hH]
  refine lv_iload_n hx hb dX2_lossOf_0 rfl (lv_at hl 1 rfl) ?_
  refine lv_if_lt (tgt := 12) hx hb dX2_lossOf_1 (by decide) (fun c_1 => ?_) (fun c_1 => ?_)
  · skip
    refine zz_throw (cls := "java/lang/IllegalArgumentException") (is := 145) hx hb hfl hown hts hE0 zx_45 zw_236 zw_9 zt_145 hS (fun _ h => h) hl.1 hml dX2_lossOf_12 dX2_lossOf_15 dX2_lossOf_16 dX2_lossOf_18 dX2_lossOf_21 htab (Nat.le_of_ble_eq_true rfl) (Nat.le_of_ble_eq_true rfl) (Nat.le_of_ble_eq_true rfl) (Nat.le_of_ble_eq_true rfl) hlocks (fun H9 hf9 => ?_) (Nat.le_of_ble_eq_true rfl) (Nat.le_of_ble_eq_true rfl)
    exact Or.inl ⟨rfl, by (unfold zs_lossOf; rw [if_pos (fun h => by first | exact h.1 (by assumption) | exact absurd ((zx_le (by omega) (by omega)).mpr h.2) (by assumption))])⟩
  · skip
    refine lv_iload_n hx hb dX2_lossOf_4 rfl (lv_at hl 1 rfl) ?_
    refine lv_aload_n hx hb dX2_lossOf_5 rfl (lv_at hl 0 rfl) ?_
    refine zz_after (pc := 6) rfl (zz_runV (ci := 5) (q0 := (RX2, TX2, 8)) (b := ad 0 0) (As := []) (rest := [.int x]) hx hb hml hown hts (c_X2_allFloors l (K := K) (A := A) (ad := ad) (E := E) (cap := cap) (N := N) (G := G) (L := L) hI hk ) zw_153 zw_155 zs_4 zw_1 zw_156 zd_X2_allFloors ⟨Nat.le_of_ble_eq_true rfl, Nat.le_of_ble_eq_true rfl⟩ hZ.E hZ.A (zx_ob hZ.W).1 rfl rfl hZ.W hl.1 (Nat.le_of_ble_eq_true rfl) dX2_lossOf_6 ⟨Nat.le_of_ble_eq_true rfl, Nat.le_of_ble_eq_true rfl⟩) hS (fun _ h => h.elim) (fun v_4 H locs hq_2 hF_3 hS => ?_)
    refine W.widen (k := 0) (n := 0) (Nat.le_of_ble_eq_true rfl) (Nat.le_of_ble_eq_true rfl) ?_
    obtain rfl := hq_2
    have hZ := hZ.ro hF_3
    refine W.eq (g2 := F0 m 9 ls [.int (nI (2 ^ N 0 0 - 1)), .int x]) rfl ?_
    refine lv_icmp_le (tgt := 22) hx hb dX2_lossOf_9 (by decide) (fun c_5 => ?_) (fun c_5 => ?_)
    · skip
      obtain ⟨j, hj, rfl⟩ := zz_rng (n := 2 ^ N 0 0) (by omega) (by assumption) ((zx_le (by omega) (by omega)).mp c_5)
      have hjc : (nI j).toNatClampNeg = j := nI_clamp (by omega)
      have hjb : j < 2 ^ 31 := by omega
      have hzj := zin_nI hj (show 2 ^ N 0 0 < 2 ^ 31 by omega)
      refine lv_aload_n hx hb dX2_lossOf_22 rfl (lv_at hl 0 rfl) ?_
      refine lv_iload_n hx hb dX2_lossOf_23 rfl (lv_at hl 1 rfl) ?_
      refine zz_after (pc := 24) rfl (zz_runV (ci := 5) (q0 := (RX2, TX2, 8)) (b := ad 0 0) (As := [.int (nI j)]) (rest := []) hx hb hml hown hts (c_X2_fits l (K := K) (A := A) (ad := ad) (E := E) (cap := cap) (N := N) (G := G) (L := L) hI hk (by first | exact hB _ _ | exact hUa _ | exact hUb _ | exact hUc _ | exact hUd _ | omega)) zw_157 zw_159 zs_5 zw_1 zw_160 zd_X2_fits ⟨Nat.le_of_ble_eq_true rfl, Nat.le_of_ble_eq_true rfl⟩ hZ.E hZ.A (zx_ob hZ.W).1 rfl rfl hZ.W hl.1 (Nat.le_of_ble_eq_true rfl) dX2_lossOf_24 ⟨Nat.le_of_ble_eq_true rfl, Nat.le_of_ble_eq_true rfl⟩) hS (fun _ h => h.elim) (fun v_8 H locs hq_6 hF_7 hS => ?_)
      refine W.widen (k := 0) (n := 0) (Nat.le_of_ble_eq_true rfl) (Nat.le_of_ble_eq_true rfl) ?_
      obtain rfl := hq_6
      have hZ := hZ.ro hF_7
      refine W.eq (g2 := F0 m 27 ls [.int (zz_bo (zfit N j))]) rfl ?_
      refine zz_bi_ne (tgt := 40) hx hb dX2_lossOf_27 (by decide) (fun c_9 => ?_) (fun c_9 => ?_)
      · skip
        refine lv_aload_n hx hb dX2_lossOf_40 rfl (lv_at hl 0 rfl) ?_
        refine lv_iload_n hx hb dX2_lossOf_41 rfl (lv_at hl 1 rfl) ?_
        refine zz_after (pc := 42) rfl (zz_runV (ci := 5) (q0 := (RX2, TX2, 8)) (b := ad 0 0) (As := [.int (nI j)]) (rest := []) hx hb hml hown hts (c_X2_lossOfSet l (K := K) (A := A) (ad := ad) (E := E) (cap := cap) (N := N) (G := G) (L := L) hI hk (by first | exact hB _ _ | exact hUa _ | exact hUb _ | exact hUc _ | exact hUd _ | omega)) zw_170 zw_172 zs_7 zw_1 zw_173 zd_X2_lossOfSet ⟨Nat.le_of_ble_eq_true rfl, Nat.le_of_ble_eq_true rfl⟩ hZ.E hZ.A (zx_ob hZ.W).1 rfl rfl hZ.W hl.1 (Nat.le_of_ble_eq_true rfl) dX2_lossOf_42 ⟨Nat.le_of_ble_eq_true rfl, Nat.le_of_ble_eq_true rfl⟩) hS (fun _ h => h.elim) (fun v_12 H locs hq_10 hF_11 hS => ?_)
        refine W.widen (k := 0) (n := 0) (Nat.le_of_ble_eq_true rfl) (Nat.le_of_ble_eq_true rfl) ?_
        obtain rfl := hq_10
        have hZ := hZ.ro hF_11
        refine W.eq (g2 := F0 m 45 ls [.int (nI (zls 100 N j))]) rfl ?_
        refine zz_iret hx hb hr hlocks hS (Nat.le_of_ble_eq_true rfl) (Nat.le_of_ble_eq_true rfl) dX2_lossOf_45 ?_
        have e9 : (zs_lossOf N (nI j)) = (0, nI (zls 100 N j)) := by first | (simp [zs_lossOf, c_1, c_5, hjc, c_9]; done) | (simp_all [zs_lossOf]; done) | (unfold zs_lossOf; rw [if_neg (fun h => h hzj), if_neg (fun h => h (by rw [hjc]; assumption)), hjc, zls_cl hI (by assumption)])
        rw [e9]; exact ⟨rfl, rfl⟩
      · skip
        refine zz_throw (cls := "java/lang/UnsupportedOperationException") (is := 147) hx hb hfl hown hts hE0 zx_111 zw_550 zw_23 zt_147 hS (fun _ h => h) hl.1 hml dX2_lossOf_30 dX2_lossOf_33 dX2_lossOf_34 dX2_lossOf_36 dX2_lossOf_39 htab (Nat.le_of_ble_eq_true rfl) (Nat.le_of_ble_eq_true rfl) (Nat.le_of_ble_eq_true rfl) (Nat.le_of_ble_eq_true rfl) hlocks (fun H9 hf9 => ?_) (Nat.le_of_ble_eq_true rfl) (Nat.le_of_ble_eq_true rfl)
        exact Or.inr ⟨rfl, by (unfold zs_lossOf; rw [if_neg (fun h => h hzj), if_pos (by rw [hjc]; assumption)])⟩
    · skip
      refine zz_throw (cls := "java/lang/IllegalArgumentException") (is := 145) hx hb hfl hown hts hE0 zx_45 zw_236 zw_9 zt_145 hS (fun _ h => h) hl.1 hml dX2_lossOf_12 dX2_lossOf_15 dX2_lossOf_16 dX2_lossOf_18 dX2_lossOf_21 htab (Nat.le_of_ble_eq_true rfl) (Nat.le_of_ble_eq_true rfl) (Nat.le_of_ble_eq_true rfl) (Nat.le_of_ble_eq_true rfl) hlocks (fun H9 hf9 => ?_) (Nat.le_of_ble_eq_true rfl) (Nat.le_of_ble_eq_true rfl)
      exact Or.inl ⟨rfl, by (unfold zs_lossOf; rw [if_pos (fun h => by first | exact h.1 (by assumption) | exact absurd ((zx_le (by omega) (by omega)).mpr h.2) (by assumption))])⟩
