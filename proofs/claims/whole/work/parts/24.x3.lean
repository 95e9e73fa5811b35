/-! by program (gen.py): contracts of methods -/
theorem zx_le {x : Int32} {n : Nat} (h1 : 1 ≤ n) (hn : n < 2 ^ 30) : x ≤ nI (n - 1) ↔ ¬ nI n ≤ x := by
  rw [Int32.le_iff_toInt_le, Int32.le_iff_toInt_le, nI_toInt (by omega), nI_toInt (by omega)]
  omega
theorem znr_cl {S w : Nat} (hw : w < 6) : ∀ n, n ≤ 6 → ((∀ f, f < n → ¬ S.testBit f = true) ∧ (∀ c, znr c S w n = c)) ∨ (znr 100 S w n = znr 6 S w n ∧ znr 6 S w n ≤ 5)
  | 0, _ => Or.inl ⟨fun f hf => by omega, fun _ => rfl⟩
  | n + 1, hn => by
    have hd : zd n w ≤ 5 := by unfold zd; split <;> omega
    rcases znr_cl (S := S) hw n (by omega) with ⟨h1, h2⟩ | ⟨h1, h2⟩
    · by_cases q : S.testBit n = true
      · right
        rw [znr, znr, h2, h2, if_pos ⟨q, by omega⟩, if_pos ⟨q, by omega⟩]
        exact ⟨rfl, hd⟩
      · left
        refine ⟨fun f hf => ?_, fun c => ?_⟩
        · by_cases e : f = n
          · rw [e]; exact q
          · exact h1 f (by omega)
        · rw [znr, if_neg (fun z => q z.1), h2]
    · right
      rw [znr, znr, h1]
      by_cases q : S.testBit n = true ∧ zd n w < znr 6 S w n
      · rw [if_pos q]; exact ⟨rfl, hd⟩
      · rw [if_neg q]; exact ⟨rfl, h2⟩
theorem zls_cl {N : zN} (h : zq N) {S : Nat} (hf : zfit N S) : zls 100 N S = zls 6 N S := by
  have h0 := h.f
  unfold zls
  congr 1
  refine zsum_c fun k hk => ?_
  show 3 * znr 100 S (N 10 k) (N 0 0) = 3 * znr 6 S (N 10 k) (N 0 0)
  have hw := h.bf k hk
  rcases znr_cl (S := S) (w := N 10 k) (by omega) (N 0 0) h0 with ⟨h1, -⟩ | ⟨h1, -⟩
  · have hz : zss N S = 0 := by
      unfold zss
      rw [zsum_c (g := fun _ => 0) (fun f hf => if_neg (h1 f hf))]
      exact zsum_z _
    unfold zfit at hf
    omega
  · rw [h1]
def zml (N : zN) (n : Nat) : Int32 := if zbt N n = 0 then 2147483647 else nI (zls 100 N (zbt N n - 1))
theorem zbt_fit {N : zN} : ∀ n, zbt N n ≠ 0 → zfit N (zbt N n - 1)
  | 0, h => absurd rfl h
  | n + 1, h => by
    rw [zbt] at h ⊢
    by_cases q : zfit N n ∧ (zbt N n = 0 ∨ zls 6 N n < zls 6 N (zbt N n - 1))
    · rw [if_pos q]; exact q.1
    · rw [if_neg q] at h ⊢; exact zbt_fit n h
theorem zml_max {N : zN} (h : zq N) (n : Nat) : zml N n ≤ 2147483647 := by
  unfold zml
  split
  · exact Int32.le_refl _
  · have := zls_b h (c := 100) (zbt N n - 1) (by decide)
    rw [Int32.le_iff_toInt_le, nI_toInt (by omega)]
    have e : (2147483647 : Int32).toInt = 2147483647 := by decide
    rw [e]; omega
theorem zml_le {N : zN} (h : zq N) {n S : Nat} (hf : zfit N S) : zml N n ≤ nI (zls 100 N S) ↔ ¬ (zbt N n = 0 ∨ zls 6 N S < zls 6 N (zbt N n - 1)) := by
  have b1 := zls_b h (c := 100) S (by decide)
  have b2 := zls_b h (c := 100) (zbt N n - 1) (by decide)
  unfold zml
  by_cases q : zbt N n = 0
  · rw [if_pos q, Int32.le_iff_toInt_le, nI_toInt (by omega)]
    have e : (2147483647 : Int32).toInt = 2147483647 := by decide
    rw [e]
    constructor
    · intro z; omega
    · intro z; exact absurd (Or.inl q) z
  · rw [if_neg q, nI_leI (by omega) (by omega), zls_cl h hf, zls_cl h (zbt_fit n q)]
    omega
theorem zbt_s {N : zN} (h : zq N) {S : Nat} (hf : zfit N S) (c : ¬ zml N S ≤ nI (zls 100 N S)) : zbt N (S + 1) = S + 1 := by
  rw [zml_le h hf] at c
  rw [zbt, if_pos ⟨hf, Classical.not_not.mp c⟩]
theorem zbt_k {N : zN} (h : zq N) {S : Nat} (hf : zfit N S) (c : zml N S ≤ nI (zls 100 N S)) : zbt N (S + 1) = zbt N S := by
  rw [zml_le h hf] at c
  rw [zbt, if_neg (fun z => c z.2)]
theorem zbt_n {N : zN} {S : Nat} (hf : ¬ zfit N S) : zbt N (S + 1) = zbt N S := by
  rw [zbt, if_neg (fun z => hf z.1)]
theorem zbt_1 {N : zN} (h0 : N 0 2 = 0) : ∀ n, zbt N (n + 1) = 1
  | 0 => by rw [zbt, if_pos ⟨by unfold zfit; omega, Or.inl rfl⟩]
  | n + 1 => by
    rw [zbt, zbt_1 h0 n]
    have hz : zls 6 N 0 = 0 := by
      unfold zls zcs
      rw [h0, zsum_c (g := fun _ => 0) (fun f _ => by simp), zsum_z]
      rfl
    rw [if_neg]
    rintro ⟨-, h | h⟩
    · omega
    · rw [hz] at h; omega
theorem zplan_t {N : zN} (_ : zq N) : zbt N (2 ^ N 0 0) - 1 = zplan N := by
  unfold zplan
  by_cases h0 : N 0 2 = 0
  · rw [if_pos h0]
    have h1 := Nat.two_pow_pos (N 0 0)
    have := zbt_1 h0 (2 ^ N 0 0 - 1)
    rw [show 2 ^ N 0 0 - 1 + 1 = 2 ^ N 0 0 by omega] at this
    omega
  · rw [if_neg h0]
theorem zd_X2_allFloors : yX2_allFloors.cls ≠ "java/lang/invoke/MethodHandle" ∧ yX2_allFloors.cls ≠ "java/lang/invoke/VarHandle" ∧ (parseMethodDescriptor yX2_allFloors.desc).map (fun d => d.parameters.length) = some 0 := by decide +kernel
theorem zd_X2_fits : yX2_fits.cls ≠ "java/lang/invoke/MethodHandle" ∧ yX2_fits.cls ≠ "java/lang/invoke/VarHandle" ∧ (parseMethodDescriptor yX2_fits.desc).map (fun d => d.parameters.length) = some 1 := by decide +kernel
theorem zd_X2_lossOfSet : yX2_lossOfSet.cls ≠ "java/lang/invoke/MethodHandle" ∧ yX2_lossOfSet.cls ≠ "java/lang/invoke/VarHandle" ∧ (parseMethodDescriptor yX2_lossOfSet.desc).map (fun d => d.parameters.length) = some 1 := by decide +kernel
set_option maxHeartbeats 4000000 in
set_option maxRecDepth 100000 in
theorem c_X2_planByTrying (l : Launch) {K : zz_G} {A : Nat → Prop} {ad : Nat → Nat → Nat} {E : Nat → Nat → Int32} {cap : Nat → Nat} {N : Nat → Nat → Nat} {G : Nat → Nat → Int32} {L : Nat → Int64} (hI : zq N) (hk : zk K ad cap N)  : zz_C l yX2_planByTrying cX2_planByTrying 6 (Option.some FieldType.int) ({ frames := 5, cells := 0, slots := 0, locals := 113 } : Room) K A [.ref (ad 0 0)] (fun H => zz_W K A ad (zx_c K ad E cap N G L) H) (fun v9 _ _ => v9 = some (.int (nI (zplan N)))) zz_nx zz_no := by
  refine zz_body (by decide +kernel) (Nat.le_of_ble_eq_true rfl) ?_
  intro p e s m below meth c ls hx hb hr hml hts hown hlocks hmn htab hE hA hP hl
  have hN := hE.N
  have hK := hE.K
  have hown : s.vm.findClass RX2 = some m.cls := hown
  have hl : lv_has ls 6 [(0, .ref (ad 0 0))] := hl
  have hZ : zz_Z K A s ad (zx_c K ad E cap N G L) s.heap := ⟨hE, hA, hP⟩
  have hS : va_S zz_no s.heap s.heap [] := va_S.rf
  obtain ⟨H, hH⟩ : ∃ z, z = s.heap := ⟨_, rfl⟩
  have hS0 : va_S zz_no s.heap H [] := by rw [hH]; exact hS
  rw [← hH] at hZ
  have hE0 := hE
  clear hS
  have hS := hS0
  have hB := hI.B
  have hbk := hI.bk
  have h00 := hI.f
  have h01 := hI.p
  have h02 := hI.b
  have hk0 := hk 0 (by decide)
  have hk1 := hk 1 (by decide)
  have hk2 := hk 2 (by decide)
  have hUx := zss_b hI
  have hUb : ∀ S, zls 100 N S < 2 ^ 31 := fun S => by have := zls_b hI (c := 100) S (by decide); omega
  have hUa : ∀ S, zss N S < 2 ^ 31 := fun S => by have := zss_b hI S; omega
  have hp2 : 2 ^ N 0 0 ≤ 64 := Nat.le_trans (Nat.pow_le_pow_right (by decide) h00) (by decide)
  have hp1 := Nat.two_pow_pos (N 0 0)
  show W p l e _ s m _ below meth c s.heap [] 0 0 _ (F0 m 0 ls [])
  rw [← hH]
  refine zz_con 0 hx hb dX2_planByTrying_0 (by decide) ?_
  refine lv_istore_n (lv' := [(1, .int (nI 0)), (0, .ref (ad 0 0))]) hx hb dX2_planByTrying_1 rfl hl (Nat.le_of_ble_eq_true rfl) rfl (fun ls hl => ?_)
  refine lv_ldc (v := 2147483647) hx hb hown (hts _ zw_100) dX2_planByTrying_2 ?_
  refine lv_istore_n (lv' := [(2, .int 2147483647), (1, .int (nI 0)), (0, .ref (ad 0 0))]) hx hb dX2_planByTrying_4 rfl hl (Nat.le_of_ble_eq_true rfl) rfl (fun ls hl => ?_)
  refine lv_aload_n hx hb dX2_planByTrying_5 rfl (lv_at hl 2 rfl) ?_
  refine zz_after (pc := 6) rfl (zz_runV (ci := 5) (q0 := (RX2, TX2, 8)) (b := ad 0 0) (As := []) (rest := []) hx hb hml hown hts (c_X2_allFloors l (K := K) (A := A) (ad := ad) (E := E) (cap := cap) (N := N) (G := G) (L := L) hI hk ) zw_153 zw_155 zs_4 zw_1 zw_156 zd_X2_allFloors ⟨Nat.le_of_ble_eq_true rfl, Nat.le_of_ble_eq_true rfl⟩ hZ.E hZ.A (zx_ob hZ.W).1 rfl rfl hZ.W hl.1 (Nat.le_of_ble_eq_true rfl) dX2_planByTrying_6 ⟨Nat.le_of_ble_eq_true rfl, Nat.le_of_ble_eq_true rfl⟩) hS (fun _ h => h.elim) (fun v_3 H locs hq_1 hF_2 hS => ?_)
  refine W.widen (k := 0) (n := 0) (Nat.le_of_ble_eq_true rfl) (Nat.le_of_ble_eq_true rfl) ?_
  obtain rfl := hq_1
  have hZ := hZ.ro hF_2
  refine W.eq (g2 := F0 m 9 ls [.int (nI (2 ^ N 0 0 - 1))]) rfl ?_
  refine lv_istore_n (lv' := [(3, .int (nI (2 ^ N 0 0 - 1))), (2, .int 2147483647), (1, .int (nI 0)), (0, .ref (ad 0 0))]) hx hb dX2_planByTrying_9 rfl hl (Nat.le_of_ble_eq_true rfl) rfl (fun ls hl => ?_)
  refine zz_con 0 hx hb dX2_planByTrying_10 (by decide) ?_
  refine lv_istore (lv' := [(4, .int (nI 0)), (3, .int (nI (2 ^ N 0 0 - 1))), (2, .int 2147483647), (1, .int (nI 0)), (0, .ref (ad 0 0))]) hx hb dX2_planByTrying_11 hl (Nat.le_of_ble_eq_true rfl) rfl (fun ls hl => ?_)
  have hL_5 : ∀ (k i : Nat), i ≤ 2 ^ N 0 0 → 2 ^ N 0 0 < i + k → ∀ (H : Heap) (locs : List Loc) (ls : Array Slot), zz_Z K A s ad (zx_c K ad E cap N G L) H → va_S zz_no s.heap H locs → lv_has ls 6 [(4, .int (nI i)), (3, .int (nI (2 ^ N 0 0 - 1))), (2, .int (zml N i)), (1, .int (nI (zbt N i - 1))), (0, .ref (ad 0 0))] → W p l e ({ frames := 5, cells := 0, slots := 0, locals := 113 } : Room) s m ([.ref (ad 0 0)] : List Value).toArray below meth c H locs 0 0 (vx_MQ below (zz_Qc (fun v9 _ _ => v9 = some (.int (nI (zplan N)))) zz_no) (zz_XC zz_nx) ([.ref (ad 0 0)] : List Value).toArray s ({ frames := 5, cells := 0, slots := 0, locals := 113 } : Room).cells ({ frames := 5, cells := 0, slots := 0, locals := 113 } : Room).slots zz_no) (F0 m 13 ls []) := by
    intro k
    induction k with
    | zero => intro i hi hik; omega
    | succ k ih_i =>
      intro i hii hiki H locs ls hZ hS hl
      have hbl := zbt_le N i
      refine lv_iload hx hb dX2_planByTrying_13 (lv_at hl 0 rfl) ?_
      refine lv_iload_n hx hb dX2_planByTrying_15 rfl (lv_at hl 1 rfl) ?_
      refine zz_ic_gt (tgt := 59) (by first | exact hB _ _ | exact hUa _ | exact hUb _ | exact hUc _ | exact hUd _ | omega) (by first | exact hB _ _ | exact hUa _ | exact hUb _ | exact hUc _ | exact hUd _ | omega) hx hb dX2_planByTrying_16 (by decide) (fun c_6 => ?_) (fun c_6 => ?_)
      · skip
        obtain rfl : i = 2 ^ N 0 0 := by omega
        refine lv_iload_n hx hb dX2_planByTrying_59 rfl (lv_at hl 3 rfl) ?_
        refine zz_iret hx hb hr hlocks hS (Nat.le_of_ble_eq_true rfl) (Nat.le_of_ble_eq_true rfl) dX2_planByTrying_60 ?_
        first | rfl | (exact congrArg (fun z => some (Value.int (nI z))) (zplan_t hI); done) | (simp [c_6]; done) | (simp_all; done) | (split <;> first | rfl | omega | (simp_all; done); done)
      · skip
        refine lv_aload_n hx hb dX2_planByTrying_19 rfl (lv_at hl 4 rfl) ?_
        refine lv_iload hx hb dX2_planByTrying_20 (lv_at hl 0 rfl) ?_
        refine zz_after (pc := 22) rfl (zz_runV (ci := 5) (q0 := (RX2, TX2, 8)) (b := ad 0 0) (As := [.int (nI i)]) (rest := []) hx hb hml hown hts (c_X2_fits l (K := K) (A := A) (ad := ad) (E := E) (cap := cap) (N := N) (G := G) (L := L) hI hk (by first | exact hB _ _ | exact hUa _ | exact hUb _ | exact hUc _ | exact hUd _ | omega)) zw_157 zw_159 zs_5 zw_1 zw_160 zd_X2_fits ⟨Nat.le_of_ble_eq_true rfl, Nat.le_of_ble_eq_true rfl⟩ hZ.E hZ.A (zx_ob hZ.W).1 rfl rfl hZ.W hl.1 (Nat.le_of_ble_eq_true rfl) dX2_planByTrying_22 ⟨Nat.le_of_ble_eq_true rfl, Nat.le_of_ble_eq_true rfl⟩) hS (fun _ h => h.elim) (fun v_9 H locs hq_7 hF_8 hS => ?_)
        refine W.widen (k := 0) (n := 0) (Nat.le_of_ble_eq_true rfl) (Nat.le_of_ble_eq_true rfl) ?_
        obtain rfl := hq_7
        have hZ := hZ.ro hF_8
        refine W.eq (g2 := F0 m 25 ls [.int (zz_bo (zfit N i))]) rfl ?_
        refine zz_bi_eq (tgt := 37) hx hb dX2_planByTrying_25 (by decide) (fun c_10 => ?_) (fun c_10 => ?_)
        · skip
          refine lv_ldc (v := 2147483647) hx hb hown (hts _ zw_100) dX2_planByTrying_37 ?_
          refine lv_istore (lv' := [(5, .int 2147483647), (4, .int (nI i)), (3, .int (nI (2 ^ N 0 0 - 1))), (2, .int (zml N i)), (1, .int (nI (zbt N i - 1))), (0, .ref (ad 0 0))]) hx hb dX2_planByTrying_39 hl (Nat.le_of_ble_eq_true rfl) rfl (fun ls hl => ?_)
          refine lv_iload hx hb dX2_planByTrying_41 (lv_at hl 0 rfl) ?_
          refine lv_iload_n hx hb dX2_planByTrying_43 rfl (lv_at hl 3 rfl) ?_
          refine lv_icmp_ge (tgt := 53) hx hb dX2_planByTrying_44 (by decide) (fun c_11 => ?_) (fun c_11 => ?_)
          · skip
            have hbt := zbt_n (N := N) (S := i) (by assumption)
            refine zz_inc (k := 1) (lv' := [(4, .int (nI (i + 1))), (5, .int 2147483647), (3, .int (nI (2 ^ N 0 0 - 1))), (2, .int (zml N i)), (1, .int (nI (zbt N i - 1))), (0, .ref (ad 0 0))]) hx hb dX2_planByTrying_53 hl rfl (Nat.le_of_ble_eq_true rfl) rfl (fun ls hl => ?_)
            refine lv_goto (tgt := 13) hx hb dX2_planByTrying_56 (by decide) ?_
            refine ih_i (i + 1) (by omega) (by omega) _ _ _ ?_ hS ?_
            · exact hZ
            · skip
              rw [show (.int (nI (zbt N (i + 1) - 1)) : Value) = .int (nI (zbt N i - 1)) from congrArg Value.int (by first | rfl | (rw [hbt]; done) | ((unfold zml; rw [hbt]); done) | ((unfold zml; rw [hbt, if_neg (by omega)]; rfl); done) | ((rw [hbt]; rfl); done))]
              rw [show (.int (zml N (i + 1)) : Value) = .int (zml N i) from congrArg Value.int (by first | rfl | (rw [hbt]; done) | ((unfold zml; rw [hbt]); done) | ((unfold zml; rw [hbt, if_neg (by omega)]; rfl); done) | ((rw [hbt]; rfl); done))]
              exact lv_sub hl [0, 2, 3, 4, 5] rfl
          · skip
            exact absurd (zml_max hI i) c_11
        · skip
          refine lv_aload_n hx hb dX2_planByTrying_28 rfl (lv_at hl 4 rfl) ?_
          refine lv_iload hx hb dX2_planByTrying_29 (lv_at hl 0 rfl) ?_
          refine zz_after (pc := 31) rfl (zz_runV (ci := 5) (q0 := (RX2, TX2, 8)) (b := ad 0 0) (As := [.int (nI i)]) (rest := []) hx hb hml hown hts (c_X2_lossOfSet l (K := K) (A := A) (ad := ad) (E := E) (cap := cap) (N := N) (G := G) (L := L) hI hk (by first | exact hB _ _ | exact hUa _ | exact hUb _ | exact hUc _ | exact hUd _ | omega)) zw_170 zw_172 zs_7 zw_1 zw_173 zd_X2_lossOfSet ⟨Nat.le_of_ble_eq_true rfl, Nat.le_of_ble_eq_true rfl⟩ hZ.E hZ.A (zx_ob hZ.W).1 rfl rfl hZ.W hl.1 (Nat.le_of_ble_eq_true rfl) dX2_planByTrying_31 ⟨Nat.le_of_ble_eq_true rfl, Nat.le_of_ble_eq_true rfl⟩) hS (fun _ h => h.elim) (fun v_14 H locs hq_12 hF_13 hS => ?_)
          refine W.widen (k := 0) (n := 0) (Nat.le_of_ble_eq_true rfl) (Nat.le_of_ble_eq_true rfl) ?_
          obtain rfl := hq_12
          have hZ := hZ.ro hF_13
          refine W.eq (g2 := F0 m 34 ls [.int (nI (zls 100 N i))]) rfl ?_
          refine lv_goto (tgt := 39) hx hb dX2_planByTrying_34 (by decide) ?_
          refine lv_istore (lv' := [(5, .int (nI (zls 100 N i))), (4, .int (nI i)), (3, .int (nI (2 ^ N 0 0 - 1))), (2, .int (zml N i)), (1, .int (nI (zbt N i - 1))), (0, .ref (ad 0 0))]) hx hb dX2_planByTrying_39 hl (Nat.le_of_ble_eq_true rfl) rfl (fun ls hl => ?_)
          refine lv_iload hx hb dX2_planByTrying_41 (lv_at hl 0 rfl) ?_
          refine lv_iload_n hx hb dX2_planByTrying_43 rfl (lv_at hl 3 rfl) ?_
          refine lv_icmp_ge (tgt := 53) hx hb dX2_planByTrying_44 (by decide) (fun c_15 => ?_) (fun c_15 => ?_)
          · skip
            have hbt := zbt_k hI (by assumption) c_15
            refine zz_inc (k := 1) (lv' := [(4, .int (nI (i + 1))), (5, .int (nI (zls 100 N i))), (3, .int (nI (2 ^ N 0 0 - 1))), (2, .int (zml N i)), (1, .int (nI (zbt N i - 1))), (0, .ref (ad 0 0))]) hx hb dX2_planByTrying_53 hl rfl (Nat.le_of_ble_eq_true rfl) rfl (fun ls hl => ?_)
            refine lv_goto (tgt := 13) hx hb dX2_planByTrying_56 (by decide) ?_
            refine ih_i (i + 1) (by omega) (by omega) _ _ _ ?_ hS ?_
            · exact hZ
            · skip
              rw [show (.int (nI (zbt N (i + 1) - 1)) : Value) = .int (nI (zbt N i - 1)) from congrArg Value.int (by first | rfl | (rw [hbt]; done) | ((unfold zml; rw [hbt]); done) | ((unfold zml; rw [hbt, if_neg (by omega)]; rfl); done) | ((rw [hbt]; rfl); done))]
              rw [show (.int (zml N (i + 1)) : Value) = .int (zml N i) from congrArg Value.int (by first | rfl | (rw [hbt]; done) | ((unfold zml; rw [hbt]); done) | ((unfold zml; rw [hbt, if_neg (by omega)]; rfl); done) | ((rw [hbt]; rfl); done))]
              exact lv_sub hl [0, 2, 3, 4, 5] rfl
          · skip
            have hbt := zbt_s hI (by assumption) c_15
            refine lv_iload hx hb dX2_planByTrying_47 (lv_at hl 1 rfl) ?_
            refine lv_istore_n (lv' := [(1, .int (nI i)), (5, .int (nI (zls 100 N i))), (4, .int (nI i)), (3, .int (nI (2 ^ N 0 0 - 1))), (2, .int (zml N i)), (0, .ref (ad 0 0))]) hx hb dX2_planByTrying_49 rfl hl (Nat.le_of_ble_eq_true rfl) rfl (fun ls hl => ?_)
            refine lv_iload hx hb dX2_planByTrying_50 (lv_at hl 1 rfl) ?_
            refine lv_istore_n (lv' := [(2, .int (nI (zls 100 N i))), (1, .int (nI i)), (5, .int (nI (zls 100 N i))), (4, .int (nI i)), (3, .int (nI (2 ^ N 0 0 - 1))), (0, .ref (ad 0 0))]) hx hb dX2_planByTrying_52 rfl hl (Nat.le_of_ble_eq_true rfl) rfl (fun ls hl => ?_)
            refine zz_inc (k := 3) (lv' := [(4, .int (nI (i + 1))), (2, .int (nI (zls 100 N i))), (1, .int (nI i)), (5, .int (nI (zls 100 N i))), (3, .int (nI (2 ^ N 0 0 - 1))), (0, .ref (ad 0 0))]) hx hb dX2_planByTrying_53 hl rfl (Nat.le_of_ble_eq_true rfl) rfl (fun ls hl => ?_)
            refine lv_goto (tgt := 13) hx hb dX2_planByTrying_56 (by decide) ?_
            refine ih_i (i + 1) (by omega) (by omega) _ _ _ ?_ hS ?_
            · exact hZ
            · skip
              rw [show (.int (nI (zbt N (i + 1) - 1)) : Value) = .int (nI i) from congrArg Value.int (by first | rfl | (rw [hbt]; done) | ((unfold zml; rw [hbt]); done) | ((unfold zml; rw [hbt, if_neg (by omega)]; rfl); done) | ((rw [hbt]; rfl); done))]
              rw [show (.int (zml N (i + 1)) : Value) = .int (nI (zls 100 N i)) from congrArg Value.int (by first | rfl | (rw [hbt]; done) | ((unfold zml; rw [hbt]); done) | ((unfold zml; rw [hbt, if_neg (by omega)]; rfl); done) | ((rw [hbt]; rfl); done))]
              exact lv_sub hl [0, 4, 1, 2, 5] rfl
  refine hL_5 (2 ^ N 0 0 + 1) 0 (by first | omega | exact Nat.zero_le _) (by first | omega | (rw [Nat.zero_add]; exact Nat.lt_succ_self _)) _ _ _ hZ hS ?_
  exact lv_sub hl [0, 1, 2, 3, 4] rfl
