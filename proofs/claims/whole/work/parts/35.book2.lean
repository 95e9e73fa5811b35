/-! by program (gen.py): contracts of methods -/
/-- nobody of the first n bookings wants a floor -/
def zdr (N : zN) : Nat → zN
  | 0 => N
  | n + 1 => zu (zdr N n) 11 (zdr N n 9 n) 0
theorem zdr_k {N : zN} {k i : Nat} (h : k ≠ 11) : ∀ n, zdr N n k i = N k i
  | 0 => rfl
  | n + 1 => by rw [zdr, zu_k h, zdr_k h n]
theorem zdr_le {N : zN} (k i : Nat) : ∀ n, zdr N n k i ≤ N k i
  | 0 => Nat.le_refl _
  | n + 1 => by
    rw [zdr]
    by_cases q : k = 11 ∧ i = zdr N n 9 n
    · obtain ⟨rfl, rfl⟩ := q; rw [zu_s]; omega
    · rw [zu_n q]; exact zdr_le k i n
theorem zdr_z {N : zN} {b : Nat} : ∀ n, b < n → zdr N n 11 (N 9 b) = 0
  | 0, h => by omega
  | n + 1, h => by
    rw [zdr, zdr_k (by decide)]
    by_cases q : N 9 b = N 9 n
    · rw [q, zu_s]
    · rw [zu_i q]
      exact zdr_z n (by by_cases e : b = n; exact absurd (by rw [e]) q; omega)
theorem zsp_11 {N : zN} {j v m n : Nat} : zu (zsp (zu N 0 2 n) m n) 11 j v = zsp (zu (zu N 11 j v) 0 2 n) m n := by
  funext k i
  by_cases q : k = 11 ∧ i = j
  · obtain ⟨rfl, rfl⟩ := q
    rw [zu_s, zx_nk (by decide) (by decide) (by omega), zu_s]
  · rw [zu_n q]
    unfold zsp
    by_cases c : (k = 9 ∨ k = 10) ∧ m ≤ i ∧ i < n
    · rw [if_pos c, if_pos c, zu_k (show k ≠ 0 by omega), zu_k (show k ≠ 0 by omega), zu_k (show k ≠ 11 by omega)]
    · rw [if_neg c, if_neg c]
      by_cases d : k = 0 ∧ i = 2
      · obtain ⟨rfl, rfl⟩ := d; rw [zu_s, zu_s]
      · rw [zu_n d, zu_n d, zu_n q]
theorem zu_cm {N : zN} {k i v k' i' v' : Nat} (h : k ≠ k') : zu (zu N k i v) k' i' v' = zu (zu N k' i' v') k i v := by
  funext a b
  by_cases q : a = k'
  · subst q
    by_cases c : b = i'
    · subst c; rw [zu_s, zu_k (fun e => h e.symm), zu_s]
    · rw [zu_i c, zu_k (fun e => h e.symm), zu_k (fun e => h e.symm), zu_i c]
  · rw [zu_k q]
    by_cases d : a = k ∧ b = i
    · obtain ⟨rfl, rfl⟩ := d; rw [zu_s, zu_s]
    · rw [zu_n d, zu_n d, zu_k q]
theorem zu_b4 {N : zN} {a b c d e f g : Nat} : zu (zu (zu (zu N 9 a b) 10 c d) 0 2 e) 11 f g = zu (zu (zu (zu N 11 f g) 9 a b) 10 c d) 0 2 e := by
  rw [zu_cm (k := 0) (k' := 11) (by decide), zu_cm (k := 10) (k' := 11) (by decide), zu_cm (k := 9) (k' := 11) (by decide)]
theorem zx_peq {K : zz_G} {ad : Nat → Nat → Nat} {E : Nat → Nat → Int32} {cap : Nat → Nat} {N : Nat → Nat → Nat} {G : Nat → Nat → Int32} {L : Nat → Int64} {q : Nat} (h : q < N 0 1) : zx_c K ad E cap N G L 5 q = some (.inr (4, [.int (nI q), .int (nI (N 4 q)), .int (nI (N 5 q)), zz_rf (ad 3) (N 11 q), zz_rf (ad 3) (N 6 q), .int (nI (N 7 q)), .int (nI (N 8 q))])) := by
  simp only [zx_c]; rw [if_pos h]
theorem zx_el_no {ad : Nat → Nat → Nat} {N : zN} {t i : Nat} (h : N 0 t ≤ i) : zx_el ad N t i = none := by unfold zx_el; rw [if_neg (by omega)]
theorem zx_el_add {ad : Nat → Nat → Nat} {N : zN} {q w : Nat} : va_up (zx_el ad N 2) (N 0 2) (some (ad 5 q)) = zx_el ad (zu (zu (zu N 9 (N 0 2) q) 10 (N 0 2) w) 0 2 (N 0 2 + 1)) 2 := by
  funext x
  unfold va_up zx_el
  rw [zu_s, zu_k (show 9 ≠ 0 by decide), zu_k (show 9 ≠ 10 by decide)]
  simp only [show ¬ ((2 : Nat) = 0) by decide, show ¬ ((2 : Nat) = 1) by decide, if_false]
  by_cases c : x = N 0 2
  · subst c; rw [if_pos rfl, if_pos (by omega), zu_s]
  · rw [if_neg c]
    by_cases d : x < N 0 2
    · rw [if_pos d, if_pos (by omega), zu_i c]
    · rw [if_neg d, if_neg (by omega)]
theorem zk_add {K : zz_G} {ad : Nat → Nat → Nat} {cap : Nat → Nat} {N N' : zN} {n b9 cp9 : Nat} (hk : zk K ad cap N) (h1 : n ≤ cp9) (h2 : cp9 ≤ 40) (h3 : cp9 = 0 → b9 = K.2.2 0) (hn : N' 0 2 = n) (hN : ∀ t, t < 3 → t ≠ 2 → N' 0 t = N 0 t) : zk K (zadp ad 2 b9) (zcp cap 2 cp9) N' := fun t ht => by
  obtain ⟨a, b, c⟩ := hk t ht
  by_cases q : t = 2
  · subst q
    have e1 : zcp cap 2 cp9 2 = cp9 := by unfold zcp; rw [if_pos rfl]
    have e2 : zadp ad 2 b9 2 2 = b9 := by unfold zadp; rw [if_pos ⟨rfl, rfl⟩]
    rw [e1, e2, hn]; exact ⟨h1, h2, h3⟩
  · have e1 : zcp cap 2 cp9 t = cap t := by unfold zcp; rw [if_neg q]
    have e2 : zadp ad 2 b9 2 t = ad 2 t := by unfold zadp; rw [if_neg (fun z => q z.2)]
    rw [e1, e2, hN t ht q]; exact ⟨a, b, c⟩
theorem zss_af {N : zN} (_ : zq N) : zss N (2 ^ N 0 0 - 1) = zsum (fun f => N 1 f) (N 0 0) := zss_all _ fun f hf => by rw [Nat.testBit_two_pow_sub_one]; simpa using hf
theorem zd_Jx4a65c_add_9ea2d : yJx4a65c_add_9ea2d.cls ≠ "java/lang/invoke/MethodHandle" ∧ yJx4a65c_add_9ea2d.cls ≠ "java/lang/invoke/VarHandle" ∧ (parseMethodDescriptor yJx4a65c_add_9ea2d.desc).map (fun d => d.parameters.length) = some 1 := by decide +kernel
theorem zd_Jx4a65c_clear_da8c8 : yJx4a65c_clear_da8c8.cls ≠ "java/lang/invoke/MethodHandle" ∧ yJx4a65c_clear_da8c8.cls ≠ "java/lang/invoke/VarHandle" ∧ (parseMethodDescriptor yJx4a65c_clear_da8c8.desc).map (fun d => d.parameters.length) = some 0 := by decide +kernel
theorem zd_X2_removeBooking : yX2_removeBooking.cls ≠ "java/lang/invoke/MethodHandle" ∧ yX2_removeBooking.cls ≠ "java/lang/invoke/VarHandle" ∧ (parseMethodDescriptor yX2_removeBooking.desc).map (fun d => d.parameters.length) = some 1 := by decide +kernel
set_option maxHeartbeats 4000000 in
set_option maxRecDepth 100000 in
theorem c_X2_dropBookings (l : Launch) {K : zz_G} {A : Nat → Prop} {ad : Nat → Nat → Nat} {E : Nat → Nat → Int32} {cap : Nat → Nat} {N : Nat → Nat → Nat} {G : Nat → Nat → Int32} {L : Nat → Int64} (hI : zq N) (hk : zk K ad cap N)  : zz_C l yX2_dropBookings cX2_dropBookings 2 (Option.none : Option Jvm.ClassFile.FieldType) ({ frames := 3, cells := 0, slots := 0, locals := 64 } : Room) K A [.ref (ad 0 0)] (fun H => zz_W K A ad (zx_c K ad E cap N G L) H) (fun v9 _ H9 => v9 = none ∧ ∃ E9, zz_W K A ad (zx_c K ad E9 cap (zu (zdr N (N 0 2)) 0 2 0) G L) H9) zz_nx A := by
  refine zz_body (by decide +kernel) (Nat.le_of_ble_eq_true rfl) ?_
  intro p e s m below meth c ls hx hb hr hml hts hown hlocks hmn htab hE hA hP hl
  have hN := hE.N
  have hK := hE.K
  have hown : s.vm.findClass RX2 = some m.cls := hown
  have hl : lv_has ls 2 [(0, .ref (ad 0 0))] := hl
  have hZ : zz_Z K A s ad (zx_c K ad E cap N G L) s.heap := ⟨hE, hA, hP⟩
  have hS : va_S zz_no s.heap s.heap [] := va_S.rf
  obtain ⟨H, hH⟩ : ∃ z, z = s.heap := ⟨_, rfl⟩
  have hS0 : va_S zz_no s.heap H [] := by rw [hH]; exact hS
  rw [← hH] at hZ
  have hE0 := hE
  clear hS
  have hS := hS0
  have hB := hI.B
  have hbk := hI.bk
  have h00 := hI.f
  have h01 := hI.p
  have h02 := hI.b
  have hk0 := hk 0 (by decide)
  have hk1 := hk 1 (by decide)
  have hk2 := hk 2 (by decide)
  show W p l e _ s m _ below meth c s.heap [] 0 0 _ (F0 m 0 ls [])
  rw [← hH]
  refine zz_con 0 hx hb dX2_dropBookings_0 (by decide) ?_
  refine lv_istore_n (lv' := [(1, .int (nI 0)), (0, .ref (ad 0 0))]) hx hb dX2_dropBookings_1 rfl hl (Nat.le_of_ble_eq_true rfl) rfl (fun ls hl => ?_)
  have hS : va_S A s.heap H _ := zz_Smono hS (fun _ h => h.elim)
  have hL_2 : ∀ (k i : Nat), i ≤ N 0 2 → N 0 2 < i + k → ∀ (H : Heap) (locs : List Loc) (ls : Array Slot), zz_Z K A s ad (zx_c K ad E cap (zdr N i) G L) H → va_S A s.heap H locs → lv_has ls 2 [(1, .int (nI i)), (0, .ref (ad 0 0))] → W p l e ({ frames := 3, cells := 0, slots := 0, locals := 64 } : Room) s m ([.ref (ad 0 0)] : List Value).toArray below meth c H locs 0 0 (vx_MQ below (zz_Qc (fun v9 _ H9 => v9 = none ∧ ∃ E9, zz_W K A ad (zx_c K ad E9 cap (zu (zdr N (N 0 2)) 0 2 0) G L) H9) A) (zz_XC zz_nx) ([.ref (ad 0 0)] : List Value).toArray s ({ frames := 3, cells := 0, slots := 0, locals := 64 } : Room).cells ({ frames := 3, cells := 0, slots := 0, locals := 64 } : Room).slots A) (F0 m 2 ls []) := by
    intro k
    induction k with
    | zero => intro i hi hik; omega
    | succ k ih_i =>
      intro i hii hiki H locs ls hZ hS hl
      have hk : zk K ad cap (zdr N i) := fun t ht => by (rw [zdr_k (by decide)]; exact hk t ht)
      have hbk : ∀ k, k < (zdr N i) 0 2 → (zdr N i) 9 k < (zdr N i) 0 1 := fun k hk9 => by (rw [zdr_k (by decide)] at hk9; rw [zdr_k (by decide), zdr_k (by decide)]; exact hbk k hk9)
      have j02 : (zdr N i) 0 2 = N 0 2 := zdr_k (by decide) _
      have hB := fun a b => Nat.lt_of_le_of_lt (zdr_le (N := N) a b i) (hB a b)
      refine lv_iload_n hx hb dX2_dropBookings_2 rfl (lv_at hl 0 rfl) ?_
      refine lv_aload_n hx hb dX2_dropBookings_3 rfl (lv_at hl 1 rfl) ?_
      refine zz_get (ci := 5) (C := RX2) (T := TX2) (N := 8) (v := .ref (ad 1 2)) hx hb hts hown hK (zx_ob hZ.W).1 rfl zf_X2 2 (by decide) zw_61 (fun _ h9 => h9) rfl dX2_dropBookings_4 ?_
      refine zz_after (pc := 7) rfl (zz_runV (ci := 2) (q0 := (RJx4a65c, TJx4a65c, 3)) (b := ad 1 2) (As := []) (rest := [.int (nI i)]) hx hb hml hown hts (c_Jx4a65c_size_8abf5 l (K := K) (A := A) (ad := ad) (E := E) (cap := cap) (N := (zdr N i)) (G := G) (L := L) hk (by decide)) zw_88 zw_89 zw_90 zw_4 zw_91 zd_Jx4a65c_size_8abf5 ⟨Nat.le_of_ble_eq_true rfl, Nat.le_of_ble_eq_true rfl⟩ hZ.E hZ.A (zx_li hZ.W (t := 2) (by decide)).1 rfl rfl hZ.W hl.1 (Nat.le_of_ble_eq_true rfl) dX2_dropBookings_7 ⟨Nat.le_of_ble_eq_true rfl, Nat.le_of_ble_eq_true rfl⟩) hS (fun _ h => h.elim) (fun v_5 H locs hq_3 hF_4 hS => ?_)
      refine W.widen (k := 0) (n := 0) (Nat.le_of_ble_eq_true rfl) (Nat.le_of_ble_eq_true rfl) ?_
      obtain rfl := hq_3
      have hZ := hZ.ro hF_4
      refine W.eq (g2 := F0 m 10 ls [.int (nI ((zdr N i) 0 2)), .int (nI i)]) rfl ?_
      refine zz_ic_ge (tgt := 34) (by first | exact hB _ _ | exact hUa _ | exact hUb _ | exact hUc _ | exact hUd _ | omega) (by first | exact hB _ _ | exact hUa _ | exact hUb _ | exact hUc _ | exact hUd _ | omega) hx hb dX2_dropBookings_10 (by decide) (fun c_6 => ?_) (fun c_6 => ?_)
      · skip
        obtain rfl : i = N 0 2 := by omega
        refine lv_aload_n hx hb dX2_dropBookings_34 rfl (lv_at hl 1 rfl) ?_
        refine zz_get (ci := 5) (C := RX2) (T := TX2) (N := 8) (v := .ref (ad 1 2)) hx hb hts hown hK (zx_ob hZ.W).1 rfl zf_X2 2 (by decide) zw_61 (fun _ h9 => h9) rfl dX2_dropBookings_35 ?_
        have hsub9 := zxA_sub hZ (t := 2) (by decide)
        have hT9 := zx_T hZ hk hbk (t := 2) (by decide)
        refine zz_after (pc := 38) rfl (zz_runV (ci := 2) (q0 := (RJx4a65c, TJx4a65c, 3)) (b := ad 1 2) (As := []) (rest := []) hx hb hml hown hts (c_Jx4a65c_clear_da8c8 l (K := K) (A := zxA ad cap 2 H) (a := ad 1 2) (b := ad 2 2) (mo := E 0 2) (n := (zdr N (N 0 2)) 0 2) (cp := cap 2) (g := zx_el ad (zdr N (N 0 2)) 2) (by omega)) zw_670 zw_671 zw_672 zw_4 zw_673 zd_Jx4a65c_clear_da8c8 ⟨Nat.le_of_ble_eq_true rfl, Nat.le_of_ble_eq_true rfl⟩ (hZ.E.narrow hsub9) (fun q h => Or.inr (Or.inr h)) (zx_li hZ.W (t := 2) (by decide)).1 rfl rfl hT9 hl.1 (Nat.le_of_ble_eq_true rfl) dX2_dropBookings_38 ⟨Nat.le_of_ble_eq_true rfl, Nat.le_of_ble_eq_true rfl⟩) hS hsub9 (fun v_9 H locs hq_7 hF_8 hS => ?_)
        refine W.widen (k := 0) (n := 0) (Nat.le_of_ble_eq_true rfl) (Nat.le_of_ble_eq_true rfl) ?_
        obtain ⟨rfl, hW9⟩ := hq_7
        have hW8 := zx_relist (N' := (zu (zdr N (N 0 2)) 0 2 0)) hZ (by decide) hW9 hF_8 rfl zx_el_cl (zx_hw2 (by intro k i h9 h10 h0; first | exact zx_nk h9 h10 h0 | exact zu_n h0))
        have hZ : zz_Z K A s (zadp ad 2 (ad 2 2)) (zx_c K (zadp ad 2 (ad 2 2)) (zg E 0 2 (E 0 2 + nI 1)) (zcp cap 2 (cap 2)) (zu (zdr N (N 0 2)) 0 2 0) G L) H := hZ.mut (zz_fr.mono hF_8 hsub9) hW8
        rw [zadp_id, zcp_id] at hZ
        refine W.eq (g2 := F0 m 41 ls []) rfl ?_
        refine zz_vret hx hb hr hlocks hS (Nat.le_of_ble_eq_true rfl) (Nat.le_of_ble_eq_true rfl) dX2_dropBookings_41 ?_
        exact ⟨rfl, _, hZ.W⟩
      · skip
        refine lv_aload_n hx hb dX2_dropBookings_13 rfl (lv_at hl 1 rfl) ?_
        refine zz_get (ci := 5) (C := RX2) (T := TX2) (N := 8) (v := .ref (ad 1 2)) hx hb hts hown hK (zx_ob hZ.W).1 rfl zf_X2 2 (by decide) zw_61 (fun _ h9 => h9) rfl dX2_dropBookings_14 ?_
        refine lv_iload_n hx hb dX2_dropBookings_17 rfl (lv_at hl 0 rfl) ?_
        have hj_10 : i < (zdr N i) 0 2 := by omega
        have hp_11 : (zdr N i) 9 i < (zdr N i) 0 1 := hbk _ hj_10
        refine zz_after (pc := 18) rfl (zz_runV (ci := 2) (q0 := (RJx4a65c, TJx4a65c, 3)) (b := ad 1 2) (As := [.int (nI i)]) (rest := []) hx hb hml hown hts (c_Jx4a65c_get_915e3 l (K := K) (A := A) (ad := ad) (E := E) (cap := cap) (N := (zdr N i)) (G := G) (L := L) hk (by decide) (j := i) (r := (ad 5 ((zdr N i) 9 i))) hj_10 (zx_g2 hj_10)) zw_101 zw_102 zw_103 zw_4 zw_104 zd_Jx4a65c_get_915e3 ⟨Nat.le_of_ble_eq_true rfl, Nat.le_of_ble_eq_true rfl⟩ hZ.E hZ.A (zx_li hZ.W (t := 2) (by decide)).1 rfl rfl hZ.W hl.1 (Nat.le_of_ble_eq_true rfl) dX2_dropBookings_18 ⟨Nat.le_of_ble_eq_true rfl, Nat.le_of_ble_eq_true rfl⟩) hS (fun _ h => h.elim) (fun v_14 H locs hq_12 hF_13 hS => ?_)
        refine W.widen (k := 0) (n := 0) (Nat.le_of_ble_eq_true rfl) (Nat.le_of_ble_eq_true rfl) ?_
        obtain rfl := hq_12
        have hZ := hZ.ro hF_13
        refine W.eq (g2 := F0 m 21 ls [.ref (ad 5 ((zdr N i) 9 i))]) rfl ?_
        refine va_castS hx hb hown (hts _ zw_129) (hK.1 4 _ rfl).2 (zz_rc hK (zx_pe hZ.W (q := (zdr N i) 9 i) hp_11).1 rfl) dX2_dropBookings_21 ?_
        refine lv_null hx hb dX2_dropBookings_24 ?_
        have haA_18 := (zx_pe hZ.W (q := (zdr N i) 9 i) hp_11).2
        refine zz_putN (ci := 4) (C := RX1) (T := TX1) (N := 7) (v := .null) (ty1 := .object "OpenFloors$Floor") hx hb hts hN hown hK hS (zx_pe hZ.W (q := (zdr N i) 9 i) hp_11).1 haA_18 rfl zf_X1 tyX1_ok nmX1 3 (by decide) zn_491 (fun _ h9 => h9) rfl (by decide +kernel) rfl rfl (Nat.le_of_ble_eq_true rfl) dX2_dropBookings_25 (fun H locs ha_16 hz_17 ho_15 hS => ?_)
        have hZ : zz_Z K A s ad (zx_c K ad E cap (zu (zdr N i) 11 ((zdr N i) 9 i) 0) G L) H := hZ.put haA_18 hz_17 ho_15 (zx_put_wanted hZ.W hp_11 ha_16 ho_15)
        refine zz_inc (k := 0) (lv' := [(1, .int (nI (i + 1))), (0, .ref (ad 0 0))]) hx hb dX2_dropBookings_28 hl rfl (Nat.le_of_ble_eq_true rfl) rfl (fun ls hl => ?_)
        refine lv_goto (tgt := 2) hx hb dX2_dropBookings_31 (by decide) ?_
        refine ih_i (i + 1) (by omega) (by omega) _ _ _ ?_ hS ?_
        · exact hZ
        · skip
          exact lv_sub hl [0, 1] rfl
  refine hL_2 (N 0 2 + 1) 0 (by first | omega | exact Nat.zero_le _) (by first | omega | (rw [Nat.zero_add]; exact Nat.lt_succ_self _)) _ _ _ ?_ hS ?_
  · exact hZ
  exact lv_sub hl [0, 1] rfl

set_option maxHeartbeats 4000000 in
set_option maxRecDepth 100000 in
theorem c_X2_cancel (l : Launch) (hfl : l.stackTraces = false) {K : zz_G} {A : Nat → Prop} {ad : Nat → Nat → Nat} {E : Nat → Nat → Int32} {cap : Nat → Nat} {N : Nat → Nat → Nat} {G : Nat → Nat → Int32} {L : Nat → Int64} (hI : zq N) (hk : zk K ad cap N) (x : Int32) : zz_C l yX2_cancel cX2_cancel 4 (Option.some FieldType.int) ({ frames := 7, cells := 2, slots := 12, locals := 117 } : Room) K A [.ref (ad 0 0), .int x] (fun H => zz_W K A ad (zx_c K ad E cap N G L) H) (fun v9 _ H9 => (zs_cancel N x).1 = 0 ∧ v9 = some (.int (zs_cancel N x).2.1) ∧ ∃ E9, zz_W K A ad (zx_c K ad E9 cap (zs_cancel N x).2.2 G L) H9) (fun E9 _ _ => (E9 = "java/util/NoSuchElementException" ∧ (zs_cancel N x).1 = 1)) A := by
  refine zz_body (by decide +kernel) (Nat.le_of_ble_eq_true rfl) ?_
  intro p e s m below meth c ls hx hb hr hml hts hown hlocks hmn htab hE hA hP hl
  have hN := hE.N
  have hK := hE.K
  have hown : s.vm.findClass RX2 = some m.cls := hown
  have hl : lv_has ls 4 [(0, .ref (ad 0 0)), (1, .int x)] := hl
  have hZ : zz_Z K A s ad (zx_c K ad E cap N G L) s.heap := ⟨hE, hA, hP⟩
  have hS : va_S zz_no s.heap s.heap [] := va_S.rf
  obtain ⟨H, hH⟩ : ∃ z, z = s.heap := ⟨_, rfl⟩
  have hS0 : va_S zz_no s.heap H [] := by rw [hH]; exact hS
  rw [← hH] at hZ
  have hE0 := hE
  clear hS
  have hS := hS0
  have hB := hI.B
  have hbk := hI.bk
  have h00 := hI.f
  have h01 := hI.p
  have h02 := hI.b
  have hk0 := hk 0 (by decide)
  have hk1 := hk 1 (by decide)
  have hk2 := hk 2 (by decide)
  show W p l e _ s m _ below meth c s.heap [] 0 0 _ (F0 m 0 ls [])
  rw [← hH]
  refine lv_aload_n hx hb dX2_cancel_0 rfl (lv_at hl 0 rfl) ?_
  refine lv_iload_n hx hb dX2_cancel_1 rfl (lv_at hl 1 rfl) ?_
  refine zz_afterX (A := zz_no) (pc := 2) rfl (zz_runV (ci := 5) (q0 := (RX2, TX2, 8)) (b := ad 0 0) (As := [.int x]) (rest := []) hx hb hml hown hts (c_X2_existingPerson l hfl (K := K) (A := A) (ad := ad) (E := E) (cap := cap) (N := N) (G := G) (L := L) hI hk x) zw_521 zw_523 zs_17 zw_1 zw_524 zd_X2_existingPerson ⟨Nat.le_of_ble_eq_true rfl, Nat.le_of_ble_eq_true rfl⟩ hZ.E hZ.A (zx_ob hZ.W).1 rfl rfl hZ.W hl.1 (Nat.le_of_ble_eq_true rfl) dX2_cancel_2 ⟨Nat.le_of_ble_eq_true rfl, Nat.le_of_ble_eq_true rfl⟩) hS (fun _ h => h.elim) htab hlocks (Nat.le_of_ble_eq_true rfl) (Nat.le_of_ble_eq_true rfl) (fun E9 H9 hx9 hf9 => ⟨hx9.1, by unfold zs_cancel; rw [if_pos hx9.2]⟩) (fun v_4 H locs hq_2 hF_3 hS => ?_) (fun _ h => h.elim)
  refine W.widen (k := 1) (n := 6) (Nat.le_of_ble_eq_true rfl) (Nat.le_of_ble_eq_true rfl) ?_
  obtain ⟨j_1, hj_1, rfl, rfl⟩ := hq_2
  have hj_1c : (nI j_1).toNatClampNeg = j_1 := nI_clamp (by omega)
  have hj_1b : j_1 < 2 ^ 31 := by omega
  have hzj_1 := zin_nI hj_1 (show N 0 1 < 2 ^ 31 by omega)
  have hsmj_1 := hI.sm j_1
  have hZ := hZ.ro hF_3
  refine W.eq (g2 := F0 m 5 ls [.ref (ad 5 j_1)]) rfl ?_
  refine lv_astore_n (lv' := [(2, .ref (ad 5 j_1)), (0, .ref (ad 0 0)), (1, .int (nI j_1))]) hx hb dX2_cancel_5 rfl hl (Nat.le_of_ble_eq_true rfl) rfl (fun ls hl => ?_)
  refine lv_aload_n hx hb dX2_cancel_6 rfl (lv_at hl 0 rfl) ?_
  rcases (show N 11 j_1 = 0 ∨ ∃ z, N 11 j_1 = z + 1 by cases (N 11 j_1) with | zero => exact Or.inl rfl | succ z => exact Or.inr ⟨z, rfl⟩) with h_5 | ⟨j_6, h_5⟩
  · skip
    refine zz_getN (ci := 4) (C := RX1) (T := TX1) (N := 7) (v := .null) hx hb hts hN hown hK (zx_pe hZ.W (q := j_1) hj_1).1 rfl zf_X1 3 (by decide) zn_491 (fun _ h9 => h9) (congrArg (fun x => some (zz_rf (ad 3) x)) h_5) dX2_cancel_7 ?_
    refine lv_astore_nN (lv' := [(3, .null), (2, .ref (ad 5 j_1)), (0, .ref (ad 0 0)), (1, .int (nI j_1))]) hx hb dX2_cancel_10 rfl hl (Nat.le_of_ble_eq_true rfl) rfl (fun ls hl => ?_)
    refine lv_aload_nN hx hb dX2_cancel_11 rfl (lv_at hl 0 rfl) ?_
    refine lv_ifnonnullN hx hb dX2_cancel_12 ?_
    refine zz_throw (cls := "java/util/NoSuchElementException") (is := 114) hx hb hfl hown hts hE0 zx_116 zw_525 zw_22 zt_114 hS (fun _ h => h) hl.1 hml dX2_cancel_15 dX2_cancel_18 dX2_cancel_19 dX2_cancel_21 dX2_cancel_24 htab (Nat.le_of_ble_eq_true rfl) (Nat.le_of_ble_eq_true rfl) (Nat.le_of_ble_eq_true rfl) (Nat.le_of_ble_eq_true rfl) hlocks (fun H9 hf9 => ?_) (Nat.le_of_ble_eq_true rfl) (Nat.le_of_ble_eq_true rfl)
    exact ⟨rfl, by simp_all [zs_cancel]⟩
  · skip
    have hj_7 : j_6 < N 0 0 := by have := hI.wt j_1 hj_1; omega
    refine zz_getN (ci := 4) (C := RX1) (T := TX1) (N := 7) (v := .ref (ad 3 j_6)) hx hb hts hN hown hK (zx_pe hZ.W (q := j_1) hj_1).1 rfl zf_X1 3 (by decide) zn_491 (fun _ h9 => h9) (congrArg (fun x => some (zz_rf (ad 3) x)) h_5) dX2_cancel_7 ?_
    refine lv_astore_n (lv' := [(3, .ref (ad 3 j_6)), (2, .ref (ad 5 j_1)), (0, .ref (ad 0 0)), (1, .int (nI j_1))]) hx hb dX2_cancel_10 rfl hl (Nat.le_of_ble_eq_true rfl) rfl (fun ls hl => ?_)
    refine lv_aload_n hx hb dX2_cancel_11 rfl (lv_at hl 0 rfl) ?_
    refine lv_ifnonnull (tgt := 25) hx hb dX2_cancel_12 (by decide) ?_
    refine lv_aload_n hx hb dX2_cancel_25 rfl (lv_at hl 1 rfl) ?_
    refine lv_null hx hb dX2_cancel_26 ?_
    have hS : va_S A s.heap H _ := zz_Smono hS (fun _ h => h.elim)
    have haA_11 := (zx_pe hZ.W (q := j_1) hj_1).2
    refine zz_putN (ci := 4) (C := RX1) (T := TX1) (N := 7) (v := .null) (ty1 := .object "OpenFloors$Floor") hx hb hts hN hown hK hS (zx_pe hZ.W (q := j_1) hj_1).1 haA_11 rfl zf_X1 tyX1_ok nmX1 3 (by decide) zn_491 (fun _ h9 => h9) rfl (by decide +kernel) rfl rfl (Nat.le_of_ble_eq_true rfl) dX2_cancel_27 (fun H locs ha_9 hz_10 ho_8 hS => ?_)
    have hZ : zz_Z K A s ad (zx_c K ad E cap (zu N 11 j_1 0) G L) H := hZ.put haA_11 hz_10 ho_8 (zx_put_wanted hZ.W hj_1 ha_9 ho_8)
    refine lv_aload_n hx hb dX2_cancel_30 rfl (lv_at hl 2 rfl) ?_
    refine lv_aload_n hx hb dX2_cancel_31 rfl (lv_at hl 1 rfl) ?_
    obtain ⟨a1, ha1⟩ : ∃ z, zfb N j_1 (N 0 2) = z + 1 := ⟨zfb N j_1 (N 0 2) - 1, by (have h9 : ¬ zfb N j_1 (N 0 2) = 0 := fun q => absurd ((zfb_0 hI hj_1).mp q) (by omega)); omega⟩
    have ha2 := zfb_at ha1
    refine zz_after (pc := 32) rfl (zz_runV (ci := 5) (q0 := (RX2, TX2, 8)) (b := ad 0 0) (As := [.ref (ad 5 j_1)]) (rest := []) hx hb hml hown hts (c_X2_removeBooking l (K := K) (A := A) (ad := ad) (E := E) (cap := cap) (N := (zu N 11 j_1 0)) (G := G) (L := L) hk h02 hbk (q := j_1) (mb := a1) hj_1 ha2.1 ha2.2 (fun k hk9 e9 => hI.ij k a1 hk9 ha2.1 (e9.trans ha2.2.symm))) zw_574 zw_576 zs_18 zw_1 zw_577 zd_X2_removeBooking ⟨Nat.le_of_ble_eq_true rfl, Nat.le_of_ble_eq_true rfl⟩ hZ.E hZ.A (zx_ob hZ.W).1 rfl rfl hZ.W hl.1 (Nat.le_of_ble_eq_true rfl) dX2_cancel_32 ⟨Nat.le_of_ble_eq_true rfl, Nat.le_of_ble_eq_true rfl⟩) hS (fun _ h => h) (fun v_14 H locs hq_12 hF_13 hS => ?_)
    refine W.widen (k := 1) (n := 6) (Nat.le_of_ble_eq_true rfl) (Nat.le_of_ble_eq_true rfl) ?_
    obtain ⟨rfl, E9, hW9⟩ := hq_12
    have hZ : zz_Z K A s ad (zx_c K ad E9 cap (zsp (zu (zu N 11 j_1 0) 0 2 (N 0 2 - 1)) a1 (N 0 2 - 1)) G L) H := hZ.mut hF_13 hW9
    refine W.eq (g2 := F0 m 35 ls []) rfl ?_
    refine lv_aload_n hx hb dX2_cancel_35 rfl (lv_at hl 0 rfl) ?_
    refine zz_getN (ci := 3) (C := RX0) (T := TX0) (N := 7) (v := .int (nI j_6)) hx hb hts hN hown hK (zx_fl hZ.W (f := j_6) hj_7).1 rfl zf_X0 0 (by decide) zn_334 (fun _ h9 => h9) rfl dX2_cancel_36 ?_
    refine zz_iret hx hb hr hlocks hS (Nat.le_of_ble_eq_true rfl) (Nat.le_of_ble_eq_true rfl) dX2_cancel_39 ?_
    have e9 : zs_cancel N (nI j_1) = (0, nI j_6, zsp (zu (zu N 11 j_1 0) 0 2 (N 0 2 - 1)) a1 (N 0 2 - 1)) := by (unfold zs_cancel; rw [if_neg (fun h => h hzj_1), hj_1c, if_neg (by omega), h_5, ha1, Nat.add_sub_cancel, Nat.add_sub_cancel, zsp_11])
    rw [e9]; exact ⟨rfl, rfl, _, hZ.W⟩

set_option maxHeartbeats 4000000 in
set_option maxRecDepth 100000 in
theorem c_X2_book (l : Launch) (hfl : l.stackTraces = false) {K : zz_G} {A : Nat → Prop} {ad : Nat → Nat → Nat} {E : Nat → Nat → Int32} {cap : Nat → Nat} {N : Nat → Nat → Nat} {G : Nat → Nat → Int32} {L : Nat → Int64} (hI : zq N) (hk : zk K ad cap N) (x y : Int32) : zz_C l yX2_book cX2_book 5 (Option.some FieldType.int) ({ frames := 7, cells := 3, slots := 52, locals := 171 } : Room) K A [.ref (ad 0 0), .int x, .int y] (fun H => zz_W K A ad (zx_c K ad E cap N G L) H) (fun v9 _ H9 => (zs_book N x y).1 = 0 ∧ v9 = some (.int (zs_book N x y).2.1) ∧ ∃ ad9 E9 cap9, ad9 0 0 = ad 0 0 ∧ zk K ad9 cap9 (zs_book N x y).2.2 ∧ zz_W K A ad9 (zx_c K ad9 E9 cap9 (zs_book N x y).2.2 G L) H9) (fun E9 _ _ => (E9 = "java/util/NoSuchElementException" ∧ (zs_book N x y).1 = 1) ∨ (E9 = "java/lang/IndexOutOfBoundsException" ∧ (zs_book N x y).1 = 2) ∨ (E9 = "java/lang/IllegalStateException" ∧ (zs_book N x y).1 = 3) ∨ (E9 = "java/lang/UnsupportedOperationException" ∧ (zs_book N x y).1 = 4)) A := by
  refine zz_body (by decide +kernel) (Nat.le_of_ble_eq_true rfl) ?_
  intro p e s m below meth c ls hx hb hr hml hts hown hlocks hmn htab hE hA hP hl
  have hN := hE.N
  have hK := hE.K
  have hown : s.vm.findClass RX2 = some m.cls := hown
  have hl : lv_has ls 5 [(0, .ref (ad 0 0)), (1, .int x), (2, .int y)] := hl
  have hZ : zz_Z K A s ad (zx_c K ad E cap N G L) s.heap := ⟨hE, hA, hP⟩
  have hS : va_S zz_no s.heap s.heap [] := va_S.rf
  obtain ⟨H, hH⟩ : ∃ z, z = s.heap := ⟨_, rfl⟩
  have hS0 : va_S zz_no s.heap H [] := by rw [hH]; exact hS
  rw [← hH] at hZ
  have hE0 := hE
  clear hS
  have hS := hS0
  have hB := hI.B
  have hbk := hI.bk
  have h00 := hI.f
  have h01 := hI.p
  have h02 := hI.b
  have hk0 := hk 0 (by decide)
  have hk1 := hk 1 (by decide)
  have hk2 := hk 2 (by decide)
  have hp2 : 2 ^ N 0 0 ≤ 64 := Nat.le_trans (Nat.pow_le_pow_right (by decide) h00) (by decide)
  have hp1 := Nat.two_pow_pos (N 0 0)
  have hUx := zss_b hI
  have hUb : ∀ S, zls 100 N S < 2 ^ 31 := fun S => by have := zls_b hI (c := 100) S (by decide); omega
  have hUa : ∀ S, zss N S < 2 ^ 31 := fun S => by have := zss_b hI S; omega
  show W p l e _ s m _ below meth c s.heap [] 0 0 _ (F0 m 0 ls [])
  rw [← hH]
  refine lv_aload_n hx hb dX2_book_0 rfl (lv_at hl 0 rfl) ?_
  refine lv_iload_n hx hb dX2_book_1 rfl (lv_at hl 1 rfl) ?_
  refine zz_afterX (A := zz_no) (pc := 2) rfl (zz_runV (ci := 5) (q0 := (RX2, TX2, 8)) (b := ad 0 0) (As := [.int x]) (rest := []) hx hb hml hown hts (c_X2_existingPerson l hfl (K := K) (A := A) (ad := ad) (E := E) (cap := cap) (N := N) (G := G) (L := L) hI hk x) zw_521 zw_523 zs_17 zw_1 zw_524 zd_X2_existingPerson ⟨Nat.le_of_ble_eq_true rfl, Nat.le_of_ble_eq_true rfl⟩ hZ.E hZ.A (zx_ob hZ.W).1 rfl rfl hZ.W hl.1 (Nat.le_of_ble_eq_true rfl) dX2_book_2 ⟨Nat.le_of_ble_eq_true rfl, Nat.le_of_ble_eq_true rfl⟩) hS (fun _ h => h.elim) htab hlocks (Nat.le_of_ble_eq_true rfl) (Nat.le_of_ble_eq_true rfl) (fun E9 H9 hx9 hf9 => Or.inl ⟨hx9.1, by unfold zs_book; rw [if_pos hx9.2]⟩) (fun v_4 H locs hq_2 hF_3 hS => ?_) (fun _ h => h.elim)
  refine W.widen (k := 1) (n := 6) (Nat.le_of_ble_eq_true rfl) (Nat.le_of_ble_eq_true rfl) ?_
  obtain ⟨j_1, hj_1, rfl, rfl⟩ := hq_2
  have hj_1c : (nI j_1).toNatClampNeg = j_1 := nI_clamp (by omega)
  have hj_1b : j_1 < 2 ^ 31 := by omega
  have hzj_1 := zin_nI hj_1 (show N 0 1 < 2 ^ 31 by omega)
  have hsmj_1 := hI.sm j_1
  have hZ := hZ.ro hF_3
  refine W.eq (g2 := F0 m 5 ls [.ref (ad 5 j_1)]) rfl ?_
  refine lv_astore_n (lv' := [(3, .ref (ad 5 j_1)), (0, .ref (ad 0 0)), (1, .int (nI j_1)), (2, .int y)]) hx hb dX2_book_5 rfl hl (Nat.le_of_ble_eq_true rfl) rfl (fun ls hl => ?_)
  refine lv_aload_n hx hb dX2_book_6 rfl (lv_at hl 1 rfl) ?_
  refine lv_iload_n hx hb dX2_book_7 rfl (lv_at hl 3 rfl) ?_
  refine zz_afterX (A := zz_no) (pc := 8) rfl (zz_runV (ci := 5) (q0 := (RX2, TX2, 8)) (b := ad 0 0) (As := [.int y]) (rest := []) hx hb hml hown hts (c_X2_existingFloor l hfl (K := K) (A := A) (ad := ad) (E := E) (cap := cap) (N := N) (G := G) (L := L) hI hk y) zw_450 zw_452 zs_16 zw_1 zw_453 zd_X2_existingFloor ⟨Nat.le_of_ble_eq_true rfl, Nat.le_of_ble_eq_true rfl⟩ hZ.E hZ.A (zx_ob hZ.W).1 rfl rfl hZ.W hl.1 (Nat.le_of_ble_eq_true rfl) dX2_book_8 ⟨Nat.le_of_ble_eq_true rfl, Nat.le_of_ble_eq_true rfl⟩) hS (fun _ h => h.elim) htab hlocks (Nat.le_of_ble_eq_true rfl) (Nat.le_of_ble_eq_true rfl) (fun E9 H9 hx9 hf9 => Or.inr (Or.inl ⟨hx9.1, by (unfold zs_book; rw [if_neg (fun h => h (by assumption)), if_pos hx9.2])⟩)) (fun v_8 H locs hq_6 hF_7 hS => ?_) (fun _ h => h.elim)
  refine W.widen (k := 2) (n := 12) (Nat.le_of_ble_eq_true rfl) (Nat.le_of_ble_eq_true rfl) ?_
  obtain ⟨j_5, hj_5, rfl, rfl⟩ := hq_6
  have hj_5c : (nI j_5).toNatClampNeg = j_5 := nI_clamp (by omega)
  have hj_5b : j_5 < 2 ^ 31 := by omega
  have hzj_5 := zin_nI hj_5 (show N 0 0 < 2 ^ 31 by omega)
  have hsmj_5 := hI.sm j_5
  have hZ := hZ.ro hF_7
  refine W.eq (g2 := F0 m 11 ls [.ref (ad 3 j_5)]) rfl ?_
  refine lv_astore (lv' := [(4, .ref (ad 3 j_5)), (3, .ref (ad 5 j_1)), (0, .ref (ad 0 0)), (1, .int (nI j_1)), (2, .int (nI j_5))]) hx hb dX2_book_11 hl (Nat.le_of_ble_eq_true rfl) rfl (fun ls hl => ?_)
  refine lv_aload_n hx hb dX2_book_13 rfl (lv_at hl 1 rfl) ?_
  rcases (show N 11 j_1 = 0 ∨ ∃ z, N 11 j_1 = z + 1 by cases (N 11 j_1) with | zero => exact Or.inl rfl | succ z => exact Or.inr ⟨z, rfl⟩) with h_9 | ⟨j_10, h_9⟩
  · skip
    refine zz_getN (ci := 4) (C := RX1) (T := TX1) (N := 7) (v := .null) hx hb hts hN hown hK (zx_pe hZ.W (q := j_1) hj_1).1 rfl zf_X1 3 (by decide) zn_491 (fun _ h9 => h9) (congrArg (fun x => some (zz_rf (ad 3) x)) h_9) dX2_book_14 ?_
    refine lv_ifnullN (tgt := 30) hx hb dX2_book_17 (by decide) ?_
    refine lv_aload_n hx hb dX2_book_30 rfl (lv_at hl 2 rfl) ?_
    refine zz_get (ci := 5) (C := RX2) (T := TX2) (N := 8) (v := .ref (ad 1 2)) hx hb hts hown hK (zx_ob hZ.W).1 rfl zf_X2 2 (by decide) zw_61 (fun _ h9 => h9) rfl dX2_book_31 ?_
    refine zz_after (pc := 34) rfl (zz_runV (ci := 2) (q0 := (RJx4a65c, TJx4a65c, 3)) (b := ad 1 2) (As := []) (rest := []) hx hb hml hown hts (c_Jx4a65c_size_8abf5 l (K := K) (A := A) (ad := ad) (E := E) (cap := cap) (N := N) (G := G) (L := L) hk (by decide)) zw_88 zw_89 zw_90 zw_4 zw_91 zd_Jx4a65c_size_8abf5 ⟨Nat.le_of_ble_eq_true rfl, Nat.le_of_ble_eq_true rfl⟩ hZ.E hZ.A (zx_li hZ.W (t := 2) (by decide)).1 rfl rfl hZ.W hl.1 (Nat.le_of_ble_eq_true rfl) dX2_book_34 ⟨Nat.le_of_ble_eq_true rfl, Nat.le_of_ble_eq_true rfl⟩) hS (fun _ h => h.elim) (fun v_13 H locs hq_11 hF_12 hS => ?_)
    refine W.widen (k := 2) (n := 12) (Nat.le_of_ble_eq_true rfl) (Nat.le_of_ble_eq_true rfl) ?_
    obtain rfl := hq_11
    have hZ := hZ.ro hF_12
    refine W.eq (g2 := F0 m 37 ls [.int (nI (N 0 2))]) rfl ?_
    refine lv_aload_n hx hb dX2_book_37 rfl (lv_at hl 2 rfl) ?_
    refine lv_aload_n hx hb dX2_book_38 rfl (lv_at hl 2 rfl) ?_
    refine zz_after (pc := 39) rfl (zz_runV (ci := 5) (q0 := (RX2, TX2, 8)) (b := ad 0 0) (As := []) (rest := [.ref (ad 0 0), .int (nI (N 0 2))]) hx hb hml hown hts (c_X2_allFloors l (K := K) (A := A) (ad := ad) (E := E) (cap := cap) (N := N) (G := G) (L := L) hI hk ) zw_153 zw_155 zs_4 zw_1 zw_156 zd_X2_allFloors ⟨Nat.le_of_ble_eq_true rfl, Nat.le_of_ble_eq_true rfl⟩ hZ.E hZ.A (zx_ob hZ.W).1 rfl rfl hZ.W hl.1 (Nat.le_of_ble_eq_true rfl) dX2_book_39 ⟨Nat.le_of_ble_eq_true rfl, Nat.le_of_ble_eq_true rfl⟩) hS (fun _ h => h.elim) (fun v_16 H locs hq_14 hF_15 hS => ?_)
    refine W.widen (k := 2) (n := 12) (Nat.le_of_ble_eq_true rfl) (Nat.le_of_ble_eq_true rfl) ?_
    obtain rfl := hq_14
    have hZ := hZ.ro hF_15
    refine W.eq (g2 := F0 m 42 ls [.int (nI (2 ^ N 0 0 - 1)), .ref (ad 0 0), .int (nI (N 0 2))]) rfl ?_
    refine zz_after (pc := 42) rfl (zz_runV (ci := 5) (q0 := (RX2, TX2, 8)) (b := ad 0 0) (As := [.int (nI (2 ^ N 0 0 - 1))]) (rest := [.int (nI (N 0 2))]) hx hb hml hown hts (c_X2_seatsOfSet l (K := K) (A := A) (ad := ad) (E := E) (cap := cap) (N := N) (G := G) (L := L) hI hk (by first | exact hB _ _ | exact hUa _ | exact hUb _ | exact hUc _ | exact hUd _ | omega)) zw_161 zw_163 zs_6 zw_1 zw_164 zd_X2_seatsOfSet ⟨Nat.le_of_ble_eq_true rfl, Nat.le_of_ble_eq_true rfl⟩ hZ.E hZ.A (zx_ob hZ.W).1 rfl rfl hZ.W hl.1 (Nat.le_of_ble_eq_true rfl) dX2_book_42 ⟨Nat.le_of_ble_eq_true rfl, Nat.le_of_ble_eq_true rfl⟩) hS (fun _ h => h.elim) (fun v_19 H locs hq_17 hF_18 hS => ?_)
    refine W.widen (k := 2) (n := 12) (Nat.le_of_ble_eq_true rfl) (Nat.le_of_ble_eq_true rfl) ?_
    obtain rfl := hq_17
    have hZ := hZ.ro hF_18
    refine W.eq (g2 := F0 m 45 ls [.int (nI (zss N (2 ^ N 0 0 - 1))), .int (nI (N 0 2))]) rfl ?_
    refine zz_ic_lt (tgt := 58) (by first | exact hB _ _ | exact hUa _ | exact hUb _ | exact hUc _ | exact hUd _ | omega) (by first | exact hB _ _ | exact hUa _ | exact hUb _ | exact hUc _ | exact hUd _ | omega) hx hb dX2_book_45 (by decide) (fun c_20 => ?_) (fun c_20 => ?_)
    · skip
      rw [zss_af hI] at c_20
      refine lv_aload_n hx hb dX2_book_58 rfl (lv_at hl 1 rfl) ?_
      refine lv_aload hx hb dX2_book_59 (lv_at hl 0 rfl) ?_
      have hS : va_S A s.heap H _ := zz_Smono hS (fun _ h => h.elim)
      have haA_24 := (zx_pe hZ.W (q := j_1) hj_1).2
      refine zz_putN (ci := 4) (C := RX1) (T := TX1) (N := 7) (v := .ref (ad 3 j_5)) (ty1 := .object "OpenFloors$Floor") hx hb hts hN hown hK hS (zx_pe hZ.W (q := j_1) hj_1).1 haA_24 rfl zf_X1 tyX1_ok nmX1 3 (by decide) zn_491 (fun _ h9 => h9) rfl (by decide +kernel) rfl rfl (Nat.le_of_ble_eq_true rfl) dX2_book_61 (fun H locs ha_22 hz_23 ho_21 hS => ?_)
      have hZ : zz_Z K A s ad (zx_c K ad E cap (zu N 11 j_1 (j_5 + 1)) G L) H := hZ.put haA_24 hz_23 ho_21 (zx_put_wanted hZ.W hj_1 ha_22 ho_21)
      refine lv_aload_n hx hb dX2_book_64 rfl (lv_at hl 2 rfl) ?_
      refine zz_get (ci := 5) (C := RX2) (T := TX2) (N := 8) (v := .ref (ad 1 2)) hx hb hts hown hK (zx_ob hZ.W).1 rfl zf_X2 2 (by decide) zw_61 (fun _ h9 => h9) rfl dX2_book_65 ?_
      refine lv_aload_n hx hb dX2_book_68 rfl (lv_at hl 1 rfl) ?_
      have hsub9 := zxA_sub hZ (t := 2) (by decide)
      have hT9 := zx_T hZ hk hbk (t := 2) (by decide)
      have hob9 : zz_ob K H (ad 5 j_1) ∧ ¬ zxA ad cap 2 H (ad 5 j_1) := ⟨⟨4, _, _, (zx_pe hZ.W hj_1).1, rfl, zc_pe⟩, zx_notA hZ.W (by decide) (Or.inl (by omega)) (Or.inl (by omega)) (zx_peq hj_1)⟩
      refine zz_after (pc := 69) rfl (zz_runV (ci := 2) (q0 := (RJx4a65c, TJx4a65c, 3)) (b := ad 1 2) (As := [.ref (ad 5 j_1)]) (rest := []) hx hb hml hown hts (c_Jx4a65c_add_9ea2d l (K := K) (A := zxA ad cap 2 H) (a := ad 1 2) (b := ad 2 2) (mo := E 0 2) (n := (zu N 11 j_1 (j_5 + 1)) 0 2) (cp := cap 2) (g := zx_el ad (zu N 11 j_1 (j_5 + 1)) 2) (r := ad 5 j_1) h02 (fun i hi => zx_el_no hi)) zw_362 zw_363 zw_364 zw_4 zw_365 zd_Jx4a65c_add_9ea2d ⟨Nat.le_of_ble_eq_true rfl, Nat.le_of_ble_eq_true rfl⟩ (hZ.E.narrow hsub9) (fun q h => Or.inr (Or.inr h)) (zx_li hZ.W (t := 2) (by decide)).1 rfl rfl ⟨hT9, hob9.1, hob9.2⟩ hl.1 (Nat.le_of_ble_eq_true rfl) dX2_book_69 ⟨Nat.le_of_ble_eq_true rfl, Nat.le_of_ble_eq_true rfl⟩) hS hsub9 (fun v_27 H locs hq_25 hF_26 hS => ?_)
      refine W.widen (k := 3) (n := 52) (Nat.le_of_ble_eq_true rfl) (Nat.le_of_ble_eq_true rfl) ?_
      obtain ⟨rfl, b9, cp9, hW9⟩ := hq_25
      have hW8 := zx_relist (N' := (zu (zu (zu (zu N 11 j_1 (j_5 + 1)) 9 (N 0 2) j_1) 10 (N 0 2) j_5) 0 2 (N 0 2 + 1))) hZ (by decide) hW9 hF_26 rfl zx_el_add (zx_hw2 (fun k i h9 h10 h0 => by rw [zu_n h0, zu_k h10, zu_k h9]))
      have hZ : zz_Z K A s (zadp ad 2 b9) (zx_c K (zadp ad 2 b9) (zg E 0 2 (E 0 2 + nI 1)) (zcp cap 2 cp9) (zu (zu (zu (zu N 11 j_1 (j_5 + 1)) 9 (N 0 2) j_1) 10 (N 0 2) j_5) 0 2 (N 0 2 + 1)) G L) H := hZ.mut (zz_fr.mono hF_26 hsub9) hW8
      have hk : zk K (zadp ad 2 b9) (zcp cap 2 cp9) (zu (zu (zu (zu N 11 j_1 (j_5 + 1)) 9 (N 0 2) j_1) 10 (N 0 2) j_5) 0 2 (N 0 2 + 1)) := zk_add hk hW9.2.2.2.1.1 hW9.2.2.2.1.2 hW9.2.2.1 rfl (fun t ht h2 => by rw [zu_n (fun z => h2 z.2), zu_k (by decide), zu_k (by decide), zu_k (by decide)])
      refine W.eq (g2 := F0 m 72 ls [.int (nI 1)]) rfl ?_
      refine lv_pop hx hb dX2_book_72 rfl ?_
      refine lv_aload_n hx hb dX2_book_73 rfl (lv_at hl 2 rfl) ?_
      refine zz_get (ci := 5) (C := RX2) (T := TX2) (N := 8) (v := .ref ((zadp ad 2 b9) 1 2)) hx hb hts hown hK (zx_ob hZ.W).1 rfl zf_X2 2 (by decide) zw_61 (fun _ h9 => h9) rfl dX2_book_74 ?_
      refine zz_after (pc := 77) rfl (zz_runV (ci := 2) (q0 := (RJx4a65c, TJx4a65c, 3)) (b := (zadp ad 2 b9) 1 2) (As := []) (rest := []) hx hb hml hown hts (c_Jx4a65c_size_8abf5 l (K := K) (A := A) (ad := (zadp ad 2 b9)) (E := (zg E 0 2 (E 0 2 + nI 1))) (cap := (zcp cap 2 cp9)) (N := (zu (zu (zu (zu N 11 j_1 (j_5 + 1)) 9 (N 0 2) j_1) 10 (N 0 2) j_5) 0 2 (N 0 2 + 1))) (G := G) (L := L) hk (by decide)) zw_88 zw_89 zw_90 zw_4 zw_91 zd_Jx4a65c_size_8abf5 ⟨Nat.le_of_ble_eq_true rfl, Nat.le_of_ble_eq_true rfl⟩ hZ.E hZ.A (zx_li hZ.W (t := 2) (by decide)).1 rfl rfl hZ.W hl.1 (Nat.le_of_ble_eq_true rfl) dX2_book_77 ⟨Nat.le_of_ble_eq_true rfl, Nat.le_of_ble_eq_true rfl⟩) hS (fun _ h => h.elim) (fun v_30 H locs hq_28 hF_29 hS => ?_)
      refine W.widen (k := 3) (n := 52) (Nat.le_of_ble_eq_true rfl) (Nat.le_of_ble_eq_true rfl) ?_
      obtain rfl := hq_28
      have hZ := hZ.ro hF_29
      refine W.eq (g2 := F0 m 80 ls [.int (nI (N 0 2 + 1))]) rfl ?_
      refine zz_iret hx hb hr hlocks hS (Nat.le_of_ble_eq_true rfl) (Nat.le_of_ble_eq_true rfl) dX2_book_80 ?_
      have e9 : zs_book N (nI j_1) (nI j_5) = (0, nI (N 0 2 + 1), (zu (zu (zu (zu N 11 j_1 (j_5 + 1)) 9 (N 0 2) j_1) 10 (N 0 2) j_5) 0 2 (N 0 2 + 1))) := by (unfold zs_book; rw [if_neg (fun h => h hzj_1), if_neg (fun h => h hzj_5), hj_1c, hj_5c, if_neg (fun h => h h_9), if_neg (by omega), zu_b4])
      rw [e9]; exact ⟨rfl, rfl, _, _, _, zadp_00, hk, hZ.W⟩
    · skip
      rw [zss_af hI] at c_20
      refine zz_throw (cls := "java/lang/UnsupportedOperationException") (is := 109) hx hb hfl hown hts hE0 zx_111 zw_550 zw_23 zt_109 hS (fun _ h => h) hl.1 hml dX2_book_48 dX2_book_51 dX2_book_52 dX2_book_54 dX2_book_57 htab (Nat.le_of_ble_eq_true rfl) (Nat.le_of_ble_eq_true rfl) (Nat.le_of_ble_eq_true rfl) (Nat.le_of_ble_eq_true rfl) hlocks (fun H9 hf9 => ?_) (Nat.le_of_ble_eq_true rfl) (Nat.le_of_ble_eq_true rfl)
      exact Or.inr (Or.inr (Or.inr ⟨rfl, by simp_all [zs_book]⟩))
  · skip
    have hj_31 : j_10 < N 0 0 := by have := hI.wt j_1 hj_1; omega
    refine zz_getN (ci := 4) (C := RX1) (T := TX1) (N := 7) (v := .ref (ad 3 j_10)) hx hb hts hN hown hK (zx_pe hZ.W (q := j_1) hj_1).1 rfl zf_X1 3 (by decide) zn_491 (fun _ h9 => h9) (congrArg (fun x => some (zz_rf (ad 3) x)) h_9) dX2_book_14 ?_
    refine lv_ifnull hx hb dX2_book_17 ?_
    refine zz_throw (cls := "java/lang/IllegalStateException") (is := 98) hx hb hfl hown hts hE0 zx_60 zw_312 zw_10 zt_98 hS (fun _ h => h) hl.1 hml dX2_book_20 dX2_book_23 dX2_book_24 dX2_book_26 dX2_book_29 htab (Nat.le_of_ble_eq_true rfl) (Nat.le_of_ble_eq_true rfl) (Nat.le_of_ble_eq_true rfl) (Nat.le_of_ble_eq_true rfl) hlocks (fun H9 hf9 => ?_) (Nat.le_of_ble_eq_true rfl) (Nat.le_of_ble_eq_true rfl)
    exact Or.inr (Or.inr (Or.inl ⟨rfl, by simp_all [zs_book]⟩))
