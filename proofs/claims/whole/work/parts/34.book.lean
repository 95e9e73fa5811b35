/-! by program (gen.py): contracts of methods -/
theorem zx_hw2 {K : zz_G} {ad : Nat → Nat → Nat} {E : Nat → Nat → Int32} {cap : Nat → Nat} {N N' : Nat → Nat → Nat} {G : Nat → Nat → Int32} {L : Nat → Int64} {b9 cp9 : Nat} {mo' : Int32} (hN : ∀ k i, k ≠ 9 → k ≠ 10 → ¬ (k = 0 ∧ i = 2) → N' k i = N k i) : ∀ k i, ¬ (k = 1 ∧ i = 2) → ¬ (k = 2 ∧ i = 2) → zx_c K (zadp ad 2 b9) (zg E 0 2 mo') (zcp cap 2 cp9) N' G L k i = zx_c K ad E cap N G L k i := by
  intro k i h1 h2
  have en : ∀ k i, ¬ (k = 2 ∧ i = 2) → zadp ad 2 b9 k i = ad k i := fun k i z => by unfold zadp; rw [if_neg z]
  have nk : ∀ k i, k ≠ 9 → k ≠ 10 → k ≠ 0 → N' k i = N k i := fun k i a b c => hN k i a b (fun z => c z.1)
  have n0 : N' 0 0 = N 0 0 := hN 0 0 (by decide) (by decide) (by decide)
  have n1 : N' 0 1 = N 0 1 := hN 0 1 (by decide) (by decide) (by decide)
  match k with
  | 0 =>
    simp only [zx_c]
    rw [en 1 0 (by decide), en 1 1 (by decide), en 1 2 (by decide), nk 12 0 (by decide) (by decide) (by decide), nk 12 1 (by decide) (by decide) (by decide)]
  | 1 =>
    have hi : i ≠ 2 := fun z => h1 ⟨rfl, z⟩
    simp only [zx_c]
    rw [en 2 i (fun z => hi z.2), zg_n (fun z => hi z.2), hN 0 i (by decide) (by decide) (fun z => hi z.2)]
  | 2 =>
    have hi : i ≠ 2 := fun z => h2 ⟨rfl, z⟩
    have ec : zcp cap 2 cp9 i = cap i := by unfold zcp; rw [if_neg hi]
    have el : i < 3 → zx_el (zadp ad 2 b9) N' i = zx_el ad N i := fun h3 => by
      funext j
      unfold zx_el
      rw [hN 0 i (by decide) (by decide) (fun z => hi z.2)]
      by_cases t0 : i = 0
      · simp only [t0, if_true]; rw [en 3 j (by omega)]
      · have t1 : i = 1 := by omega
        simp only [t1, if_true]; rw [en 3 j (by omega), en 5 j (by omega)]
    simp only [zx_c, ec]
    by_cases c : i < 3 ∧ cap i ≠ 0
    · rw [if_pos c, if_pos c, el c.1]
    · rw [if_neg c, if_neg c]
  | 3 =>
    simp only [zx_c, n0]
    rw [nk 1 i (by decide) (by decide) (by decide), nk 2 i (by decide) (by decide) (by decide), nk 3 i (by decide) (by decide) (by decide), en 4 i (by omega)]
  | 4 =>
    have ee : zg E 0 2 mo' (1 + i) = E (1 + i) := by funext j; exact zg_n (by omega)
    simp only [zx_c, n0, ee]
  | 5 =>
    have ea : (zadp ad 2 b9) 3 = ad 3 := by funext j; exact en 3 j (by omega)
    simp only [zx_c, n1, ea]
    rw [nk 4 i (by decide) (by decide) (by decide), nk 5 i (by decide) (by decide) (by decide), nk 6 i (by decide) (by decide) (by decide), nk 7 i (by decide) (by decide) (by decide), nk 8 i (by decide) (by decide) (by decide), nk 11 i (by decide) (by decide) (by decide)]
  | k + 6 => rfl
theorem zadp_id (ad : Nat → Nat → Nat) (t : Nat) : zadp ad t (ad 2 t) = ad := by
  funext k i; unfold zadp
  by_cases q : k = 2 ∧ i = t
  · rw [if_pos q, q.1, q.2]
  · rw [if_neg q]
theorem zcp_id (cap : Nat → Nat) (t : Nat) : zcp cap t (cap t) = cap := by
  funext i; unfold zcp
  by_cases q : i = t
  · rw [if_pos q, q]
  · rw [if_neg q]
theorem zx_el_cl {ad : Nat → Nat → Nat} {N : zN} : zt_cl (zx_el ad N 2) (N 0 2) = zx_el ad (zu N 0 2 0) 2 := by
  funext x
  unfold zt_cl zx_el
  rw [zu_s, if_neg (show ¬ x < 0 by omega)]
  by_cases c : x < N 0 2
  · rw [if_pos c]
  · rw [if_neg c, if_neg c]
theorem zx_nk {N : zN} {m n k i : Nat} (h9 : k ≠ 9) (h10 : k ≠ 10) (h0 : ¬ (k = 0 ∧ i = 2)) : zsp (zu N 0 2 n) m n k i = N k i := by
  unfold zsp
  rw [if_neg (fun z => z.1.elim h9 h10), zu_n h0]
theorem zsp_02 {N : zN} {m n : Nat} : zsp (zu N 0 2 n) m n 0 2 = n := by
  unfold zsp
  rw [if_neg (by omega), zu_s]
theorem zsp_0t {N : zN} {m n t : Nat} (h : t ≠ 2) : zsp (zu N 0 2 n) m n 0 t = N 0 t := zx_nk (by decide) (by decide) (fun z => h z.2)
theorem zadp_00 {ad : Nat → Nat → Nat} {t b : Nat} : zadp ad t b 0 0 = ad 0 0 := by unfold zadp; rw [if_neg (by omega)]
theorem zk_two {K : zz_G} {ad : Nat → Nat → Nat} {cap : Nat → Nat} {N N' : zN} (hk : zk K ad cap N) (h2 : N' 0 2 ≤ cap 2) (hN : ∀ t, t < 3 → t ≠ 2 → N' 0 t = N 0 t) : zk K (zadp ad 2 (ad 2 2)) (zcp cap 2 (cap 2)) N' := fun t ht => by
  obtain ⟨a, b, c⟩ := hk t ht
  have e1 : zcp cap 2 (cap 2) t = cap t := by unfold zcp; split <;> simp_all
  have e2 : zadp ad 2 (ad 2 2) 2 t = ad 2 t := by unfold zadp; split <;> simp_all
  rw [e1, e2]
  by_cases q : t = 2
  · subst q; exact ⟨h2, b, c⟩
  · rw [hN t ht q]; exact ⟨a, b, c⟩
theorem zx_el_rm {ad : Nat → Nat → Nat} {N : zN} {i : Nat} (hi : i < N 0 2) : zt_rm (zx_el ad N 2) i (N 0 2) = zx_el ad (zsp (zu N 0 2 (N 0 2 - 1)) i (N 0 2 - 1)) 2 := by
  funext x
  unfold zt_rm zx_el
  rw [zsp_02]
  simp only [show ¬ ((2 : Nat) = 0) by decide, show ¬ ((2 : Nat) = 1) by decide, if_false]
  by_cases c : i ≤ x ∧ x < N 0 2 - 1
  · rw [if_pos c, if_pos (by omega), if_pos c.2]
    unfold zsp; rw [if_pos ⟨Or.inl rfl, c.1, c.2⟩, zu_k (by decide)]
  · rw [if_neg c]
    by_cases d : x = N 0 2 - 1
    · rw [if_pos d, if_neg (by omega)]
    · rw [if_neg d]
      by_cases e : x < N 0 2
      · rw [if_pos e, if_pos (by omega)]
        unfold zsp; rw [if_neg (fun z => c ⟨z.2.1, z.2.2⟩), zu_k (by decide)]
      · rw [if_neg e, if_neg (by omega)]
theorem zd_Jx4a65c_remove_915e3 : yJx4a65c_remove_915e3.cls ≠ "java/lang/invoke/MethodHandle" ∧ yJx4a65c_remove_915e3.cls ≠ "java/lang/invoke/VarHandle" ∧ (parseMethodDescriptor yJx4a65c_remove_915e3.desc).map (fun d => d.parameters.length) = some 1 := by decide +kernel
set_option maxHeartbeats 4000000 in
set_option maxRecDepth 100000 in
theorem c_X2_removeBooking (l : Launch) {K : zz_G} {A : Nat → Prop} {ad : Nat → Nat → Nat} {E : Nat → Nat → Int32} {cap : Nat → Nat} {N : Nat → Nat → Nat} {G : Nat → Nat → Int32} {L : Nat → Int64} (hk : zk K ad cap N) (hn12 : N 0 2 ≤ 12) (hbk : ∀ k, k < N 0 2 → N 9 k < N 0 1) {q mb : Nat} (hq : q < N 0 1) (hmb : mb < N 0 2) (hqm : N 9 mb = q) (hinj : ∀ k, k < N 0 2 → N 9 k = q → k = mb)  : zz_C l yX2_removeBooking cX2_removeBooking 3 (Option.none : Option Jvm.ClassFile.FieldType) ({ frames := 3, cells := 0, slots := 0, locals := 86 } : Room) K A [.ref (ad 0 0), .ref (ad 5 q)] (fun H => zz_W K A ad (zx_c K ad E cap N G L) H) (fun v9 _ H9 => v9 = none ∧ ∃ E9, zz_W K A ad (zx_c K ad E9 cap (zsp (zu N 0 2 (N 0 2 - 1)) mb (N 0 2 - 1)) G L) H9) zz_nx A := by
  refine zz_body (by decide +kernel) (Nat.le_of_ble_eq_true rfl) ?_
  intro p e s m below meth c ls hx hb hr hml hts hown hlocks hmn htab hE hA hP hl
  have hN := hE.N
  have hK := hE.K
  have hown : s.vm.findClass RX2 = some m.cls := hown
  have hl : lv_has ls 3 [(0, .ref (ad 0 0)), (1, .ref (ad 5 q))] := hl
  have hZ : zz_Z K A s ad (zx_c K ad E cap N G L) s.heap := ⟨hE, hA, hP⟩
  have hS : va_S zz_no s.heap s.heap [] := va_S.rf
  obtain ⟨H, hH⟩ : ∃ z, z = s.heap := ⟨_, rfl⟩
  have hS0 : va_S zz_no s.heap H [] := by rw [hH]; exact hS
  rw [← hH] at hZ
  have hE0 := hE
  clear hS
  have hS := hS0
  have h02 : N 0 2 ≤ 12 := hn12
  have hk2 := hk 2 (by decide)
  show W p l e _ s m _ below meth c s.heap [] 0 0 _ (F0 m 0 ls [])
  rw [← hH]
  refine zz_con 0 hx hb dX2_removeBooking_0 (by decide) ?_
  refine lv_istore_n (lv' := [(2, .int (nI 0)), (0, .ref (ad 0 0)), (1, .ref (ad 5 q))]) hx hb dX2_removeBooking_1 rfl hl (Nat.le_of_ble_eq_true rfl) rfl (fun ls hl => ?_)
  have hL_2 : ∀ (k i : Nat), i ≤ N 0 2 → N 0 2 < i + k → (∀ k, k < i → N 9 k ≠ q) → ∀ (H : Heap) (locs : List Loc) (ls : Array Slot), zz_Z K A s ad (zx_c K ad E cap N G L) H → va_S zz_no s.heap H locs → lv_has ls 3 [(2, .int (nI i)), (0, .ref (ad 0 0)), (1, .ref (ad 5 q))] → W p l e ({ frames := 3, cells := 0, slots := 0, locals := 86 } : Room) s m ([.ref (ad 0 0), .ref (ad 5 q)] : List Value).toArray below meth c H locs 0 0 (vx_MQ below (zz_Qc (fun v9 _ H9 => v9 = none ∧ ∃ E9, zz_W K A ad (zx_c K ad E9 cap (zsp (zu N 0 2 (N 0 2 - 1)) mb (N 0 2 - 1)) G L) H9) A) (zz_XC zz_nx) ([.ref (ad 0 0), .ref (ad 5 q)] : List Value).toArray s ({ frames := 3, cells := 0, slots := 0, locals := 86 } : Room).cells ({ frames := 3, cells := 0, slots := 0, locals := 86 } : Room).slots A) (F0 m 2 ls []) := by
    intro k
    induction k with
    | zero => intro i hi hik; omega
    | succ k ih_i =>
      intro i hii hiki hno H locs ls hZ hS hl
      refine lv_iload_n hx hb dX2_removeBooking_2 rfl (lv_at hl 0 rfl) ?_
      refine lv_aload_n hx hb dX2_removeBooking_3 rfl (lv_at hl 1 rfl) ?_
      refine zz_get (ci := 5) (C := RX2) (T := TX2) (N := 8) (v := .ref (ad 1 2)) hx hb hts hown hK (zx_ob hZ.W).1 rfl zf_X2 2 (by decide) zw_61 (fun _ h9 => h9) rfl dX2_removeBooking_4 ?_
      refine zz_after (pc := 7) rfl (zz_runV (ci := 2) (q0 := (RJx4a65c, TJx4a65c, 3)) (b := ad 1 2) (As := []) (rest := [.int (nI i)]) hx hb hml hown hts (c_Jx4a65c_size_8abf5 l (K := K) (A := A) (ad := ad) (E := E) (cap := cap) (N := N) (G := G) (L := L) hk (by decide)) zw_88 zw_89 zw_90 zw_4 zw_91 zd_Jx4a65c_size_8abf5 ⟨Nat.le_of_ble_eq_true rfl, Nat.le_of_ble_eq_true rfl⟩ hZ.E hZ.A (zx_li hZ.W (t := 2) (by decide)).1 rfl rfl hZ.W hl.1 (Nat.le_of_ble_eq_true rfl) dX2_removeBooking_7 ⟨Nat.le_of_ble_eq_true rfl, Nat.le_of_ble_eq_true rfl⟩) hS (fun _ h => h.elim) (fun v_5 H locs hq_3 hF_4 hS => ?_)
      refine W.widen (k := 0) (n := 0) (Nat.le_of_ble_eq_true rfl) (Nat.le_of_ble_eq_true rfl) ?_
      obtain rfl := hq_3
      have hZ := hZ.ro hF_4
      refine W.eq (g2 := F0 m 10 ls [.int (nI (N 0 2)), .int (nI i)]) rfl ?_
      refine zz_ic_ge (tgt := 41) (by first | exact hB _ _ | exact hUa _ | exact hUb _ | exact hUc _ | exact hUd _ | omega) (by first | exact hB _ _ | exact hUa _ | exact hUb _ | exact hUc _ | exact hUd _ | omega) hx hb dX2_removeBooking_10 (by decide) (fun c_6 => ?_) (fun c_6 => ?_)
      · skip
        obtain rfl : i = N 0 2 := by omega
        have hS : va_S A s.heap H _ := zz_Smono hS (fun _ h => h.elim)
        refine zz_vret hx hb hr hlocks hS (Nat.le_of_ble_eq_true rfl) (Nat.le_of_ble_eq_true rfl) dX2_removeBooking_41 ?_
        exact absurd hqm (hno mb hmb)
      · skip
        refine lv_aload_n hx hb dX2_removeBooking_13 rfl (lv_at hl 1 rfl) ?_
        refine zz_get (ci := 5) (C := RX2) (T := TX2) (N := 8) (v := .ref (ad 1 2)) hx hb hts hown hK (zx_ob hZ.W).1 rfl zf_X2 2 (by decide) zw_61 (fun _ h9 => h9) rfl dX2_removeBooking_14 ?_
        refine lv_iload_n hx hb dX2_removeBooking_17 rfl (lv_at hl 0 rfl) ?_
        have hj_7 : i < N 0 2 := by omega
        have hp_8 : N 9 i < N 0 1 := hbk _ hj_7
        refine zz_after (pc := 18) rfl (zz_runV (ci := 2) (q0 := (RJx4a65c, TJx4a65c, 3)) (b := ad 1 2) (As := [.int (nI i)]) (rest := []) hx hb hml hown hts (c_Jx4a65c_get_915e3 l (K := K) (A := A) (ad := ad) (E := E) (cap := cap) (N := N) (G := G) (L := L) hk (by decide) (j := i) (r := (ad 5 (N 9 i))) hj_7 (zx_g2 hj_7)) zw_101 zw_102 zw_103 zw_4 zw_104 zd_Jx4a65c_get_915e3 ⟨Nat.le_of_ble_eq_true rfl, Nat.le_of_ble_eq_true rfl⟩ hZ.E hZ.A (zx_li hZ.W (t := 2) (by decide)).1 rfl rfl hZ.W hl.1 (Nat.le_of_ble_eq_true rfl) dX2_removeBooking_18 ⟨Nat.le_of_ble_eq_true rfl, Nat.le_of_ble_eq_true rfl⟩) hS (fun _ h => h.elim) (fun v_11 H locs hq_9 hF_10 hS => ?_)
        refine W.widen (k := 0) (n := 0) (Nat.le_of_ble_eq_true rfl) (Nat.le_of_ble_eq_true rfl) ?_
        obtain rfl := hq_9
        have hZ := hZ.ro hF_10
        refine W.eq (g2 := F0 m 21 ls [.ref (ad 5 (N 9 i))]) rfl ?_
        refine lv_aload_n hx hb dX2_removeBooking_21 rfl (lv_at hl 2 rfl) ?_
        refine zz_acmp_ne (rx := some (ad 5 (N 9 i))) (ry := some (ad 5 q)) (P := N 9 i = q) (tgt := 35) ⟨fun e => zx_inj5 hZ.W hp_8 hq (Option.some.inj e), fun e => by rw [e]⟩ hx hb dX2_removeBooking_22 (by decide) (fun c_12 => ?_) (fun c_12 => ?_)
        · skip
          refine zz_inc (k := 0) (lv' := [(2, .int (nI (i + 1))), (0, .ref (ad 0 0)), (1, .ref (ad 5 q))]) hx hb dX2_removeBooking_35 hl rfl (Nat.le_of_ble_eq_true rfl) rfl (fun ls hl => ?_)
          refine lv_goto (tgt := 2) hx hb dX2_removeBooking_38 (by decide) ?_
          refine ih_i (i + 1) (by omega) (by omega) (fun k hk => if e : k = i then (by rw [e]; assumption) else hno k (by omega)) _ _ _ ?_ hS ?_
          · exact hZ
          · skip
            exact lv_sub hl [0, 1, 2] rfl
        · skip
          refine lv_aload_n hx hb dX2_removeBooking_25 rfl (lv_at hl 1 rfl) ?_
          refine zz_get (ci := 5) (C := RX2) (T := TX2) (N := 8) (v := .ref (ad 1 2)) hx hb hts hown hK (zx_ob hZ.W).1 rfl zf_X2 2 (by decide) zw_61 (fun _ h9 => h9) rfl dX2_removeBooking_26 ?_
          refine lv_iload_n hx hb dX2_removeBooking_29 rfl (lv_at hl 0 rfl) ?_
          have hsub9 := zxA_sub hZ (t := 2) (by decide)
          have hT9 := zx_T hZ hk hbk (t := 2) (by decide)
          have hS : va_S A s.heap H _ := zz_Smono hS (fun _ h => h.elim)
          refine zz_after (pc := 30) rfl (zz_runV (ci := 2) (q0 := (RJx4a65c, TJx4a65c, 3)) (b := ad 1 2) (As := [.int (nI i)]) (rest := []) hx hb hml hown hts (c_Jx4a65c_remove_915e3 l (K := K) (A := zxA ad cap 2 H) (a := ad 1 2) (b := ad 2 2) (mo := E 0 2) (n := N 0 2) (cp := cap 2) (g := zx_el ad N 2) (j := i) (r := ad 5 (N 9 i)) (by omega) (by omega) (zx_g2 (by omega))) zw_578 zw_579 zw_580 zw_4 zw_581 zd_Jx4a65c_remove_915e3 ⟨Nat.le_of_ble_eq_true rfl, Nat.le_of_ble_eq_true rfl⟩ (hZ.E.narrow hsub9) (fun q h => Or.inr (Or.inr h)) (zx_li hZ.W (t := 2) (by decide)).1 rfl rfl hT9 hl.1 (Nat.le_of_ble_eq_true rfl) dX2_removeBooking_30 ⟨Nat.le_of_ble_eq_true rfl, Nat.le_of_ble_eq_true rfl⟩) hS hsub9 (fun v_15 H locs hq_13 hF_14 hS => ?_)
          refine W.widen (k := 0) (n := 0) (Nat.le_of_ble_eq_true rfl) (Nat.le_of_ble_eq_true rfl) ?_
          obtain ⟨rfl, hW9⟩ := hq_13
          have hW8 := zx_relist (N' := (zsp (zu N 0 2 (N 0 2 - 1)) i (N 0 2 - 1))) hZ (by decide) hW9 hF_14 rfl (zx_el_rm (by omega)) (zx_hw2 (by intro k i h9 h10 h0; first | exact zx_nk h9 h10 h0 | exact zu_n h0))
          have hZ : zz_Z K A s (zadp ad 2 (ad 2 2)) (zx_c K (zadp ad 2 (ad 2 2)) (zg E 0 2 (E 0 2 + nI 1)) (zcp cap 2 (cap 2)) (zsp (zu N 0 2 (N 0 2 - 1)) i (N 0 2 - 1)) G L) H := hZ.mut (zz_fr.mono hF_14 hsub9) hW8
          rw [zadp_id, zcp_id] at hZ
          refine W.eq (g2 := F0 m 33 ls [.ref (ad 5 (N 9 i))]) rfl ?_
          refine lv_pop hx hb dX2_removeBooking_33 rfl ?_
          refine zz_vret hx hb hr hlocks hS (Nat.le_of_ble_eq_true rfl) (Nat.le_of_ble_eq_true rfl) dX2_removeBooking_34 ?_
          have him : i = mb := hinj i (by omega) (by assumption)
          rw [him] at hZ
          exact ⟨rfl, _, hZ.W⟩
  refine hL_2 (N 0 2 + 1) 0 (by first | omega | exact Nat.zero_le _) (by first | omega | (rw [Nat.zero_add]; exact Nat.lt_succ_self _)) (fun k hk => absurd hk (Nat.not_lt_zero _)) _ _ _ hZ hS ?_
  exact lv_sub hl [0, 1, 2] rfl
