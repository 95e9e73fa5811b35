/-! by program (gen.py): contracts of methods -/
def zv_b (P : Prop) [Decidable P] : Int64 := if P then 1 else 0
theorem zv_bt {P : Prop} [Decidable P] (h : P) : zv_b P = 1 := if_pos h
theorem zv_bf {P : Prop} [Decidable P] (h : ¬ P) : zv_b P = 0 := if_neg h
theorem zv_u0 {f : Nat → Int64} {x : Int64} : vp_updL f (nI 0).toNatClampNeg x 0 = x := by
  rw [nI_clamp (by decide)]; simp [vp_updL]
theorem zv_u0d {f : Nat → UInt64} {x : UInt64} : vf_upd f (nI 0).toNatClampNeg x 0 = x := by
  rw [nI_clamp (by decide)]; simp [vf_upd]
theorem zshare_g : ∀ a, a < 73 → ∀ b, b < 72 → vf_n64 (FP.f2d (FP.fdiv (FP.i2f (nI a)) (FP.i2f (nI (b + 1))))) := by unfold vf_n64; decide +kernel
theorem zshare_d {N : zN} (h : zq N) (h0 : zos N ≠ 0) : vf_n64 (FP.f2d (zshare N)) := by
  have h1 := zgv2_b h
  have h2 := zos_b h
  have := zshare_g (zgv2 N) (by omega) (zos N - 1) (by omega)
  rw [show zos N - 1 + 1 = zos N by omega] at this
  exact this
/-! a call that throws changes nothing -/
theorem kz_addFloor {N : zN} {G : Nat → Nat → Int32} {x y : Int32} (h : (zs_addFloor N G x y).1 ≠ 0) : (zs_addFloor N G x y).2.2.1 = N ∧ (zs_addFloor N G x y).2.2.2 = G := by
  unfold zs_addFloor at h ⊢
  split
  · exact ⟨rfl, rfl⟩
  · next c =>
    split
    · exact ⟨rfl, rfl⟩
    · next c2 => rw [if_neg c, if_neg c2] at h; exact absurd rfl h
theorem kz_setCost {N : zN} {x y : Int32} (h : (zs_setCost N x y).1 ≠ 0) : (zs_setCost N x y).2.2 = N := by
  unfold zs_setCost at h ⊢
  split
  · rfl
  · next c =>
    split
    · rfl
    · next c2 => rw [if_neg c, if_neg c2] at h; exact absurd rfl h
theorem kz_addPerson {N : zN} {x : Int32} (h : (zs_addPerson N x).1 ≠ 0) : (zs_addPerson N x).2.2 = N := by
  unfold zs_addPerson at h ⊢
  split
  · rfl
  · next c =>
    split
    · rfl
    · next c2 => rw [if_neg c, if_neg c2] at h; exact absurd rfl h
theorem kz_book {N : zN} {x y : Int32} (h : (zs_book N x y).1 ≠ 0) : (zs_book N x y).2.2 = N := by
  unfold zs_book at h ⊢
  split
  · rfl
  · next c =>
    split
    · rfl
    · next c2 =>
      split
      · rfl
      · next c3 =>
        split
        · rfl
        · next c4 => rw [if_neg c, if_neg c2, if_neg c3, if_neg c4] at h; exact absurd rfl h
theorem kz_cancel {N : zN} {x : Int32} (h : (zs_cancel N x).1 ≠ 0) : (zs_cancel N x).2.2 = N := by
  unfold zs_cancel at h ⊢
  split
  · rfl
  · next c =>
    split
    · rfl
    · next c2 => rw [if_neg c, if_neg c2] at h; exact absurd rfl h
theorem kz_nextDay {N : zN} {L : Nat → Int64} (h : (zs_day N L).1 ≠ 0) : (zs_day N L).2.2.1 = N ∧ (zs_day N L).2.2.2 = L := by
  unfold zs_day at h ⊢
  split
  · exact ⟨rfl, rfl⟩
  · next c => rw [if_neg c] at h; exact absurd rfl h
theorem kz_comeIn {N : zN} {x : Int32} (h : (zs_comeIn N x).1 ≠ 0) : (zs_comeIn N x).2.2 = N := by
  unfold zs_comeIn at h ⊢
  split
  · rfl
  · next c =>
    split
    · rfl
    · next c2 =>
      split
      · rfl
      · next c3 => rw [if_neg c, if_neg c2, if_neg c3] at h; exact absurd rfl h
theorem kz_leave {N : zN} {x : Int32} (h : (zs_leave N x).1 ≠ 0) : (zs_leave N x).2.2 = N := by
  unfold zs_leave at h ⊢
  split
  · rfl
  · next c =>
    split
    · rfl
    · next c2 => rw [if_neg c, if_neg c2] at h; exact absurd rfl h
theorem kz_pass {N : zN} {G : Nat → Nat → Int32} {L : Nat → Int64} {x : Int32} (h : (zs_pass N G L x).1 ≠ 0) : (zs_pass N G L x).2.2.1 = G ∧ (zs_pass N G L x).2.2.2 = L := by
  unfold zs_pass at h ⊢
  split
  · exact ⟨rfl, rfl⟩
  · next c => rw [if_neg c] at h; exact absurd rfl h
/-! the lists stay as they must be -/
theorem zk_le {K : zz_G} {ad : Nat → Nat → Nat} {cap : Nat → Nat} {N N' : zN} (hk : zk K ad cap N) (h : ∀ t, t < 3 → N' 0 t ≤ N 0 t) : zk K ad cap N' := fun t ht => by
  obtain ⟨a, b, c⟩ := hk t ht
  exact ⟨Nat.le_trans (h t ht) a, b, c⟩
theorem kk_setCost {K : zz_G} {ad : Nat → Nat → Nat} {cap : Nat → Nat} {N : zN} {x y : Int32} (hk : zk K ad cap N) : zk K ad cap (zs_setCost N x y).2.2 := zk_le hk fun t _ => by
  unfold zs_setCost
  split
  · exact Nat.le_refl _
  · split
    · exact Nat.le_refl _
    · dsimp only; rw [zu_k (by decide)]; exact Nat.le_refl _
theorem kk_comeIn {K : zz_G} {ad : Nat → Nat → Nat} {cap : Nat → Nat} {N : zN} {x : Int32} (hk : zk K ad cap N) : zk K ad cap (zs_comeIn N x).2.2 := zk_le hk fun t _ => by
  unfold zs_comeIn
  split
  · exact Nat.le_refl _
  · split
    · exact Nat.le_refl _
    · split
      · exact Nat.le_refl _
      · dsimp only; rw [zu_k (by decide), zu_k (by decide)]; exact Nat.le_refl _
theorem kk_leave {K : zz_G} {ad : Nat → Nat → Nat} {cap : Nat → Nat} {N : zN} {x : Int32} (hk : zk K ad cap N) : zk K ad cap (zs_leave N x).2.2 := zk_le hk fun t _ => by
  unfold zs_leave
  split
  · exact Nat.le_refl _
  · split
    · exact Nat.le_refl _
    · dsimp only; rw [zu_k (by decide)]; exact Nat.le_refl _
theorem kk_cancel {K : zz_G} {ad : Nat → Nat → Nat} {cap : Nat → Nat} {N : zN} {x : Int32} (hk : zk K ad cap N) : zk K ad cap (zs_cancel N x).2.2 := zk_le hk fun t _ => by
  unfold zs_cancel
  split
  · exact Nat.le_refl _
  · split
    · exact Nat.le_refl _
    · dsimp only
      rw [zu_k (by decide)]; unfold zsp; rw [if_neg (by omega)]
      by_cases q : t = 2
      · subst q; rw [zu_s]; omega
      · rw [zu_i q]; exact Nat.le_refl _
theorem kk_nextDay {K : zz_G} {ad : Nat → Nat → Nat} {cap : Nat → Nat} {N : zN} {L : Nat → Int64} (hk : zk K ad cap N) : zk K ad cap (zs_day N L).2.2.1 := zk_le hk fun t _ => by
  unfold zs_day
  split
  · exact Nat.le_refl _
  · show zs_dayN N 0 t ≤ N 0 t
    unfold zs_dayN
    rw [if_neg (by omega), zu_k (by decide), zu_k (by decide)]
    by_cases q : t = 2
    · subst q; rw [zu_s]; omega
    · rw [zu_i q, zs_gd_k (by decide), zdM_k (by decide) (by decide) (by decide) (by decide) (by decide)]; exact Nat.le_refl _
theorem zd_X2_addFloor : yX2_addFloor.cls ≠ "java/lang/invoke/MethodHandle" ∧ yX2_addFloor.cls ≠ "java/lang/invoke/VarHandle" ∧ (parseMethodDescriptor yX2_addFloor.desc).map (fun d => d.parameters.length) = some 2 := by decide +kernel
theorem zd_X2_addPerson : yX2_addPerson.cls ≠ "java/lang/invoke/MethodHandle" ∧ yX2_addPerson.cls ≠ "java/lang/invoke/VarHandle" ∧ (parseMethodDescriptor yX2_addPerson.desc).map (fun d => d.parameters.length) = some 1 := by decide +kernel
theorem zd_X2_air : yX2_air.cls ≠ "java/lang/invoke/MethodHandle" ∧ yX2_air.cls ≠ "java/lang/invoke/VarHandle" ∧ (parseMethodDescriptor yX2_air.desc).map (fun d => d.parameters.length) = some 1 := by decide +kernel
theorem zd_X2_book : yX2_book.cls ≠ "java/lang/invoke/MethodHandle" ∧ yX2_book.cls ≠ "java/lang/invoke/VarHandle" ∧ (parseMethodDescriptor yX2_book.desc).map (fun d => d.parameters.length) = some 2 := by decide +kernel
theorem zd_X2_bookingAt : yX2_bookingAt.cls ≠ "java/lang/invoke/MethodHandle" ∧ yX2_bookingAt.cls ≠ "java/lang/invoke/VarHandle" ∧ (parseMethodDescriptor yX2_bookingAt.desc).map (fun d => d.parameters.length) = some 1 := by decide +kernel
theorem zd_X2_cancel : yX2_cancel.cls ≠ "java/lang/invoke/MethodHandle" ∧ yX2_cancel.cls ≠ "java/lang/invoke/VarHandle" ∧ (parseMethodDescriptor yX2_cancel.desc).map (fun d => d.parameters.length) = some 1 := by decide +kernel
theorem zd_X2_comeIn : yX2_comeIn.cls ≠ "java/lang/invoke/MethodHandle" ∧ yX2_comeIn.cls ≠ "java/lang/invoke/VarHandle" ∧ (parseMethodDescriptor yX2_comeIn.desc).map (fun d => d.parameters.length) = some 1 := by decide +kernel
theorem zd_X2_givenShare : yX2_givenShare.cls ≠ "java/lang/invoke/MethodHandle" ∧ yX2_givenShare.cls ≠ "java/lang/invoke/VarHandle" ∧ (parseMethodDescriptor yX2_givenShare.desc).map (fun d => d.parameters.length) = some 0 := by decide +kernel
theorem zd_X2_isIn : yX2_isIn.cls ≠ "java/lang/invoke/MethodHandle" ∧ yX2_isIn.cls ≠ "java/lang/invoke/VarHandle" ∧ (parseMethodDescriptor yX2_isIn.desc).map (fun d => d.parameters.length) = some 1 := by decide +kernel
theorem zd_X2_isOpen : yX2_isOpen.cls ≠ "java/lang/invoke/MethodHandle" ∧ yX2_isOpen.cls ≠ "java/lang/invoke/VarHandle" ∧ (parseMethodDescriptor yX2_isOpen.desc).map (fun d => d.parameters.length) = some 1 := by decide +kernel
theorem zd_X2_leave : yX2_leave.cls ≠ "java/lang/invoke/MethodHandle" ∧ yX2_leave.cls ≠ "java/lang/invoke/VarHandle" ∧ (parseMethodDescriptor yX2_leave.desc).map (fun d => d.parameters.length) = some 1 := by decide +kernel
theorem zd_X2_lossOf : yX2_lossOf.cls ≠ "java/lang/invoke/MethodHandle" ∧ yX2_lossOf.cls ≠ "java/lang/invoke/VarHandle" ∧ (parseMethodDescriptor yX2_lossOf.desc).map (fun d => d.parameters.length) = some 1 := by decide +kernel
theorem zd_X2_meanStanding : yX2_meanStanding.cls ≠ "java/lang/invoke/MethodHandle" ∧ yX2_meanStanding.cls ≠ "java/lang/invoke/VarHandle" ∧ (parseMethodDescriptor yX2_meanStanding.desc).map (fun d => d.parameters.length) = some 0 := by decide +kernel
theorem zd_X2_nextDay : yX2_nextDay.cls ≠ "java/lang/invoke/MethodHandle" ∧ yX2_nextDay.cls ≠ "java/lang/invoke/VarHandle" ∧ (parseMethodDescriptor yX2_nextDay.desc).map (fun d => d.parameters.length) = some 0 := by decide +kernel
theorem zd_X2_pass : yX2_pass.cls ≠ "java/lang/invoke/MethodHandle" ∧ yX2_pass.cls ≠ "java/lang/invoke/VarHandle" ∧ (parseMethodDescriptor yX2_pass.desc).map (fun d => d.parameters.length) = some 1 := by decide +kernel
theorem zd_X2_seatOf : yX2_seatOf.cls ≠ "java/lang/invoke/MethodHandle" ∧ yX2_seatOf.cls ≠ "java/lang/invoke/VarHandle" ∧ (parseMethodDescriptor yX2_seatOf.desc).map (fun d => d.parameters.length) = some 1 := by decide +kernel
theorem zd_X2_seated : yX2_seated.cls ≠ "java/lang/invoke/MethodHandle" ∧ yX2_seated.cls ≠ "java/lang/invoke/VarHandle" ∧ (parseMethodDescriptor yX2_seated.desc).map (fun d => d.parameters.length) = some 2 := by decide +kernel
theorem zd_X2_setCost : yX2_setCost.cls ≠ "java/lang/invoke/MethodHandle" ∧ yX2_setCost.cls ≠ "java/lang/invoke/VarHandle" ∧ (parseMethodDescriptor yX2_setCost.desc).map (fun d => d.parameters.length) = some 2 := by decide +kernel
theorem zd_X2_standing : yX2_standing.cls ≠ "java/lang/invoke/MethodHandle" ∧ yX2_standing.cls ≠ "java/lang/invoke/VarHandle" ∧ (parseMethodDescriptor yX2_standing.desc).map (fun d => d.parameters.length) = some 1 := by decide +kernel
theorem zd_X2_warmth : yX2_warmth.cls ≠ "java/lang/invoke/MethodHandle" ∧ yX2_warmth.cls ≠ "java/lang/invoke/VarHandle" ∧ (parseMethodDescriptor yX2_warmth.desc).map (fun d => d.parameters.length) = some 1 := by decide +kernel
set_option maxHeartbeats 4000000 in
set_option maxRecDepth 100000 in
theorem c_L_addFloor (l : Launch) (hfl : l.stackTraces = false) {K : zz_G} {A Ax : Nat → Prop} {ox ol : Nat} {v0 : Int64} {N : Nat → Nat → Nat} {G : Nat → Nat → Int32} {L : Nat → Int64} (hzi : zi N) (x y : Int32) (hsub : ∀ q, Ax q → A q) (hol : A ol) (hnx : ¬ Ax ol) : zz_CH l yL_addFloor cL_addFloor 5 (Option.some FieldType.int) [(0, 10, 13, 13), (0, 10, 17, 15)] ({ frames := 8, cells := 4, slots := 66, locals := 194 } : Room) K A [.ref ox, .int x, .int y, .ref ol] (fun H => (∀ q : Nat, H.size ≤ q → Ax q) ∧ zv_X K Ax ox N G L H ∧ zv_lo K ol v0 H) (fun v9 _ H9 => v9 = some (.int (nI ((zs_addFloor N G x y).1))) ∧ zv_X K Ax ox ((zs_addFloor N G x y).2.2.1) ((zs_addFloor N G x y).2.2.2) L H9 ∧ ∃ v, zv_lo K ol v H9 ∧ (nI ((zs_addFloor N G x y).1) = 0 → v = ((zs_addFloor N G x y).2.1).toInt64)) A := by
  refine zz_bodyH (by decide +kernel) (Nat.le_of_ble_eq_true rfl) ?_
  intro p e s m below meth c ls hx hb hr hml hts hown hlocks htab hE hA hP hl
  obtain ⟨hnw, ⟨ad, E, cap, rfl, hk, hW⟩, hlo⟩ := hP
  have hI := hzi.q
  have hK := hE.K
  have hown : s.vm.findClass "OpenFloorsLaw" = some m.cls := hown
  have hl : lv_has ls 5 [(0, .ref (ad 0 0)), (1, .int x), (2, .int y), (3, .ref ol)] := hl
  have hS : va_S A s.heap s.heap [] := va_S.rf
  obtain ⟨H, hH⟩ : ∃ z, z = s.heap := ⟨_, rfl⟩
  show W p l e _ s m _ below meth c s.heap [] 0 0 _ (F0 m 0 ls [])
  skip
  refine lv_aload_n hx hb dL_addFloor_0 rfl (lv_at hl 3 rfl) ?_
  refine zz_con 0 hx hb dL_addFloor_1 (by decide) ?_
  refine lv_aload_n hx hb dL_addFloor_2 rfl (lv_at hl 0 rfl) ?_
  refine lv_iload_n hx hb dL_addFloor_3 rfl (lv_at hl 1 rfl) ?_
  refine lv_iload_n hx hb dL_addFloor_4 rfl (lv_at hl 2 rfl) ?_
  refine zz_afterH (A := A) (pc := 5) rfl (zz_runV (ci := 5) (q0 := (RX2, TX2, 8)) (b := ad 0 0) (As := [.int x, .int y]) (rest := [.int (nI 0), .ref ol]) hx hb hml hown hts (c_X2_addFloor l hfl (K := K) (A := Ax) (ad := ad) (E := E) (cap := cap) (N := N) (G := G) (L := L) hzi hI hk x y) zw_232 zw_233 zw_234 zw_1 zw_235 zd_X2_addFloor ⟨Nat.le_of_ble_eq_true rfl, Nat.le_of_ble_eq_true rfl⟩ (hE.narrow hsub) hnw (zx_ob hW).1 rfl rfl hW hl.1 (Nat.le_of_ble_eq_true rfl) dL_addFloor_5 ⟨Nat.le_of_ble_eq_true rfl, Nat.le_of_ble_eq_true rfl⟩) hS hsub (fun Ex ce q H1 locs1 hXc hF hce hcv hcl hS => ?_) (fun v H1 locs1 hQ hF hS => ?_)
  · have hX1 : zv_X K Ax (ad 0 0) N G L H1 := ⟨ad, E, cap, rfl, hk, hW.ro hF⟩
    have hlo1 := hlo.fr hF (fun z => z)
    rcases hXc with ⟨rfl, hc⟩ | ⟨rfl, hc⟩
    · skip
      refine zz_catch (own := "OpenFloorsLaw") (E := "java/lang/IllegalArgumentException") hown hts hE htab 0 rfl ⟨by decide, by decide⟩ (by decide) (by decide) (fun z hz => absurd hz List.not_mem_nil) zw_230 zn_238 hce hcv hcl ?_
      refine lv_astore (lv' := [(4, .ref q), (0, .ref (ad 0 0)), (1, .int x), (2, .int y), (3, .ref ol)]) hx hb dL_addFloor_13 hl (Nat.le_of_ble_eq_true rfl) rfl (fun ls hl => ?_)
      refine zz_con 1 hx hb dL_addFloor_15 (by decide) ?_
      refine zz_iret hx hb hr hlocks hS (Nat.le_of_ble_eq_true rfl) (Nat.le_of_ble_eq_true rfl) dL_addFloor_16 ?_
      exact ⟨by rw [hc], (by rw [(kz_addFloor (by rw [hc]; decide)).1, (kz_addFloor (by rw [hc]; decide)).2]; exact hX1), _, hlo1, fun h9 => absurd h9 (by rw [hc]; decide)⟩
    · skip
      refine zz_catch (own := "OpenFloorsLaw") (E := "java/lang/IllegalStateException") hown hts hE htab 1 rfl ⟨by decide, by decide⟩ (by decide) (by decide) (List.forall_mem_cons.mpr ⟨⟨"java/lang/IllegalArgumentException", by decide, zw_230, by decide, by decide⟩, (fun _ h9 => absurd h9 List.not_mem_nil)⟩) zw_231 zn_314 hce hcv hcl ?_
      refine lv_astore (lv' := [(4, .ref q), (0, .ref (ad 0 0)), (1, .int x), (2, .int y), (3, .ref ol)]) hx hb dL_addFloor_17 hl (Nat.le_of_ble_eq_true rfl) rfl (fun ls hl => ?_)
      refine zz_con 2 hx hb dL_addFloor_19 (by decide) ?_
      refine zz_iret hx hb hr hlocks hS (Nat.le_of_ble_eq_true rfl) (Nat.le_of_ble_eq_true rfl) dL_addFloor_20 ?_
      exact ⟨by rw [hc], (by rw [(kz_addFloor (by rw [hc]; decide)).1, (kz_addFloor (by rw [hc]; decide)).2]; exact hX1), _, hlo1, fun h9 => absurd h9 (by rw [hc]; decide)⟩
  · skip
    obtain ⟨hc, rfl, ad1, E1, cap1, ha1, hk1, hW1⟩ := hQ
    have hX1 : zv_X K Ax (ad 0 0) ((zs_addFloor N G x y).2.2.1) ((zs_addFloor N G x y).2.2.2) L H1 := ⟨ad1, E1, cap1, ha1, hk1, hW1⟩
    obtain ⟨f1, hat1, -⟩ := hlo.fr hF hnx
    refine W.eq (g2 := F0 m 8 ls (.int ((zs_addFloor N G x y).2.1) :: [.int (nI 0), .ref ol])) rfl ?_
    refine lv_i2l hx hb dL_addFloor_8 rfl ?_
    refine zz_last hx hb hK hS hat1 hol (vp_in_nI (by decide) (by decide)) dL_addFloor_9 (fun H2 locs2 hat2 hz2 ho2 hS => ?_)
    refine lv_goto (tgt := 21) hx hb dL_addFloor_10 (by decide) ?_
    refine zz_con 0 hx hb dL_addFloor_21 (by decide) ?_
    refine zz_iret hx hb hr hlocks hS (Nat.le_of_ble_eq_true rfl) (Nat.le_of_ble_eq_true rfl) dL_addFloor_22 ?_
    exact ⟨by rw [hc], hX1.fr (B := fun q => q = ol) ⟨by omega, fun q _ h => ho2 q h⟩ (fun q hq _ e => hnx (e ▸ hq)), _, ⟨_, hat2, zv_u0⟩, fun _ => rfl⟩

set_option maxHeartbeats 4000000 in
set_option maxRecDepth 100000 in
theorem c_L_setCost (l : Launch) (hfl : l.stackTraces = false) {K : zz_G} {A Ax : Nat → Prop} {ox ol : Nat} {v0 : Int64} {N : Nat → Nat → Nat} {G : Nat → Nat → Int32} {L : Nat → Int64} (hzi : zi N) (x y : Int32) (hsub : ∀ q, Ax q → A q) (hol : A ol) (hnx : ¬ Ax ol) : zz_CH l yL_setCost cL_setCost 5 (Option.some FieldType.int) [(0, 10, 13, 20), (0, 10, 17, 13)] ({ frames := 8, cells := 2, slots := 12, locals := 141 } : Room) K A [.ref ox, .int x, .int y, .ref ol] (fun H => (∀ q : Nat, H.size ≤ q → Ax q) ∧ zv_X K Ax ox N G L H ∧ zv_lo K ol v0 H) (fun v9 _ H9 => v9 = some (.int (nI ((zs_setCost N x y).1))) ∧ zv_X K Ax ox ((zs_setCost N x y).2.2) G L H9 ∧ ∃ v, zv_lo K ol v H9 ∧ (nI ((zs_setCost N x y).1) = 0 → v = ((zs_setCost N x y).2.1).toInt64)) A := by
  refine zz_bodyH (by decide +kernel) (Nat.le_of_ble_eq_true rfl) ?_
  intro p e s m below meth c ls hx hb hr hml hts hown hlocks htab hE hA hP hl
  obtain ⟨hnw, ⟨ad, E, cap, rfl, hk, hW⟩, hlo⟩ := hP
  have hI := hzi.q
  have hK := hE.K
  have hown : s.vm.findClass "OpenFloorsLaw" = some m.cls := hown
  have hl : lv_has ls 5 [(0, .ref (ad 0 0)), (1, .int x), (2, .int y), (3, .ref ol)] := hl
  have hS : va_S A s.heap s.heap [] := va_S.rf
  obtain ⟨H, hH⟩ : ∃ z, z = s.heap := ⟨_, rfl⟩
  show W p l e _ s m _ below meth c s.heap [] 0 0 _ (F0 m 0 ls [])
  skip
  refine lv_aload_n hx hb dL_setCost_0 rfl (lv_at hl 3 rfl) ?_
  refine zz_con 0 hx hb dL_setCost_1 (by decide) ?_
  refine lv_aload_n hx hb dL_setCost_2 rfl (lv_at hl 0 rfl) ?_
  refine lv_iload_n hx hb dL_setCost_3 rfl (lv_at hl 1 rfl) ?_
  refine lv_iload_n hx hb dL_setCost_4 rfl (lv_at hl 2 rfl) ?_
  refine zz_afterH (A := A) (pc := 5) rfl (zz_runV (ci := 5) (q0 := (RX2, TX2, 8)) (b := ad 0 0) (As := [.int x, .int y]) (rest := [.int (nI 0), .ref ol]) hx hb hml hown hts (c_X2_setCost l hfl (K := K) (A := Ax) (ad := ad) (E := E) (cap := cap) (N := N) (G := G) (L := L) hI hk x y) zw_446 zw_447 zw_448 zw_1 zw_449 zd_X2_setCost ⟨Nat.le_of_ble_eq_true rfl, Nat.le_of_ble_eq_true rfl⟩ (hE.narrow hsub) hnw (zx_ob hW).1 rfl rfl hW hl.1 (Nat.le_of_ble_eq_true rfl) dL_setCost_5 ⟨Nat.le_of_ble_eq_true rfl, Nat.le_of_ble_eq_true rfl⟩) hS hsub (fun Ex ce q H1 locs1 hXc hF hce hcv hcl hS => ?_) (fun v H1 locs1 hQ hF hS => ?_)
  · have hX1 : zv_X K Ax (ad 0 0) N G L H1 := ⟨ad, E, cap, rfl, hk, hW.ro hF⟩
    have hlo1 := hlo.fr hF (fun z => z)
    rcases hXc with ⟨rfl, hc⟩ | ⟨rfl, hc⟩
    · skip
      refine zz_catch (own := "OpenFloorsLaw") (E := "java/lang/IndexOutOfBoundsException") hown hts hE htab 0 rfl ⟨by decide, by decide⟩ (by decide) (by decide) (fun z hz => absurd hz List.not_mem_nil) zw_422 zn_456 hce hcv hcl ?_
      refine lv_astore (lv' := [(4, .ref q), (0, .ref (ad 0 0)), (1, .int x), (2, .int y), (3, .ref ol)]) hx hb dL_setCost_13 hl (Nat.le_of_ble_eq_true rfl) rfl (fun ls hl => ?_)
      refine zz_con 1 hx hb dL_setCost_15 (by decide) ?_
      refine zz_iret hx hb hr hlocks hS (Nat.le_of_ble_eq_true rfl) (Nat.le_of_ble_eq_true rfl) dL_setCost_16 ?_
      exact ⟨by rw [hc], (by rw [kz_setCost (by rw [hc]; decide)]; exact hX1), _, hlo1, fun h9 => absurd h9 (by rw [hc]; decide)⟩
    · skip
      refine zz_catch (own := "OpenFloorsLaw") (E := "java/lang/IllegalArgumentException") hown hts hE htab 1 rfl ⟨by decide, by decide⟩ (by decide) (by decide) (List.forall_mem_cons.mpr ⟨⟨"java/lang/IndexOutOfBoundsException", by decide, zw_422, by decide, by decide⟩, (fun _ h9 => absurd h9 List.not_mem_nil)⟩) zw_230 zn_238 hce hcv hcl ?_
      refine lv_astore (lv' := [(4, .ref q), (0, .ref (ad 0 0)), (1, .int x), (2, .int y), (3, .ref ol)]) hx hb dL_setCost_17 hl (Nat.le_of_ble_eq_true rfl) rfl (fun ls hl => ?_)
      refine zz_con 2 hx hb dL_setCost_19 (by decide) ?_
      refine zz_iret hx hb hr hlocks hS (Nat.le_of_ble_eq_true rfl) (Nat.le_of_ble_eq_true rfl) dL_setCost_20 ?_
      exact ⟨by rw [hc], (by rw [kz_setCost (by rw [hc]; decide)]; exact hX1), _, hlo1, fun h9 => absurd h9 (by rw [hc]; decide)⟩
  · skip
    obtain ⟨hc, rfl, hW1⟩ := hQ
    have hX1 : zv_X K Ax (ad 0 0) ((zs_setCost N x y).2.2) G L H1 := ⟨ad, E, cap, rfl, kk_setCost hk, hW1⟩
    obtain ⟨f1, hat1, -⟩ := hlo.fr hF hnx
    refine W.eq (g2 := F0 m 8 ls (.int ((zs_setCost N x y).2.1) :: [.int (nI 0), .ref ol])) rfl ?_
    refine lv_i2l hx hb dL_setCost_8 rfl ?_
    refine zz_last hx hb hK hS hat1 hol (vp_in_nI (by decide) (by decide)) dL_setCost_9 (fun H2 locs2 hat2 hz2 ho2 hS => ?_)
    refine lv_goto (tgt := 21) hx hb dL_setCost_10 (by decide) ?_
    refine zz_con 0 hx hb dL_setCost_21 (by decide) ?_
    refine zz_iret hx hb hr hlocks hS (Nat.le_of_ble_eq_true rfl) (Nat.le_of_ble_eq_true rfl) dL_setCost_22 ?_
    exact ⟨by rw [hc], hX1.fr (B := fun q => q = ol) ⟨by omega, fun q _ h => ho2 q h⟩ (fun q hq _ e => hnx (e ▸ hq)), _, ⟨_, hat2, zv_u0⟩, fun _ => rfl⟩

set_option maxHeartbeats 4000000 in
set_option maxRecDepth 100000 in
theorem c_L_addPerson (l : Launch) (hfl : l.stackTraces = false) {K : zz_G} {A Ax : Nat → Prop} {ox ol : Nat} {v0 : Int64} {N : Nat → Nat → Nat} {G : Nat → Nat → Int32} {L : Nat → Int64} (hzi : zi N) (x : Int32) (hsub : ∀ q, Ax q → A q) (hol : A ol) (hnx : ¬ Ax ol) : zz_CH l yL_addPerson cL_addPerson 4 (Option.some FieldType.int) [(0, 9, 12, 13), (0, 9, 15, 15)] ({ frames := 8, cells := 3, slots := 53, locals := 193 } : Room) K A [.ref ox, .int x, .ref ol] (fun H => (∀ q : Nat, H.size ≤ q → Ax q) ∧ zv_X K Ax ox N G L H ∧ zv_lo K ol v0 H) (fun v9 _ H9 => v9 = some (.int (nI ((zs_addPerson N x).1))) ∧ zv_X K Ax ox ((zs_addPerson N x).2.2) G L H9 ∧ ∃ v, zv_lo K ol v H9 ∧ (nI ((zs_addPerson N x).1) = 0 → v = ((zs_addPerson N x).2.1).toInt64)) A := by
  refine zz_bodyH (by decide +kernel) (Nat.le_of_ble_eq_true rfl) ?_
  intro p e s m below meth c ls hx hb hr hml hts hown hlocks htab hE hA hP hl
  obtain ⟨hnw, ⟨ad, E, cap, rfl, hk, hW⟩, hlo⟩ := hP
  have hI := hzi.q
  have hK := hE.K
  have hown : s.vm.findClass "OpenFloorsLaw" = some m.cls := hown
  have hl : lv_has ls 4 [(0, .ref (ad 0 0)), (1, .int x), (2, .ref ol)] := hl
  have hS : va_S A s.heap s.heap [] := va_S.rf
  obtain ⟨H, hH⟩ : ∃ z, z = s.heap := ⟨_, rfl⟩
  show W p l e _ s m _ below meth c s.heap [] 0 0 _ (F0 m 0 ls [])
  skip
  refine lv_aload_n hx hb dL_addPerson_0 rfl (lv_at hl 2 rfl) ?_
  refine zz_con 0 hx hb dL_addPerson_1 (by decide) ?_
  refine lv_aload_n hx hb dL_addPerson_2 rfl (lv_at hl 0 rfl) ?_
  refine lv_iload_n hx hb dL_addPerson_3 rfl (lv_at hl 1 rfl) ?_
  refine zz_afterH (A := A) (pc := 4) rfl (zz_runV (ci := 5) (q0 := (RX2, TX2, 8)) (b := ad 0 0) (As := [.int x]) (rest := [.int (nI 0), .ref ol]) hx hb hml hown hts (c_X2_addPerson l hfl (K := K) (A := Ax) (ad := ad) (E := E) (cap := cap) (N := N) (G := G) (L := L) hzi hI hk x) zw_470 zw_471 zw_472 zw_1 zw_473 zd_X2_addPerson ⟨Nat.le_of_ble_eq_true rfl, Nat.le_of_ble_eq_true rfl⟩ (hE.narrow hsub) hnw (zx_ob hW).1 rfl rfl hW hl.1 (Nat.le_of_ble_eq_true rfl) dL_addPerson_4 ⟨Nat.le_of_ble_eq_true rfl, Nat.le_of_ble_eq_true rfl⟩) hS hsub (fun Ex ce q H1 locs1 hXc hF hce hcv hcl hS => ?_) (fun v H1 locs1 hQ hF hS => ?_)
  · have hX1 : zv_X K Ax (ad 0 0) N G L H1 := ⟨ad, E, cap, rfl, hk, hW.ro hF⟩
    have hlo1 := hlo.fr hF (fun z => z)
    rcases hXc with ⟨rfl, hc⟩ | ⟨rfl, hc⟩
    · skip
      refine zz_catch (own := "OpenFloorsLaw") (E := "java/lang/IllegalArgumentException") hown hts hE htab 0 rfl ⟨by decide, by decide⟩ (by decide) (by decide) (fun z hz => absurd hz List.not_mem_nil) zw_230 zn_238 hce hcv hcl ?_
      refine lv_astore_n (lv' := [(3, .ref q), (0, .ref (ad 0 0)), (1, .int x), (2, .ref ol)]) hx hb dL_addPerson_12 rfl hl (Nat.le_of_ble_eq_true rfl) rfl (fun ls hl => ?_)
      refine zz_con 1 hx hb dL_addPerson_13 (by decide) ?_
      refine zz_iret hx hb hr hlocks hS (Nat.le_of_ble_eq_true rfl) (Nat.le_of_ble_eq_true rfl) dL_addPerson_14 ?_
      exact ⟨by rw [hc], (by rw [kz_addPerson (by rw [hc]; decide)]; exact hX1), _, hlo1, fun h9 => absurd h9 (by rw [hc]; decide)⟩
    · skip
      refine zz_catch (own := "OpenFloorsLaw") (E := "java/lang/IllegalStateException") hown hts hE htab 1 rfl ⟨by decide, by decide⟩ (by decide) (by decide) (List.forall_mem_cons.mpr ⟨⟨"java/lang/IllegalArgumentException", by decide, zw_230, by decide, by decide⟩, (fun _ h9 => absurd h9 List.not_mem_nil)⟩) zw_231 zn_314 hce hcv hcl ?_
      refine lv_astore_n (lv' := [(3, .ref q), (0, .ref (ad 0 0)), (1, .int x), (2, .ref ol)]) hx hb dL_addPerson_15 rfl hl (Nat.le_of_ble_eq_true rfl) rfl (fun ls hl => ?_)
      refine zz_con 2 hx hb dL_addPerson_16 (by decide) ?_
      refine zz_iret hx hb hr hlocks hS (Nat.le_of_ble_eq_true rfl) (Nat.le_of_ble_eq_true rfl) dL_addPerson_17 ?_
      exact ⟨by rw [hc], (by rw [kz_addPerson (by rw [hc]; decide)]; exact hX1), _, hlo1, fun h9 => absurd h9 (by rw [hc]; decide)⟩
  · skip
    obtain ⟨hc, rfl, ad1, E1, cap1, ha1, hk1, hW1⟩ := hQ
    have hX1 : zv_X K Ax (ad 0 0) ((zs_addPerson N x).2.2) G L H1 := ⟨ad1, E1, cap1, ha1, hk1, hW1⟩
    obtain ⟨f1, hat1, -⟩ := hlo.fr hF hnx
    refine W.eq (g2 := F0 m 7 ls (.int ((zs_addPerson N x).2.1) :: [.int (nI 0), .ref ol])) rfl ?_
    refine lv_i2l hx hb dL_addPerson_7 rfl ?_
    refine zz_last hx hb hK hS hat1 hol (vp_in_nI (by decide) (by decide)) dL_addPerson_8 (fun H2 locs2 hat2 hz2 ho2 hS => ?_)
    refine lv_goto (tgt := 18) hx hb dL_addPerson_9 (by decide) ?_
    refine zz_con 0 hx hb dL_addPerson_18 (by decide) ?_
    refine zz_iret hx hb hr hlocks hS (Nat.le_of_ble_eq_true rfl) (Nat.le_of_ble_eq_true rfl) dL_addPerson_19 ?_
    exact ⟨by rw [hc], hX1.fr (B := fun q => q = ol) ⟨by omega, fun q _ h => ho2 q h⟩ (fun q hq _ e => hnx (e ▸ hq)), _, ⟨_, hat2, zv_u0⟩, fun _ => rfl⟩

set_option maxHeartbeats 4000000 in
set_option maxRecDepth 100000 in
theorem c_L_standing (l : Launch) (hfl : l.stackTraces = false) {K : zz_G} {A Ax : Nat → Prop} {ox ol : Nat} {v0 : Int64} {N : Nat → Nat → Nat} {G : Nat → Nat → Int32} {L : Nat → Int64} (hzi : zi N) (x : Int32) (hsub : ∀ q, Ax q → A q) (hol : A ol) (hnx : ¬ Ax ol) : zz_CH l yL_standing cL_standing 4 (Option.some FieldType.int) [(0, 9, 12, 29)] ({ frames := 8, cells := 1, slots := 6, locals := 138 } : Room) K A [.ref ox, .int x, .ref ol] (fun H => (∀ q : Nat, H.size ≤ q → Ax q) ∧ zv_X K Ax ox N G L H ∧ zv_lo K ol v0 H) (fun v9 _ H9 => v9 = some (.int (nI ((zs_standing N x).1))) ∧ zv_X K Ax ox N G L H9 ∧ ∃ v, zv_lo K ol v H9 ∧ (nI ((zs_standing N x).1) = 0 → v = ((zs_standing N x).2).toInt64)) A := by
  refine zz_bodyH (by decide +kernel) (Nat.le_of_ble_eq_true rfl) ?_
  intro p e s m below meth c ls hx hb hr hml hts hown hlocks htab hE hA hP hl
  obtain ⟨hnw, ⟨ad, E, cap, rfl, hk, hW⟩, hlo⟩ := hP
  have hI := hzi.q
  have hK := hE.K
  have hown : s.vm.findClass "OpenFloorsLaw" = some m.cls := hown
  have hl : lv_has ls 4 [(0, .ref (ad 0 0)), (1, .int x), (2, .ref ol)] := hl
  have hS : va_S A s.heap s.heap [] := va_S.rf
  obtain ⟨H, hH⟩ : ∃ z, z = s.heap := ⟨_, rfl⟩
  show W p l e _ s m _ below meth c s.heap [] 0 0 _ (F0 m 0 ls [])
  skip
  refine lv_aload_n hx hb dL_standing_0 rfl (lv_at hl 2 rfl) ?_
  refine zz_con 0 hx hb dL_standing_1 (by decide) ?_
  refine lv_aload_n hx hb dL_standing_2 rfl (lv_at hl 0 rfl) ?_
  refine lv_iload_n hx hb dL_standing_3 rfl (lv_at hl 1 rfl) ?_
  refine zz_afterH (A := A) (pc := 4) rfl (zz_runV (ci := 5) (q0 := (RX2, TX2, 8)) (b := ad 0 0) (As := [.int x]) (rest := [.int (nI 0), .ref ol]) hx hb hml hown hts (c_X2_standing l hfl (K := K) (A := Ax) (ad := ad) (E := E) (cap := cap) (N := N) (G := G) (L := L) hI hk x) zw_517 zw_518 zw_519 zw_1 zw_520 zd_X2_standing ⟨Nat.le_of_ble_eq_true rfl, Nat.le_of_ble_eq_true rfl⟩ (hE.narrow hsub) hnw (zx_ob hW).1 rfl rfl hW hl.1 (Nat.le_of_ble_eq_true rfl) dL_standing_4 ⟨Nat.le_of_ble_eq_true rfl, Nat.le_of_ble_eq_true rfl⟩) hS (fun _ z => z.elim) (fun Ex ce q H1 locs1 hXc hF hce hcv hcl hS => ?_) (fun v H1 locs1 hQ hF hS => ?_)
  · have hX1 : zv_X K Ax (ad 0 0) N G L H1 := ⟨ad, E, cap, rfl, hk, hW.ro hF⟩
    have hlo1 := hlo.fr hF (fun z => z)
    obtain ⟨rfl, hc⟩ := hXc
    refine zz_catch (own := "OpenFloorsLaw") (E := "java/util/NoSuchElementException") hown hts hE htab 0 rfl ⟨by decide, by decide⟩ (by decide) (by decide) (fun z hz => absurd hz List.not_mem_nil) zw_516 zn_527 hce hcv hcl ?_
    refine lv_astore_n (lv' := [(3, .ref q), (0, .ref (ad 0 0)), (1, .int x), (2, .ref ol)]) hx hb dL_standing_12 rfl hl (Nat.le_of_ble_eq_true rfl) rfl (fun ls hl => ?_)
    refine zz_con 1 hx hb dL_standing_13 (by decide) ?_
    refine zz_iret hx hb hr hlocks hS (Nat.le_of_ble_eq_true rfl) (Nat.le_of_ble_eq_true rfl) dL_standing_14 ?_
    exact ⟨by rw [hc], hX1, _, hlo1, fun h9 => absurd h9 (by rw [hc]; decide)⟩
  · skip
    obtain ⟨hc, rfl⟩ := hQ
    have hX1 : zv_X K Ax (ad 0 0) N G L H1 := ⟨ad, E, cap, rfl, hk, hW.ro hF⟩
    obtain ⟨f1, hat1, -⟩ := hlo.fr hF (fun z => z)
    refine W.eq (g2 := F0 m 7 ls (.int ((zs_standing N x).2) :: [.int (nI 0), .ref ol])) rfl ?_
    refine lv_i2l hx hb dL_standing_7 rfl ?_
    refine zz_last hx hb hK hS hat1 hol (vp_in_nI (by decide) (by decide)) dL_standing_8 (fun H2 locs2 hat2 hz2 ho2 hS => ?_)
    refine lv_goto (tgt := 15) hx hb dL_standing_9 (by decide) ?_
    refine zz_con 0 hx hb dL_standing_15 (by decide) ?_
    refine zz_iret hx hb hr hlocks hS (Nat.le_of_ble_eq_true rfl) (Nat.le_of_ble_eq_true rfl) dL_standing_16 ?_
    exact ⟨by rw [hc], hX1.fr (B := fun q => q = ol) ⟨by omega, fun q _ h => ho2 q h⟩ (fun q hq _ e => hnx (e ▸ hq)), _, ⟨_, hat2, zv_u0⟩, fun _ => rfl⟩

set_option maxHeartbeats 4000000 in
set_option maxRecDepth 100000 in
theorem c_L_book (l : Launch) (hfl : l.stackTraces = false) {K : zz_G} {A Ax : Nat → Prop} {ox ol : Nat} {v0 : Int64} {N : Nat → Nat → Nat} {G : Nat → Nat → Int32} {L : Nat → Int64} (hzi : zi N) (x y : Int32) (hsub : ∀ q, Ax q → A q) (hol : A ol) (hnx : ¬ Ax ol) : zz_CH l yL_book cL_book 5 (Option.some FieldType.int) [(0, 10, 13, 29), (0, 10, 17, 20), (0, 10, 21, 15), (0, 10, 25, 34)] ({ frames := 8, cells := 3, slots := 52, locals := 195 } : Room) K A [.ref ox, .int x, .int y, .ref ol] (fun H => (∀ q : Nat, H.size ≤ q → Ax q) ∧ zv_X K Ax ox N G L H ∧ zv_lo K ol v0 H) (fun v9 _ H9 => v9 = some (.int (nI ((zs_book N x y).1))) ∧ zv_X K Ax ox ((zs_book N x y).2.2) G L H9 ∧ ∃ v, zv_lo K ol v H9 ∧ (nI ((zs_book N x y).1) = 0 → v = ((zs_book N x y).2.1).toInt64)) A := by
  refine zz_bodyH (by decide +kernel) (Nat.le_of_ble_eq_true rfl) ?_
  intro p e s m below meth c ls hx hb hr hml hts hown hlocks htab hE hA hP hl
  obtain ⟨hnw, ⟨ad, E, cap, rfl, hk, hW⟩, hlo⟩ := hP
  have hI := hzi.q
  have hK := hE.K
  have hown : s.vm.findClass "OpenFloorsLaw" = some m.cls := hown
  have hl : lv_has ls 5 [(0, .ref (ad 0 0)), (1, .int x), (2, .int y), (3, .ref ol)] := hl
  have hS : va_S A s.heap s.heap [] := va_S.rf
  obtain ⟨H, hH⟩ : ∃ z, z = s.heap := ⟨_, rfl⟩
  show W p l e _ s m _ below meth c s.heap [] 0 0 _ (F0 m 0 ls [])
  skip
  refine lv_aload_n hx hb dL_book_0 rfl (lv_at hl 3 rfl) ?_
  refine zz_con 0 hx hb dL_book_1 (by decide) ?_
  refine lv_aload_n hx hb dL_book_2 rfl (lv_at hl 0 rfl) ?_
  refine lv_iload_n hx hb dL_book_3 rfl (lv_at hl 1 rfl) ?_
  refine lv_iload_n hx hb dL_book_4 rfl (lv_at hl 2 rfl) ?_
  refine zz_afterH (A := A) (pc := 5) rfl (zz_runV (ci := 5) (q0 := (RX2, TX2, 8)) (b := ad 0 0) (As := [.int x, .int y]) (rest := [.int (nI 0), .ref ol]) hx hb hml hown hts (c_X2_book l hfl (K := K) (A := Ax) (ad := ad) (E := E) (cap := cap) (N := N) (G := G) (L := L) hI hk x y) zw_545 zw_546 zw_547 zw_1 zw_548 zd_X2_book ⟨Nat.le_of_ble_eq_true rfl, Nat.le_of_ble_eq_true rfl⟩ (hE.narrow hsub) hnw (zx_ob hW).1 rfl rfl hW hl.1 (Nat.le_of_ble_eq_true rfl) dL_book_5 ⟨Nat.le_of_ble_eq_true rfl, Nat.le_of_ble_eq_true rfl⟩) hS hsub (fun Ex ce q H1 locs1 hXc hF hce hcv hcl hS => ?_) (fun v H1 locs1 hQ hF hS => ?_)
  · have hX1 : zv_X K Ax (ad 0 0) N G L H1 := ⟨ad, E, cap, rfl, hk, hW.ro hF⟩
    have hlo1 := hlo.fr hF (fun z => z)
    rcases hXc with ⟨rfl, hc⟩ | ⟨rfl, hc⟩ | ⟨rfl, hc⟩ | ⟨rfl, hc⟩
    · skip
      refine zz_catch (own := "OpenFloorsLaw") (E := "java/util/NoSuchElementException") hown hts hE htab 0 rfl ⟨by decide, by decide⟩ (by decide) (by decide) (fun z hz => absurd hz List.not_mem_nil) zw_516 zn_527 hce hcv hcl ?_
      refine lv_astore (lv' := [(4, .ref q), (0, .ref (ad 0 0)), (1, .int x), (2, .int y), (3, .ref ol)]) hx hb dL_book_13 hl (Nat.le_of_ble_eq_true rfl) rfl (fun ls hl => ?_)
      refine zz_con 1 hx hb dL_book_15 (by decide) ?_
      refine zz_iret hx hb hr hlocks hS (Nat.le_of_ble_eq_true rfl) (Nat.le_of_ble_eq_true rfl) dL_book_16 ?_
      exact ⟨by rw [hc], (by rw [kz_book (by rw [hc]; decide)]; exact hX1), _, hlo1, fun h9 => absurd h9 (by rw [hc]; decide)⟩
    · skip
      refine zz_catch (own := "OpenFloorsLaw") (E := "java/lang/IndexOutOfBoundsException") hown hts hE htab 1 rfl ⟨by decide, by decide⟩ (by decide) (by decide) (List.forall_mem_cons.mpr ⟨⟨"java/util/NoSuchElementException", by decide, zw_516, by decide, by decide⟩, (fun _ h9 => absurd h9 List.not_mem_nil)⟩) zw_422 zn_456 hce hcv hcl ?_
      refine lv_astore (lv' := [(4, .ref q), (0, .ref (ad 0 0)), (1, .int x), (2, .int y), (3, .ref ol)]) hx hb dL_book_17 hl (Nat.le_of_ble_eq_true rfl) rfl (fun ls hl => ?_)
      refine zz_con 2 hx hb dL_book_19 (by decide) ?_
      refine zz_iret hx hb hr hlocks hS (Nat.le_of_ble_eq_true rfl) (Nat.le_of_ble_eq_true rfl) dL_book_20 ?_
      exact ⟨by rw [hc], (by rw [kz_book (by rw [hc]; decide)]; exact hX1), _, hlo1, fun h9 => absurd h9 (by rw [hc]; decide)⟩
    · skip
      refine zz_catch (own := "OpenFloorsLaw") (E := "java/lang/IllegalStateException") hown hts hE htab 2 rfl ⟨by decide, by decide⟩ (by decide) (by decide) (List.forall_mem_cons.mpr ⟨⟨"java/util/NoSuchElementException", by decide, zw_516, by decide, by decide⟩, (List.forall_mem_cons.mpr ⟨⟨"java/lang/IndexOutOfBoundsException", by decide, zw_422, by decide, by decide⟩, (fun _ h9 => absurd h9 List.not_mem_nil)⟩)⟩) zw_231 zn_314 hce hcv hcl ?_
      refine lv_astore (lv' := [(4, .ref q), (0, .ref (ad 0 0)), (1, .int x), (2, .int y), (3, .ref ol)]) hx hb dL_book_21 hl (Nat.le_of_ble_eq_true rfl) rfl (fun ls hl => ?_)
      refine zz_con 3 hx hb dL_book_23 (by decide) ?_
      refine zz_iret hx hb hr hlocks hS (Nat.le_of_ble_eq_true rfl) (Nat.le_of_ble_eq_true rfl) dL_book_24 ?_
      exact ⟨by rw [hc], (by rw [kz_book (by rw [hc]; decide)]; exact hX1), _, hlo1, fun h9 => absurd h9 (by rw [hc]; decide)⟩
    · skip
      refine zz_catch (own := "OpenFloorsLaw") (E := "java/lang/UnsupportedOperationException") hown hts hE htab 3 rfl ⟨by decide, by decide⟩ (by decide) (by decide) (List.forall_mem_cons.mpr ⟨⟨"java/util/NoSuchElementException", by decide, zw_516, by decide, by decide⟩, (List.forall_mem_cons.mpr ⟨⟨"java/lang/IndexOutOfBoundsException", by decide, zw_422, by decide, by decide⟩, (List.forall_mem_cons.mpr ⟨⟨"java/lang/IllegalStateException", by decide, zw_231, by decide, by decide⟩, (fun _ h9 => absurd h9 List.not_mem_nil)⟩)⟩)⟩) zw_544 zn_552 hce hcv hcl ?_
      refine lv_astore (lv' := [(4, .ref q), (0, .ref (ad 0 0)), (1, .int x), (2, .int y), (3, .ref ol)]) hx hb dL_book_25 hl (Nat.le_of_ble_eq_true rfl) rfl (fun ls hl => ?_)
      refine zz_con 4 hx hb dL_book_27 (by decide) ?_
      refine zz_iret hx hb hr hlocks hS (Nat.le_of_ble_eq_true rfl) (Nat.le_of_ble_eq_true rfl) dL_book_28 ?_
      exact ⟨by rw [hc], (by rw [kz_book (by rw [hc]; decide)]; exact hX1), _, hlo1, fun h9 => absurd h9 (by rw [hc]; decide)⟩
  · skip
    obtain ⟨hc, rfl, ad1, E1, cap1, ha1, hk1, hW1⟩ := hQ
    have hX1 : zv_X K Ax (ad 0 0) ((zs_book N x y).2.2) G L H1 := ⟨ad1, E1, cap1, ha1, hk1, hW1⟩
    obtain ⟨f1, hat1, -⟩ := hlo.fr hF hnx
    refine W.eq (g2 := F0 m 8 ls (.int ((zs_book N x y).2.1) :: [.int (nI 0), .ref ol])) rfl ?_
    refine lv_i2l hx hb dL_book_8 rfl ?_
    refine zz_last hx hb hK hS hat1 hol (vp_in_nI (by decide) (by decide)) dL_book_9 (fun H2 locs2 hat2 hz2 ho2 hS => ?_)
    refine lv_goto (tgt := 29) hx hb dL_book_10 (by decide) ?_
    refine zz_con 0 hx hb dL_book_29 (by decide) ?_
    refine zz_iret hx hb hr hlocks hS (Nat.le_of_ble_eq_true rfl) (Nat.le_of_ble_eq_true rfl) dL_book_30 ?_
    exact ⟨by rw [hc], hX1.fr (B := fun q => q = ol) ⟨by omega, fun q _ h => ho2 q h⟩ (fun q hq _ e => hnx (e ▸ hq)), _, ⟨_, hat2, zv_u0⟩, fun _ => rfl⟩

set_option maxHeartbeats 4000000 in
set_option maxRecDepth 100000 in
theorem c_L_cancel (l : Launch) (hfl : l.stackTraces = false) {K : zz_G} {A Ax : Nat → Prop} {ox ol : Nat} {v0 : Int64} {N : Nat → Nat → Nat} {G : Nat → Nat → Int32} {L : Nat → Int64} (hzi : zi N) (x : Int32) (hsub : ∀ q, Ax q → A q) (hol : A ol) (hnx : ¬ Ax ol) : zz_CH l yL_cancel cL_cancel 4 (Option.some FieldType.int) [(0, 9, 12, 29)] ({ frames := 8, cells := 2, slots := 12, locals := 140 } : Room) K A [.ref ox, .int x, .ref ol] (fun H => (∀ q : Nat, H.size ≤ q → Ax q) ∧ zv_X K Ax ox N G L H ∧ zv_lo K ol v0 H) (fun v9 _ H9 => v9 = some (.int (nI ((zs_cancel N x).1))) ∧ zv_X K Ax ox ((zs_cancel N x).2.2) G L H9 ∧ ∃ v, zv_lo K ol v H9 ∧ (nI ((zs_cancel N x).1) = 0 → v = ((zs_cancel N x).2.1).toInt64)) A := by
  refine zz_bodyH (by decide +kernel) (Nat.le_of_ble_eq_true rfl) ?_
  intro p e s m below meth c ls hx hb hr hml hts hown hlocks htab hE hA hP hl
  obtain ⟨hnw, ⟨ad, E, cap, rfl, hk, hW⟩, hlo⟩ := hP
  have hI := hzi.q
  have hK := hE.K
  have hown : s.vm.findClass "OpenFloorsLaw" = some m.cls := hown
  have hl : lv_has ls 4 [(0, .ref (ad 0 0)), (1, .int x), (2, .ref ol)] := hl
  have hS : va_S A s.heap s.heap [] := va_S.rf
  obtain ⟨H, hH⟩ : ∃ z, z = s.heap := ⟨_, rfl⟩
  show W p l e _ s m _ below meth c s.heap [] 0 0 _ (F0 m 0 ls [])
  skip
  refine lv_aload_n hx hb dL_cancel_0 rfl (lv_at hl 2 rfl) ?_
  refine zz_con 0 hx hb dL_cancel_1 (by decide) ?_
  refine lv_aload_n hx hb dL_cancel_2 rfl (lv_at hl 0 rfl) ?_
  refine lv_iload_n hx hb dL_cancel_3 rfl (lv_at hl 1 rfl) ?_
  refine zz_afterH (A := A) (pc := 4) rfl (zz_runV (ci := 5) (q0 := (RX2, TX2, 8)) (b := ad 0 0) (As := [.int x]) (rest := [.int (nI 0), .ref ol]) hx hb hml hown hts (c_X2_cancel l hfl (K := K) (A := Ax) (ad := ad) (E := E) (cap := cap) (N := N) (G := G) (L := L) hI hk x) zw_569 zw_570 zw_571 zw_1 zw_572 zd_X2_cancel ⟨Nat.le_of_ble_eq_true rfl, Nat.le_of_ble_eq_true rfl⟩ (hE.narrow hsub) hnw (zx_ob hW).1 rfl rfl hW hl.1 (Nat.le_of_ble_eq_true rfl) dL_cancel_4 ⟨Nat.le_of_ble_eq_true rfl, Nat.le_of_ble_eq_true rfl⟩) hS hsub (fun Ex ce q H1 locs1 hXc hF hce hcv hcl hS => ?_) (fun v H1 locs1 hQ hF hS => ?_)
  · have hX1 : zv_X K Ax (ad 0 0) N G L H1 := ⟨ad, E, cap, rfl, hk, hW.ro hF⟩
    have hlo1 := hlo.fr hF (fun z => z)
    obtain ⟨rfl, hc⟩ := hXc
    refine zz_catch (own := "OpenFloorsLaw") (E := "java/util/NoSuchElementException") hown hts hE htab 0 rfl ⟨by decide, by decide⟩ (by decide) (by decide) (fun z hz => absurd hz List.not_mem_nil) zw_516 zn_527 hce hcv hcl ?_
    refine lv_astore_n (lv' := [(3, .ref q), (0, .ref (ad 0 0)), (1, .int x), (2, .ref ol)]) hx hb dL_cancel_12 rfl hl (Nat.le_of_ble_eq_true rfl) rfl (fun ls hl => ?_)
    refine zz_con 1 hx hb dL_cancel_13 (by decide) ?_
    refine zz_iret hx hb hr hlocks hS (Nat.le_of_ble_eq_true rfl) (Nat.le_of_ble_eq_true rfl) dL_cancel_14 ?_
    exact ⟨by rw [hc], (by rw [kz_cancel (by rw [hc]; decide)]; exact hX1), _, hlo1, fun h9 => absurd h9 (by rw [hc]; decide)⟩
  · skip
    obtain ⟨hc, rfl, E1, hW1⟩ := hQ
    have hX1 : zv_X K Ax (ad 0 0) ((zs_cancel N x).2.2) G L H1 := ⟨ad, E1, cap, rfl, kk_cancel hk, hW1⟩
    obtain ⟨f1, hat1, -⟩ := hlo.fr hF hnx
    refine W.eq (g2 := F0 m 7 ls (.int ((zs_cancel N x).2.1) :: [.int (nI 0), .ref ol])) rfl ?_
    refine lv_i2l hx hb dL_cancel_7 rfl ?_
    refine zz_last hx hb hK hS hat1 hol (vp_in_nI (by decide) (by decide)) dL_cancel_8 (fun H2 locs2 hat2 hz2 ho2 hS => ?_)
    refine lv_goto (tgt := 15) hx hb dL_cancel_9 (by decide) ?_
    refine zz_con 0 hx hb dL_cancel_15 (by decide) ?_
    refine zz_iret hx hb hr hlocks hS (Nat.le_of_ble_eq_true rfl) (Nat.le_of_ble_eq_true rfl) dL_cancel_16 ?_
    exact ⟨by rw [hc], hX1.fr (B := fun q => q = ol) ⟨by omega, fun q _ h => ho2 q h⟩ (fun q hq _ e => hnx (e ▸ hq)), _, ⟨_, hat2, zv_u0⟩, fun _ => rfl⟩

set_option maxHeartbeats 4000000 in
set_option maxRecDepth 100000 in
theorem c_L_bookingAt (l : Launch) (hfl : l.stackTraces = false) {K : zz_G} {A Ax : Nat → Prop} {ox ol : Nat} {v0 : Int64} {N : Nat → Nat → Nat} {G : Nat → Nat → Int32} {L : Nat → Int64} (hzi : zi N) (x : Int32) (hsub : ∀ q, Ax q → A q) (hol : A ol) (hnx : ¬ Ax ol) : zz_CH l yL_bookingAt cL_bookingAt 4 (Option.some FieldType.int) [(0, 9, 12, 20)] ({ frames := 7, cells := 1, slots := 6, locals := 117 } : Room) K A [.ref ox, .int x, .ref ol] (fun H => (∀ q : Nat, H.size ≤ q → Ax q) ∧ zv_X K Ax ox N G L H ∧ zv_lo K ol v0 H) (fun v9 _ H9 => v9 = some (.int (nI ((zs_bookingAt N x).1))) ∧ zv_X K Ax ox N G L H9 ∧ ∃ v, zv_lo K ol v H9 ∧ (nI ((zs_bookingAt N x).1) = 0 → v = ((zs_bookingAt N x).2).toInt64)) A := by
  refine zz_bodyH (by decide +kernel) (Nat.le_of_ble_eq_true rfl) ?_
  intro p e s m below meth c ls hx hb hr hml hts hown hlocks htab hE hA hP hl
  obtain ⟨hnw, ⟨ad, E, cap, rfl, hk, hW⟩, hlo⟩ := hP
  have hI := hzi.q
  have hK := hE.K
  have hown : s.vm.findClass "OpenFloorsLaw" = some m.cls := hown
  have hl : lv_has ls 4 [(0, .ref (ad 0 0)), (1, .int x), (2, .ref ol)] := hl
  have hS : va_S A s.heap s.heap [] := va_S.rf
  obtain ⟨H, hH⟩ : ∃ z, z = s.heap := ⟨_, rfl⟩
  show W p l e _ s m _ below meth c s.heap [] 0 0 _ (F0 m 0 ls [])
  skip
  refine lv_aload_n hx hb dL_bookingAt_0 rfl (lv_at hl 2 rfl) ?_
  refine zz_con 0 hx hb dL_bookingAt_1 (by decide) ?_
  refine lv_aload_n hx hb dL_bookingAt_2 rfl (lv_at hl 0 rfl) ?_
  refine lv_iload_n hx hb dL_bookingAt_3 rfl (lv_at hl 1 rfl) ?_
  refine zz_afterH (A := A) (pc := 4) rfl (zz_runV (ci := 5) (q0 := (RX2, TX2, 8)) (b := ad 0 0) (As := [.int x]) (rest := [.int (nI 0), .ref ol]) hx hb hml hown hts (c_X2_bookingAt l hfl (K := K) (A := Ax) (ad := ad) (E := E) (cap := cap) (N := N) (G := G) (L := L) hI hk x) zw_590 zw_591 zw_592 zw_1 zw_593 zd_X2_bookingAt ⟨Nat.le_of_ble_eq_true rfl, Nat.le_of_ble_eq_true rfl⟩ (hE.narrow hsub) hnw (zx_ob hW).1 rfl rfl hW hl.1 (Nat.le_of_ble_eq_true rfl) dL_bookingAt_4 ⟨Nat.le_of_ble_eq_true rfl, Nat.le_of_ble_eq_true rfl⟩) hS (fun _ z => z.elim) (fun Ex ce q H1 locs1 hXc hF hce hcv hcl hS => ?_) (fun v H1 locs1 hQ hF hS => ?_)
  · have hX1 : zv_X K Ax (ad 0 0) N G L H1 := ⟨ad, E, cap, rfl, hk, hW.ro hF⟩
    have hlo1 := hlo.fr hF (fun z => z)
    obtain ⟨rfl, hc⟩ := hXc
    refine zz_catch (own := "OpenFloorsLaw") (E := "java/lang/IndexOutOfBoundsException") hown hts hE htab 0 rfl ⟨by decide, by decide⟩ (by decide) (by decide) (fun z hz => absurd hz List.not_mem_nil) zw_422 zn_456 hce hcv hcl ?_
    refine lv_astore_n (lv' := [(3, .ref q), (0, .ref (ad 0 0)), (1, .int x), (2, .ref ol)]) hx hb dL_bookingAt_12 rfl hl (Nat.le_of_ble_eq_true rfl) rfl (fun ls hl => ?_)
    refine zz_con 1 hx hb dL_bookingAt_13 (by decide) ?_
    refine zz_iret hx hb hr hlocks hS (Nat.le_of_ble_eq_true rfl) (Nat.le_of_ble_eq_true rfl) dL_bookingAt_14 ?_
    exact ⟨by rw [hc], hX1, _, hlo1, fun h9 => absurd h9 (by rw [hc]; decide)⟩
  · skip
    obtain ⟨hc, rfl⟩ := hQ
    have hX1 : zv_X K Ax (ad 0 0) N G L H1 := ⟨ad, E, cap, rfl, hk, hW.ro hF⟩
    obtain ⟨f1, hat1, -⟩ := hlo.fr hF (fun z => z)
    refine W.eq (g2 := F0 m 7 ls (.int ((zs_bookingAt N x).2) :: [.int (nI 0), .ref ol])) rfl ?_
    refine lv_i2l hx hb dL_bookingAt_7 rfl ?_
    refine zz_last hx hb hK hS hat1 hol (vp_in_nI (by decide) (by decide)) dL_bookingAt_8 (fun H2 locs2 hat2 hz2 ho2 hS => ?_)
    refine lv_goto (tgt := 15) hx hb dL_bookingAt_9 (by decide) ?_
    refine zz_con 0 hx hb dL_bookingAt_15 (by decide) ?_
    refine zz_iret hx hb hr hlocks hS (Nat.le_of_ble_eq_true rfl) (Nat.le_of_ble_eq_true rfl) dL_bookingAt_16 ?_
    exact ⟨by rw [hc], hX1.fr (B := fun q => q = ol) ⟨by omega, fun q _ h => ho2 q h⟩ (fun q hq _ e => hnx (e ▸ hq)), _, ⟨_, hat2, zv_u0⟩, fun _ => rfl⟩

set_option maxHeartbeats 4000000 in
set_option maxRecDepth 100000 in
theorem c_L_lossOf (l : Launch) (hfl : l.stackTraces = false) {K : zz_G} {A Ax : Nat → Prop} {ox ol : Nat} {v0 : Int64} {N : Nat → Nat → Nat} {G : Nat → Nat → Int32} {L : Nat → Int64} (hzi : zi N) (x : Int32) (hsub : ∀ q, Ax q → A q) (hol : A ol) (hnx : ¬ Ax ol) : zz_CH l yL_lossOf cL_lossOf 4 (Option.some FieldType.int) [(0, 9, 12, 13), (0, 9, 15, 34)] ({ frames := 7, cells := 1, slots := 6, locals := 134 } : Room) K A [.ref ox, .int x, .ref ol] (fun H => (∀ q : Nat, H.size ≤ q → Ax q) ∧ zv_X K Ax ox N G L H ∧ zv_lo K ol v0 H) (fun v9 _ H9 => v9 = some (.int (nI ((zs_lossOf N x).1))) ∧ zv_X K Ax ox N G L H9 ∧ ∃ v, zv_lo K ol v H9 ∧ (nI ((zs_lossOf N x).1) = 0 → v = ((zs_lossOf N x).2).toInt64)) A := by
  refine zz_bodyH (by decide +kernel) (Nat.le_of_ble_eq_true rfl) ?_
  intro p e s m below meth c ls hx hb hr hml hts hown hlocks htab hE hA hP hl
  obtain ⟨hnw, ⟨ad, E, cap, rfl, hk, hW⟩, hlo⟩ := hP
  have hI := hzi.q
  have hK := hE.K
  have hown : s.vm.findClass "OpenFloorsLaw" = some m.cls := hown
  have hl : lv_has ls 4 [(0, .ref (ad 0 0)), (1, .int x), (2, .ref ol)] := hl
  have hS : va_S A s.heap s.heap [] := va_S.rf
  obtain ⟨H, hH⟩ : ∃ z, z = s.heap := ⟨_, rfl⟩
  show W p l e _ s m _ below meth c s.heap [] 0 0 _ (F0 m 0 ls [])
  skip
  refine lv_aload_n hx hb dL_lossOf_0 rfl (lv_at hl 2 rfl) ?_
  refine zz_con 0 hx hb dL_lossOf_1 (by decide) ?_
  refine lv_aload_n hx hb dL_lossOf_2 rfl (lv_at hl 0 rfl) ?_
  refine lv_iload_n hx hb dL_lossOf_3 rfl (lv_at hl 1 rfl) ?_
  refine zz_afterH (A := A) (pc := 4) rfl (zz_runV (ci := 5) (q0 := (RX2, TX2, 8)) (b := ad 0 0) (As := [.int x]) (rest := [.int (nI 0), .ref ol]) hx hb hml hown hts (c_X2_lossOf l hfl (K := K) (A := Ax) (ad := ad) (E := E) (cap := cap) (N := N) (G := G) (L := L) hI hk x) zw_598 zw_599 zw_600 zw_1 zw_601 zd_X2_lossOf ⟨Nat.le_of_ble_eq_true rfl, Nat.le_of_ble_eq_true rfl⟩ (hE.narrow hsub) hnw (zx_ob hW).1 rfl rfl hW hl.1 (Nat.le_of_ble_eq_true rfl) dL_lossOf_4 ⟨Nat.le_of_ble_eq_true rfl, Nat.le_of_ble_eq_true rfl⟩) hS (fun _ z => z.elim) (fun Ex ce q H1 locs1 hXc hF hce hcv hcl hS => ?_) (fun v H1 locs1 hQ hF hS => ?_)
  · have hX1 : zv_X K Ax (ad 0 0) N G L H1 := ⟨ad, E, cap, rfl, hk, hW.ro hF⟩
    have hlo1 := hlo.fr hF (fun z => z)
    rcases hXc with ⟨rfl, hc⟩ | ⟨rfl, hc⟩
    · skip
      refine zz_catch (own := "OpenFloorsLaw") (E := "java/lang/IllegalArgumentException") hown hts hE htab 0 rfl ⟨by decide, by decide⟩ (by decide) (by decide) (fun z hz => absurd hz List.not_mem_nil) zw_230 zn_238 hce hcv hcl ?_
      refine lv_astore_n (lv' := [(3, .ref q), (0, .ref (ad 0 0)), (1, .int x), (2, .ref ol)]) hx hb dL_lossOf_12 rfl hl (Nat.le_of_ble_eq_true rfl) rfl (fun ls hl => ?_)
      refine zz_con 1 hx hb dL_lossOf_13 (by decide) ?_
      refine zz_iret hx hb hr hlocks hS (Nat.le_of_ble_eq_true rfl) (Nat.le_of_ble_eq_true rfl) dL_lossOf_14 ?_
      exact ⟨by rw [hc], hX1, _, hlo1, fun h9 => absurd h9 (by rw [hc]; decide)⟩
    · skip
      refine zz_catch (own := "OpenFloorsLaw") (E := "java/lang/UnsupportedOperationException") hown hts hE htab 1 rfl ⟨by decide, by decide⟩ (by decide) (by decide) (List.forall_mem_cons.mpr ⟨⟨"java/lang/IllegalArgumentException", by decide, zw_230, by decide, by decide⟩, (fun _ h9 => absurd h9 List.not_mem_nil)⟩) zw_544 zn_552 hce hcv hcl ?_
      refine lv_astore_n (lv' := [(3, .ref q), (0, .ref (ad 0 0)), (1, .int x), (2, .ref ol)]) hx hb dL_lossOf_15 rfl hl (Nat.le_of_ble_eq_true rfl) rfl (fun ls hl => ?_)
      refine zz_con 2 hx hb dL_lossOf_16 (by decide) ?_
      refine zz_iret hx hb hr hlocks hS (Nat.le_of_ble_eq_true rfl) (Nat.le_of_ble_eq_true rfl) dL_lossOf_17 ?_
      exact ⟨by rw [hc], hX1, _, hlo1, fun h9 => absurd h9 (by rw [hc]; decide)⟩
  · skip
    obtain ⟨hc, rfl⟩ := hQ
    have hX1 : zv_X K Ax (ad 0 0) N G L H1 := ⟨ad, E, cap, rfl, hk, hW.ro hF⟩
    obtain ⟨f1, hat1, -⟩ := hlo.fr hF (fun z => z)
    refine W.eq (g2 := F0 m 7 ls (.int ((zs_lossOf N x).2) :: [.int (nI 0), .ref ol])) rfl ?_
    refine lv_i2l hx hb dL_lossOf_7 rfl ?_
    refine zz_last hx hb hK hS hat1 hol (vp_in_nI (by decide) (by decide)) dL_lossOf_8 (fun H2 locs2 hat2 hz2 ho2 hS => ?_)
    refine lv_goto (tgt := 18) hx hb dL_lossOf_9 (by decide) ?_
    refine zz_con 0 hx hb dL_lossOf_18 (by decide) ?_
    refine zz_iret hx hb hr hlocks hS (Nat.le_of_ble_eq_true rfl) (Nat.le_of_ble_eq_true rfl) dL_lossOf_19 ?_
    exact ⟨by rw [hc], hX1.fr (B := fun q => q = ol) ⟨by omega, fun q _ h => ho2 q h⟩ (fun q hq _ e => hnx (e ▸ hq)), _, ⟨_, hat2, zv_u0⟩, fun _ => rfl⟩

set_option maxHeartbeats 4000000 in
set_option maxRecDepth 100000 in
theorem c_L_nextDay (l : Launch) (hfl : l.stackTraces = false) {K : zz_G} {A Ax : Nat → Prop} {ox ol : Nat} {v0 : Int64} {N : Nat → Nat → Nat} {G : Nat → Nat → Int32} {L : Nat → Int64} (hzi : zi N) (hsub : ∀ q, Ax q → A q) (hol : A ol) (hnx : ¬ Ax ol) : zz_CH l yL_nextDay cL_nextDay 3 (Option.some FieldType.int) [(0, 8, 11, 15)] ({ frames := 9, cells := 1, slots := 6, locals := 206 } : Room) K A [.ref ox, .ref ol] (fun H => (∀ q : Nat, H.size ≤ q → Ax q) ∧ zv_X K Ax ox N G L H ∧ zv_lo K ol v0 H) (fun v9 _ H9 => v9 = some (.int (nI ((zs_day N L).1))) ∧ zv_X K Ax ox ((zs_day N L).2.2.1) G ((zs_day N L).2.2.2) H9 ∧ ∃ v, zv_lo K ol v H9 ∧ (nI ((zs_day N L).1) = 0 → v = ((zs_day N L).2.1).toInt64)) A := by
  refine zz_bodyH (by decide +kernel) (Nat.le_of_ble_eq_true rfl) ?_
  intro p e s m below meth c ls hx hb hr hml hts hown hlocks htab hE hA hP hl
  obtain ⟨hnw, ⟨ad, E, cap, rfl, hk, hW⟩, hlo⟩ := hP
  have hI := hzi.q
  have hK := hE.K
  have hown : s.vm.findClass "OpenFloorsLaw" = some m.cls := hown
  have hl : lv_has ls 3 [(0, .ref (ad 0 0)), (1, .ref ol)] := hl
  have hS : va_S A s.heap s.heap [] := va_S.rf
  obtain ⟨H, hH⟩ : ∃ z, z = s.heap := ⟨_, rfl⟩
  show W p l e _ s m _ below meth c s.heap [] 0 0 _ (F0 m 0 ls [])
  skip
  refine lv_aload_n hx hb dL_nextDay_0 rfl (lv_at hl 1 rfl) ?_
  refine zz_con 0 hx hb dL_nextDay_1 (by decide) ?_
  refine lv_aload_n hx hb dL_nextDay_2 rfl (lv_at hl 0 rfl) ?_
  refine zz_afterH (A := A) (pc := 3) rfl (zz_runV (ci := 5) (q0 := (RX2, TX2, 8)) (b := ad 0 0) (As := []) (rest := [.int (nI 0), .ref ol]) hx hb hml hown hts (c_X2_nextDay l hfl (K := K) (A := Ax) (ad := ad) (E := E) (cap := cap) (N := N) (G := G) (L := L) hI hk) zw_607 zw_608 zw_609 zw_1 zw_610 zd_X2_nextDay ⟨Nat.le_of_ble_eq_true rfl, Nat.le_of_ble_eq_true rfl⟩ (hE.narrow hsub) hnw (zx_ob hW).1 rfl rfl hW hl.1 (Nat.le_of_ble_eq_true rfl) dL_nextDay_3 ⟨Nat.le_of_ble_eq_true rfl, Nat.le_of_ble_eq_true rfl⟩) hS hsub (fun Ex ce q H1 locs1 hXc hF hce hcv hcl hS => ?_) (fun v H1 locs1 hQ hF hS => ?_)
  · have hX1 : zv_X K Ax (ad 0 0) N G L H1 := ⟨ad, E, cap, rfl, hk, hW.ro hF⟩
    have hlo1 := hlo.fr hF (fun z => z)
    obtain ⟨rfl, hc⟩ := hXc
    refine zz_catch (own := "OpenFloorsLaw") (E := "java/lang/IllegalStateException") hown hts hE htab 0 rfl ⟨by decide, by decide⟩ (by decide) (by decide) (fun z hz => absurd hz List.not_mem_nil) zw_231 zn_314 hce hcv hcl ?_
    refine lv_astore_n (lv' := [(2, .ref q), (0, .ref (ad 0 0)), (1, .ref ol)]) hx hb dL_nextDay_11 rfl hl (Nat.le_of_ble_eq_true rfl) rfl (fun ls hl => ?_)
    refine zz_con 1 hx hb dL_nextDay_12 (by decide) ?_
    refine zz_iret hx hb hr hlocks hS (Nat.le_of_ble_eq_true rfl) (Nat.le_of_ble_eq_true rfl) dL_nextDay_13 ?_
    exact ⟨by rw [hc], (by rw [(kz_nextDay (by rw [hc]; decide)).1, (kz_nextDay (by rw [hc]; decide)).2]; exact hX1), _, hlo1, fun h9 => absurd h9 (by rw [hc]; decide)⟩
  · skip
    obtain ⟨hc, rfl, E1, hW1⟩ := hQ
    have hX1 : zv_X K Ax (ad 0 0) ((zs_day N L).2.2.1) G ((zs_day N L).2.2.2) H1 := ⟨ad, E1, cap, rfl, kk_nextDay hk, hW1⟩
    obtain ⟨f1, hat1, -⟩ := hlo.fr hF hnx
    refine W.eq (g2 := F0 m 6 ls (.int ((zs_day N L).2.1) :: [.int (nI 0), .ref ol])) rfl ?_
    refine lv_i2l hx hb dL_nextDay_6 rfl ?_
    refine zz_last hx hb hK hS hat1 hol (vp_in_nI (by decide) (by decide)) dL_nextDay_7 (fun H2 locs2 hat2 hz2 ho2 hS => ?_)
    refine lv_goto (tgt := 14) hx hb dL_nextDay_8 (by decide) ?_
    refine zz_con 0 hx hb dL_nextDay_14 (by decide) ?_
    refine zz_iret hx hb hr hlocks hS (Nat.le_of_ble_eq_true rfl) (Nat.le_of_ble_eq_true rfl) dL_nextDay_15 ?_
    exact ⟨by rw [hc], hX1.fr (B := fun q => q = ol) ⟨by omega, fun q _ h => ho2 q h⟩ (fun q hq _ e => hnx (e ▸ hq)), _, ⟨_, hat2, zv_u0⟩, fun _ => rfl⟩

set_option maxHeartbeats 4000000 in
set_option maxRecDepth 100000 in
theorem c_L_comeIn (l : Launch) (hfl : l.stackTraces = false) {K : zz_G} {A Ax : Nat → Prop} {ox ol : Nat} {v0 : Int64} {N : Nat → Nat → Nat} {G : Nat → Nat → Int32} {L : Nat → Int64} (hzi : zi N) (x : Int32) (hsub : ∀ q, Ax q → A q) (hol : A ol) (hnx : ¬ Ax ol) : zz_CH l yL_comeIn cL_comeIn 4 (Option.some FieldType.int) [(0, 9, 12, 29), (0, 9, 15, 15)] ({ frames := 8, cells := 2, slots := 12, locals := 140 } : Room) K A [.ref ox, .int x, .ref ol] (fun H => (∀ q : Nat, H.size ≤ q → Ax q) ∧ zv_X K Ax ox N G L H ∧ zv_lo K ol v0 H) (fun v9 _ H9 => v9 = some (.int (nI ((zs_comeIn N x).1))) ∧ zv_X K Ax ox ((zs_comeIn N x).2.2) G L H9 ∧ ∃ v, zv_lo K ol v H9 ∧ (nI ((zs_comeIn N x).1) = 0 → v = ((zs_comeIn N x).2.1).toInt64)) A := by
  refine zz_bodyH (by decide +kernel) (Nat.le_of_ble_eq_true rfl) ?_
  intro p e s m below meth c ls hx hb hr hml hts hown hlocks htab hE hA hP hl
  obtain ⟨hnw, ⟨ad, E, cap, rfl, hk, hW⟩, hlo⟩ := hP
  have hI := hzi.q
  have hK := hE.K
  have hown : s.vm.findClass "OpenFloorsLaw" = some m.cls := hown
  have hl : lv_has ls 4 [(0, .ref (ad 0 0)), (1, .int x), (2, .ref ol)] := hl
  have hS : va_S A s.heap s.heap [] := va_S.rf
  obtain ⟨H, hH⟩ : ∃ z, z = s.heap := ⟨_, rfl⟩
  show W p l e _ s m _ below meth c s.heap [] 0 0 _ (F0 m 0 ls [])
  skip
  refine lv_aload_n hx hb dL_comeIn_0 rfl (lv_at hl 2 rfl) ?_
  refine zz_con 0 hx hb dL_comeIn_1 (by decide) ?_
  refine lv_aload_n hx hb dL_comeIn_2 rfl (lv_at hl 0 rfl) ?_
  refine lv_iload_n hx hb dL_comeIn_3 rfl (lv_at hl 1 rfl) ?_
  refine zz_afterH (A := A) (pc := 4) rfl (zz_runV (ci := 5) (q0 := (RX2, TX2, 8)) (b := ad 0 0) (As := [.int x]) (rest := [.int (nI 0), .ref ol]) hx hb hml hown hts (c_X2_comeIn l hfl (K := K) (A := Ax) (ad := ad) (E := E) (cap := cap) (N := N) (G := G) (L := L) hI hk x) zw_677 zw_678 zw_679 zw_1 zw_680 zd_X2_comeIn ⟨Nat.le_of_ble_eq_true rfl, Nat.le_of_ble_eq_true rfl⟩ (hE.narrow hsub) hnw (zx_ob hW).1 rfl rfl hW hl.1 (Nat.le_of_ble_eq_true rfl) dL_comeIn_4 ⟨Nat.le_of_ble_eq_true rfl, Nat.le_of_ble_eq_true rfl⟩) hS hsub (fun Ex ce q H1 locs1 hXc hF hce hcv hcl hS => ?_) (fun v H1 locs1 hQ hF hS => ?_)
  · have hX1 : zv_X K Ax (ad 0 0) N G L H1 := ⟨ad, E, cap, rfl, hk, hW.ro hF⟩
    have hlo1 := hlo.fr hF (fun z => z)
    rcases hXc with ⟨rfl, hc⟩ | ⟨rfl, hc⟩
    · skip
      refine zz_catch (own := "OpenFloorsLaw") (E := "java/util/NoSuchElementException") hown hts hE htab 0 rfl ⟨by decide, by decide⟩ (by decide) (by decide) (fun z hz => absurd hz List.not_mem_nil) zw_516 zn_527 hce hcv hcl ?_
      refine lv_astore_n (lv' := [(3, .ref q), (0, .ref (ad 0 0)), (1, .int x), (2, .ref ol)]) hx hb dL_comeIn_12 rfl hl (Nat.le_of_ble_eq_true rfl) rfl (fun ls hl => ?_)
      refine zz_con 1 hx hb dL_comeIn_13 (by decide) ?_
      refine zz_iret hx hb hr hlocks hS (Nat.le_of_ble_eq_true rfl) (Nat.le_of_ble_eq_true rfl) dL_comeIn_14 ?_
      exact ⟨by rw [hc], (by rw [kz_comeIn (by rw [hc]; decide)]; exact hX1), _, hlo1, fun h9 => absurd h9 (by rw [hc]; decide)⟩
    · skip
      refine zz_catch (own := "OpenFloorsLaw") (E := "java/lang/IllegalStateException") hown hts hE htab 1 rfl ⟨by decide, by decide⟩ (by decide) (by decide) (List.forall_mem_cons.mpr ⟨⟨"java/util/NoSuchElementException", by decide, zw_516, by decide, by decide⟩, (fun _ h9 => absurd h9 List.not_mem_nil)⟩) zw_231 zn_314 hce hcv hcl ?_
      refine lv_astore_n (lv' := [(3, .ref q), (0, .ref (ad 0 0)), (1, .int x), (2, .ref ol)]) hx hb dL_comeIn_15 rfl hl (Nat.le_of_ble_eq_true rfl) rfl (fun ls hl => ?_)
      refine zz_con 2 hx hb dL_comeIn_16 (by decide) ?_
      refine zz_iret hx hb hr hlocks hS (Nat.le_of_ble_eq_true rfl) (Nat.le_of_ble_eq_true rfl) dL_comeIn_17 ?_
      exact ⟨by rw [hc], (by rw [kz_comeIn (by rw [hc]; decide)]; exact hX1), _, hlo1, fun h9 => absurd h9 (by rw [hc]; decide)⟩
  · skip
    obtain ⟨hc, rfl, hW1⟩ := hQ
    have hX1 : zv_X K Ax (ad 0 0) ((zs_comeIn N x).2.2) G L H1 := ⟨ad, E, cap, rfl, kk_comeIn hk, hW1⟩
    obtain ⟨f1, hat1, -⟩ := hlo.fr hF hnx
    refine W.eq (g2 := F0 m 7 ls (.int ((zs_comeIn N x).2.1) :: [.int (nI 0), .ref ol])) rfl ?_
    refine lv_i2l hx hb dL_comeIn_7 rfl ?_
    refine zz_last hx hb hK hS hat1 hol (vp_in_nI (by decide) (by decide)) dL_comeIn_8 (fun H2 locs2 hat2 hz2 ho2 hS => ?_)
    refine lv_goto (tgt := 18) hx hb dL_comeIn_9 (by decide) ?_
    refine zz_con 0 hx hb dL_comeIn_18 (by decide) ?_
    refine zz_iret hx hb hr hlocks hS (Nat.le_of_ble_eq_true rfl) (Nat.le_of_ble_eq_true rfl) dL_comeIn_19 ?_
    exact ⟨by rw [hc], hX1.fr (B := fun q => q = ol) ⟨by omega, fun q _ h => ho2 q h⟩ (fun q hq _ e => hnx (e ▸ hq)), _, ⟨_, hat2, zv_u0⟩, fun _ => rfl⟩

set_option maxHeartbeats 4000000 in
set_option maxRecDepth 100000 in
theorem c_L_leave (l : Launch) (hfl : l.stackTraces = false) {K : zz_G} {A Ax : Nat → Prop} {ox ol : Nat} {v0 : Int64} {N : Nat → Nat → Nat} {G : Nat → Nat → Int32} {L : Nat → Int64} (hzi : zi N) (x : Int32) (hsub : ∀ q, Ax q → A q) (hol : A ol) (hnx : ¬ Ax ol) : zz_CH l yL_leave cL_leave 4 (Option.some FieldType.int) [(0, 9, 12, 29), (0, 9, 15, 15)] ({ frames := 8, cells := 2, slots := 12, locals := 139 } : Room) K A [.ref ox, .int x, .ref ol] (fun H => (∀ q : Nat, H.size ≤ q → Ax q) ∧ zv_X K Ax ox N G L H ∧ zv_lo K ol v0 H) (fun v9 _ H9 => v9 = some (.int (nI ((zs_leave N x).1))) ∧ zv_X K Ax ox ((zs_leave N x).2.2) G L H9 ∧ ∃ v, zv_lo K ol v H9 ∧ (nI ((zs_leave N x).1) = 0 → v = ((zs_leave N x).2.1).toInt64)) A := by
  refine zz_bodyH (by decide +kernel) (Nat.le_of_ble_eq_true rfl) ?_
  intro p e s m below meth c ls hx hb hr hml hts hown hlocks htab hE hA hP hl
  obtain ⟨hnw, ⟨ad, E, cap, rfl, hk, hW⟩, hlo⟩ := hP
  have hI := hzi.q
  have hK := hE.K
  have hown : s.vm.findClass "OpenFloorsLaw" = some m.cls := hown
  have hl : lv_has ls 4 [(0, .ref (ad 0 0)), (1, .int x), (2, .ref ol)] := hl
  have hS : va_S A s.heap s.heap [] := va_S.rf
  obtain ⟨H, hH⟩ : ∃ z, z = s.heap := ⟨_, rfl⟩
  show W p l e _ s m _ below meth c s.heap [] 0 0 _ (F0 m 0 ls [])
  skip
  refine lv_aload_n hx hb dL_leave_0 rfl (lv_at hl 2 rfl) ?_
  refine zz_con 0 hx hb dL_leave_1 (by decide) ?_
  refine lv_aload_n hx hb dL_leave_2 rfl (lv_at hl 0 rfl) ?_
  refine lv_iload_n hx hb dL_leave_3 rfl (lv_at hl 1 rfl) ?_
  refine zz_afterH (A := A) (pc := 4) rfl (zz_runV (ci := 5) (q0 := (RX2, TX2, 8)) (b := ad 0 0) (As := [.int x]) (rest := [.int (nI 0), .ref ol]) hx hb hml hown hts (c_X2_leave l hfl (K := K) (A := Ax) (ad := ad) (E := E) (cap := cap) (N := N) (G := G) (L := L) hI hk x) zw_686 zw_687 zw_688 zw_1 zw_689 zd_X2_leave ⟨Nat.le_of_ble_eq_true rfl, Nat.le_of_ble_eq_true rfl⟩ (hE.narrow hsub) hnw (zx_ob hW).1 rfl rfl hW hl.1 (Nat.le_of_ble_eq_true rfl) dL_leave_4 ⟨Nat.le_of_ble_eq_true rfl, Nat.le_of_ble_eq_true rfl⟩) hS hsub (fun Ex ce q H1 locs1 hXc hF hce hcv hcl hS => ?_) (fun v H1 locs1 hQ hF hS => ?_)
  · have hX1 : zv_X K Ax (ad 0 0) N G L H1 := ⟨ad, E, cap, rfl, hk, hW.ro hF⟩
    have hlo1 := hlo.fr hF (fun z => z)
    rcases hXc with ⟨rfl, hc⟩ | ⟨rfl, hc⟩
    · skip
      refine zz_catch (own := "OpenFloorsLaw") (E := "java/util/NoSuchElementException") hown hts hE htab 0 rfl ⟨by decide, by decide⟩ (by decide) (by decide) (fun z hz => absurd hz List.not_mem_nil) zw_516 zn_527 hce hcv hcl ?_
      refine lv_astore_n (lv' := [(3, .ref q), (0, .ref (ad 0 0)), (1, .int x), (2, .ref ol)]) hx hb dL_leave_12 rfl hl (Nat.le_of_ble_eq_true rfl) rfl (fun ls hl => ?_)
      refine zz_con 1 hx hb dL_leave_13 (by decide) ?_
      refine zz_iret hx hb hr hlocks hS (Nat.le_of_ble_eq_true rfl) (Nat.le_of_ble_eq_true rfl) dL_leave_14 ?_
      exact ⟨by rw [hc], (by rw [kz_leave (by rw [hc]; decide)]; exact hX1), _, hlo1, fun h9 => absurd h9 (by rw [hc]; decide)⟩
    · skip
      refine zz_catch (own := "OpenFloorsLaw") (E := "java/lang/IllegalStateException") hown hts hE htab 1 rfl ⟨by decide, by decide⟩ (by decide) (by decide) (List.forall_mem_cons.mpr ⟨⟨"java/util/NoSuchElementException", by decide, zw_516, by decide, by decide⟩, (fun _ h9 => absurd h9 List.not_mem_nil)⟩) zw_231 zn_314 hce hcv hcl ?_
      refine lv_astore_n (lv' := [(3, .ref q), (0, .ref (ad 0 0)), (1, .int x), (2, .ref ol)]) hx hb dL_leave_15 rfl hl (Nat.le_of_ble_eq_true rfl) rfl (fun ls hl => ?_)
      refine zz_con 2 hx hb dL_leave_16 (by decide) ?_
      refine zz_iret hx hb hr hlocks hS (Nat.le_of_ble_eq_true rfl) (Nat.le_of_ble_eq_true rfl) dL_leave_17 ?_
      exact ⟨by rw [hc], (by rw [kz_leave (by rw [hc]; decide)]; exact hX1), _, hlo1, fun h9 => absurd h9 (by rw [hc]; decide)⟩
  · skip
    obtain ⟨hc, rfl, hW1⟩ := hQ
    have hX1 : zv_X K Ax (ad 0 0) ((zs_leave N x).2.2) G L H1 := ⟨ad, E, cap, rfl, kk_leave hk, hW1⟩
    obtain ⟨f1, hat1, -⟩ := hlo.fr hF hnx
    refine W.eq (g2 := F0 m 7 ls (.int ((zs_leave N x).2.1) :: [.int (nI 0), .ref ol])) rfl ?_
    refine lv_i2l hx hb dL_leave_7 rfl ?_
    refine zz_last hx hb hK hS hat1 hol (vp_in_nI (by decide) (by decide)) dL_leave_8 (fun H2 locs2 hat2 hz2 ho2 hS => ?_)
    refine lv_goto (tgt := 18) hx hb dL_leave_9 (by decide) ?_
    refine zz_con 0 hx hb dL_leave_18 (by decide) ?_
    refine zz_iret hx hb hr hlocks hS (Nat.le_of_ble_eq_true rfl) (Nat.le_of_ble_eq_true rfl) dL_leave_19 ?_
    exact ⟨by rw [hc], hX1.fr (B := fun q => q = ol) ⟨by omega, fun q _ h => ho2 q h⟩ (fun q hq _ e => hnx (e ▸ hq)), _, ⟨_, hat2, zv_u0⟩, fun _ => rfl⟩

set_option maxHeartbeats 4000000 in
set_option maxRecDepth 100000 in
theorem c_L_seatOf (l : Launch) (hfl : l.stackTraces = false) {K : zz_G} {A Ax : Nat → Prop} {ox ol : Nat} {v0 : Int64} {N : Nat → Nat → Nat} {G : Nat → Nat → Int32} {L : Nat → Int64} (hzi : zi N) (x : Int32) (hsub : ∀ q, Ax q → A q) (hol : A ol) (hnx : ¬ Ax ol) : zz_CH l yL_seatOf cL_seatOf 4 (Option.some FieldType.int) [(0, 9, 12, 29)] ({ frames := 8, cells := 1, slots := 6, locals := 139 } : Room) K A [.ref ox, .int x, .ref ol] (fun H => (∀ q : Nat, H.size ≤ q → Ax q) ∧ zv_X K Ax ox N G L H ∧ zv_lo K ol v0 H) (fun v9 _ H9 => v9 = some (.int (nI ((zs_seatOf N x).1))) ∧ zv_X K Ax ox N G L H9 ∧ ∃ v, zv_lo K ol v H9 ∧ (nI ((zs_seatOf N x).1) = 0 → v = ((zs_seatOf N x).2).toInt64)) A := by
  refine zz_bodyH (by decide +kernel) (Nat.le_of_ble_eq_true rfl) ?_
  intro p e s m below meth c ls hx hb hr hml hts hown hlocks htab hE hA hP hl
  obtain ⟨hnw, ⟨ad, E, cap, rfl, hk, hW⟩, hlo⟩ := hP
  have hI := hzi.q
  have hK := hE.K
  have hown : s.vm.findClass "OpenFloorsLaw" = some m.cls := hown
  have hl : lv_has ls 4 [(0, .ref (ad 0 0)), (1, .int x), (2, .ref ol)] := hl
  have hS : va_S A s.heap s.heap [] := va_S.rf
  obtain ⟨H, hH⟩ : ∃ z, z = s.heap := ⟨_, rfl⟩
  show W p l e _ s m _ below meth c s.heap [] 0 0 _ (F0 m 0 ls [])
  skip
  refine lv_aload_n hx hb dL_seatOf_0 rfl (lv_at hl 2 rfl) ?_
  refine zz_con 0 hx hb dL_seatOf_1 (by decide) ?_
  refine lv_aload_n hx hb dL_seatOf_2 rfl (lv_at hl 0 rfl) ?_
  refine lv_iload_n hx hb dL_seatOf_3 rfl (lv_at hl 1 rfl) ?_
  refine zz_afterH (A := A) (pc := 4) rfl (zz_runV (ci := 5) (q0 := (RX2, TX2, 8)) (b := ad 0 0) (As := [.int x]) (rest := [.int (nI 0), .ref ol]) hx hb hml hown hts (c_X2_seatOf l hfl (K := K) (A := Ax) (ad := ad) (E := E) (cap := cap) (N := N) (G := G) (L := L) hI hk x) zw_698 zw_699 zw_700 zw_1 zw_701 zd_X2_seatOf ⟨Nat.le_of_ble_eq_true rfl, Nat.le_of_ble_eq_true rfl⟩ (hE.narrow hsub) hnw (zx_ob hW).1 rfl rfl hW hl.1 (Nat.le_of_ble_eq_true rfl) dL_seatOf_4 ⟨Nat.le_of_ble_eq_true rfl, Nat.le_of_ble_eq_true rfl⟩) hS (fun _ z => z.elim) (fun Ex ce q H1 locs1 hXc hF hce hcv hcl hS => ?_) (fun v H1 locs1 hQ hF hS => ?_)
  · have hX1 : zv_X K Ax (ad 0 0) N G L H1 := ⟨ad, E, cap, rfl, hk, hW.ro hF⟩
    have hlo1 := hlo.fr hF (fun z => z)
    obtain ⟨rfl, hc⟩ := hXc
    refine zz_catch (own := "OpenFloorsLaw") (E := "java/util/NoSuchElementException") hown hts hE htab 0 rfl ⟨by decide, by decide⟩ (by decide) (by decide) (fun z hz => absurd hz List.not_mem_nil) zw_516 zn_527 hce hcv hcl ?_
    refine lv_astore_n (lv' := [(3, .ref q), (0, .ref (ad 0 0)), (1, .int x), (2, .ref ol)]) hx hb dL_seatOf_12 rfl hl (Nat.le_of_ble_eq_true rfl) rfl (fun ls hl => ?_)
    refine zz_con 1 hx hb dL_seatOf_13 (by decide) ?_
    refine zz_iret hx hb hr hlocks hS (Nat.le_of_ble_eq_true rfl) (Nat.le_of_ble_eq_true rfl) dL_seatOf_14 ?_
    exact ⟨by rw [hc], hX1, _, hlo1, fun h9 => absurd h9 (by rw [hc]; decide)⟩
  · skip
    obtain ⟨hc, rfl⟩ := hQ
    have hX1 : zv_X K Ax (ad 0 0) N G L H1 := ⟨ad, E, cap, rfl, hk, hW.ro hF⟩
    obtain ⟨f1, hat1, -⟩ := hlo.fr hF (fun z => z)
    refine W.eq (g2 := F0 m 7 ls (.int ((zs_seatOf N x).2) :: [.int (nI 0), .ref ol])) rfl ?_
    refine lv_i2l hx hb dL_seatOf_7 rfl ?_
    refine zz_last hx hb hK hS hat1 hol (vp_in_nI (by decide) (by decide)) dL_seatOf_8 (fun H2 locs2 hat2 hz2 ho2 hS => ?_)
    refine lv_goto (tgt := 15) hx hb dL_seatOf_9 (by decide) ?_
    refine zz_con 0 hx hb dL_seatOf_15 (by decide) ?_
    refine zz_iret hx hb hr hlocks hS (Nat.le_of_ble_eq_true rfl) (Nat.le_of_ble_eq_true rfl) dL_seatOf_16 ?_
    exact ⟨by rw [hc], hX1.fr (B := fun q => q = ol) ⟨by omega, fun q _ h => ho2 q h⟩ (fun q hq _ e => hnx (e ▸ hq)), _, ⟨_, hat2, zv_u0⟩, fun _ => rfl⟩

set_option maxHeartbeats 4000000 in
set_option maxRecDepth 100000 in
theorem c_L_isIn (l : Launch) (hfl : l.stackTraces = false) {K : zz_G} {A Ax : Nat → Prop} {ox ol : Nat} {v0 : Int64} {N : Nat → Nat → Nat} {G : Nat → Nat → Int32} {L : Nat → Int64} (hzi : zi N) (x : Int32) (hsub : ∀ q, Ax q → A q) (hol : A ol) (hnx : ¬ Ax ol) : zz_CH l yL_isIn cL_isIn 4 (Option.some FieldType.int) [(0, 16, 19, 29)] ({ frames := 8, cells := 1, slots := 6, locals := 138 } : Room) K A [.ref ox, .int x, .ref ol] (fun H => (∀ q : Nat, H.size ≤ q → Ax q) ∧ zv_X K Ax ox N G L H ∧ zv_lo K ol v0 H) (fun v9 _ H9 => v9 = some (.int (nI (zs_isIn N x))) ∧ zv_X K Ax ox N G L H9 ∧ ∃ v, zv_lo K ol v H9 ∧ (nI (zs_isIn N x) = 0 → v = zv_b (zp_isIn N x))) A := by
  refine zz_bodyH (by decide +kernel) (Nat.le_of_ble_eq_true rfl) ?_
  intro p e s m below meth c ls hx hb hr hml hts hown hlocks htab hE hA hP hl
  obtain ⟨hnw, ⟨ad, E, cap, rfl, hk, hW⟩, hlo⟩ := hP
  have hI := hzi.q
  have hK := hE.K
  have hown : s.vm.findClass "OpenFloorsLaw" = some m.cls := hown
  have hl : lv_has ls 4 [(0, .ref (ad 0 0)), (1, .int x), (2, .ref ol)] := hl
  have hS : va_S A s.heap s.heap [] := va_S.rf
  obtain ⟨H, hH⟩ : ∃ z, z = s.heap := ⟨_, rfl⟩
  show W p l e _ s m _ below meth c s.heap [] 0 0 _ (F0 m 0 ls [])
  skip
  refine lv_aload_n hx hb dL_isIn_0 rfl (lv_at hl 2 rfl) ?_
  refine zz_con 0 hx hb dL_isIn_1 (by decide) ?_
  refine lv_aload_n hx hb dL_isIn_2 rfl (lv_at hl 0 rfl) ?_
  refine lv_iload_n hx hb dL_isIn_3 rfl (lv_at hl 1 rfl) ?_
  refine zz_afterH (A := A) (pc := 4) rfl (zz_runV (ci := 5) (q0 := (RX2, TX2, 8)) (b := ad 0 0) (As := [.int x]) (rest := [.int (nI 0), .ref ol]) hx hb hml hown hts (c_X2_isIn l hfl (K := K) (A := Ax) (ad := ad) (E := E) (cap := cap) (N := N) (G := G) (L := L) hI hk x) zw_705 zw_706 zw_707 zw_1 zw_708 zd_X2_isIn ⟨Nat.le_of_ble_eq_true rfl, Nat.le_of_ble_eq_true rfl⟩ (hE.narrow hsub) hnw (zx_ob hW).1 rfl rfl hW hl.1 (Nat.le_of_ble_eq_true rfl) dL_isIn_4 ⟨Nat.le_of_ble_eq_true rfl, Nat.le_of_ble_eq_true rfl⟩) hS (fun _ z => z.elim) (fun Ex ce q H1 locs1 hXc hF hce hcv hcl hS => ?_) (fun v H1 locs1 hQ hF hS => ?_)
  · have hX1 : zv_X K Ax (ad 0 0) N G L H1 := ⟨ad, E, cap, rfl, hk, hW.ro hF⟩
    have hlo1 := hlo.fr hF (fun z => z)
    obtain ⟨rfl, hc⟩ := hXc
    refine zz_catch (own := "OpenFloorsLaw") (E := "java/util/NoSuchElementException") hown hts hE htab 0 rfl ⟨by decide, by decide⟩ (by decide) (by decide) (fun z hz => absurd hz List.not_mem_nil) zw_516 zn_527 hce hcv hcl ?_
    refine lv_astore_n (lv' := [(3, .ref q), (0, .ref (ad 0 0)), (1, .int x), (2, .ref ol)]) hx hb dL_isIn_19 rfl hl (Nat.le_of_ble_eq_true rfl) rfl (fun ls hl => ?_)
    refine zz_con 1 hx hb dL_isIn_20 (by decide) ?_
    refine zz_iret hx hb hr hlocks hS (Nat.le_of_ble_eq_true rfl) (Nat.le_of_ble_eq_true rfl) dL_isIn_21 ?_
    exact ⟨by rw [hc], hX1, _, hlo1, fun h9 => absurd h9 (by rw [hc]; decide)⟩
  · skip
    obtain ⟨hc, rfl⟩ := hQ
    have hX1 : zv_X K Ax (ad 0 0) N G L H1 := ⟨ad, E, cap, rfl, hk, hW.ro hF⟩
    obtain ⟨f1, hat1, -⟩ := hlo.fr hF (fun z => z)
    refine W.eq (g2 := F0 m 7 ls (.int (zz_bo (zp_isIn N x)) :: [.int (nI 0), .ref ol])) rfl ?_
    refine zz_bi_eq (tgt := 14) hx hb dL_isIn_7 (by decide) (fun hp => ?_) (fun hp => ?_)
    · refine lv_lconst (v := 0) hx hb dL_isIn_14 (by decide) ?_
      refine zz_last hx hb hK hS hat1 hol (vp_in_nI (by decide) (by decide)) dL_isIn_15 (fun H2 locs2 hat2 hz2 ho2 hS => ?_)
      refine lv_goto (tgt := 22) hx hb dL_isIn_16 (by decide) ?_
      refine zz_con 0 hx hb dL_isIn_22 (by decide) ?_
      refine zz_iret hx hb hr hlocks hS (Nat.le_of_ble_eq_true rfl) (Nat.le_of_ble_eq_true rfl) dL_isIn_23 ?_
      exact ⟨by rw [hc], hX1.fr (B := fun q => q = ol) ⟨by omega, fun q _ h => ho2 q h⟩ (fun q hq _ e => hnx (e ▸ hq)), _, ⟨_, hat2, zv_u0⟩, fun _ => (zv_bf hp).symm⟩
    · refine lv_lconst (v := 1) hx hb dL_isIn_10 (by decide) ?_
      refine lv_goto (tgt := 15) hx hb dL_isIn_11 (by decide) ?_
      refine zz_last hx hb hK hS hat1 hol (vp_in_nI (by decide) (by decide)) dL_isIn_15 (fun H2 locs2 hat2 hz2 ho2 hS => ?_)
      refine lv_goto (tgt := 22) hx hb dL_isIn_16 (by decide) ?_
      refine zz_con 0 hx hb dL_isIn_22 (by decide) ?_
      refine zz_iret hx hb hr hlocks hS (Nat.le_of_ble_eq_true rfl) (Nat.le_of_ble_eq_true rfl) dL_isIn_23 ?_
      exact ⟨by rw [hc], hX1.fr (B := fun q => q = ol) ⟨by omega, fun q _ h => ho2 q h⟩ (fun q hq _ e => hnx (e ▸ hq)), _, ⟨_, hat2, zv_u0⟩, fun _ => (zv_bt hp).symm⟩

set_option maxHeartbeats 4000000 in
set_option maxRecDepth 100000 in
theorem c_L_isOpen (l : Launch) (hfl : l.stackTraces = false) {K : zz_G} {A Ax : Nat → Prop} {ox ol : Nat} {v0 : Int64} {N : Nat → Nat → Nat} {G : Nat → Nat → Int32} {L : Nat → Int64} (hzi : zi N) (x : Int32) (hsub : ∀ q, Ax q → A q) (hol : A ol) (hnx : ¬ Ax ol) : zz_CH l yL_isOpen cL_isOpen 4 (Option.some FieldType.int) [(0, 16, 19, 20)] ({ frames := 8, cells := 1, slots := 6, locals := 138 } : Room) K A [.ref ox, .int x, .ref ol] (fun H => (∀ q : Nat, H.size ≤ q → Ax q) ∧ zv_X K Ax ox N G L H ∧ zv_lo K ol v0 H) (fun v9 _ H9 => v9 = some (.int (nI (zs_isOpen N x))) ∧ zv_X K Ax ox N G L H9 ∧ ∃ v, zv_lo K ol v H9 ∧ (nI (zs_isOpen N x) = 0 → v = zv_b (zp_isOpen N x))) A := by
  refine zz_bodyH (by decide +kernel) (Nat.le_of_ble_eq_true rfl) ?_
  intro p e s m below meth c ls hx hb hr hml hts hown hlocks htab hE hA hP hl
  obtain ⟨hnw, ⟨ad, E, cap, rfl, hk, hW⟩, hlo⟩ := hP
  have hI := hzi.q
  have hK := hE.K
  have hown : s.vm.findClass "OpenFloorsLaw" = some m.cls := hown
  have hl : lv_has ls 4 [(0, .ref (ad 0 0)), (1, .int x), (2, .ref ol)] := hl
  have hS : va_S A s.heap s.heap [] := va_S.rf
  obtain ⟨H, hH⟩ : ∃ z, z = s.heap := ⟨_, rfl⟩
  show W p l e _ s m _ below meth c s.heap [] 0 0 _ (F0 m 0 ls [])
  skip
  refine lv_aload_n hx hb dL_isOpen_0 rfl (lv_at hl 2 rfl) ?_
  refine zz_con 0 hx hb dL_isOpen_1 (by decide) ?_
  refine lv_aload_n hx hb dL_isOpen_2 rfl (lv_at hl 0 rfl) ?_
  refine lv_iload_n hx hb dL_isOpen_3 rfl (lv_at hl 1 rfl) ?_
  refine zz_afterH (A := A) (pc := 4) rfl (zz_runV (ci := 5) (q0 := (RX2, TX2, 8)) (b := ad 0 0) (As := [.int x]) (rest := [.int (nI 0), .ref ol]) hx hb hml hown hts (c_X2_isOpen l hfl (K := K) (A := Ax) (ad := ad) (E := E) (cap := cap) (N := N) (G := G) (L := L) hI hk x) zw_712 zw_713 zw_714 zw_1 zw_715 zd_X2_isOpen ⟨Nat.le_of_ble_eq_true rfl, Nat.le_of_ble_eq_true rfl⟩ (hE.narrow hsub) hnw (zx_ob hW).1 rfl rfl hW hl.1 (Nat.le_of_ble_eq_true rfl) dL_isOpen_4 ⟨Nat.le_of_ble_eq_true rfl, Nat.le_of_ble_eq_true rfl⟩) hS (fun _ z => z.elim) (fun Ex ce q H1 locs1 hXc hF hce hcv hcl hS => ?_) (fun v H1 locs1 hQ hF hS => ?_)
  · have hX1 : zv_X K Ax (ad 0 0) N G L H1 := ⟨ad, E, cap, rfl, hk, hW.ro hF⟩
    have hlo1 := hlo.fr hF (fun z => z)
    obtain ⟨rfl, hc⟩ := hXc
    refine zz_catch (own := "OpenFloorsLaw") (E := "java/lang/IndexOutOfBoundsException") hown hts hE htab 0 rfl ⟨by decide, by decide⟩ (by decide) (by decide) (fun z hz => absurd hz List.not_mem_nil) zw_422 zn_456 hce hcv hcl ?_
    refine lv_astore_n (lv' := [(3, .ref q), (0, .ref (ad 0 0)), (1, .int x), (2, .ref ol)]) hx hb dL_isOpen_19 rfl hl (Nat.le_of_ble_eq_true rfl) rfl (fun ls hl => ?_)
    refine zz_con 1 hx hb dL_isOpen_20 (by decide) ?_
    refine zz_iret hx hb hr hlocks hS (Nat.le_of_ble_eq_true rfl) (Nat.le_of_ble_eq_true rfl) dL_isOpen_21 ?_
    exact ⟨by rw [hc], hX1, _, hlo1, fun h9 => absurd h9 (by rw [hc]; decide)⟩
  · skip
    obtain ⟨hc, rfl⟩ := hQ
    have hX1 : zv_X K Ax (ad 0 0) N G L H1 := ⟨ad, E, cap, rfl, hk, hW.ro hF⟩
    obtain ⟨f1, hat1, -⟩ := hlo.fr hF (fun z => z)
    refine W.eq (g2 := F0 m 7 ls (.int (zz_bo (zp_isOpen N x)) :: [.int (nI 0), .ref ol])) rfl ?_
    refine zz_bi_eq (tgt := 14) hx hb dL_isOpen_7 (by decide) (fun hp => ?_) (fun hp => ?_)
    · refine lv_lconst (v := 0) hx hb dL_isOpen_14 (by decide) ?_
      refine zz_last hx hb hK hS hat1 hol (vp_in_nI (by decide) (by decide)) dL_isOpen_15 (fun H2 locs2 hat2 hz2 ho2 hS => ?_)
      refine lv_goto (tgt := 22) hx hb dL_isOpen_16 (by decide) ?_
      refine zz_con 0 hx hb dL_isOpen_22 (by decide) ?_
      refine zz_iret hx hb hr hlocks hS (Nat.le_of_ble_eq_true rfl) (Nat.le_of_ble_eq_true rfl) dL_isOpen_23 ?_
      exact ⟨by rw [hc], hX1.fr (B := fun q => q = ol) ⟨by omega, fun q _ h => ho2 q h⟩ (fun q hq _ e => hnx (e ▸ hq)), _, ⟨_, hat2, zv_u0⟩, fun _ => (zv_bf hp).symm⟩
    · refine lv_lconst (v := 1) hx hb dL_isOpen_10 (by decide) ?_
      refine lv_goto (tgt := 15) hx hb dL_isOpen_11 (by decide) ?_
      refine zz_last hx hb hK hS hat1 hol (vp_in_nI (by decide) (by decide)) dL_isOpen_15 (fun H2 locs2 hat2 hz2 ho2 hS => ?_)
      refine lv_goto (tgt := 22) hx hb dL_isOpen_16 (by decide) ?_
      refine zz_con 0 hx hb dL_isOpen_22 (by decide) ?_
      refine zz_iret hx hb hr hlocks hS (Nat.le_of_ble_eq_true rfl) (Nat.le_of_ble_eq_true rfl) dL_isOpen_23 ?_
      exact ⟨by rw [hc], hX1.fr (B := fun q => q = ol) ⟨by omega, fun q _ h => ho2 q h⟩ (fun q hq _ e => hnx (e ▸ hq)), _, ⟨_, hat2, zv_u0⟩, fun _ => (zv_bt hp).symm⟩

set_option maxHeartbeats 4000000 in
set_option maxRecDepth 100000 in
theorem c_L_seated (l : Launch) (hfl : l.stackTraces = false) {K : zz_G} {A Ax : Nat → Prop} {ox ol : Nat} {v0 : Int64} {N : Nat → Nat → Nat} {G : Nat → Nat → Int32} {L : Nat → Int64} (hzi : zi N) (x y : Int32) (hsub : ∀ q, Ax q → A q) (hol : A ol) (hnx : ¬ Ax ol) : zz_CH l yL_seated cL_seated 5 (Option.some FieldType.int) [(0, 10, 13, 20), (0, 10, 17, 13)] ({ frames := 8, cells := 2, slots := 12, locals := 140 } : Room) K A [.ref ox, .int x, .int y, .ref ol] (fun H => (∀ q : Nat, H.size ≤ q → Ax q) ∧ zv_X K Ax ox N G L H ∧ zv_lo K ol v0 H) (fun v9 _ H9 => v9 = some (.int (nI ((zs_seated N x y).1))) ∧ zv_X K Ax ox N G L H9 ∧ ∃ v, zv_lo K ol v H9 ∧ (nI ((zs_seated N x y).1) = 0 → v = ((zs_seated N x y).2).toInt64)) A := by
  refine zz_bodyH (by decide +kernel) (Nat.le_of_ble_eq_true rfl) ?_
  intro p e s m below meth c ls hx hb hr hml hts hown hlocks htab hE hA hP hl
  obtain ⟨hnw, ⟨ad, E, cap, rfl, hk, hW⟩, hlo⟩ := hP
  have hI := hzi.q
  have hK := hE.K
  have hown : s.vm.findClass "OpenFloorsLaw" = some m.cls := hown
  have hl : lv_has ls 5 [(0, .ref (ad 0 0)), (1, .int x), (2, .int y), (3, .ref ol)] := hl
  have hS : va_S A s.heap s.heap [] := va_S.rf
  obtain ⟨H, hH⟩ : ∃ z, z = s.heap := ⟨_, rfl⟩
  show W p l e _ s m _ below meth c s.heap [] 0 0 _ (F0 m 0 ls [])
  skip
  refine lv_aload_n hx hb dL_seated_0 rfl (lv_at hl 3 rfl) ?_
  refine zz_con 0 hx hb dL_seated_1 (by decide) ?_
  refine lv_aload_n hx hb dL_seated_2 rfl (lv_at hl 0 rfl) ?_
  refine lv_iload_n hx hb dL_seated_3 rfl (lv_at hl 1 rfl) ?_
  refine lv_iload_n hx hb dL_seated_4 rfl (lv_at hl 2 rfl) ?_
  refine zz_afterH (A := A) (pc := 5) rfl (zz_runV (ci := 5) (q0 := (RX2, TX2, 8)) (b := ad 0 0) (As := [.int x, .int y]) (rest := [.int (nI 0), .ref ol]) hx hb hml hown hts (c_X2_seated l hfl (K := K) (A := Ax) (ad := ad) (E := E) (cap := cap) (N := N) (G := G) (L := L) hI hk x y) zw_719 zw_720 zw_721 zw_1 zw_722 zd_X2_seated ⟨Nat.le_of_ble_eq_true rfl, Nat.le_of_ble_eq_true rfl⟩ (hE.narrow hsub) hnw (zx_ob hW).1 rfl rfl hW hl.1 (Nat.le_of_ble_eq_true rfl) dL_seated_5 ⟨Nat.le_of_ble_eq_true rfl, Nat.le_of_ble_eq_true rfl⟩) hS (fun _ z => z.elim) (fun Ex ce q H1 locs1 hXc hF hce hcv hcl hS => ?_) (fun v H1 locs1 hQ hF hS => ?_)
  · have hX1 : zv_X K Ax (ad 0 0) N G L H1 := ⟨ad, E, cap, rfl, hk, hW.ro hF⟩
    have hlo1 := hlo.fr hF (fun z => z)
    rcases hXc with ⟨rfl, hc⟩ | ⟨rfl, hc⟩
    · skip
      refine zz_catch (own := "OpenFloorsLaw") (E := "java/lang/IndexOutOfBoundsException") hown hts hE htab 0 rfl ⟨by decide, by decide⟩ (by decide) (by decide) (fun z hz => absurd hz List.not_mem_nil) zw_422 zn_456 hce hcv hcl ?_
      refine lv_astore (lv' := [(4, .ref q), (0, .ref (ad 0 0)), (1, .int x), (2, .int y), (3, .ref ol)]) hx hb dL_seated_13 hl (Nat.le_of_ble_eq_true rfl) rfl (fun ls hl => ?_)
      refine zz_con 1 hx hb dL_seated_15 (by decide) ?_
      refine zz_iret hx hb hr hlocks hS (Nat.le_of_ble_eq_true rfl) (Nat.le_of_ble_eq_true rfl) dL_seated_16 ?_
      exact ⟨by rw [hc], hX1, _, hlo1, fun h9 => absurd h9 (by rw [hc]; decide)⟩
    · skip
      refine zz_catch (own := "OpenFloorsLaw") (E := "java/lang/IllegalArgumentException") hown hts hE htab 1 rfl ⟨by decide, by decide⟩ (by decide) (by decide) (List.forall_mem_cons.mpr ⟨⟨"java/lang/IndexOutOfBoundsException", by decide, zw_422, by decide, by decide⟩, (fun _ h9 => absurd h9 List.not_mem_nil)⟩) zw_230 zn_238 hce hcv hcl ?_
      refine lv_astore (lv' := [(4, .ref q), (0, .ref (ad 0 0)), (1, .int x), (2, .int y), (3, .ref ol)]) hx hb dL_seated_17 hl (Nat.le_of_ble_eq_true rfl) rfl (fun ls hl => ?_)
      refine zz_con 2 hx hb dL_seated_19 (by decide) ?_
      refine zz_iret hx hb hr hlocks hS (Nat.le_of_ble_eq_true rfl) (Nat.le_of_ble_eq_true rfl) dL_seated_20 ?_
      exact ⟨by rw [hc], hX1, _, hlo1, fun h9 => absurd h9 (by rw [hc]; decide)⟩
  · skip
    obtain ⟨hc, rfl⟩ := hQ
    have hX1 : zv_X K Ax (ad 0 0) N G L H1 := ⟨ad, E, cap, rfl, hk, hW.ro hF⟩
    obtain ⟨f1, hat1, -⟩ := hlo.fr hF (fun z => z)
    refine W.eq (g2 := F0 m 8 ls (.int ((zs_seated N x y).2) :: [.int (nI 0), .ref ol])) rfl ?_
    refine lv_i2l hx hb dL_seated_8 rfl ?_
    refine zz_last hx hb hK hS hat1 hol (vp_in_nI (by decide) (by decide)) dL_seated_9 (fun H2 locs2 hat2 hz2 ho2 hS => ?_)
    refine lv_goto (tgt := 21) hx hb dL_seated_10 (by decide) ?_
    refine zz_con 0 hx hb dL_seated_21 (by decide) ?_
    refine zz_iret hx hb hr hlocks hS (Nat.le_of_ble_eq_true rfl) (Nat.le_of_ble_eq_true rfl) dL_seated_22 ?_
    exact ⟨by rw [hc], hX1.fr (B := fun q => q = ol) ⟨by omega, fun q _ h => ho2 q h⟩ (fun q hq _ e => hnx (e ▸ hq)), _, ⟨_, hat2, zv_u0⟩, fun _ => rfl⟩

set_option maxHeartbeats 4000000 in
set_option maxRecDepth 100000 in
theorem c_L_pass (l : Launch) (hfl : l.stackTraces = false) {K : zz_G} {A Ax : Nat → Prop} {ox ol : Nat} {v0 : Int64} {N : Nat → Nat → Nat} {G : Nat → Nat → Int32} {L : Nat → Int64} (hzi : zi N) (x : Int32) (hsub : ∀ q, Ax q → A q) (hol : A ol) (hnx : ¬ Ax ol) : zz_CH l yL_pass cL_pass 4 (Option.some FieldType.int) [(0, 9, 12, 13)] ({ frames := 7, cells := 1, slots := 6, locals := 135 } : Room) K A [.ref ox, .int x, .ref ol] (fun H => (∀ q : Nat, H.size ≤ q → Ax q) ∧ zv_X K Ax ox N G L H ∧ zv_lo K ol v0 H) (fun v9 _ H9 => v9 = some (.int (nI ((zs_pass N G L x).1))) ∧ zv_X K Ax ox N ((zs_pass N G L x).2.2.1) ((zs_pass N G L x).2.2.2) H9 ∧ ∃ v, zv_lo K ol v H9 ∧ (nI ((zs_pass N G L x).1) = 0 → v = ((zs_pass N G L x).2.1).toInt64)) A := by
  refine zz_bodyH (by decide +kernel) (Nat.le_of_ble_eq_true rfl) ?_
  intro p e s m below meth c ls hx hb hr hml hts hown hlocks htab hE hA hP hl
  obtain ⟨hnw, ⟨ad, E, cap, rfl, hk, hW⟩, hlo⟩ := hP
  have hI := hzi.q
  have hK := hE.K
  have hown : s.vm.findClass "OpenFloorsLaw" = some m.cls := hown
  have hl : lv_has ls 4 [(0, .ref (ad 0 0)), (1, .int x), (2, .ref ol)] := hl
  have hS : va_S A s.heap s.heap [] := va_S.rf
  obtain ⟨H, hH⟩ : ∃ z, z = s.heap := ⟨_, rfl⟩
  show W p l e _ s m _ below meth c s.heap [] 0 0 _ (F0 m 0 ls [])
  skip
  refine lv_aload_n hx hb dL_pass_0 rfl (lv_at hl 2 rfl) ?_
  refine zz_con 0 hx hb dL_pass_1 (by decide) ?_
  refine lv_aload_n hx hb dL_pass_2 rfl (lv_at hl 0 rfl) ?_
  refine lv_iload_n hx hb dL_pass_3 rfl (lv_at hl 1 rfl) ?_
  refine zz_afterH (A := A) (pc := 4) rfl (zz_runV (ci := 5) (q0 := (RX2, TX2, 8)) (b := ad 0 0) (As := [.int x]) (rest := [.int (nI 0), .ref ol]) hx hb hml hown hts (c_X2_pass l hfl (K := K) (A := Ax) (ad := ad) (E := E) (cap := cap) (N := N) (G := G) (L := L) hI hk x) zw_726 zw_727 zw_728 zw_1 zw_729 zd_X2_pass ⟨Nat.le_of_ble_eq_true rfl, Nat.le_of_ble_eq_true rfl⟩ (hE.narrow hsub) hnw (zx_ob hW).1 rfl rfl hW hl.1 (Nat.le_of_ble_eq_true rfl) dL_pass_4 ⟨Nat.le_of_ble_eq_true rfl, Nat.le_of_ble_eq_true rfl⟩) hS hsub (fun Ex ce q H1 locs1 hXc hF hce hcv hcl hS => ?_) (fun v H1 locs1 hQ hF hS => ?_)
  · have hX1 : zv_X K Ax (ad 0 0) N G L H1 := ⟨ad, E, cap, rfl, hk, hW.ro hF⟩
    have hlo1 := hlo.fr hF (fun z => z)
    obtain ⟨rfl, hc⟩ := hXc
    refine zz_catch (own := "OpenFloorsLaw") (E := "java/lang/IllegalArgumentException") hown hts hE htab 0 rfl ⟨by decide, by decide⟩ (by decide) (by decide) (fun z hz => absurd hz List.not_mem_nil) zw_230 zn_238 hce hcv hcl ?_
    refine lv_astore_n (lv' := [(3, .ref q), (0, .ref (ad 0 0)), (1, .int x), (2, .ref ol)]) hx hb dL_pass_12 rfl hl (Nat.le_of_ble_eq_true rfl) rfl (fun ls hl => ?_)
    refine zz_con 1 hx hb dL_pass_13 (by decide) ?_
    refine zz_iret hx hb hr hlocks hS (Nat.le_of_ble_eq_true rfl) (Nat.le_of_ble_eq_true rfl) dL_pass_14 ?_
    exact ⟨by rw [hc], (by rw [(kz_pass (by rw [hc]; decide)).1, (kz_pass (by rw [hc]; decide)).2]; exact hX1), _, hlo1, fun h9 => absurd h9 (by rw [hc]; decide)⟩
  · skip
    obtain ⟨hc, rfl, hW1⟩ := hQ
    have hX1 : zv_X K Ax (ad 0 0) N ((zs_pass N G L x).2.2.1) ((zs_pass N G L x).2.2.2) H1 := ⟨ad, E, cap, rfl, hk, hW1⟩
    obtain ⟨f1, hat1, -⟩ := hlo.fr hF hnx
    refine W.eq (g2 := F0 m 7 ls (.int ((zs_pass N G L x).2.1) :: [.int (nI 0), .ref ol])) rfl ?_
    refine lv_i2l hx hb dL_pass_7 rfl ?_
    refine zz_last hx hb hK hS hat1 hol (vp_in_nI (by decide) (by decide)) dL_pass_8 (fun H2 locs2 hat2 hz2 ho2 hS => ?_)
    refine lv_goto (tgt := 15) hx hb dL_pass_9 (by decide) ?_
    refine zz_con 0 hx hb dL_pass_15 (by decide) ?_
    refine zz_iret hx hb hr hlocks hS (Nat.le_of_ble_eq_true rfl) (Nat.le_of_ble_eq_true rfl) dL_pass_16 ?_
    exact ⟨by rw [hc], hX1.fr (B := fun q => q = ol) ⟨by omega, fun q _ h => ho2 q h⟩ (fun q hq _ e => hnx (e ▸ hq)), _, ⟨_, hat2, zv_u0⟩, fun _ => rfl⟩

set_option maxHeartbeats 4000000 in
set_option maxRecDepth 100000 in
theorem c_L_warmth (l : Launch) (hfl : l.stackTraces = false) {K : zz_G} {A Ax : Nat → Prop} {ox ol : Nat} {v0 : Int64} {N : Nat → Nat → Nat} {G : Nat → Nat → Int32} {L : Nat → Int64} (hzi : zi N) (x : Int32) (hsub : ∀ q, Ax q → A q) (hol : A ol) (hnx : ¬ Ax ol) : zz_CH l yL_warmth cL_warmth 4 (Option.some FieldType.int) [(0, 9, 12, 20)] ({ frames := 8, cells := 1, slots := 6, locals := 138 } : Room) K A [.ref ox, .int x, .ref ol] (fun H => (∀ q : Nat, H.size ≤ q → Ax q) ∧ zv_X K Ax ox N G L H ∧ zv_lo K ol v0 H) (fun v9 _ H9 => v9 = some (.int (nI ((zs_warmth N G 0 x).1))) ∧ zv_X K Ax ox N G L H9 ∧ ∃ v, zv_lo K ol v H9 ∧ (nI ((zs_warmth N G 0 x).1) = 0 → v = ((zs_warmth N G 0 x).2).toInt64)) A := by
  refine zz_bodyH (by decide +kernel) (Nat.le_of_ble_eq_true rfl) ?_
  intro p e s m below meth c ls hx hb hr hml hts hown hlocks htab hE hA hP hl
  obtain ⟨hnw, ⟨ad, E, cap, rfl, hk, hW⟩, hlo⟩ := hP
  have hI := hzi.q
  have hK := hE.K
  have hown : s.vm.findClass "OpenFloorsLaw" = some m.cls := hown
  have hl : lv_has ls 4 [(0, .ref (ad 0 0)), (1, .int x), (2, .ref ol)] := hl
  have hS : va_S A s.heap s.heap [] := va_S.rf
  obtain ⟨H, hH⟩ : ∃ z, z = s.heap := ⟨_, rfl⟩
  show W p l e _ s m _ below meth c s.heap [] 0 0 _ (F0 m 0 ls [])
  skip
  refine lv_aload_n hx hb dL_warmth_0 rfl (lv_at hl 2 rfl) ?_
  refine zz_con 0 hx hb dL_warmth_1 (by decide) ?_
  refine lv_aload_n hx hb dL_warmth_2 rfl (lv_at hl 0 rfl) ?_
  refine lv_iload_n hx hb dL_warmth_3 rfl (lv_at hl 1 rfl) ?_
  refine zz_afterH (A := A) (pc := 4) rfl (zz_runV (ci := 5) (q0 := (RX2, TX2, 8)) (b := ad 0 0) (As := [.int x]) (rest := [.int (nI 0), .ref ol]) hx hb hml hown hts (c_X2_warmth l hfl (K := K) (A := Ax) (ad := ad) (E := E) (cap := cap) (N := N) (G := G) (L := L) hI hk x) zw_755 zw_756 zw_757 zw_1 zw_758 zd_X2_warmth ⟨Nat.le_of_ble_eq_true rfl, Nat.le_of_ble_eq_true rfl⟩ (hE.narrow hsub) hnw (zx_ob hW).1 rfl rfl hW hl.1 (Nat.le_of_ble_eq_true rfl) dL_warmth_4 ⟨Nat.le_of_ble_eq_true rfl, Nat.le_of_ble_eq_true rfl⟩) hS (fun _ z => z.elim) (fun Ex ce q H1 locs1 hXc hF hce hcv hcl hS => ?_) (fun v H1 locs1 hQ hF hS => ?_)
  · have hX1 : zv_X K Ax (ad 0 0) N G L H1 := ⟨ad, E, cap, rfl, hk, hW.ro hF⟩
    have hlo1 := hlo.fr hF (fun z => z)
    obtain ⟨rfl, hc⟩ := hXc
    refine zz_catch (own := "OpenFloorsLaw") (E := "java/lang/IndexOutOfBoundsException") hown hts hE htab 0 rfl ⟨by decide, by decide⟩ (by decide) (by decide) (fun z hz => absurd hz List.not_mem_nil) zw_422 zn_456 hce hcv hcl ?_
    refine lv_astore_n (lv' := [(3, .ref q), (0, .ref (ad 0 0)), (1, .int x), (2, .ref ol)]) hx hb dL_warmth_12 rfl hl (Nat.le_of_ble_eq_true rfl) rfl (fun ls hl => ?_)
    refine zz_con 1 hx hb dL_warmth_13 (by decide) ?_
    refine zz_iret hx hb hr hlocks hS (Nat.le_of_ble_eq_true rfl) (Nat.le_of_ble_eq_true rfl) dL_warmth_14 ?_
    exact ⟨by rw [hc], hX1, _, hlo1, fun h9 => absurd h9 (by rw [hc]; decide)⟩
  · skip
    obtain ⟨hc, rfl⟩ := hQ
    have hX1 : zv_X K Ax (ad 0 0) N G L H1 := ⟨ad, E, cap, rfl, hk, hW.ro hF⟩
    obtain ⟨f1, hat1, -⟩ := hlo.fr hF (fun z => z)
    refine W.eq (g2 := F0 m 7 ls (.int ((zs_warmth N G 0 x).2) :: [.int (nI 0), .ref ol])) rfl ?_
    refine lv_i2l hx hb dL_warmth_7 rfl ?_
    refine zz_last hx hb hK hS hat1 hol (vp_in_nI (by decide) (by decide)) dL_warmth_8 (fun H2 locs2 hat2 hz2 ho2 hS => ?_)
    refine lv_goto (tgt := 15) hx hb dL_warmth_9 (by decide) ?_
    refine zz_con 0 hx hb dL_warmth_15 (by decide) ?_
    refine zz_iret hx hb hr hlocks hS (Nat.le_of_ble_eq_true rfl) (Nat.le_of_ble_eq_true rfl) dL_warmth_16 ?_
    exact ⟨by rw [hc], hX1.fr (B := fun q => q = ol) ⟨by omega, fun q _ h => ho2 q h⟩ (fun q hq _ e => hnx (e ▸ hq)), _, ⟨_, hat2, zv_u0⟩, fun _ => rfl⟩

set_option maxHeartbeats 4000000 in
set_option maxRecDepth 100000 in
theorem c_L_air (l : Launch) (hfl : l.stackTraces = false) {K : zz_G} {A Ax : Nat → Prop} {ox ol : Nat} {v0 : Int64} {N : Nat → Nat → Nat} {G : Nat → Nat → Int32} {L : Nat → Int64} (hzi : zi N) (x : Int32) (hsub : ∀ q, Ax q → A q) (hol : A ol) (hnx : ¬ Ax ol) : zz_CH l yL_air cL_air 4 (Option.some FieldType.int) [(0, 9, 12, 20)] ({ frames := 8, cells := 1, slots := 6, locals := 138 } : Room) K A [.ref ox, .int x, .ref ol] (fun H => (∀ q : Nat, H.size ≤ q → Ax q) ∧ zv_X K Ax ox N G L H ∧ zv_lo K ol v0 H) (fun v9 _ H9 => v9 = some (.int (nI ((zs_warmth N G 1 x).1))) ∧ zv_X K Ax ox N G L H9 ∧ ∃ v, zv_lo K ol v H9 ∧ (nI ((zs_warmth N G 1 x).1) = 0 → v = ((zs_warmth N G 1 x).2).toInt64)) A := by
  refine zz_bodyH (by decide +kernel) (Nat.le_of_ble_eq_true rfl) ?_
  intro p e s m below meth c ls hx hb hr hml hts hown hlocks htab hE hA hP hl
  obtain ⟨hnw, ⟨ad, E, cap, rfl, hk, hW⟩, hlo⟩ := hP
  have hI := hzi.q
  have hK := hE.K
  have hown : s.vm.findClass "OpenFloorsLaw" = some m.cls := hown
  have hl : lv_has ls 4 [(0, .ref (ad 0 0)), (1, .int x), (2, .ref ol)] := hl
  have hS : va_S A s.heap s.heap [] := va_S.rf
  obtain ⟨H, hH⟩ : ∃ z, z = s.heap := ⟨_, rfl⟩
  show W p l e _ s m _ below meth c s.heap [] 0 0 _ (F0 m 0 ls [])
  skip
  refine lv_aload_n hx hb dL_air_0 rfl (lv_at hl 2 rfl) ?_
  refine zz_con 0 hx hb dL_air_1 (by decide) ?_
  refine lv_aload_n hx hb dL_air_2 rfl (lv_at hl 0 rfl) ?_
  refine lv_iload_n hx hb dL_air_3 rfl (lv_at hl 1 rfl) ?_
  refine zz_afterH (A := A) (pc := 4) rfl (zz_runV (ci := 5) (q0 := (RX2, TX2, 8)) (b := ad 0 0) (As := [.int x]) (rest := [.int (nI 0), .ref ol]) hx hb hml hown hts (c_X2_air l hfl (K := K) (A := Ax) (ad := ad) (E := E) (cap := cap) (N := N) (G := G) (L := L) hI hk x) zw_762 zw_763 zw_764 zw_1 zw_765 zd_X2_air ⟨Nat.le_of_ble_eq_true rfl, Nat.le_of_ble_eq_true rfl⟩ (hE.narrow hsub) hnw (zx_ob hW).1 rfl rfl hW hl.1 (Nat.le_of_ble_eq_true rfl) dL_air_4 ⟨Nat.le_of_ble_eq_true rfl, Nat.le_of_ble_eq_true rfl⟩) hS (fun _ z => z.elim) (fun Ex ce q H1 locs1 hXc hF hce hcv hcl hS => ?_) (fun v H1 locs1 hQ hF hS => ?_)
  · have hX1 : zv_X K Ax (ad 0 0) N G L H1 := ⟨ad, E, cap, rfl, hk, hW.ro hF⟩
    have hlo1 := hlo.fr hF (fun z => z)
    obtain ⟨rfl, hc⟩ := hXc
    refine zz_catch (own := "OpenFloorsLaw") (E := "java/lang/IndexOutOfBoundsException") hown hts hE htab 0 rfl ⟨by decide, by decide⟩ (by decide) (by decide) (fun z hz => absurd hz List.not_mem_nil) zw_422 zn_456 hce hcv hcl ?_
    refine lv_astore_n (lv' := [(3, .ref q), (0, .ref (ad 0 0)), (1, .int x), (2, .ref ol)]) hx hb dL_air_12 rfl hl (Nat.le_of_ble_eq_true rfl) rfl (fun ls hl => ?_)
    refine zz_con 1 hx hb dL_air_13 (by decide) ?_
    refine zz_iret hx hb hr hlocks hS (Nat.le_of_ble_eq_true rfl) (Nat.le_of_ble_eq_true rfl) dL_air_14 ?_
    exact ⟨by rw [hc], hX1, _, hlo1, fun h9 => absurd h9 (by rw [hc]; decide)⟩
  · skip
    obtain ⟨hc, rfl⟩ := hQ
    have hX1 : zv_X K Ax (ad 0 0) N G L H1 := ⟨ad, E, cap, rfl, hk, hW.ro hF⟩
    obtain ⟨f1, hat1, -⟩ := hlo.fr hF (fun z => z)
    refine W.eq (g2 := F0 m 7 ls (.int ((zs_warmth N G 1 x).2) :: [.int (nI 0), .ref ol])) rfl ?_
    refine lv_i2l hx hb dL_air_7 rfl ?_
    refine zz_last hx hb hK hS hat1 hol (vp_in_nI (by decide) (by decide)) dL_air_8 (fun H2 locs2 hat2 hz2 ho2 hS => ?_)
    refine lv_goto (tgt := 15) hx hb dL_air_9 (by decide) ?_
    refine zz_con 0 hx hb dL_air_15 (by decide) ?_
    refine zz_iret hx hb hr hlocks hS (Nat.le_of_ble_eq_true rfl) (Nat.le_of_ble_eq_true rfl) dL_air_16 ?_
    exact ⟨by rw [hc], hX1.fr (B := fun q => q = ol) ⟨by omega, fun q _ h => ho2 q h⟩ (fun q hq _ e => hnx (e ▸ hq)), _, ⟨_, hat2, zv_u0⟩, fun _ => rfl⟩

set_option maxHeartbeats 4000000 in
set_option maxRecDepth 100000 in
theorem c_L_meanStanding (l : Launch) (hfl : l.stackTraces = false) {K : zz_G} {A Ax : Nat → Prop} {ox od : Nat} {v0 : UInt64} {N : Nat → Nat → Nat} {G : Nat → Nat → Int32} {L : Nat → Int64} (hzi : zi N) (hsub : ∀ q, Ax q → A q) (hol : A od) (hnx : ¬ Ax od) : zz_CH l yL_meanStanding cL_meanStanding 3 (Option.some FieldType.int) [(0, 7, 10, 81)] ({ frames := 7, cells := 1, slots := 6, locals := 118 } : Room) K A [.ref ox, .ref od] (fun H => (∀ q : Nat, H.size ≤ q → Ax q) ∧ zv_X K Ax ox N G L H ∧ zv_do K od v0 H) (fun v9 _ H9 => v9 = some (.int (nI (if N 0 1 = 0 then 1 else 0))) ∧ zv_X K Ax ox N G L H9 ∧ ∃ v, zv_do K od v H9 ∧ (nI (if N 0 1 = 0 then 1 else 0) = 0 → v = zmean N)) A := by
  refine zz_bodyH (by decide +kernel) (Nat.le_of_ble_eq_true rfl) ?_
  intro p e s m below meth c ls hx hb hr hml hts hown hlocks htab hE hA hP hl
  obtain ⟨hnw, ⟨ad, E, cap, rfl, hk, hW⟩, hlo⟩ := hP
  have hI := hzi.q
  have hK := hE.K
  have hown : s.vm.findClass "OpenFloorsLaw" = some m.cls := hown
  have hl : lv_has ls 3 [(0, .ref (ad 0 0)), (1, .ref od)] := hl
  have hS : va_S A s.heap s.heap [] := va_S.rf
  obtain ⟨H, hH⟩ : ∃ z, z = s.heap := ⟨_, rfl⟩
  show W p l e _ s m _ below meth c s.heap [] 0 0 _ (F0 m 0 ls [])
  skip
  refine lv_aload_n hx hb dL_meanStanding_0 rfl (lv_at hl 1 rfl) ?_
  refine zz_con 0 hx hb dL_meanStanding_1 (by decide) ?_
  refine lv_aload_n hx hb dL_meanStanding_2 rfl (lv_at hl 0 rfl) ?_
  refine zz_afterH (A := A) (pc := 3) rfl (zz_runV (ci := 5) (q0 := (RX2, TX2, 8)) (b := ad 0 0) (As := []) (rest := [.int (nI 0), .ref od]) hx hb hml hown hts (c_X2_meanStanding l hfl (K := K) (A := Ax) (ad := ad) (E := E) (cap := cap) (N := N) (G := G) (L := L) hI hk) zw_783 zw_784 zw_785 zw_1 zw_786 zd_X2_meanStanding ⟨Nat.le_of_ble_eq_true rfl, Nat.le_of_ble_eq_true rfl⟩ (hE.narrow hsub) hnw (zx_ob hW).1 rfl rfl hW hl.1 (Nat.le_of_ble_eq_true rfl) dL_meanStanding_3 ⟨Nat.le_of_ble_eq_true rfl, Nat.le_of_ble_eq_true rfl⟩) hS (fun _ z => z.elim) (fun Ex ce q H1 locs1 hXc hF hce hcv hcl hS => ?_) (fun v H1 locs1 hQ hF hS => ?_)
  · have hX1 : zv_X K Ax (ad 0 0) N G L H1 := ⟨ad, E, cap, rfl, hk, hW.ro hF⟩
    have hlo1 := hlo.fr hF (fun z => z)
    obtain ⟨rfl, hc⟩ := hXc
    refine zz_catch (own := "OpenFloorsLaw") (E := "java/lang/ArithmeticException") hown hts hE htab 0 rfl ⟨by decide, by decide⟩ (by decide) (by decide) (fun z hz => absurd hz List.not_mem_nil) zw_769 zn_781 hce hcv hcl ?_
    refine lv_astore_n (lv' := [(2, .ref q), (0, .ref (ad 0 0)), (1, .ref od)]) hx hb dL_meanStanding_10 rfl hl (Nat.le_of_ble_eq_true rfl) rfl (fun ls hl => ?_)
    refine zz_con 1 hx hb dL_meanStanding_11 (by decide) ?_
    refine zz_iret hx hb hr hlocks hS (Nat.le_of_ble_eq_true rfl) (Nat.le_of_ble_eq_true rfl) dL_meanStanding_12 ?_
    exact ⟨by rw [if_pos hc], hX1, _, hlo1, fun h9 => absurd h9 (by rw [if_pos hc]; decide)⟩
  · skip
    obtain ⟨hc, rfl⟩ := hQ
    have hX1 : zv_X K Ax (ad 0 0) N G L H1 := ⟨ad, E, cap, rfl, hk, hW.ro hF⟩
    obtain ⟨f1, hat1, -⟩ := hlo.fr hF (fun z => z)
    refine W.eq (g2 := F0 m 6 ls (.double (zmean N) :: [.int (nI 0), .ref od])) rfl ?_
    refine zz_dast hx hb hK hS hat1 hol (vp_in_nI (by decide) (by decide)) dL_meanStanding_6 (fun H2 locs2 hat2 hz2 ho2 hS => ?_)
    refine lv_goto (tgt := 13) hx hb dL_meanStanding_7 (by decide) ?_
    refine zz_con 0 hx hb dL_meanStanding_13 (by decide) ?_
    refine zz_iret hx hb hr hlocks hS (Nat.le_of_ble_eq_true rfl) (Nat.le_of_ble_eq_true rfl) dL_meanStanding_14 ?_
    exact ⟨by rw [if_neg hc], hX1.fr (B := fun q => q = od) ⟨by omega, fun q _ h => ho2 q h⟩ (fun q hq _ e => hnx (e ▸ hq)), _, ⟨_, hat2, zv_u0d⟩, fun _ => rfl⟩

set_option maxHeartbeats 4000000 in
set_option maxRecDepth 100000 in
theorem c_L_givenShare (l : Launch) (hfl : l.stackTraces = false) {K : zz_G} {A Ax : Nat → Prop} {ox od : Nat} {v0 : UInt64} {N : Nat → Nat → Nat} {G : Nat → Nat → Int32} {L : Nat → Int64} (hzi : zi N) (hsub : ∀ q, Ax q → A q) (hol : A od) (hnx : ¬ Ax od) : zz_CH l yL_givenShare cL_givenShare 3 (Option.some FieldType.int) [(0, 8, 11, 81)] ({ frames := 7, cells := 1, slots := 6, locals := 120 } : Room) K A [.ref ox, .ref od] (fun H => (∀ q : Nat, H.size ≤ q → Ax q) ∧ zv_X K Ax ox N G L H ∧ zv_do K od v0 H) (fun v9 _ H9 => v9 = some (.int (nI (if zos N = 0 then 1 else 0))) ∧ zv_X K Ax ox N G L H9 ∧ ∃ v, zv_do K od v H9 ∧ (nI (if zos N = 0 then 1 else 0) = 0 → v = FP.f2d (zshare N))) A := by
  refine zz_bodyH (by decide +kernel) (Nat.le_of_ble_eq_true rfl) ?_
  intro p e s m below meth c ls hx hb hr hml hts hown hlocks htab hE hA hP hl
  obtain ⟨hnw, ⟨ad, E, cap, rfl, hk, hW⟩, hlo⟩ := hP
  have hI := hzi.q
  have hK := hE.K
  have hown : s.vm.findClass "OpenFloorsLaw" = some m.cls := hown
  have hl : lv_has ls 3 [(0, .ref (ad 0 0)), (1, .ref od)] := hl
  have hS : va_S A s.heap s.heap [] := va_S.rf
  obtain ⟨H, hH⟩ : ∃ z, z = s.heap := ⟨_, rfl⟩
  show W p l e _ s m _ below meth c s.heap [] 0 0 _ (F0 m 0 ls [])
  skip
  refine lv_aload_n hx hb dL_givenShare_0 rfl (lv_at hl 1 rfl) ?_
  refine zz_con 0 hx hb dL_givenShare_1 (by decide) ?_
  refine lv_aload_n hx hb dL_givenShare_2 rfl (lv_at hl 0 rfl) ?_
  refine zz_afterH (A := A) (pc := 3) rfl (zz_runV (ci := 5) (q0 := (RX2, TX2, 8)) (b := ad 0 0) (As := []) (rest := [.int (nI 0), .ref od]) hx hb hml hown hts (c_X2_givenShare l hfl (K := K) (A := Ax) (ad := ad) (E := E) (cap := cap) (N := N) (G := G) (L := L) hI hk) zw_797 zw_798 zw_799 zw_1 zw_800 zd_X2_givenShare ⟨Nat.le_of_ble_eq_true rfl, Nat.le_of_ble_eq_true rfl⟩ (hE.narrow hsub) hnw (zx_ob hW).1 rfl rfl hW hl.1 (Nat.le_of_ble_eq_true rfl) dL_givenShare_3 ⟨Nat.le_of_ble_eq_true rfl, Nat.le_of_ble_eq_true rfl⟩) hS (fun _ z => z.elim) (fun Ex ce q H1 locs1 hXc hF hce hcv hcl hS => ?_) (fun v H1 locs1 hQ hF hS => ?_)
  · have hX1 : zv_X K Ax (ad 0 0) N G L H1 := ⟨ad, E, cap, rfl, hk, hW.ro hF⟩
    have hlo1 := hlo.fr hF (fun z => z)
    obtain ⟨rfl, hc⟩ := hXc
    refine zz_catch (own := "OpenFloorsLaw") (E := "java/lang/ArithmeticException") hown hts hE htab 0 rfl ⟨by decide, by decide⟩ (by decide) (by decide) (fun z hz => absurd hz List.not_mem_nil) zw_769 zn_781 hce hcv hcl ?_
    refine lv_astore_n (lv' := [(2, .ref q), (0, .ref (ad 0 0)), (1, .ref od)]) hx hb dL_givenShare_11 rfl hl (Nat.le_of_ble_eq_true rfl) rfl (fun ls hl => ?_)
    refine zz_con 1 hx hb dL_givenShare_12 (by decide) ?_
    refine zz_iret hx hb hr hlocks hS (Nat.le_of_ble_eq_true rfl) (Nat.le_of_ble_eq_true rfl) dL_givenShare_13 ?_
    exact ⟨by rw [if_pos hc], hX1, _, hlo1, fun h9 => absurd h9 (by rw [if_pos hc]; decide)⟩
  · skip
    obtain ⟨hc, rfl⟩ := hQ
    have hX1 : zv_X K Ax (ad 0 0) N G L H1 := ⟨ad, E, cap, rfl, hk, hW.ro hF⟩
    obtain ⟨f1, hat1, -⟩ := hlo.fr hF (fun z => z)
    refine W.eq (g2 := F0 m 6 ls (.float (zshare N) :: [.int (nI 0), .ref od])) rfl ?_
    refine lv_f2d hx hb dL_givenShare_6 (zshare_d hI hc) ?_
    refine zz_dast hx hb hK hS hat1 hol (vp_in_nI (by decide) (by decide)) dL_givenShare_7 (fun H2 locs2 hat2 hz2 ho2 hS => ?_)
    refine lv_goto (tgt := 14) hx hb dL_givenShare_8 (by decide) ?_
    refine zz_con 0 hx hb dL_givenShare_14 (by decide) ?_
    refine zz_iret hx hb hr hlocks hS (Nat.le_of_ble_eq_true rfl) (Nat.le_of_ble_eq_true rfl) dL_givenShare_15 ?_
    exact ⟨by rw [if_neg hc], hX1.fr (B := fun q => q = od) ⟨by omega, fun q _ h => ho2 q h⟩ (fun q hq _ e => hnx (e ▸ hq)), _, ⟨_, hat2, zv_u0d⟩, fun _ => rfl⟩
