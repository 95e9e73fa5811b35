/-! rows of references: storing, making, moving; a list's world of its own -/
def zz_ob (K : zz_G) (H : Heap) (y : Nat) : Prop := ∃ (ci : Nat) (vs : List Value) (r : vw_C), zz_at K y (.inr (ci, vs)) H ∧ vwCl[ci]? = some r ∧ Cond.castable r.1 "java/lang/Object" ∈ zz_ng
theorem zz_ob.any {K : zz_G} {H : Heap} {y : Nat} {s : State} (hK : va_K K.1 vwCl (zz_ty K) s) (hN : ∀ w ∈ zz_ng, va_Nw w s) (h : zz_ob K H y) : va_Any "java/lang/Object" s H y := by
  obtain ⟨ci, vs, r, ⟨r', hr', cellV, g1, g2, g3, -⟩, hc, hca⟩ := h
  have hcls := (hK.1 ci r hc).2
  obtain ⟨c0, t1, f1, f2, f3⟩ := Cond.castable_spec (va_Nw.use (A := #[]) rfl (hN _ hca))
  cases hcls.1.symm.trans f1
  obtain ⟨kC, hkC, -⟩ := hcls.2
  refine ⟨cellV, g1, by rw [g3]; rfl, ⟨kC, by rw [g2]; exact hkC⟩, fun comp h => ?_⟩
  cases f2.symm.trans h
  rw [g2]; exact f3
theorem zz_ob.kept {K : zz_G} {H H1 : Heap} {y : Nat} (h : zz_ob K H y) (e : H1[y]? = H[y]?) : zz_ob K H1 y := by
  obtain ⟨ci, vs, r, h1, h2⟩ := h
  exact ⟨ci, vs, r, va_at.kept h1 e, h2⟩
theorem zz_ob.lt {K : zz_G} {H : Heap} {y : Nat} (h : zz_ob K H y) : y < H.size := by
  obtain ⟨ci, vs, r, h1, h2⟩ := h
  exact va_at.lt h1
section ZAA
variable {p : Program} {l : Launch} {e : Env} {R : Room} {s : State} {m : MethodId} {args : Array Value} {below : List Frame} {meth : Method} {c : Code} {H : Heap} {locs : List Loc} {cells slots : Nat} {Q : State → Prop}
variable {cc : ByteArray} {pc : Nat} {ls : Array Slot} {rest : List Value} {K : zz_G} {A : Nat → Prop} {H0 : Heap} {a n v : Nat} {g : Nat → Option Nat} {i : Int32}
theorem zz_aast (hx : p.tables.exec = Jvm.exec) (hb : c.code = cc) (hK : va_K K.1 vwCl (zz_ty K) s) (hN : ∀ w ∈ zz_ng, va_Nw w s) (hS : va_S A H0 H locs) (hat : zz_at K a (.inl (K.2.1 2, n, .inr (.inr (.inr (.inr g))))) H) (haA : A a) (hv : zz_ob K H v) (hin : vp_in i n) (hdg : decode cc pc = .ok (.aastore, 1))
    (kk : ∀ (H1 : Heap) (locs1 : List Loc), zz_at K a (.inl (K.2.1 2, n, .inr (.inr (.inr (.inr (va_up g i.toNatClampNeg (some v))))))) H1 → H1.size = H.size → (∀ q : Nat, q ≠ a → H1[q]? = H[q]?) → va_S A H0 H1 locs1 → W p l e R s m args below meth c H1 locs1 cells slots Q (F0 m (pc + 1) ls rest)) : W p l e R s m args below meth c H locs cells slots Q (F0 m pc ls (.ref v :: .int i :: .ref a :: rest)) := by
  have hlt : i.toNatClampNeg < n := Nat.not_le.mp fun q => hin (Or.inr q)
  have h0 : ¬ i < 0 := fun q => hin (Or.inl q)
  obtain ⟨cellV, g1, g3, ⟨kC, hkC⟩, hasg⟩ := hv.any hK hN
  obtain ⟨kA, comp, k1, k2, k3, -⟩ := (hK.2 2 _ rfl).2
  obtain ⟨kE, hkE, -⟩ := Vm.findClass_spec k3
  refine W.aast hx hb hat (fun q h => by cases h) (fun h => by cases h) k1 k2 rfl hkE ⟨h0, by show _ < (arrV _ _ _).slots.size; rw [arrV_size]; exact hlt⟩ g1 (fun q h => by rw [h] at g3; cases g3) hkC (hasg _ k3) rfl rfl hdg fun H1 e z oq => ?_
  refine kk H1 _ ?_ z oq (hS.put z oq haA)
  show H1[a]? = some (vp_cell _ _)
  rw [e]
  rw [vp_cell_q, vp_cell_q, arrV_store]
  congr 2
  funext q
  by_cases hq : q = i.toNatClampNeg
  · subst hq
    simp [updV, va_up, va_rf]
  · simp [updV, va_up, hq]
theorem zz_aastN (hx : p.tables.exec = Jvm.exec) (hb : c.code = cc) (hK : va_K K.1 vwCl (zz_ty K) s) (hS : va_S A H0 H locs) (hat : zz_at K a (.inl (K.2.1 2, n, .inr (.inr (.inr (.inr g))))) H) (haA : A a) (hin : vp_in i n) (hdg : decode cc pc = .ok (.aastore, 1))
    (kk : ∀ (H1 : Heap) (locs1 : List Loc), zz_at K a (.inl (K.2.1 2, n, .inr (.inr (.inr (.inr (va_up g i.toNatClampNeg none)))))) H1 → H1.size = H.size → (∀ q : Nat, q ≠ a → H1[q]? = H[q]?) → va_S A H0 H1 locs1 → W p l e R s m args below meth c H1 locs1 cells slots Q (F0 m (pc + 1) ls rest)) : W p l e R s m args below meth c H locs cells slots Q (F0 m pc ls (.null :: .int i :: .ref a :: rest)) := by
  refine va_WaastN (C := "java/lang/Object") hx hb hat ((hK.2 2 _ rfl).1 n (fun j => va_rf (g j))) (fun h => by cases h) (by show ¬ (i < 0 ∨ (arrV _ _ _).slots.size ≤ _); rw [arrV_size]; exact hin) rfl rfl hdg fun H1 e z oq => ?_
  refine kk H1 _ ?_ z oq (hS.put z oq haA)
  show H1[a]? = some (vp_cell _ _)
  rw [e]
  rw [vp_cell_q, vp_cell_q, arrV_store]
  congr 2
  funext q
  by_cases hq : q = i.toNatClampNeg
  · subst hq
    simp [updV, va_up, va_rf]
  · simp [updV, va_up, hq]
theorem zz_anew {own : String} {index N' : Nat} {k : Int32} (hx : p.tables.exec = Jvm.exec) (hb : c.code = cc) (hown : s.vm.findClass own = some m.cls) (hclink : (Cond.classLink own index "java/lang/Object").before args s = true) (hO : va_AO "java/lang/Object" s) (hK : va_K K.1 vwCl (zz_ty K) s) (hS : va_S A H0 H locs) (hn : ¬ k < 0) (hN : k.toNatClampNeg = N') (hbytes : N' * 4 ≤ 536870912) (hcells : cells + 1 ≤ R.cells) (hslots : slots + N' ≤ R.slots) (hdg : decode cc pc = .ok (.anewarray index, 3))
    (kk : ∀ (H1 : Heap), zz_at K H.size (.inl (K.2.1 2, N', .inr (.inr (.inr (.inr (fun _ => none)))))) H1 → H1.size = H.size + 1 → (∀ q : Nat, q < H.size → H1[q]? = H[q]?) → va_S A H0 H1 locs → W p l e R s m args below meth c H1 locs (cells + 1) (slots + N') Q (F0 m (pc + 3) ls (.ref H.size :: rest))) : W p l e R s m args below meth c H locs cells slots Q (F0 m pc ls (.int k :: rest)) := by
  subst hN
  refine W.anew hx hb hown hclink (va_AO.use hO) rfl hdg rfl hn hbytes hcells hslots fun cA kA comp f1 f2 f3 f4 => ?_
  obtain ⟨kA', comp', k1, k2, k3, k4⟩ := (hK.2 2 _ rfl).2
  have hcA : cA = K.2.1 2 := Option.some.inj (f1.symm.trans k4)
  subst hcA
  generalize hH1 : H.push ({ cls := K.2.1 2, slots := Array.replicate k.toNatClampNeg .null, vm := .none } : Cell) = H1
  have z1 : H1.size = H.size + 1 := by rw [← hH1, Array.size_push]
  have e1 : H1[H.size]? = some (arrV (K.2.1 2) k.toNatClampNeg (fun _ => .null)) := by rw [← hH1, Array.getElem?_push_size, ← arrV_new]
  have o1 : ∀ q : Nat, q < H.size → H1[q]? = H[q]? := fun q hq => by rw [← hH1, Array.getElem?_push, if_neg (Nat.ne_of_lt hq)]
  refine kk H1 ?_ z1 o1 ⟨Nat.le_trans hS.1 (by omega), fun x h1 h2 => (o1 x (Nat.lt_of_lt_of_le h1 hS.1)).trans (hS.2.1 x h1 h2), hS.2.2⟩
  show H1[H.size]? = some (vp_cell _ _)
  rw [e1]; rfl
end ZAA
