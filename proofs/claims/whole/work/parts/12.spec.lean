/-! the shared meanings: sets of floors, losses, the plan by trying, and small state changes -/
abbrev zin (x : Int32) (n : Nat) : Prop := ¬ x < 0 ∧ ¬ nI n ≤ x
abbrev zbw (x : Int32) (a b : Nat) : Prop := nI a ≤ x ∧ x ≤ nI b
theorem zin_in {x : Int32} {n : Nat} (hn : n < 2 ^ 30) : (nI 0 ≤ x ∧ x ≤ nI n - nI 1) ↔ zin x n := by
  have h1 : (nI n - nI 1).toInt = (n : Int) - 1 := pk_sub_toInt hn (by decide)
  have h2 : (nI n).toInt = (n : Int) := nI_toInt (by omega)
  have h3 : (nI 0).toInt = 0 := by decide
  have h4 : (0 : Int32).toInt = 0 := by decide
  unfold zin
  rw [Int32.le_iff_toInt_le, Int32.le_iff_toInt_le, Int32.lt_iff_toInt_lt, Int32.le_iff_toInt_le, h1, h2, h3, h4]
  omega
theorem zin_nI {j n : Nat} (h : j < n) (hn : n < 2 ^ 31) : zin (nI j) n := ⟨nI_pos (by omega), nI_ge h hn⟩
/-- from a range test between two small numbers -/
theorem zz_rng2 {x : Int32} {a b : Nat} (ha : a < 2 ^ 31) (hb : b < 2 ^ 31) (h : zbw x a b) : ∃ j : Nat, j ≤ b ∧ x = nI j := by
  obtain ⟨h1, h2⟩ := h
  refine nI_of2 (M := nI b) (n := b) (nI_toInt hb) (fun q => ?_) h2
  have h3 := Int32.le_iff_toInt_le.mp h1
  have h4 := Int32.lt_iff_toInt_lt.mp q
  have h5 : (0 : Int32).toInt = 0 := by decide
  rw [nI_toInt ha] at h3
  omega
theorem zbw_nI {j a b : Nat} (hj : j < 2 ^ 31) (ha : a < 2 ^ 31) (hb : b < 2 ^ 31) : zbw (nI j) a b ↔ a ≤ j ∧ j ≤ b := by
  unfold zbw
  rw [nI_leI ha hj, nI_leI hj hb]
theorem zz_k0 : (-1 : Int32) = nI 0 - 1 := by decide
theorem zz_nk (f : Nat) : nI f = nI (f + 1) - 1 := by rw [← nI_1]; simp
section ZK
variable {p : Program} {l : Launch} {e : Env} {R : Room} {s : State} {m : MethodId} {args : Array Value} {below : List Frame} {meth : Method} {c : Code} {H : Heap} {locs : List Loc} {cells slots : Nat} {Q : State → Prop}
variable {cc : ByteArray} {pc tgt : Nat} {ls : Array Slot} {rest : List Value} {off : Int} {a b : Nat}
theorem zz_cv {x y : Int32} (h : x = y) (k : W p l e R s m args below meth c H locs cells slots Q (F0 m pc ls (.int y :: rest))) : W p l e R s m args below meth c H locs cells slots Q (F0 m pc ls (.int x :: rest)) := h ▸ k
theorem zz_cvl {x y : Int64} (h : x = y) (k : W p l e R s m args below meth c H locs cells slots Q (F0 m pc ls (.long y :: rest))) : W p l e R s m args below meth c H locs cells slots Q (F0 m pc ls (.long x :: rest)) := h ▸ k
theorem zz_ik_eq0 (ha : a < 2 ^ 31) (hx : p.tables.exec = Jvm.exec) (hb : c.code = cc) (hdg : decode cc pc = .ok (.if_icmp .eq off, 3)) (ht : (pc : Int) + off = (tgt : Int)) (kt : a = 0 → W p l e R s m args below meth c H locs cells slots Q (F0 m tgt ls rest)) (kf : a ≠ 0 → W p l e R s m args below meth c H locs cells slots Q (F0 m (pc + 3) ls rest)) : W p l e R s m args below meth c H locs cells slots Q (F0 m pc ls (.int (-1) :: .int (nI a - 1) :: rest)) :=
  lv_icmp_eq hx hb hdg ht (fun h => kt ((zz_s0 ha).mp h)) (fun h => kf (fun q => h ((zz_s0 ha).mpr q)))
theorem zz_ik_ne0 (ha : a < 2 ^ 31) (hx : p.tables.exec = Jvm.exec) (hb : c.code = cc) (hdg : decode cc pc = .ok (.if_icmp .ne off, 3)) (ht : (pc : Int) + off = (tgt : Int)) (kt : a ≠ 0 → W p l e R s m args below meth c H locs cells slots Q (F0 m tgt ls rest)) (kf : a = 0 → W p l e R s m args below meth c H locs cells slots Q (F0 m (pc + 3) ls rest)) : W p l e R s m args below meth c H locs cells slots Q (F0 m pc ls (.int (-1) :: .int (nI a - 1) :: rest)) :=
  lv_icmp_ne hx hb hdg ht (fun h => kt (fun q => h ((zz_s0 ha).mpr q))) (fun h => kf ((zz_s0 ha).mp h))
theorem zz_ik_eqn (ha : a < 2 ^ 31) (hb2 : b + 1 < 2 ^ 31) (hx : p.tables.exec = Jvm.exec) (hb : c.code = cc) (hdg : decode cc pc = .ok (.if_icmp .eq off, 3)) (ht : (pc : Int) + off = (tgt : Int)) (kt : a = b + 1 → W p l e R s m args below meth c H locs cells slots Q (F0 m tgt ls rest)) (kf : a ≠ b + 1 → W p l e R s m args below meth c H locs cells slots Q (F0 m (pc + 3) ls rest)) : W p l e R s m args below meth c H locs cells slots Q (F0 m pc ls (.int (nI b) :: .int (nI a - 1) :: rest)) :=
  lv_icmp_eq hx hb hdg ht (fun h => kt ((zz_sf ha hb2).mp h)) (fun h => kf (fun q => h ((zz_sf ha hb2).mpr q)))
theorem zz_ik_nen (ha : a < 2 ^ 31) (hb2 : b + 1 < 2 ^ 31) (hx : p.tables.exec = Jvm.exec) (hb : c.code = cc) (hdg : decode cc pc = .ok (.if_icmp .ne off, 3)) (ht : (pc : Int) + off = (tgt : Int)) (kt : a ≠ b + 1 → W p l e R s m args below meth c H locs cells slots Q (F0 m tgt ls rest)) (kf : a = b + 1 → W p l e R s m args below meth c H locs cells slots Q (F0 m (pc + 3) ls rest)) : W p l e R s m args below meth c H locs cells slots Q (F0 m pc ls (.int (nI b) :: .int (nI a - 1) :: rest)) :=
  lv_icmp_ne hx hb hdg ht (fun h => kt (fun q => h ((zz_sf ha hb2).mpr q))) (fun h => kf ((zz_sf ha hb2).mp h))
theorem zz_ink_ne (ha : a < 2 ^ 31) (hb2 : b + 1 < 2 ^ 31) (hx : p.tables.exec = Jvm.exec) (hb : c.code = cc) (hdg : decode cc pc = .ok (.if_icmp .ne off, 3)) (ht : (pc : Int) + off = (tgt : Int)) (kt : a ≠ b + 1 → W p l e R s m args below meth c H locs cells slots Q (F0 m tgt ls rest)) (kf : a = b + 1 → W p l e R s m args below meth c H locs cells slots Q (F0 m (pc + 3) ls rest)) : W p l e R s m args below meth c H locs cells slots Q (F0 m pc ls (.int (nI a - 1) :: .int (nI b) :: rest)) :=
  lv_icmp_ne hx hb hdg ht (fun h => kt (fun q => h ((zz_sf ha hb2).mpr q).symm)) (fun h => kf ((zz_sf ha hb2).mp h.symm))
theorem zz_bt_ne {S f : Nat} (hS : S < 2 ^ 31) (hf : f < 32) (hx : p.tables.exec = Jvm.exec) (hb : c.code = cc) (hdg : decode cc pc = .ok (.if_icmp .ne off, 3)) (ht : (pc : Int) + off = (tgt : Int)) (kt : ¬ S.testBit f = true → W p l e R s m args below meth c H locs cells slots Q (F0 m tgt ls rest)) (kf : S.testBit f = true → W p l e R s m args below meth c H locs cells slots Q (F0 m (pc + 3) ls rest)) : W p l e R s m args below meth c H locs cells slots Q (F0 m pc ls (.int (nI 1) :: .int ((nI S >>> (nI f &&& 31)) &&& nI 1) :: rest)) :=
  lv_icmp_ne hx hb hdg ht (fun h => kt (fun q => h ((zz_bit2 hS hf).mpr q))) (fun h => kf ((zz_bit2 hS hf).mp h))
end ZK
def zss (N : Nat → Nat → Nat) (S : Nat) : Nat := zsum (fun f => if S.testBit f = true then N 1 f else 0) (N 0 0)
def zcs (N : Nat → Nat → Nat) (S : Nat) : Nat := zsum (fun f => if S.testBit f = true then N 2 f else 0) (N 0 0)
def znr (c S w : Nat) : Nat → Nat
  | 0 => c
  | f + 1 => if S.testBit f = true ∧ zd f w < znr c S w f then zd f w else znr c S w f
def zls (c : Nat) (N : Nat → Nat → Nat) (S : Nat) : Nat := zcs N S + zsum (fun k => 3 * znr c S (N 10 k) (N 0 0)) (N 0 2)
abbrev zfit (N : Nat → Nat → Nat) (S : Nat) : Prop := N 0 2 ≤ zss N S
def zbt (N : Nat → Nat → Nat) : Nat → Nat
  | 0 => 0
  | S + 1 => if zfit N S ∧ (zbt N S = 0 ∨ zls 6 N S < zls 6 N (zbt N S - 1)) then S + 1 else zbt N S
def zplan (N : Nat → Nat → Nat) : Nat := if N 0 2 = 0 then 0 else zbt N (2 ^ N 0 0) - 1
theorem zsum_le {f g : Nat → Nat} : ∀ {n : Nat}, (∀ k, k < n → f k ≤ g k) → zsum f n ≤ zsum g n
  | 0, _ => Nat.le_refl _
  | n + 1, h => Nat.add_le_add (zsum_le fun k hk => h k (by omega)) (h n (by omega))
theorem zsum_b {f : Nat → Nat} {c : Nat} : ∀ {n : Nat}, (∀ k, k < n → f k ≤ c) → zsum f n ≤ n * c
  | 0, _ => by simp [zsum]
  | n + 1, h => by
    have h1 := zsum_b (f := f) (c := c) (n := n) fun k hk => h k (by omega)
    have h2 := h n (by omega)
    rw [zsum, Nat.succ_mul]; omega
theorem zsum_c {f g : Nat → Nat} : ∀ {n : Nat}, (∀ k, k < n → f k = g k) → zsum f n = zsum g n
  | 0, _ => rfl
  | n + 1, h => by rw [zsum, zsum, zsum_c fun k hk => h k (by omega), h n (by omega)]
theorem znr_le (c S w : Nat) : ∀ n, znr c S w n ≤ c
  | 0 => Nat.le_refl _
  | n + 1 => by
    have := znr_le c S w n
    rw [znr]; split <;> omega
theorem zss_b {N : Nat → Nat → Nat} (hI : zq N) (S : Nat) : zss N S ≤ 72 := by
  have h1 := hI.f
  have h : zss N S ≤ N 0 0 * 12 := zsum_b fun f hf => by
    have := (hI.fl f hf).2.1
    show (if _ then _ else _) ≤ 12
    split <;> omega
  have : N 0 0 * 12 ≤ 6 * 12 := Nat.mul_le_mul_right _ h1
  omega
theorem zcs_b {N : Nat → Nat → Nat} (hI : zq N) (S : Nat) : zcs N S ≤ 594 := by
  have h1 := hI.f
  have h : zcs N S ≤ N 0 0 * 99 := zsum_b fun f hf => by
    have := (hI.fl f hf).2.2
    show (if _ then _ else _) ≤ 99
    split <;> omega
  have : N 0 0 * 99 ≤ 6 * 99 := Nat.mul_le_mul_right _ h1
  omega
theorem zls_b {N : Nat → Nat → Nat} (hI : zq N) {c : Nat} (S : Nat) (hc : c ≤ 100) : zls c N S ≤ 5000 := by
  have h1 := hI.b
  have h2 := zcs_b hI S
  have h3 : zsum (fun k => 3 * znr c S (N 10 k) (N 0 0)) (N 0 2) ≤ N 0 2 * 300 := zsum_b fun k hk => by
    have := znr_le c S (N 10 k) (N 0 0)
    show 3 * znr c S (N 10 k) (N 0 0) ≤ 300
    omega
  have : N 0 2 * 300 ≤ 12 * 300 := Nat.mul_le_mul_right _ h1
  unfold zls; omega
theorem zss_all {N : Nat → Nat → Nat} (S : Nat) (h : ∀ f, f < N 0 0 → S.testBit f = true) : zss N S = zsum (fun f => N 1 f) (N 0 0) := zsum_c fun f hf => by
  show (if _ then _ else _) = _
  rw [if_pos (h f hf)]
theorem zbt_le (N : Nat → Nat → Nat) : ∀ n, zbt N n ≤ n
  | 0 => Nat.le_refl _
  | n + 1 => by
    have := zbt_le N n
    rw [zbt]; split <;> omega
theorem zbt_ne {N : Nat → Nat → Nat} {S : Nat} (hf : zfit N S) : ∀ n, S < n → zbt N n ≠ 0
  | 0, h => by omega
  | n + 1, h => by
    rw [zbt]
    by_cases q : zfit N n ∧ (zbt N n = 0 ∨ zls 6 N n < zls 6 N (zbt N n - 1))
    · rw [if_pos q]; omega
    · rw [if_neg q]
      by_cases hn : S < n
      · exact zbt_ne hf n hn
      · obtain rfl : S = n := by omega
        intro h0
        exact q ⟨hf, Or.inl h0⟩
theorem zbt_all {N : Nat → Nat → Nat} (hI : zq N) : zbt N (2 ^ N 0 0) ≠ 0 := by
  refine zbt_ne (S := 2 ^ N 0 0 - 1) ?_ _ (by have := Nat.two_pow_pos (N 0 0); omega)
  unfold zfit
  rw [zss_all _ (fun f hf => by rw [Nat.testBit_two_pow_sub_one]; simpa using hf)]
  exact hI.ts
/-- the first booking of a person, as a code -/
def zfb (N : Nat → Nat → Nat) (q : Nat) : Nat → Nat
  | 0 => 0
  | n + 1 => if zfb N q n ≠ 0 then zfb N q n else if N 9 n = q then n + 1 else 0
theorem zfb_up {N : Nat → Nat → Nat} {q n : Nat} (h : zfb N q n ≠ 0) : ∀ m, zfb N q (n + m) = zfb N q n
  | 0 => rfl
  | m + 1 => by
    have e := zfb_up h m
    show zfb N q ((n + m) + 1) = _
    rw [zfb, e, if_pos h]
theorem zfb_no {N : Nat → Nat → Nat} {q : Nat} : ∀ {n : Nat}, zfb N q n = 0 ↔ ∀ k, k < n → N 9 k ≠ q
  | 0 => ⟨fun _ k hk => by omega, fun _ => rfl⟩
  | n + 1 => by
    have ih := zfb_no (N := N) (q := q) (n := n)
    rw [zfb]
    by_cases h : zfb N q n = 0
    · rw [if_neg (by simpa using h)]
      by_cases h2 : N 9 n = q
      · rw [if_pos h2]; exact ⟨fun z => by omega, fun z => absurd h2 (z n (by omega))⟩
      · rw [if_neg h2]
        refine ⟨fun _ k hk => ?_, fun _ => rfl⟩
        by_cases hk2 : k = n
        · rw [hk2]; exact h2
        · exact ih.mp h k (by omega)
    · rw [if_pos h]
      exact ⟨fun z => absurd z h, fun z => absurd (ih.mpr fun k hk => z k (by omega)) h⟩
theorem zfb_at {N : Nat → Nat → Nat} {q : Nat} : ∀ {n j : Nat}, zfb N q n = j + 1 → j < n ∧ N 9 j = q
  | 0, j, h => by simp [zfb] at h
  | n + 1, j, h => by
    rw [zfb] at h
    by_cases h1 : zfb N q n = 0
    · rw [if_neg (by simpa using h1)] at h
      by_cases h2 : N 9 n = q
      · rw [if_pos h2] at h
        have : n = j := by omega
        subst this; exact ⟨by omega, h2⟩
      · rw [if_neg h2] at h; omega
    · rw [if_pos h1] at h
      obtain ⟨a, b⟩ := zfb_at h
      exact ⟨by omega, b⟩
theorem zfb_0 {N : Nat → Nat → Nat} (hI : zq N) {q : Nat} (hq : q < N 0 1) : zfb N q (N 0 2) = 0 ↔ N 11 q = 0 := by
  rw [zfb_no]
  constructor
  · intro h
    by_cases h0 : N 11 q = 0
    · exact h0
    · obtain ⟨k, hk, e⟩ := hI.on q hq h0
      exact absurd e (h k hk)
  · intro h k hk e
    have := hI.bw k hk
    rw [e] at this; omega
/-- how many of a team (a code: 0 any) sit on a floor -/
def zsit (N : Nat → Nat → Nat) (f c : Nat) : Nat := zc (fun q => N 6 q = f + 1 ∧ (c = 0 ∨ N 4 q + 1 = c)) (N 0 1)
theorem zc_le (p : Nat → Prop) [DecidablePred p] : ∀ n, zc p n ≤ n
  | 0 => Nat.le_refl _
  | n + 1 => by
    have := zc_le p n
    rw [zc]; split <;> omega
theorem zc_c {p q : Nat → Prop} [DecidablePred p] [DecidablePred q] : ∀ {n : Nat}, (∀ k, k < n → (p k ↔ q k)) → zc p n = zc q n
  | 0, _ => rfl
  | n + 1, h => by
    rw [zc, zc, zc_c fun k hk => h k (by omega)]
    by_cases hp : p n
    · rw [if_pos hp, if_pos ((h n (by omega)).mp hp)]
    · rw [if_neg hp, if_neg (fun z => hp ((h n (by omega)).mpr z))]
theorem zc_t {p : Nat → Prop} [DecidablePred p] {n : Nat} (h : p n) : zc p (n + 1) = zc p n + 1 := by rw [zc, if_pos h]
theorem zc_f {p : Nat → Prop} [DecidablePred p] {n : Nat} (h : ¬ p n) : zc p (n + 1) = zc p n + 0 := by rw [zc, if_neg h]
/-! what each call answers and leaves: a code (0: it returns), the answer, the state -/
abbrev zN : Type := Nat → Nat → Nat
def zs_addFloor (N : zN) (G : Nat → Nat → Int32) (x y : Int32) : Nat × Int32 × zN × (Nat → Nat → Int32) :=
  if ¬ (zbw x 1 12 ∧ zbw y 0 99) then (1, nI 0, N, G) else if N 0 0 = 6 then (2, nI 0, N, G) else (0, nI (N 0 0), zu (zu (zu N 1 (N 0 0) x.toNatClampNeg) 2 (N 0 0) y.toNatClampNeg) 0 0 (N 0 0 + 1), zg (zg G 0 (N 0 0) (nI 180)) 1 (N 0 0) (nI 400))
def zs_setCost (N : zN) (x y : Int32) : Nat × Int32 × zN :=
  if ¬ zin x (N 0 0) then (1, nI 0, N) else if ¬ zbw y 0 99 then (2, nI 0, N) else (0, nI (N 2 x.toNatClampNeg), zu N 2 x.toNatClampNeg y.toNatClampNeg)
def zs_addPerson (N : zN) (x : Int32) : Nat × Int32 × zN :=
  if ¬ zbw x 0 3 then (1, nI 0, N) else if N 0 1 = 12 then (2, nI 0, N) else (0, nI (N 0 1), zu (zu (zu (zu N 4 (N 0 1) x.toNatClampNeg) 5 (N 0 1) 5) 6 (N 0 1) 0) 0 1 (N 0 1 + 1))
def zs_standing (N : zN) (x : Int32) : Nat × Int32 := if ¬ zin x (N 0 1) then (1, nI 0) else (0, nI (N 5 x.toNatClampNeg))
def zs_book (N : zN) (x y : Int32) : Nat × Int32 × zN :=
  if ¬ zin x (N 0 1) then (1, nI 0, N) else if ¬ zin y (N 0 0) then (2, nI 0, N) else if N 11 x.toNatClampNeg ≠ 0 then (3, nI 0, N) else if zsum (fun f => N 1 f) (N 0 0) ≤ N 0 2 then (4, nI 0, N)
  else (0, nI (N 0 2 + 1), zu (zu (zu (zu N 9 (N 0 2) x.toNatClampNeg) 10 (N 0 2) y.toNatClampNeg) 0 2 (N 0 2 + 1)) 11 x.toNatClampNeg (y.toNatClampNeg + 1))
/-- the bookings from a to i moved down by one -/
def zsp (N : zN) (a i : Nat) : zN := fun k j => if (k = 9 ∨ k = 10) ∧ a ≤ j ∧ j < i then N k (j + 1) else N k j
def zs_cancel (N : zN) (x : Int32) : Nat × Int32 × zN :=
  if ¬ zin x (N 0 1) then (1, nI 0, N) else if N 11 x.toNatClampNeg = 0 then (1, nI 0, N)
  else (0, nI (N 11 x.toNatClampNeg - 1), zu (zsp (zu N 0 2 (N 0 2 - 1)) (zfb N x.toNatClampNeg (N 0 2) - 1) (N 0 2 - 1)) 11 x.toNatClampNeg 0)
def zs_bookingAt (N : zN) (x : Int32) : Nat × Int32 := if ¬ zin x (N 0 2) then (1, nI 0) else (0, nI (N 9 x.toNatClampNeg))
def zs_lossOf (N : zN) (x : Int32) : Nat × Int32 := if ¬ zin x (2 ^ N 0 0) then (1, nI 0) else if ¬ zfit N x.toNatClampNeg then (2, nI 0) else (0, nI (zls 6 N x.toNatClampNeg))
