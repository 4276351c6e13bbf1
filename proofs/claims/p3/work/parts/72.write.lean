/-! A word is written: keep, name, give. -/
section WRITE
variable {Y : Nat → MethodName × ByteArray} {d : Nat}
/-- what the writing of a word leaves behind -/
def WR (v u : mjS) (hA hL i hs : Nat) (w : List Int32) : Prop := Fr [f_heapSize] [r_heap, hA, hL] v u ∧ u.1 f_heapSize = nI (hs + w.length) ∧ AgH v u hs ∧ wd (u.2.2.1 r_heap) hs w.length = w ∧ (∀ j, u.2.2.1 hA j = if j = i then nI hs else v.2.2.1 hA j) ∧ (∀ j, u.2.2.1 hL j = if j = i then nI w.length else v.2.2.1 hL j)
theorem WR.rg {v u : mjS} {hA hL i hs : Nat} {w : List Int32} (h : WR v u hA hL i hs w) (hh : hs ≤ 300000) : RG u (hs + w.length) hA hL i w := ⟨hs, hh, by rw [h.2.2.2.2.1, if_pos rfl], by rw [h.2.2.2.2.2, if_pos rfl], Or.inr ⟨Nat.le_refl _, h.2.2.2.1⟩⟩
set_option maxRecDepth 100000 in
theorem c_keep_w {σ : mjS} {hs : Nat} {ks : List KR} {fk fe : List Nat} (h : KS σ hs ks fk fe) (ht : tot ks ≤ 200000) (i : Nat) (hi : i < 4700) (r a n : Nat) (hr : mjKd r = 1) (hr2 : r ∉ tyH) (ha : a + n ≤ mjLn r) (hlr : mjLn r < 2 ^ 30) (hn : tot ks + n ≤ 300000) (ty : mjTY σ) :
    mjY mjPP (mjQQ Y) (d + 3) 75 0 (mjL0 5 [.ref 0, .int (nI i), .ref r, .int (nI a), .int (nI n)]) [] σ (fun x u => x = none ∧ ∃ (v : mjS) (hs' : Nat), Fr [f_heapSize] tyH σ v ∧ KS v hs' ks fk fe ∧ hs' + n ≤ 300000 ∧ WR v u r_tAt r_tLen i hs' (wd (σ.2.2.1 r) a n)) := by
  have ic : (nI i).toNatClampNeg = i := nI_clamp (by omega)
  have iv : vp_in (nI i) 4700 := vp_in_nI hi (by decide)
  refine mjZ_y rfl rfl 18 _ _ _ _ ty ?_
  refine And.intro (Nat.le_of_ble_eq_true rfl) (And.intro rfl (And.intro (Nat.le_of_ble_eq_true rfl) (And.intro (Nat.le_of_ble_eq_true rfl) (mjY_mono ty (fun v v1 ty1 h1 => ?_) (c_room (Y := Y) (d := d) h ht n hn ty)))))
  obtain ⟨rfl, f1, hs', k1, hn1⟩ := h1
  intro _
  have er : v1.2.2.1 r = σ.2.2.1 r := (f1.2.2 r hr2).1
  have nh : r ≠ r_heap := fun q => hr2 (by rw [q]; decide)
  refine And.intro rfl ?_
  refine And.intro (Nat.le_of_ble_eq_true rfl) (And.intro rfl (And.intro (Nat.le_of_ble_eq_true rfl) (And.intro (Nat.le_of_ble_eq_true rfl) (mjY_mono ty1 (fun v u2 ty2 h2 => ?_) (c_hold (Y := Y) (d := d + 2) ty1 r a n hs' hr nh ha hlr k1.1 hn1)))))
  obtain ⟨rfl, f2, g2, g3⟩ := h2
  intro _
  refine And.intro rfl (And.intro iv (fun ty3 => ?_))
  refine And.intro rfl (And.intro rfl (And.intro iv (fun ty4 => ?_)))
  refine And.intro rfl (And.intro rfl (And.intro rfl ⟨v1, hs', f1, k1, hn1, ?_⟩))
  have go : ∀ u : mjS, u = (u2.1, u2.2.1, mjIu (mjIu u2.2.2.1 r_tAt (nI i).toNatClampNeg (nI hs')) r_tLen (nI i).toNatClampNeg (nI n), u2.2.2.2) → WR v1 u r_tAt r_tLen i hs' (wd (σ.2.2.1 r) a n) := by
    intro u eu
    have e2 : u.2.2.1 = mjIu (mjIu u2.2.2.1 r_tAt i (nI hs')) r_tLen i (nI n) := by rw [eu, ic]
    unfold WR
    rw [wd_len]
    refine ⟨?_, by rw [eu]; exact g2, fun j hj => ?_, ?_, fun j => ?_, fun j => ?_⟩
    · rw [eu]; exact ((f2.up (fun _ q => q) (by decide)).tr (Fr.a (h := r_tAt) (by decide))).tr (Fr.a (h := r_tLen) (by decide))
    · rw [e2, mjIu_ne (by decide), mjIu_ne (by decide), g3]; exact cpy_lo hj
    · rw [e2, mjIu_ne (by decide), mjIu_ne (by decide), g3, cpy_wd, er]
    · rw [e2, mjIu_ne (by decide), mjIu_s, (f2.2.2 r_tAt (by decide)).1]
    · rw [e2, mjIu_s, mjIu_ne (by decide), (f2.2.2 r_tLen (by decide)).1]
  exact go _ rfl
set_option maxRecDepth 100000 in
theorem c_name_w {σ : mjS} {hs : Nat} {ks : List KR} {fk fe : List Nat} (h : KS σ hs ks fk fe) (ht : tot ks ≤ 200000) (i : Nat) (hi : i < 10000) (r a n : Nat) (hr : mjKd r = 1) (hr2 : r ∉ tyH) (ha : a + n ≤ mjLn r) (hlr : mjLn r < 2 ^ 30) (hn : tot ks + n ≤ 300000) (ty : mjTY σ) :
    mjY mjPP (mjQQ Y) (d + 3) 18 0 (mjL0 5 [.ref 0, .int (nI i), .ref r, .int (nI a), .int (nI n)]) [] σ (fun x u => x = none ∧ ∃ (v : mjS) (hs' : Nat), Fr [f_heapSize] tyH σ v ∧ KS v hs' ks fk fe ∧ hs' + n ≤ 300000 ∧ WR v u r_eAt r_eLen i hs' (wd (σ.2.2.1 r) a n)) := by
  have ic : (nI i).toNatClampNeg = i := nI_clamp (by omega)
  have iv : vp_in (nI i) 10000 := vp_in_nI hi (by decide)
  refine mjZ_y rfl rfl 18 _ _ _ _ ty ?_
  refine And.intro (Nat.le_of_ble_eq_true rfl) (And.intro rfl (And.intro (Nat.le_of_ble_eq_true rfl) (And.intro (Nat.le_of_ble_eq_true rfl) (mjY_mono ty (fun v v1 ty1 h1 => ?_) (c_room (Y := Y) (d := d) h ht n hn ty)))))
  obtain ⟨rfl, f1, hs', k1, hn1⟩ := h1
  intro _
  have er : v1.2.2.1 r = σ.2.2.1 r := (f1.2.2 r hr2).1
  have nh : r ≠ r_heap := fun q => hr2 (by rw [q]; decide)
  refine And.intro rfl ?_
  refine And.intro (Nat.le_of_ble_eq_true rfl) (And.intro rfl (And.intro (Nat.le_of_ble_eq_true rfl) (And.intro (Nat.le_of_ble_eq_true rfl) (mjY_mono ty1 (fun v u2 ty2 h2 => ?_) (c_hold (Y := Y) (d := d + 2) ty1 r a n hs' hr nh ha hlr k1.1 hn1)))))
  obtain ⟨rfl, f2, g2, g3⟩ := h2
  intro _
  refine And.intro rfl (And.intro iv (fun ty3 => ?_))
  refine And.intro rfl (And.intro rfl (And.intro iv (fun ty4 => ?_)))
  refine And.intro rfl (And.intro rfl (And.intro rfl ⟨v1, hs', f1, k1, hn1, ?_⟩))
  have go : ∀ u : mjS, u = (u2.1, u2.2.1, mjIu (mjIu u2.2.2.1 r_eAt (nI i).toNatClampNeg (nI hs')) r_eLen (nI i).toNatClampNeg (nI n), u2.2.2.2) → WR v1 u r_eAt r_eLen i hs' (wd (σ.2.2.1 r) a n) := by
    intro u eu
    have e2 : u.2.2.1 = mjIu (mjIu u2.2.2.1 r_eAt i (nI hs')) r_eLen i (nI n) := by rw [eu, ic]
    unfold WR
    rw [wd_len]
    refine ⟨?_, by rw [eu]; exact g2, fun j hj => ?_, ?_, fun j => ?_, fun j => ?_⟩
    · rw [eu]; exact ((f2.up (fun _ q => q) (by decide)).tr (Fr.a (h := r_eAt) (by decide))).tr (Fr.a (h := r_eLen) (by decide))
    · rw [e2, mjIu_ne (by decide), mjIu_ne (by decide), g3]; exact cpy_lo hj
    · rw [e2, mjIu_ne (by decide), mjIu_ne (by decide), g3, cpy_wd, er]
    · rw [e2, mjIu_ne (by decide), mjIu_s, (f2.2.2 r_eAt (by decide)).1]
    · rw [e2, mjIu_s, mjIu_ne (by decide), (f2.2.2 r_eLen (by decide)).1]
  exact go _ rfl
set_option maxRecDepth 100000 in
theorem c_give_w {σ : mjS} {hs : Nat} {ks : List KR} {fk fe : List Nat} (h : KS σ hs ks fk fe) (ht : tot ks ≤ 200000) (i : Nat) (hi : i < 10000) (r a n : Nat) (hr : mjKd r = 1) (hr2 : r ∉ tyH) (ha : a + n ≤ mjLn r) (hlr : mjLn r < 2 ^ 30) (hn : tot ks + n ≤ 300000) (ty : mjTY σ) :
    mjY mjPP (mjQQ Y) (d + 3) 19 0 (mjL0 5 [.ref 0, .int (nI i), .ref r, .int (nI a), .int (nI n)]) [] σ (fun x u => x = none ∧ ∃ (v : mjS) (hs' : Nat), Fr [f_heapSize] tyH σ v ∧ KS v hs' ks fk fe ∧ hs' + n ≤ 300000 ∧ WR v u r_vAt r_vLen i hs' (wd (σ.2.2.1 r) a n)) := by
  have ic : (nI i).toNatClampNeg = i := nI_clamp (by omega)
  have iv : vp_in (nI i) 10000 := vp_in_nI hi (by decide)
  refine mjZ_y rfl rfl 18 _ _ _ _ ty ?_
  refine And.intro (Nat.le_of_ble_eq_true rfl) (And.intro rfl (And.intro (Nat.le_of_ble_eq_true rfl) (And.intro (Nat.le_of_ble_eq_true rfl) (mjY_mono ty (fun v v1 ty1 h1 => ?_) (c_room (Y := Y) (d := d) h ht n hn ty)))))
  obtain ⟨rfl, f1, hs', k1, hn1⟩ := h1
  intro _
  have er : v1.2.2.1 r = σ.2.2.1 r := (f1.2.2 r hr2).1
  have nh : r ≠ r_heap := fun q => hr2 (by rw [q]; decide)
  refine And.intro rfl ?_
  refine And.intro (Nat.le_of_ble_eq_true rfl) (And.intro rfl (And.intro (Nat.le_of_ble_eq_true rfl) (And.intro (Nat.le_of_ble_eq_true rfl) (mjY_mono ty1 (fun v u2 ty2 h2 => ?_) (c_hold (Y := Y) (d := d + 2) ty1 r a n hs' hr nh ha hlr k1.1 hn1)))))
  obtain ⟨rfl, f2, g2, g3⟩ := h2
  intro _
  refine And.intro rfl (And.intro iv (fun ty3 => ?_))
  refine And.intro rfl (And.intro rfl (And.intro iv (fun ty4 => ?_)))
  refine And.intro rfl (And.intro rfl (And.intro rfl ⟨v1, hs', f1, k1, hn1, ?_⟩))
  have go : ∀ u : mjS, u = (u2.1, u2.2.1, mjIu (mjIu u2.2.2.1 r_vAt (nI i).toNatClampNeg (nI hs')) r_vLen (nI i).toNatClampNeg (nI n), u2.2.2.2) → WR v1 u r_vAt r_vLen i hs' (wd (σ.2.2.1 r) a n) := by
    intro u eu
    have e2 : u.2.2.1 = mjIu (mjIu u2.2.2.1 r_vAt i (nI hs')) r_vLen i (nI n) := by rw [eu, ic]
    unfold WR
    rw [wd_len]
    refine ⟨?_, by rw [eu]; exact g2, fun j hj => ?_, ?_, fun j => ?_, fun j => ?_⟩
    · rw [eu]; exact ((f2.up (fun _ q => q) (by decide)).tr (Fr.a (h := r_vAt) (by decide))).tr (Fr.a (h := r_vLen) (by decide))
    · rw [e2, mjIu_ne (by decide), mjIu_ne (by decide), g3]; exact cpy_lo hj
    · rw [e2, mjIu_ne (by decide), mjIu_ne (by decide), g3, cpy_wd, er]
    · rw [e2, mjIu_ne (by decide), mjIu_s, (f2.2.2 r_vAt (by decide)).1]
    · rw [e2, mjIu_s, mjIu_ne (by decide), (f2.2.2 r_vLen (by decide)).1]
  exact go _ rfl
end WRITE
