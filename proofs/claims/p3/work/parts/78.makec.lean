/-! makeKey, its second half as it runs. -/
section MAKEC
variable {Y : Nat → MethodName × ByteArray} {d : Nat}
abbrev mkH : List Nat := [r_order, r_heap, r_kAt, r_kLen, r_kSort, r_kHead, r_kTail, r_kMany, r_tAt, r_tLen, r_kTimed, r_kTime]
/-- what the second half leaves behind -/
def MK (v u : mjS) (k p n hs a : Nat) (s : Int32) : Prop := Fr [f_heapSize, f_keys] mkH v u ∧ u.1 f_keys = v.1 f_keys + 1 ∧ u.1 f_heapSize = nI (hs + n) ∧ (∀ j, u.2.2.1 r_order j = if j = p then nI k else v.2.2.1 r_order j) ∧ AgH v u hs ∧ wd (u.2.2.1 r_heap) hs n = wd (v.2.2.1 r_req) a n ∧ (∀ g j, j ≠ k → g ≠ r_order → g ≠ r_heap → u.2.2.1 g j = v.2.2.1 g j) ∧
  u.2.2.1 r_kAt k = nI hs ∧ u.2.2.1 r_kLen k = nI n ∧ u.2.2.1 r_kSort k = s ∧ u.2.2.1 r_kHead k = -1 ∧ u.2.2.1 r_kTail k = -1 ∧ u.2.2.1 r_kMany k = 0 ∧ u.2.2.1 r_tAt k = 0 ∧ u.2.2.1 r_tLen k = 0 ∧ u.2.2.1 r_kTimed k = 0 ∧ ∀ j, u.2.2.2 r_kTime j = if j = k then 0 else v.2.2.2 r_kTime j
set_option maxRecDepth 100000 in
theorem c_make_2 (K : mjK) (i k p n a hs : Nat) (s : Int32) (l5 : Option Value) (v : mjS) (ty : mjTY v) (hi : i < 1100) (hk : k < 4700) (hp : p < 4700) (eA : v.2.2.1 r_aAt i = nI a) (eL : v.2.2.1 r_aLen i = nI n) (han : a + n ≤ 131200) (eh : v.1 f_heapSize = nI hs) (hh : hs + n ≤ 300000)
    (hK : ∀ u, MK v u k p n hs a s → K (some (.int (nI k))) u) : mjY mjPP (mjQQ Y) (d + 1) 12 40 [some (.ref 0), some (.int (nI i)), some (.int s), some (.int (nI p)), some (.int (nI k)), l5] [] v K := by
  have kc : (nI k).toNatClampNeg = k := nI_clamp (by omega)
  have kv : vp_in (nI k) 4700 := vp_in_nI hk (by decide)
  have ic : (nI i).toNatClampNeg = i := nI_clamp (by omega)
  have iv : vp_in (nI i) 1100 := vp_in_nI hi (by decide)
  have pc : (nI p).toNatClampNeg = p := nI_clamp (by omega)
  have pv : vp_in (nI p) 4700 := vp_in_nI hp (by decide)
  refine mjZ_y rfl rfl 26 _ _ _ _ ty ?_
  refine And.intro rfl (And.intro rfl (And.intro pv (fun ty1 => ?_)))
  refine And.intro rfl (And.intro rfl (And.intro (Or.inl rfl) (fun ty2 => ?_)))
  refine And.intro rfl (And.intro rfl (And.intro rfl (And.intro rfl (And.intro iv (And.intro rfl (And.intro rfl (And.intro iv ?_)))))))
  have ez : upd v.1 f_keys (v.1 f_keys + 1) f_heapSize = nI hs := (pk_un (by decide)).trans eh
  have hc := c_hold (Y := Y) (d := d) (σ := (upd v.1 f_keys (v.1 f_keys + 1), v.2.1, mjIu v.2.2.1 r_order (nI p).toNatClampNeg (nI k), v.2.2.2)) ty2 r_req a n hs rfl (by decide) han (by decide) ez hh
  have fA : mjIu v.2.2.1 r_order (nI p).toNatClampNeg (nI k) r_aAt (nI i).toNatClampNeg = nI a := by rw [mjIu_ne (by decide), ic]; exact eA
  have fL : mjIu v.2.2.1 r_order (nI p).toNatClampNeg (nI k) r_aLen (nI i).toNatClampNeg = nI n := by rw [mjIu_ne (by decide), ic]; exact eL
  rw [← fA, ← fL] at hc
  refine And.intro (Nat.le_of_ble_eq_true rfl) (And.intro rfl (And.intro (Nat.le_of_ble_eq_true rfl) (And.intro (Nat.le_of_ble_eq_true rfl) (mjY_mono ty2 (fun r u5 ty5 h5 => ?_) hc))))
  obtain ⟨rfl, f5, g5, h5⟩ := h5
  intro _
  have q5 : u5.2.2.1 r_aLen = v.2.2.1 r_aLen := ((f5.2.2 r_aLen (by decide)).1).trans (mjIu_ne (a := v.2.2.1) (i := (nI p).toNatClampNeg) (v := nI k) (h := r_order) (g := r_aLen) (by decide))
  refine mjZ_re rfl rfl 9 ty5 ?_
  refine And.intro rfl (And.intro kv (fun ty6 => ?_))
  refine And.intro rfl (And.intro rfl (And.intro rfl (And.intro iv (And.intro rfl (And.intro kv (fun ty7 => ?_))))))
  have go : ∀ u7 : mjS, mjTY u7 → u7 = (u5.1, u5.2.1, mjIu (mjIu u5.2.2.1 r_kAt (nI k).toNatClampNeg (nI hs)) r_kLen (nI k).toNatClampNeg (mjIu u5.2.2.1 r_kAt (nI k).toNatClampNeg (nI hs) r_aLen (nI i).toNatClampNeg), u5.2.2.2) → mjY mjPP (mjQQ Y) (d + 1) 12 75 [some (.ref 0), some (.int (nI i)), some (.int s), some (.int (nI p)), some (.int (nI k)), l5] [] u7 K := by
    intro u7 t7 e7
    have r7 : u7.2.2.1 = mjIu (mjIu u5.2.2.1 r_kAt k (nI hs)) r_kLen k (nI n) := by
      rw [e7, kc, mjIu_ne (by decide), q5, ic, eL]
    refine mjZ_y rfl rfl 4 _ _ _ _ t7 ?_
    refine And.intro (Nat.le_of_ble_eq_true rfl) (And.intro rfl (And.intro (Nat.le_of_ble_eq_true rfl) (And.intro (Nat.le_of_ble_eq_true rfl) (mjY_mono t7 (fun r u8 ty8 h8 => ?_) (c_blank (Y := Y) (d := d) k hk s u7 t7)))))
    obtain ⟨rfl, b1, b2, b3, b4, b5, b6, b7, b8, b9⟩ := h8
    intro _
    refine mjZ_re rfl rfl 12 ty8 ?_
    refine And.intro rfl (And.intro (Or.inr ⟨rfl, Or.inl rfl⟩) (And.intro kv (fun ty9 => ?_)))
    refine And.intro rfl (And.intro rfl (And.intro kv (fun ty10 => ?_)))
    have fin : ∀ u : mjS, u = (u8.1, u8.2.1, mjIu u8.2.2.1 r_kTimed (nI k).toNatClampNeg 0, mjLu u8.2.2.2 r_kTime (nI k).toNatClampNeg 0) → MK v u k p n hs a s := by
      intro u eu
      have ru : u.2.2.1 = mjIu u8.2.2.1 r_kTimed k 0 := by rw [eu, kc]
      have lu : u.2.2.2 = mjLu u8.2.2.2 r_kTime k 0 := by rw [eu, kc]
      have f2 : Fr [f_heapSize, f_keys] mkH v (upd v.1 f_keys (v.1 f_keys + 1), v.2.1, mjIu v.2.2.1 r_order (nI p).toNatClampNeg (nI k), v.2.2.2) := (Fr.a (h := r_order) (by decide)).tr (Fr.i (k := f_keys) (by decide))
      have f7 : Fr [f_heapSize, f_keys] mkH u5 u7 := by rw [e7]; exact (Fr.a (h := r_kAt) (by decide)).tr (Fr.a (h := r_kLen) (by decide))
      have f9 : Fr [f_heapSize, f_keys] mkH u8 u := by rw [eu]; exact (Fr.a (h := r_kTimed) (by decide)).tr (Fr.j (h := r_kTime) (by decide))
      have u18 : u.1 = u8.1 := by rw [eu]
      have u75 : u7.1 = u5.1 := by rw [e7]
      have hp5 : ∀ g, g ≠ r_order → g ≠ r_heap → u5.2.2.1 g = v.2.2.1 g := fun g g1 g2 => ((f5.2.2 g (fun q => g2 (List.mem_singleton.mp q))).1).trans (mjIu_ne (a := v.2.2.1) (i := (nI p).toNatClampNeg) (v := nI k) (h := r_order) (g := g) g1)
      have uh : u.2.2.1 r_heap = va_cpy (v.2.2.1 r_req) (v.2.2.1 r_heap) a hs n := by
        rw [ru, mjIu_ne (by decide), (b1.2.2 r_heap (by decide)).1, r7, mjIu_ne (by decide), mjIu_ne (by decide), h5]
        show va_cpy (mjIu v.2.2.1 r_order (nI p).toNatClampNeg (nI k) r_req) (mjIu v.2.2.1 r_order (nI p).toNatClampNeg (nI k) r_heap) a hs n = _
        rw [mjIu_ne (by decide), mjIu_ne (by decide)]
      refine ⟨(((f2.tr (f5.up (by decide) (by decide))).tr f7).tr (b1.up (fun _ q => by cases q) (by decide))).tr f9, ?_, ?_, fun j => ?_, fun j hj => ?_, ?_, fun g j hj g1 g2 => ?_, ?_, ?_, ?_, ?_, ?_, ?_, ?_, ?_, ?_, fun j => ?_⟩
      · rw [u18, b1.1 f_keys (by decide), u75, f5.1 f_keys (by decide)]; show upd v.1 f_keys (v.1 f_keys + 1) f_keys = _; exact pk_us
      · rw [u18, b1.1 f_heapSize (by decide), u75]; exact g5
      · rw [ru, mjIu_ne (by decide), (b1.2.2 r_order (by decide)).1, r7, mjIu_ne (by decide), mjIu_ne (by decide), (f5.2.2 r_order (by decide)).1]
        show mjIu v.2.2.1 r_order (nI p).toNatClampNeg (nI k) r_order j = _
        rw [mjIu_s, pc]
      · rw [uh]; exact cpy_lo hj
      · rw [uh]; exact cpy_wd
      · rw [ru, mjIu_at, if_neg (fun q => hj q.2), b3 g j hj, r7, mjIu_at, if_neg (fun q => hj q.2), mjIu_at, if_neg (fun q => hj q.2), hp5 g g1 g2]
      · rw [ru, mjIu_ne (by decide), (b1.2.2 r_kAt (by decide)).1, r7, mjIu_ne (by decide), mjIu_s, if_pos rfl]
      · rw [ru, mjIu_ne (by decide), (b1.2.2 r_kLen (by decide)).1, r7, mjIu_s, if_pos rfl]
      · rw [ru, mjIu_ne (by decide)]; exact b4
      · rw [ru, mjIu_ne (by decide)]; exact b5
      · rw [ru, mjIu_ne (by decide)]; exact b6
      · rw [ru, mjIu_ne (by decide)]; exact b7
      · rw [ru, mjIu_ne (by decide)]; exact b8
      · rw [ru, mjIu_ne (by decide)]; exact b9
      · rw [ru, mjIu_s, if_pos rfl]
      · rw [lu, mjLu_s, b2, e7]
        show (if j = k then (0 : Int64) else u5.2.2.2 r_kTime j) = _
        rw [(f5.2.2 r_kTime (by decide)).2]
    refine And.intro rfl (And.intro (Or.inl rfl) (hK _ (fin _ rfl)))
  exact go _ ty7 rfl
end MAKEC
