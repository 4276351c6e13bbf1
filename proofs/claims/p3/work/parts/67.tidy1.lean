/-! tidy takes a word over: four places. -/
section TIDY1
variable {Y : Nat → MethodName × ByteArray} {d : Nat}
set_option maxRecDepth 100000 in
theorem c_tidy_k (K : mjK) {s0 σ : mjS} {hs p : Nat} {D : List CE} (i : Nat) (w : List Int32) (x1 x2 : Int32) (l4 : Option Value) (e1 : x1 = nI p) (h : TI s0 σ p D) (hi : i < 4700) (hr : RG s0 hs r_kAt r_kLen i w) (hh : hs ≤ 300000) (hn : (r_kAt, i) ∉ D.map ceK) (hp : p + w.length ≤ 200000) (ty : mjTY σ)
    (hK : ∀ u, mjTY u → TI s0 u (p + w.length) (D ++ [(r_kAt, r_kLen, i, w)]) → mjY mjPP (mjQQ Y) (d + 1) 5 35 [some (.ref 0), some (.int (nI (p + w.length))), some (.int x2), some (.int (nI i)), l4] [] u K) :
    mjY mjPP (mjQQ Y) (d + 1) 5 13 [some (.ref 0), some (.int x1), some (.int x2), some (.int (nI i)), l4] [] σ K := by
  subst e1
  obtain ⟨a, b1, b2, b3, b4⟩ := hr.cmp hh
  have ic : (nI i).toNatClampNeg = i := nI_clamp (by omega)
  have iv : vp_in (nI i) 4700 := vp_in_nI hi (by decide)
  have fA : σ.2.2.1 r_kAt (nI i).toNatClampNeg = nI a := by rw [ic, h.2.1 r_kAt i (by decide) hn]; exact b1
  have fL : σ.2.2.1 r_kLen (nI i).toNatClampNeg = nI w.length := by rw [ic, (h.1.2.2 r_kLen (by decide)).1]; exact b2
  have fH : σ.2.2.1 r_heap = s0.2.2.1 r_heap := (h.1.2.2 r_heap (by decide)).1
  have hc := c_moved (Y := Y) (d := d) a w.length p b3 hp σ ty
  rw [← fA, ← fL] at hc
  refine mjZ_y rfl rfl 22 _ _ _ _ ty ?_
  refine And.intro rfl (And.intro rfl (And.intro rfl (And.intro iv (And.intro rfl (And.intro rfl (And.intro iv ?_))))))
  refine And.intro (Nat.le_of_ble_eq_true rfl) (And.intro rfl (And.intro (Nat.le_of_ble_eq_true rfl) (And.intro (Nat.le_of_ble_eq_true rfl) (mjY_mono ty (fun v u1 ty1 hm => ?_) hc))))
  obtain ⟨rfl, f1, g1⟩ := hm
  intro _
  refine And.intro rfl (And.intro iv (fun ty2 => ?_))
  refine And.intro rfl (And.intro rfl (And.intro iv (And.intro (Nat.le_of_ble_eq_true rfl) ?_)))
  have go : ∀ (u : mjS) (y1 : Int32), mjTY u → u = (u1.1, u1.2.1, mjIu u1.2.2.1 r_kAt (nI i).toNatClampNeg (nI p), u1.2.2.2) → y1 = nI p + u.2.2.1 r_kLen (nI i).toNatClampNeg → mjY mjPP (mjQQ Y) (d + 1) 5 35 [some (.ref 0), some (.int y1), some (.int x2), some (.int (nI i)), l4] [] u K := by
    intro u y1 tu eu ey
    have eL : u.2.2.1 r_kLen (nI i).toNatClampNeg = nI w.length := by
      rw [eu]
      show mjIu u1.2.2.1 r_kAt (nI i).toNatClampNeg (nI p) r_kLen (nI i).toNatClampNeg = _
      rw [mjIu_ne (by decide), (f1.2.2 r_kLen (by decide)).1]; exact fL
    rw [eL, nI_add] at ey
    subst ey
    have fu : Fr [] tdH σ u := by rw [eu]; exact (f1.up (fun _ q => q) (by decide)).tr (Fr.a (h := r_kAt) (by decide))
    refine hK u tu (h.step (c := (r_kAt, r_kLen, i, w)) (a := a) (by show r_kAt ∈ atH; decide) hn (by rw [fH]; exact b4) fu (fun g j hg => ?_) ?_)
    · rw [eu]
      show mjIu u1.2.2.1 r_kAt (nI i).toNatClampNeg (nI p) g j = _
      rw [mjIu_at, ic, (f1.2.2 g (fun q => hg (List.mem_singleton.mp q))).1]
    · rw [eu]
      show mjIu u1.2.2.1 r_kAt (nI i).toNatClampNeg (nI p) r_heap2 = _
      rw [mjIu_ne (by decide)]; exact g1
  exact go _ _ ty2 rfl rfl
set_option maxRecDepth 100000 in
theorem c_tidy_t (K : mjK) {s0 σ : mjS} {hs p : Nat} {D : List CE} (i : Nat) (w : List Int32) (x1 x2 : Int32) (l4 : Option Value) (e1 : x1 = nI p) (h : TI s0 σ p D) (hi : i < 4700) (hr : RG s0 hs r_tAt r_tLen i w) (hh : hs ≤ 300000) (hn : (r_tAt, i) ∉ D.map ceK) (hp : p + w.length ≤ 200000) (ty : mjTY σ)
    (hK : ∀ u, mjTY u → TI s0 u (p + w.length) (D ++ [(r_tAt, r_tLen, i, w)]) → mjY mjPP (mjQQ Y) (d + 1) 5 57 [some (.ref 0), some (.int (nI (p + w.length))), some (.int x2), some (.int (nI i)), l4] [] u K) :
    mjY mjPP (mjQQ Y) (d + 1) 5 35 [some (.ref 0), some (.int x1), some (.int x2), some (.int (nI i)), l4] [] σ K := by
  subst e1
  obtain ⟨a, b1, b2, b3, b4⟩ := hr.cmp hh
  have ic : (nI i).toNatClampNeg = i := nI_clamp (by omega)
  have iv : vp_in (nI i) 4700 := vp_in_nI hi (by decide)
  have fA : σ.2.2.1 r_tAt (nI i).toNatClampNeg = nI a := by rw [ic, h.2.1 r_tAt i (by decide) hn]; exact b1
  have fL : σ.2.2.1 r_tLen (nI i).toNatClampNeg = nI w.length := by rw [ic, (h.1.2.2 r_tLen (by decide)).1]; exact b2
  have fH : σ.2.2.1 r_heap = s0.2.2.1 r_heap := (h.1.2.2 r_heap (by decide)).1
  have hc := c_moved (Y := Y) (d := d) a w.length p b3 hp σ ty
  rw [← fA, ← fL] at hc
  refine mjZ_y rfl rfl 22 _ _ _ _ ty ?_
  refine And.intro rfl (And.intro rfl (And.intro rfl (And.intro iv (And.intro rfl (And.intro rfl (And.intro iv ?_))))))
  refine And.intro (Nat.le_of_ble_eq_true rfl) (And.intro rfl (And.intro (Nat.le_of_ble_eq_true rfl) (And.intro (Nat.le_of_ble_eq_true rfl) (mjY_mono ty (fun v u1 ty1 hm => ?_) hc))))
  obtain ⟨rfl, f1, g1⟩ := hm
  intro _
  refine And.intro rfl (And.intro iv (fun ty2 => ?_))
  refine And.intro rfl (And.intro rfl (And.intro iv (And.intro (Nat.le_of_ble_eq_true rfl) ?_)))
  have go : ∀ (u : mjS) (y1 : Int32), mjTY u → u = (u1.1, u1.2.1, mjIu u1.2.2.1 r_tAt (nI i).toNatClampNeg (nI p), u1.2.2.2) → y1 = nI p + u.2.2.1 r_tLen (nI i).toNatClampNeg → mjY mjPP (mjQQ Y) (d + 1) 5 57 [some (.ref 0), some (.int y1), some (.int x2), some (.int (nI i)), l4] [] u K := by
    intro u y1 tu eu ey
    have eL : u.2.2.1 r_tLen (nI i).toNatClampNeg = nI w.length := by
      rw [eu]
      show mjIu u1.2.2.1 r_tAt (nI i).toNatClampNeg (nI p) r_tLen (nI i).toNatClampNeg = _
      rw [mjIu_ne (by decide), (f1.2.2 r_tLen (by decide)).1]; exact fL
    rw [eL, nI_add] at ey
    subst ey
    have fu : Fr [] tdH σ u := by rw [eu]; exact (f1.up (fun _ q => q) (by decide)).tr (Fr.a (h := r_tAt) (by decide))
    refine hK u tu (h.step (c := (r_tAt, r_tLen, i, w)) (a := a) (by show r_tAt ∈ atH; decide) hn (by rw [fH]; exact b4) fu (fun g j hg => ?_) ?_)
    · rw [eu]
      show mjIu u1.2.2.1 r_tAt (nI i).toNatClampNeg (nI p) g j = _
      rw [mjIu_at, ic, (f1.2.2 g (fun q => hg (List.mem_singleton.mp q))).1]
    · rw [eu]
      show mjIu u1.2.2.1 r_tAt (nI i).toNatClampNeg (nI p) r_heap2 = _
      rw [mjIu_ne (by decide)]; exact g1
  exact go _ _ ty2 rfl rfl
set_option maxRecDepth 100000 in
theorem c_tidy_e (K : mjK) {s0 σ : mjS} {hs p : Nat} {D : List CE} (i : Nat) (w : List Int32) (x1 x2 : Int32) (x3 : Int32) (e1 : x1 = nI p) (h : TI s0 σ p D) (hi : i < 10000) (hr : RG s0 hs r_eAt r_eLen i w) (hh : hs ≤ 300000) (hn : (r_eAt, i) ∉ D.map ceK) (hp : p + w.length ≤ 200000) (ty : mjTY σ)
    (hK : ∀ u, mjTY u → TI s0 u (p + w.length) (D ++ [(r_eAt, r_eLen, i, w)]) → mjY mjPP (mjQQ Y) (d + 1) 5 86 [some (.ref 0), some (.int (nI (p + w.length))), some (.int x2), some (.int x3), some (.int (nI i))] [] u K) :
    mjY mjPP (mjQQ Y) (d + 1) 5 64 [some (.ref 0), some (.int x1), some (.int x2), some (.int x3), some (.int (nI i))] [] σ K := by
  subst e1
  obtain ⟨a, b1, b2, b3, b4⟩ := hr.cmp hh
  have ic : (nI i).toNatClampNeg = i := nI_clamp (by omega)
  have iv : vp_in (nI i) 10000 := vp_in_nI hi (by decide)
  have fA : σ.2.2.1 r_eAt (nI i).toNatClampNeg = nI a := by rw [ic, h.2.1 r_eAt i (by decide) hn]; exact b1
  have fL : σ.2.2.1 r_eLen (nI i).toNatClampNeg = nI w.length := by rw [ic, (h.1.2.2 r_eLen (by decide)).1]; exact b2
  have fH : σ.2.2.1 r_heap = s0.2.2.1 r_heap := (h.1.2.2 r_heap (by decide)).1
  have hc := c_moved (Y := Y) (d := d) a w.length p b3 hp σ ty
  rw [← fA, ← fL] at hc
  refine mjZ_y rfl rfl 22 _ _ _ _ ty ?_
  refine And.intro rfl (And.intro rfl (And.intro rfl (And.intro iv (And.intro rfl (And.intro rfl (And.intro iv ?_))))))
  refine And.intro (Nat.le_of_ble_eq_true rfl) (And.intro rfl (And.intro (Nat.le_of_ble_eq_true rfl) (And.intro (Nat.le_of_ble_eq_true rfl) (mjY_mono ty (fun v u1 ty1 hm => ?_) hc))))
  obtain ⟨rfl, f1, g1⟩ := hm
  intro _
  refine And.intro rfl (And.intro iv (fun ty2 => ?_))
  refine And.intro rfl (And.intro rfl (And.intro iv (And.intro (Nat.le_of_ble_eq_true rfl) ?_)))
  have go : ∀ (u : mjS) (y1 : Int32), mjTY u → u = (u1.1, u1.2.1, mjIu u1.2.2.1 r_eAt (nI i).toNatClampNeg (nI p), u1.2.2.2) → y1 = nI p + u.2.2.1 r_eLen (nI i).toNatClampNeg → mjY mjPP (mjQQ Y) (d + 1) 5 86 [some (.ref 0), some (.int y1), some (.int x2), some (.int x3), some (.int (nI i))] [] u K := by
    intro u y1 tu eu ey
    have eL : u.2.2.1 r_eLen (nI i).toNatClampNeg = nI w.length := by
      rw [eu]
      show mjIu u1.2.2.1 r_eAt (nI i).toNatClampNeg (nI p) r_eLen (nI i).toNatClampNeg = _
      rw [mjIu_ne (by decide), (f1.2.2 r_eLen (by decide)).1]; exact fL
    rw [eL, nI_add] at ey
    subst ey
    have fu : Fr [] tdH σ u := by rw [eu]; exact (f1.up (fun _ q => q) (by decide)).tr (Fr.a (h := r_eAt) (by decide))
    refine hK u tu (h.step (c := (r_eAt, r_eLen, i, w)) (a := a) (by show r_eAt ∈ atH; decide) hn (by rw [fH]; exact b4) fu (fun g j hg => ?_) ?_)
    · rw [eu]
      show mjIu u1.2.2.1 r_eAt (nI i).toNatClampNeg (nI p) g j = _
      rw [mjIu_at, ic, (f1.2.2 g (fun q => hg (List.mem_singleton.mp q))).1]
    · rw [eu]
      show mjIu u1.2.2.1 r_eAt (nI i).toNatClampNeg (nI p) r_heap2 = _
      rw [mjIu_ne (by decide)]; exact g1
  exact go _ _ ty2 rfl rfl
set_option maxRecDepth 100000 in
theorem c_tidy_v (K : mjK) {s0 σ : mjS} {hs p : Nat} {D : List CE} (i : Nat) (w : List Int32) (x1 x2 : Int32) (x3 : Int32) (e1 : x1 = nI p) (h : TI s0 σ p D) (hi : i < 10000) (hr : RG s0 hs r_vAt r_vLen i w) (hh : hs ≤ 300000) (hn : (r_vAt, i) ∉ D.map ceK) (hp : p + w.length ≤ 200000) (ty : mjTY σ)
    (hK : ∀ u, mjTY u → TI s0 u (p + w.length) (D ++ [(r_vAt, r_vLen, i, w)]) → mjY mjPP (mjQQ Y) (d + 1) 5 108 [some (.ref 0), some (.int (nI (p + w.length))), some (.int x2), some (.int x3), some (.int (nI i))] [] u K) :
    mjY mjPP (mjQQ Y) (d + 1) 5 86 [some (.ref 0), some (.int x1), some (.int x2), some (.int x3), some (.int (nI i))] [] σ K := by
  subst e1
  obtain ⟨a, b1, b2, b3, b4⟩ := hr.cmp hh
  have ic : (nI i).toNatClampNeg = i := nI_clamp (by omega)
  have iv : vp_in (nI i) 10000 := vp_in_nI hi (by decide)
  have fA : σ.2.2.1 r_vAt (nI i).toNatClampNeg = nI a := by rw [ic, h.2.1 r_vAt i (by decide) hn]; exact b1
  have fL : σ.2.2.1 r_vLen (nI i).toNatClampNeg = nI w.length := by rw [ic, (h.1.2.2 r_vLen (by decide)).1]; exact b2
  have fH : σ.2.2.1 r_heap = s0.2.2.1 r_heap := (h.1.2.2 r_heap (by decide)).1
  have hc := c_moved (Y := Y) (d := d) a w.length p b3 hp σ ty
  rw [← fA, ← fL] at hc
  refine mjZ_y rfl rfl 22 _ _ _ _ ty ?_
  refine And.intro rfl (And.intro rfl (And.intro rfl (And.intro iv (And.intro rfl (And.intro rfl (And.intro iv ?_))))))
  refine And.intro (Nat.le_of_ble_eq_true rfl) (And.intro rfl (And.intro (Nat.le_of_ble_eq_true rfl) (And.intro (Nat.le_of_ble_eq_true rfl) (mjY_mono ty (fun v u1 ty1 hm => ?_) hc))))
  obtain ⟨rfl, f1, g1⟩ := hm
  intro _
  refine And.intro rfl (And.intro iv (fun ty2 => ?_))
  refine And.intro rfl (And.intro rfl (And.intro iv (And.intro (Nat.le_of_ble_eq_true rfl) ?_)))
  have go : ∀ (u : mjS) (y1 : Int32), mjTY u → u = (u1.1, u1.2.1, mjIu u1.2.2.1 r_vAt (nI i).toNatClampNeg (nI p), u1.2.2.2) → y1 = nI p + u.2.2.1 r_vLen (nI i).toNatClampNeg → mjY mjPP (mjQQ Y) (d + 1) 5 108 [some (.ref 0), some (.int y1), some (.int x2), some (.int x3), some (.int (nI i))] [] u K := by
    intro u y1 tu eu ey
    have eL : u.2.2.1 r_vLen (nI i).toNatClampNeg = nI w.length := by
      rw [eu]
      show mjIu u1.2.2.1 r_vAt (nI i).toNatClampNeg (nI p) r_vLen (nI i).toNatClampNeg = _
      rw [mjIu_ne (by decide), (f1.2.2 r_vLen (by decide)).1]; exact fL
    rw [eL, nI_add] at ey
    subst ey
    have fu : Fr [] tdH σ u := by rw [eu]; exact (f1.up (fun _ q => q) (by decide)).tr (Fr.a (h := r_vAt) (by decide))
    refine hK u tu (h.step (c := (r_vAt, r_vLen, i, w)) (a := a) (by show r_vAt ∈ atH; decide) hn (by rw [fH]; exact b4) fu (fun g j hg => ?_) ?_)
    · rw [eu]
      show mjIu u1.2.2.1 r_vAt (nI i).toNatClampNeg (nI p) g j = _
      rw [mjIu_at, ic, (f1.2.2 g (fun q => hg (List.mem_singleton.mp q))).1]
    · rw [eu]
      show mjIu u1.2.2.1 r_vAt (nI i).toNatClampNeg (nI p) r_heap2 = _
      rw [mjIu_ne (by decide)]; exact g1
  exact go _ _ ty2 rfl rfl
end TIDY1
