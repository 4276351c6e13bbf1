/-! The law's start: both objects, the row, then the loop. -/
section LSTART
theorem va_P_l {D : va_G} {cl : List vw_C} {w1 w2 : va_W} {H : Heap} (h : va_P D cl (w1 ++ w2) H) : va_P D cl w1 H := fun k q hk => h k q (by rw [List.getElem?_append_left (List.getElem?_eq_some_iff.mp hk).1]; exact hk)
theorem va_P_r {D : va_G} {cl : List vw_C} {w1 w2 : va_W} {H : Heap} (h : va_P D cl (w1 ++ w2) H) : va_P D cl w2 H := fun k q hk => h (w1.length + k) q (by rw [List.getElem?_append_right (Nat.le_add_right _ _), Nat.add_sub_cancel_left]; exact hk)
theorem va_D_l {A : Nat → Prop} {w1 w2 : va_W} (h : va_D A (w1 ++ w2)) : va_D A w1 := ⟨fun i j p q h1 h2 e => h.1 i j p q (by rw [List.getElem?_append_left (List.getElem?_eq_some_iff.mp h1).1]; exact h1) (by rw [List.getElem?_append_left (List.getElem?_eq_some_iff.mp h2).1]; exact h2) e, fun k q hk => h.2 k q (by rw [List.getElem?_append_left (List.getElem?_eq_some_iff.mp hk).1]; exact hk)⟩
theorem va_D_r {A : Nat → Prop} {w1 w2 : va_W} (h : va_D A (w1 ++ w2)) : va_D A w2 := ⟨fun i j p q h1 h2 e => by
    have := h.1 (w1.length + i) (w1.length + j) p q (by rw [List.getElem?_append_right (Nat.le_add_right _ _), Nat.add_sub_cancel_left]; exact h1) (by rw [List.getElem?_append_right (Nat.le_add_right _ _), Nat.add_sub_cancel_left]; exact h2) e
    omega, fun k q hk => h.2 (w1.length + k) q (by rw [List.getElem?_append_right (Nat.le_add_right _ _), Nat.add_sub_cancel_left]; exact hk)⟩
theorem va_D_x {A : Nat → Prop} {w1 w2 : va_W} (h : va_D A (w1 ++ w2)) {i j : Nat} {p q : Nat × va_E} (h1 : w1[i]? = some p) (h2 : w2[j]? = some q) : ¬ p.1 = q.1 := fun e => by
  have l1 := (List.getElem?_eq_some_iff.mp h1).1
  have := h.1 i (w1.length + j) p q (by rw [List.getElem?_append_left l1]; exact h1) (by rw [List.getElem?_append_right (Nat.le_add_right _ _), Nat.add_sub_cancel_left]; exact h2) e
  omega
def lw_At (p : Program) (s : State) (m : MethodId) (meth : Method) (c : Code) (b L : Nat) (xs : Nat → Int32) : Prop :=
  p.tables.exec = Jvm.exec ∧ c.code = code ∧ meth.sig.returnType = ret ∧ c.maxLocals = 7 ∧ s.vm.findClass R_law = some m.cls ∧ (∀ w ∈ lw_tbl, w.before #[Value.ref b] s = true) ∧ va_X b L xs s s.heap ∧ b < s.heap.size ∧ meth.locks = false ∧ (Jvm.Cond.and given_1 narrow_1).before #[Value.ref b] s = true
theorem kw_in : ∀ w ∈ kw, w ∈ lw_tbl := fun w h => (List.mem_append.mp h).elim (kwW_in w) (fun h => (List.mem_append.mp h).elim (kwF_in w) (fun h => (List.mem_filter.mp h).1))
theorem law_fx {s : State} {b : Nat} (hts : ∀ w ∈ lw_tbl, w.before #[Value.ref b] s = true) : fx s := ⟨va_AO.of (hts (.arrayOver (.object "KeySteward$Connection")) (tl_in (tb_1 (List.mem_of_getElem? (i := 66) (by decide +kernel))))), va_AO.of (hts (.arrayOver (.object "KeySteward$Value")) (tl_in (tb_2 (List.mem_of_getElem? (i := 12) (by decide +kernel))))), va_Nw.of rfl (hts (.methodLinkNest "KeySteward" 44 yX3_init "KeySteward") (tl_in (tb_1 (List.mem_of_getElem? (i := 68) (by decide +kernel))))), va_Nw.of rfl (hts (.methodLinkNest "KeySteward" 47 yX11_init "KeySteward") (tl_in (tb_1 (List.mem_of_getElem? (i := 127) (by decide +kernel)))))⟩
theorem thr_in : ∀ w ∈ ([.isRef (.static "java/lang/Throwable" "UNASSIGNED_STACK" "[Ljava/lang/StackTraceElement;"), .isRef (.static "java/lang/Throwable" "SUPPRESSED_SENTINEL" "Ljava/util/List;")] : List Cond), w ∈ flatC (Jvm.Cond.and given_1 narrow_1) := by decide +kernel
theorem law_tU {s : State} {b : Nat} (hts : ∀ w ∈ lw_tbl, w.before #[Value.ref b] s = true) (hgv : (Jvm.Cond.and given_1 narrow_1).before #[Value.ref b] s = true) : tU (AL s) s s.heap := ⟨vx_Zqof (hts (.laysStatic "java/lang/Throwable" "UNASSIGNED_STACK" "[Ljava/lang/StackTraceElement;") (tl_in (tb_9 (List.mem_of_getElem? (i := 71) (by decide +kernel))))) (hts (.initialized "java/lang/Throwable") (tl_in (tb_1 (List.mem_of_getElem? (i := 24) (by decide +kernel))))) (flat_of_before _ hgv _ (thr_in _ (List.mem_of_getElem? (i := 0) rfl))) (fun a h => Nat.not_le.mpr h), vx_Zqof (hts (.laysStatic "java/lang/Throwable" "SUPPRESSED_SENTINEL" "Ljava/util/List;") (tl_in (tb_9 (List.mem_of_getElem? (i := 73) (by decide +kernel))))) (hts (.initialized "java/lang/Throwable") (tl_in (tb_1 (List.mem_of_getElem? (i := 24) (by decide +kernel))))) (flat_of_before _ hgv _ (thr_in _ (List.mem_of_getElem? (i := 1) rfl))) (fun a h => Nat.not_le.mpr h), va_Nw.of rfl (hts (.declares ⟨"java/lang/RuntimeException", "<init>", "()V"⟩) (tl_in (tb_9 (List.mem_of_getElem? (i := 47) (by decide +kernel))))), va_Nw.of rfl (hts (.declares ⟨"java/lang/Exception", "<init>", "()V"⟩) (tl_in (tb_9 (List.mem_of_getElem? (i := 49) (by decide +kernel))))), va_Nw.of rfl (hts (.declares ⟨"java/lang/Throwable", "<init>", "()V"⟩) (tl_in (tb_9 (List.mem_of_getElem? (i := 51) (by decide +kernel))))), va_Nw.of rfl (hts (.castable "java/util/NoSuchElementException" "java/util/NoSuchElementException") (tl_in (tb_9 (List.mem_of_getElem? (i := 46) (by decide +kernel)))))⟩
theorem nn_X1 : Cond.instantiable RX1 4 ∈ kw := kw_tab (tl_in (tb_1 (List.mem_of_getElem? (i := 37) (by decide +kernel)))) rfl
theorem nn_X3 : Cond.instantiable RX3 12 ∈ kw := kw_tab (tl_in (tb_1 (List.mem_of_getElem? (i := 67) (by decide +kernel)))) rfl
theorem nn_X11 : Cond.instantiable RX11 5 ∈ kw := kw_tab (tl_in (tb_1 (List.mem_of_getElem? (i := 126) (by decide +kernel)))) rfl
theorem nn_X8 : Cond.instantiable RX8 17 ∈ kw := kw_tab (tl_in (tb_1 (List.mem_of_getElem? (i := 148) (by decide +kernel)))) rfl
theorem nn_X4 : Cond.instantiable RX4 19 ∈ kw := kw_tab (tl_in (tb_2 (List.mem_of_getElem? (i := 6) (by decide +kernel)))) rfl
theorem nn_X9 : Cond.instantiable RX9 7 ∈ kw := kw_tab (tl_in (tb_2 (List.mem_of_getElem? (i := 82) (by decide +kernel)))) rfl
theorem nn_X5 : Cond.instantiable RX5 3 ∈ kw := kw_tab (tl_in (tb_2 (List.mem_of_getElem? (i := 112) (by decide +kernel)))) rfl
theorem nn_X6 : Cond.instantiable RX6 6 ∈ kw := kw_tab (tl_in (tb_2 (List.mem_of_getElem? (i := 128) (by decide +kernel)))) rfl
theorem nn_X7 : Cond.instantiable RX7 9 ∈ kw := kw_tab (tl_in (tb_2 (List.mem_of_getElem? (i := 155) (by decide +kernel)))) rfl
theorem nn_X12 : Cond.instantiable RX12 18 ∈ kw := kw_tab (tl_in (tb_1 (List.mem_of_getElem? (i := 29) (by decide +kernel)))) rfl
theorem nn_X13 : Cond.instantiable RX13 116 ∈ kw := kw_tab (tl_in (tb_9 (List.mem_of_getElem? (i := 113) (by decide +kernel)))) rfl
theorem nn_X10 : Cond.instantiable RX10 9 ∈ kw := kw_tab (tl_in (tb_4 (List.mem_of_getElem? (i := 214) (by decide +kernel)))) rfl
theorem df_m : ∀ j, j < 116 → defaultValue (tyX13 j) = vp_V ((List.range 116).map dfV) j := by decide +kernel
set_option maxHeartbeats 8000000 in
set_option maxRecDepth 100000 in
theorem whole_start {p : Program} {e : Env} {s : State} {m : MethodId} {below : List Frame} {meth : Method} {c : Code} (l : Launch) (hlt : l.stackTraces = false) {b L : Nat} {xs : Nat → Int32} (hL : L ≤ 3072) (C0 : lw_At p s m meth c b L xs) : W p l e room_1 s m #[Value.ref b] below meth c s.heap [] 0 0 (lw_Z below #[Value.ref b] s) (entryFrame m ([Value.ref b] : List Value).toArray 7) := by
  obtain ⟨hx, hb, hr, hml, hown, hts, hX, hbl, hlocks, hgv⟩ := C0
  have hA : ∀ q : Nat, s.heap.size ≤ q → AL s q := fun _ h => h
  have hkw : ∀ w ∈ kw, w.before #[Value.ref b] s = true := fun w h => hts w (kw_in w h)
  have hfx : fx s := law_fx hts
  have hU := law_tU hts hgv
  obtain ⟨hiA, hXi⟩ := kX_start hts hgv
  obtain ⟨dc0, di0, hkn0⟩ := u_known (C := RX1) (T := TX1) (N := 4) (n := 4) hkw kin_X1 (hkw _ nn_X1)
  obtain ⟨dc1, di1, hkn1⟩ := u_known (C := RX3) (T := TX3) (N := 12) (n := 12) hkw kin_X3 (hkw _ nn_X3)
  obtain ⟨dc2, di2, hkn2⟩ := u_known (C := RX11) (T := TX11) (N := 5) (n := 5) hkw kin_X11 (hkw _ nn_X11)
  obtain ⟨dc3, di3, hkn3⟩ := u_known (C := RX8) (T := TX8) (N := 17) (n := 17) hkw kin_X8 (hkw _ nn_X8)
  obtain ⟨dc4, di4, hkn4⟩ := u_known (C := RX4) (T := TX4) (N := 19) (n := 19) hkw kin_X4 (hkw _ nn_X4)
  obtain ⟨dc5, di5, hkn5⟩ := u_known (C := RX9) (T := TX9) (N := 7) (n := 7) hkw kin_X9 (hkw _ nn_X9)
  obtain ⟨dc6, di6, hkn6⟩ := u_known (C := RX5) (T := TX5) (N := 3) (n := 3) hkw kin_X5 (hkw _ nn_X5)
  obtain ⟨dc7, di7, hkn7⟩ := u_known (C := RX6) (T := TX6) (N := 6) (n := 6) hkw kin_X6 (hkw _ nn_X6)
  obtain ⟨dc8, di8, hkn8⟩ := u_known (C := RX7) (T := TX7) (N := 9) (n := 9) hkw kin_X7 (hkw _ nn_X7)
  obtain ⟨dc9, di9, hkn9⟩ := u_known (C := RX12) (T := TX12) (N := 18) (n := 18) hkw kin_X12 (hkw _ nn_X12)
  obtain ⟨dc10, di10, hkn10⟩ := u_known (C := RX13) (T := TX13) (N := 116) (n := 116) hkw kin_X13 (hkw _ nn_X13)
  obtain ⟨dc11, di11, hkn11⟩ := u_known (C := RX10) (T := TX10) (N := 9) (n := 9) hkw kin_X10 (hkw _ nn_X10)
  obtain ⟨dC, dI, hKc⟩ : ∃ (dC : Nat → ClassId) (dI : Nat → Nat → Nat), ∀ (k : Nat) (q : vw_C), classes[k]? = some q → u_Kn s q.1 q.2.1 q.2.2 (dC k) (dI k) := by
    refine ⟨fun k => if k = 0 then dc0 else if k = 1 then dc1 else if k = 2 then dc2 else if k = 3 then dc3 else if k = 4 then dc4 else if k = 5 then dc5 else if k = 6 then dc6 else if k = 7 then dc7 else if k = 8 then dc8 else if k = 9 then dc9 else if k = 10 then dc10 else dc11, fun k => if k = 0 then di0 else if k = 1 then di1 else if k = 2 then di2 else if k = 3 then di3 else if k = 4 then di4 else if k = 5 then di5 else if k = 6 then di6 else if k = 7 then di7 else if k = 8 then di8 else if k = 9 then di9 else if k = 10 then di10 else di11, ?_⟩
    intro k q hq
    match k, hq with
    | 0, hq => cases hq; exact hkn0
    | 1, hq => cases hq; exact hkn1
    | 2, hq => cases hq; exact hkn2
    | 3, hq => cases hq; exact hkn3
    | 4, hq => cases hq; exact hkn4
    | 5, hq => cases hq; exact hkn5
    | 6, hq => cases hq; exact hkn6
    | 7, hq => cases hq; exact hkn7
    | 8, hq => cases hq; exact hkn8
    | 9, hq => cases hq; exact hkn9
    | 10, hq => cases hq; exact hkn10
    | 11, hq => cases hq; exact hkn11
    | k + 12, hq => simp [classes] at hq
  have hS : va_S (AL s) s.heap s.heap [] := va_S.rf
  have hK : va_K (dC, dI) classes [] s := ⟨hKc, fun k q h => by simp at h⟩
  have hP : va_P (dC, dI) classes [] s.heap := fun k q h => by simp at h
  have hD : va_D (AL s) [] := ⟨fun i j p q h => by simp at h, fun k q h => by simp at h⟩
  have hl := lv_entry ([.ref b]) (n := 7) (Nat.le_of_ble_eq_true rfl)
  rw [lg_entry_eq]
  generalize (lg_sl ([.ref b]) ++ List.replicate (7 - (lg_sl ([.ref b])).length) Slot.unset).toArray = ls at hl ⊢
  have hl : lv_has ls 7 [(0, .ref b)] := hl
  refine va_new (ci := 9) (fs := [.null, .null, .null, .null, .null, .null, .null, .null, .null, .null, .null, .null, .null, .int 0, .int 0, .int 0, .int 0, .int 0]) (C := RX12) (T := TX12) (N := 18) hx hb hkw kin_X12 tyX12 tyX12_ok hown (hkw _ nk_1) (hkw _ nn_X12) (hkw _ nw_iC) hK hP hD hS hA rfl (df_X12) (by decide) (by decide) dL_law_0 (fun q1 H hP hD hS => ?_)
  have hP : va_P (dC, dI) classes [(q1, .inr (9, [.null, .null, .null, .null, .null, .null, .null, .null, .null, .null, .null, .null, .null, .int 0, .int 0, .int 0, .int 0, .int 0]))] H := hP
  have hD : va_D (AL s) [(q1, .inr (9, [.null, .null, .null, .null, .null, .null, .null, .null, .null, .null, .null, .null, .null, .int 0, .int 0, .int 0, .int 0, .int 0]))] := hD
  refine W.widen (k := 1) (n := 18) (by decide) (by decide) ?_
  refine lv_dup hx hb dL_law_3 rfl ?_
  have hFc : ∀ q, va_A [(q1, .inr (9, [.null, .null, .null, .null, .null, .null, .null, .null, .null, .null, .null, .null, .null, .int 0, .int 0, .int 0, .int 0, .int 0]))] H.size q → AL s q := by
    rintro q (⟨k, w, hk⟩ | h)
    · exact hD.2 k (q, w) hk
    · exact Nat.le_trans hS.1 h
  refine va_callv (va_runI (As := []) (rest := [.ref q1]) ⟨hx, hb, hml, hown, hkw⟩ (i_KS_init l dC dI H.size q1) (cwI 0 hkw (kwI nc_19) rfl rfl rfl (hkw _ nw_iC) (hkw _ nl_19) (hkw _ ni_19) rfl (by decide +kernel) ⟨by decide, by decide⟩) ⟨fbW, pW_in hP hK hD hfx⟩ rfl rfl hl.1 rfl (lv_room (Nat.le_of_ble_eq_true rfl)) dL_law_4 ⟨by decide, by decide⟩) hS (fun q _ h => hFc q h) hFc (fun u t H1 locs ht hvm hw hB hz1 hk1 hS => ?_)
  obtain ⟨z1, z2, z3, z4, z5, z6, z7, z8, z9, z10, z11, z12, z13, z14, z15, z16, z17, z18, z19, z20, z21, z22, z23, z24, z25, z26, z27, z28, z29, z30, z31, z32, z33, z34, z35, z36, z37, z38, z39, z40, z41, z42, z43, z44, z45, z46, z47, z48, z49, z50, z51, z52, z53, z54, z55, z56, z57, z58, z59, z60, z61, z62, z63, z64, z65, z66, z67, z68, z69, z70, z71, z72, z73, z74, z75, k2, k4, k6, k8, k10, k11, k14, k16, k18, k19, k20, k23, k25, k27, k28, k29, k32, k34, k36, k37, k38, k41, k43, k45, k46, k47, k49, k50, k51, k52, k54, k55, k56, k58, k60, k61, k62, k63, k64, k65, k66, k69, k73, k74, fa⟩ := u
  obtain ⟨hP1, hK1, hD1⟩ := hB
  rw [ht] at hP1
  have hK1 := va_K.moved hvm.symm hK1
  obtain ⟨dA, ad, ex, eh, hPk, hKk, hDk⟩ := kW_fresh hiA q1 z1 z2 z3 z4 z5 z6 z7 z8 z9 z10 z11 z12 z13 z14 z15 z16 z17 z18 z19 z20 z21 z22 z23 z24 z25 z26 z27 z28 z29 z30 z31 z32 z33 z34 z35 z36 z37 z38 z39 z40 z41 z42 z43 z44 z45 z46 z47 z48 z49 z50 z51 z52 z53 z54 z55 z56 z57 z58 z59 z60 z61 z62 z63 z64 z65 z66 z67 z68 z69 z70 z71 z72 z73 z74 z75 k2 k4 k6 k8 k10 k11 k14 k16 k18 k19 k20 k23 k25 k27 k28 k29 k32 k34 k36 k37 k38 k41 k43 k45 k46 k47 k49 k50 k51 k52 k54 k55 k56 k58 k60 k61 k62 k63 k64 k65 k66 k69 k73 k74 fa hw hP1 hK1 (hD1.weaken (fun k q _ h => hFc q.1 h))
  clear hP hD hP1 hD1 hK1 hw hz1 hk1 hFc hvm
  generalize H1 = H at hPk hS ⊢
  have hXa := hXi.re (ad' := ad) eh
  refine W.widen (k := 76) (n := 6616) (by decide) (by decide) ?_
  refine lv_astore_n (lv' := [(1, .ref q1), (0, .ref b)]) hx hb dL_law_7 rfl hl (by decide) rfl (fun ls hl => ?_)
  refine va_new (ci := 10) (fs := (List.range 116).map dfV) (C := RX13) (T := TX13) (N := 116) hx hb hkw kin_X13 tyX13 tyX13_ok hown (hkw _ nk_2) (hkw _ nn_X13) (hkw _ nw_iM) hK hPk hDk hS hA rfl df_m (by decide) (by decide) dL_law_8 (fun q2 H hP hD hS => ?_)
  have hPk := va_P_l hP
  have hPn : va_P (dC, dI) classes (dfO q2) H := va_P_r hP
  have hDn : va_D (AL s) (dfO q2) := va_D_r hD
  have hnq : ∀ h, h < 76 → ¬ ad h = q2 := fun h hh => va_D_x hD (kW_get (dA := dA) (ad := ad) (σ := Z0k) (show h < Z0k.2.2.2.2.1 from hh)) (show (dfO q2)[0]? = some _ from rfl)
  refine W.widen (k := 77) (n := 6732) (by decide) (by decide) ?_
  refine lv_dup hx hb dL_law_11 rfl ?_
  have hFc : ∀ q, va_A (dfO q2) H.size q → AL s q := by
    rintro q (⟨k, w, hk⟩ | h)
    · exact hDn.2 k (q, w) hk
    · exact Nat.le_trans hS.1 h
  refine va_callv (va_runI (As := []) (rest := [.ref q2]) ⟨hx, hb, hml, hown, hkw⟩ (u_init l dC dI q2 H.size) (cwI 0 hkw (kwI nc_22) rfl rfl rfl (hkw _ nw_iM) (hkw _ nl_22) (hkw _ ni_22) rfl (by decide +kernel) ⟨by decide, by decide⟩) ⟨fbW, pW_in hPn hK hDn hfx⟩ rfl rfl hl.1 rfl (lv_room (Nat.le_of_ble_eq_true rfl)) dL_law_12 ⟨by decide, by decide⟩) hS (fun q _ h => hFc q h) hFc (fun u t H1 locs ht hvm hw hB hz1 hk1 hS => ?_)
  obtain ⟨dB, am, σ⟩ := u
  obtain ⟨em, tm, hin⟩ := hw
  have hB : va_P (dC, dI) classes (mjW dB am σ) t.heap ∧ va_K (dC, dI) classes (mjTy dB) t ∧ va_D (va_A (dfO q2) H.size) (mjW dB am σ) := hB
  obtain ⟨hPm, hKm, hDm0⟩ := hB
  rw [ht] at hPm
  have hKm := va_K.moved hvm.symm hKm
  have hDm : va_D (AL s) (mjW dB am σ) := hDm0.weaken (fun k q _ h => hFc q.1 h)
  have klt : ∀ h, h < 76 → ad h < H.size := fun h hh => (hPk h _ (kW_get (show h < Z0k.2.2.2.2.1 from hh))).lt
  have hnA : ∀ h, h < 76 → ¬ va_A (dfO q2) H.size (ad h) := by
    rintro h hh (⟨k, w, hk⟩ | h9)
    · cases k with
      | zero => exact hnq h hh (congrArg Prod.fst (Option.some.inj hk)).symm
      | succ k => cases hk
    · have := klt h hh; omega
  have a1 : ∀ h k, h < 76 → k < mjKs.length → ¬ ad h = am k := fun h k hh hk e9 => hnA h hh (by rw [e9]; exact hDm0.2 k _ (mjW_get hk))
  have hPk := kW_kept (Z := Z0k) hPk (fun h hh => hk1 _ (klt h hh) (hnA h hh))
  have hDw : va_D (AL s) (kW dA ad Z0k ++ mjW dB am σ) := va_D.app hDk hDm (fun i j p q h1 h2 e9 => by
    have l1 : i < 76 := by rw [show (76 : Nat) = Z0k.2.2.2.2.1 from rfl, ← kW_len (dA := dA) (ad := ad) (σ := Z0k)]; exact (List.getElem?_eq_some_iff.mp h1).1
    have l2 : j < mjKs.length := by
      have len : (mjW dB am σ).length = mjKs.length := by unfold mjW; rw [List.length_map, List.length_range]
      rw [← len]; exact (List.getElem?_eq_some_iff.mp h2).1
    rw [kW_get (show i < Z0k.2.2.2.2.1 from l1)] at h1
    rw [mjW_get l2] at h2
    cases h1; cases h2
    exact a1 i j l1 l2 e9)
  clear hP hD hPn hDn hz1 hk1 hFc hvm hnA klt hnq
  generalize H1 = H at hPk hPm hS ⊢
  refine W.widen (k := 137) (n := 3460116) (by decide) (by decide) ?_
  refine lv_astore_n (lv' := [(2, .ref q2), (1, .ref q1), (0, .ref b)]) hx hb dL_law_15 rfl hl (by decide) rfl (fun ls hl => ?_)
  refine lv_iconst (v := 1) hx hb dL_law_16 (by decide) ?_
  refine va_newa (atype := .long) (a0 := (1, .inr (.inl (fun _ => 0)))) (N' := 1) (n := 1) (ty := .long) hx hb (hkw _ nw_al) rfl hK (va_P.app hPk hPm) hDw hS hA (fun _ => rfl) (by decide) (by decide) (by decide) (by decide) (by decide) dL_law_17 (fun o9 ko H hKo hP hD hS => ?_)
  have hPo : va_P (dC, dI) classes (lOut o9 ko (fun _ => 0)) H := va_P_r hP
  have hKo : va_K (dC, dI) classes [(ko, .long)] s := hKo
  have hPw := va_P_l hP
  have hDo : s.heap.size ≤ o9 := (va_D_r hD).2 0 (o9, .inl (ko, 1, .inr (.inl (fun _ => 0)))) rfl
  have a2 : ∀ h, h < 76 → ¬ ad h = o9 := fun h hh => va_D_x (i := h) hD (by rw [List.getElem?_append_left (by rw [kW_len]; exact hh)]; exact kW_get (show h < Z0k.2.2.2.2.1 from hh)) (show [(o9, Sum.inl (ko, 1, Sum.inr (Sum.inl (fun _ => 0))))][0]? = some _ from rfl)
  have a3 : ∀ k, k < mjKs.length → ¬ am k = o9 := fun k hk => va_D_x (i := (kW dA ad Z0k).length + k) hD (by rw [List.getElem?_append_right (Nat.le_add_right _ _), Nat.add_sub_cancel_left]; exact mjW_get hk) (show [(o9, Sum.inl (ko, 1, Sum.inr (Sum.inl (fun _ => 0))))][0]? = some _ from rfl)
  refine W.widen (k := 138) (n := 3460117) (by decide) (by decide) ?_
  refine lv_astore_n (lv' := [(3, .ref o9), (2, .ref q2), (1, .ref q1), (0, .ref b)]) hx hb dL_law_19 rfl hl (by decide) rfl (fun ls hl => ?_)
  refine lv_iconst (v := 0) hx hb dL_law_20 (by decide) ?_
  refine lv_istore (lv' := LVs 0 o9 q2 q1 b) hx hb dL_law_21 hl (by decide) rfl (fun ls hl => ?_)
  exact lw_loop (dC := dC) (dI := dI) ⟨hx, hb, hml, hown, hkw, hfx, hU, hX, hbl, hL, hlt⟩ hr hlocks 512 0 rfl (by decide) Z0k σ H _ ls 138 3460117 10240 10240 0 ⟨dA, ad, dB, am, ko, fun _ => 0, ⟨ex, em⟩, ⟨Z0k_ty, Z0k_gd, tm⟩, ⟨va_P_l hPw, va_P_r hPw, hPo⟩, ⟨hKk, hKm, hKo⟩, ⟨hDk, hDm, hDo⟩, ⟨a1, a2, a3⟩, hXa⟩ hS Z0k_inv (GI_0 hin) (hin.1 113 (by decide) (by decide) (by decide) (by decide)) (by decide) (by decide) (by decide) (by decide) hl
end LSTART
