set_option maxHeartbeats 4000000 in
set_option maxRecDepth 100000 in
/-- Words() -/
theorem c_Wo_init (l : Launch) (dC : Nat → ClassId) (dI : Nat → Nat → Nat) (sz : Nat) (h0 : Nat) : Met l yX11_init wX11_init ({ frames := 1, cells := 4, slots := 2304, locals := 12 }) (va_Pc [.ref h0] (pW (dC, dI) [(h0, .inr (2, [.null, .null, .null, .null, .int 0]))] [] sz)) (va_Qv (fun ((q1, q2, q3, q4, k) : Nat × Nat × Nat × Nat × ClassId) => True) (fun ((q1, q2, q3, q4, k) : Nat × Nat × Nat × Nat × ClassId) (t : State) => bW (dC, dI) [(h0, .inr (2, [.ref q1, .ref q2, .ref q3, .ref q4, .int 0])), (q4, .inl (k, 1024, .inl (fun _ => 0)))] [(k, .int)] (va_A [(h0, .inr (2, [.null, .null, .null, .null, .int 0]))] sz) t) (va_A [(h0, .inr (2, [.null, .null, .null, .null, .int 0]))] sz)) 4 2304 (va_A [(h0, .inr (2, [.null, .null, .null, .null, .int 0]))] sz) := by
  refine Met.ofW (cc := cX11_init) (maxL := 1) (ret := none) (by decide) rfl ?_
  intro p e s m args below meth c s₁ B hml hv
  obtain ⟨rfl, hsz, hP, hK, hD0, hfx⟩ := hv
  have hx := B.exec
  have hb := B.bytes
  have hr := B.returns
  have hts := atoms_spec (ws := wX11_init) B.pre
  have hkw : ∀ w ∈ kw, w.before _ s = true := fun w h => hts w (List.mem_cons_of_mem _ h)
  have hown : s.vm.findClass RX11 = some m.cls := findClass_of_methodNamed B.named
  have hlocks := B.notSynchronized
  have hin : meth.name = "<init>" := (name_of_methodNamed B.named B.method).1
  subst hsz
  have hD := hD0.self (sz := s.heap.size)
  generalize hAe : va_A [(h0, .inr (2, [.null, .null, .null, .null, .int 0]))] s.heap.size = A at hD ⊢
  have hA : ∀ q : Nat, s.heap.size ≤ q → A q := fun q h => by rw [← hAe]; exact Or.inr h
  have hS : va_S A s.heap s.heap [] := va_S.rf
  have hP : va_P (dC, dI) classes [(h0, .inr (2, [.null, .null, .null, .null, .int 0]))] s.heap := hP
  have hl := lv_entry ([.ref h0]) (n := 1) (Nat.le_of_ble_eq_true rfl)
  rw [lg_entry_eq]
  generalize (lg_sl ([.ref h0]) ++ List.replicate (1 - (lg_sl ([.ref h0])).length) Slot.unset).toArray = ls at hl ⊢
  have hl : lv_has ls 1 [(0, .ref h0)] := hl
  refine lv_aload_n hx hb dX11_init_0 rfl (lv_at hl 0 rfl) ?_
  refine W.objInit hx hb hown (hkw _ m_52) (hkw _ m_1) (hkw _ m_2) rfl (by rw [hml]; exact hl.1) rfl dX11_init_1 (Nat.le_of_ble_eq_true rfl) (Nat.le_of_ble_eq_true rfl) ?_
  refine W.eq (g2 := F0 m 4 ls []) rfl ?_
  refine lv_aload_n hx hb dX11_init_4 rfl (lv_at hl 0 rfl) ?_
  refine lv_sipush (v := 1024) hx hb dX11_init_5 (by decide) ?_
  refine va_newa (atype := .byte) (a0 := (1024, .inl (fun _ => 0))) (N' := 1024) (n := 1024) (ty := .byte) hx hb (hkw _ m_3) rfl hK hP hD hS hA (fun _ => rfl) (by decide) (by decide) (by decide) (Nat.le_of_ble_eq_true rfl) (Nat.le_of_ble_eq_true rfl) dX11_init_8 (fun q1 k2 H hK hP hD hS => ?_)
  have hP : va_P (dC, dI) classes [(h0, .inr (2, [.null, .null, .null, .null, .int 0])), (q1, .inl (k2, 1024, .inl (fun _ => 0)))] H := hP
  have hD : va_D A [(h0, .inr (2, [.null, .null, .null, .null, .int 0])), (q1, .inl (k2, 1024, .inl (fun _ => 0)))] := hD
  have hK : va_K (dC, dI) classes [(k2, .byte)] s := hK
  refine W.widen (k := 1) (n := 1024) (by decide) (by decide) ?_
  refine va_put (D := (dC, dI)) (ci := 2) (v := .ref q1) (ty := .array .byte) (C := RX11) (T := TX11) (N := 5) hx hb hkw kin_X11 tyX11 tyX11_ok nmX11 hown hK hP hD hS 0 rfl rfl 0 (by decide) (hkw _ m_53) (fun _ h9 => h9) rfl (by decide +kernel) rfl rfl (Nat.le_of_ble_eq_true rfl) dX11_init_10 (fun H locs hP hD hS => ?_)
  have hP : va_P (dC, dI) classes [(h0, .inr (2, [.ref q1, .null, .null, .null, .int 0])), (q1, .inl (k2, 1024, .inl (fun _ => 0)))] H := hP
  have hD : va_D A [(h0, .inr (2, [.ref q1, .null, .null, .null, .int 0])), (q1, .inl (k2, 1024, .inl (fun _ => 0)))] := hD
  refine lv_aload_n hx hb dX11_init_13 rfl (lv_at hl 0 rfl) ?_
  refine lv_sipush (v := 128) hx hb dX11_init_14 (by decide) ?_
  refine va_newa (atype := .int) (a0 := (128, .inl (fun _ => 0))) (N' := 128) (n := 128) (ty := .int) hx hb (hkw _ m_30) rfl hK hP hD hS hA (fun _ => rfl) (by decide) (by decide) (by decide) (Nat.le_of_ble_eq_true rfl) (Nat.le_of_ble_eq_true rfl) dX11_init_17 (fun q3 k4 H hK hP hD hS => ?_)
  have hP : va_P (dC, dI) classes [(h0, .inr (2, [.ref q1, .null, .null, .null, .int 0])), (q1, .inl (k2, 1024, .inl (fun _ => 0))), (q3, .inl (k4, 128, .inl (fun _ => 0)))] H := hP
  have hD : va_D A [(h0, .inr (2, [.ref q1, .null, .null, .null, .int 0])), (q1, .inl (k2, 1024, .inl (fun _ => 0))), (q3, .inl (k4, 128, .inl (fun _ => 0)))] := hD
  have hK : va_K (dC, dI) classes [(k2, .byte), (k4, .int)] s := hK
  refine W.widen (k := 2) (n := 1152) (by decide) (by decide) ?_
  refine va_put (D := (dC, dI)) (ci := 2) (v := .ref q3) (ty := .array .int) (C := RX11) (T := TX11) (N := 5) hx hb hkw kin_X11 tyX11 tyX11_ok nmX11 hown hK hP hD hS 0 rfl rfl 1 (by decide) (hkw _ m_54) (fun _ h9 => h9) rfl (by decide +kernel) rfl rfl (Nat.le_of_ble_eq_true rfl) dX11_init_19 (fun H locs hP hD hS => ?_)
  have hP : va_P (dC, dI) classes [(h0, .inr (2, [.ref q1, .ref q3, .null, .null, .int 0])), (q1, .inl (k2, 1024, .inl (fun _ => 0))), (q3, .inl (k4, 128, .inl (fun _ => 0)))] H := hP
  have hD : va_D A [(h0, .inr (2, [.ref q1, .ref q3, .null, .null, .int 0])), (q1, .inl (k2, 1024, .inl (fun _ => 0))), (q3, .inl (k4, 128, .inl (fun _ => 0)))] := hD
  refine lv_aload_n hx hb dX11_init_22 rfl (lv_at hl 0 rfl) ?_
  refine lv_sipush (v := 128) hx hb dX11_init_23 (by decide) ?_
  refine va_newa (atype := .int) (a0 := (128, .inl (fun _ => 0))) (N' := 128) (n := 128) (ty := .int) hx hb (hkw _ m_30) rfl hK hP hD hS hA (fun _ => rfl) (by decide) (by decide) (by decide) (Nat.le_of_ble_eq_true rfl) (Nat.le_of_ble_eq_true rfl) dX11_init_26 (fun q5 k6 H hK hP hD hS => ?_)
  have hP : va_P (dC, dI) classes [(h0, .inr (2, [.ref q1, .ref q3, .null, .null, .int 0])), (q1, .inl (k2, 1024, .inl (fun _ => 0))), (q3, .inl (k4, 128, .inl (fun _ => 0))), (q5, .inl (k6, 128, .inl (fun _ => 0)))] H := hP
  have hD : va_D A [(h0, .inr (2, [.ref q1, .ref q3, .null, .null, .int 0])), (q1, .inl (k2, 1024, .inl (fun _ => 0))), (q3, .inl (k4, 128, .inl (fun _ => 0))), (q5, .inl (k6, 128, .inl (fun _ => 0)))] := hD
  have hK : va_K (dC, dI) classes [(k2, .byte), (k4, .int), (k6, .int)] s := hK
  refine W.widen (k := 3) (n := 1280) (by decide) (by decide) ?_
  refine va_put (D := (dC, dI)) (ci := 2) (v := .ref q5) (ty := .array .int) (C := RX11) (T := TX11) (N := 5) hx hb hkw kin_X11 tyX11 tyX11_ok nmX11 hown hK hP hD hS 0 rfl rfl 2 (by decide) (hkw _ m_55) (fun _ h9 => h9) rfl (by decide +kernel) rfl rfl (Nat.le_of_ble_eq_true rfl) dX11_init_28 (fun H locs hP hD hS => ?_)
  have hP : va_P (dC, dI) classes [(h0, .inr (2, [.ref q1, .ref q3, .ref q5, .null, .int 0])), (q1, .inl (k2, 1024, .inl (fun _ => 0))), (q3, .inl (k4, 128, .inl (fun _ => 0))), (q5, .inl (k6, 128, .inl (fun _ => 0)))] H := hP
  have hD : va_D A [(h0, .inr (2, [.ref q1, .ref q3, .ref q5, .null, .int 0])), (q1, .inl (k2, 1024, .inl (fun _ => 0))), (q3, .inl (k4, 128, .inl (fun _ => 0))), (q5, .inl (k6, 128, .inl (fun _ => 0)))] := hD
  refine lv_aload_n hx hb dX11_init_31 rfl (lv_at hl 0 rfl) ?_
  refine lv_sipush (v := 1024) hx hb dX11_init_32 (by decide) ?_
  refine va_newa (atype := .int) (a0 := (1024, .inl (fun _ => 0))) (N' := 1024) (n := 1024) (ty := .int) hx hb (hkw _ m_30) rfl hK hP hD hS hA (fun _ => rfl) (by decide) (by decide) (by decide) (Nat.le_of_ble_eq_true rfl) (Nat.le_of_ble_eq_true rfl) dX11_init_35 (fun q7 k8 H hK hP hD hS => ?_)
  have hP : va_P (dC, dI) classes [(h0, .inr (2, [.ref q1, .ref q3, .ref q5, .null, .int 0])), (q1, .inl (k2, 1024, .inl (fun _ => 0))), (q3, .inl (k4, 128, .inl (fun _ => 0))), (q5, .inl (k6, 128, .inl (fun _ => 0))), (q7, .inl (k8, 1024, .inl (fun _ => 0)))] H := hP
  have hD : va_D A [(h0, .inr (2, [.ref q1, .ref q3, .ref q5, .null, .int 0])), (q1, .inl (k2, 1024, .inl (fun _ => 0))), (q3, .inl (k4, 128, .inl (fun _ => 0))), (q5, .inl (k6, 128, .inl (fun _ => 0))), (q7, .inl (k8, 1024, .inl (fun _ => 0)))] := hD
  have hK : va_K (dC, dI) classes [(k2, .byte), (k4, .int), (k6, .int), (k8, .int)] s := hK
  refine W.widen (k := 4) (n := 2304) (by decide) (by decide) ?_
  refine va_putF (D := (dC, dI)) (ci := 2) (v := .ref q7) (ty := .array .int) (C := RX11) (T := TX11) (N := 5) hx hb hkw kin_X11 tyX11 tyX11_ok nmX11 hown hK hP hD hS 0 rfl rfl 3 (by decide) (hkw _ m_56) (fun _ h9 => h9) rfl hin rfl (by decide +kernel) rfl rfl (Nat.le_of_ble_eq_true rfl) dX11_init_37 (fun H locs hP hD hS => ?_)
  have hP : va_P (dC, dI) classes [(h0, .inr (2, [.ref q1, .ref q3, .ref q5, .ref q7, .int 0])), (q1, .inl (k2, 1024, .inl (fun _ => 0))), (q3, .inl (k4, 128, .inl (fun _ => 0))), (q5, .inl (k6, 128, .inl (fun _ => 0))), (q7, .inl (k8, 1024, .inl (fun _ => 0)))] H := hP
  have hD : va_D A [(h0, .inr (2, [.ref q1, .ref q3, .ref q5, .ref q7, .int 0])), (q1, .inl (k2, 1024, .inl (fun _ => 0))), (q3, .inl (k4, 128, .inl (fun _ => 0))), (q5, .inl (k6, 128, .inl (fun _ => 0))), (q7, .inl (k8, 1024, .inl (fun _ => 0)))] := hD
  have hP9 := hP.sub (ws' := [(h0, .inr (2, [.ref q1, .ref q3, .ref q5, .ref q7, .int 0])), (q7, .inl (k8, 1024, .inl (fun _ => 0)))]) [0, 4] rfl
  have hD9 := hD.sub (ws' := [(h0, .inr (2, [.ref q1, .ref q3, .ref q5, .ref q7, .int 0])), (q7, .inl (k8, 1024, .inl (fun _ => 0)))]) [0, 4] (by decide) rfl
  have hK9 := hK.sub (tys' := [(k8, .int)]) [3] rfl
  refine W.widen (k := 4) (n := 2304) (Nat.le_of_ble_eq_true rfl) (Nat.le_of_ble_eq_true rfl) ?_
  exact W.vret hx hb hr (fun t ht hW => ⟨⟨(q1, q3, q5, q7, k8), rfl, trivial, by rw [ht]; exact hP9, va_K.moved hW.alike hK9, hD9⟩, hS.F ht⟩) hS.2.2 dX11_init_40

set_option maxHeartbeats 4000000 in
set_option maxRecDepth 100000 in
/-- Request(words) -/
theorem c_Re_init (l : Launch) (dC : Nat → ClassId) (dI : Nat → Nat → Nat) (sz : Nat) (h0 : Nat) (h1 : Nat) : Met l yX8_init wX8_init ({ frames := 2, cells := 5, slots := 2116, locals := 33 }) (va_Pc [.ref h0, .ref h1] (pW (dC, dI) [(h0, .inr (3, [.null, .null, .null, .null, .int 0, .int 0, .null, .null, .null, .long 0, .long 0, .int 0, .int 0, .int 0, .int 0, .int 0, .long 0]))] [] sz)) (va_Qv (fun ((q1, q2, q3, q4) : Nat × Nat × Nat × Nat) => True) (fun ((q1, q2, q3, q4) : Nat × Nat × Nat × Nat) (t : State) => bW (dC, dI) [(h0, .inr (3, [.ref h1, .ref q1, .ref q2, .ref q3, .int 0, .int 0, .ref q4, .null, .null, .long 0, .long 0, .int 0, .int 0, .int 0, .int 0, .int 0, .long 0]))] [] (va_A [(h0, .inr (3, [.null, .null, .null, .null, .int 0, .int 0, .null, .null, .null, .long 0, .long 0, .int 0, .int 0, .int 0, .int 0, .int 0, .long 0]))] sz) t) (va_A [(h0, .inr (3, [.null, .null, .null, .null, .int 0, .int 0, .null, .null, .null, .long 0, .long 0, .int 0, .int 0, .int 0, .int 0, .int 0, .long 0]))] sz)) 5 2116 (va_A [(h0, .inr (3, [.null, .null, .null, .null, .int 0, .int 0, .null, .null, .null, .long 0, .long 0, .int 0, .int 0, .int 0, .int 0, .int 0, .long 0]))] sz) := by
  refine Met.ofW (cc := cX8_init) (maxL := 2) (ret := none) (by decide) rfl ?_
  intro p e s m args below meth c s₁ B hml hv
  obtain ⟨rfl, hsz, hP, hK, hD0, hfx⟩ := hv
  have hx := B.exec
  have hb := B.bytes
  have hr := B.returns
  have hts := atoms_spec (ws := wX8_init) B.pre
  have hkw : ∀ w ∈ kw, w.before _ s = true := fun w h => hts w (List.mem_cons_of_mem _ h)
  have hown : s.vm.findClass RX8 = some m.cls := findClass_of_methodNamed B.named
  have hlocks := B.notSynchronized
  have hin : meth.name = "<init>" := (name_of_methodNamed B.named B.method).1
  subst hsz
  have hD := hD0.self (sz := s.heap.size)
  generalize hAe : va_A [(h0, .inr (3, [.null, .null, .null, .null, .int 0, .int 0, .null, .null, .null, .long 0, .long 0, .int 0, .int 0, .int 0, .int 0, .int 0, .long 0]))] s.heap.size = A at hD ⊢
  have hA : ∀ q : Nat, s.heap.size ≤ q → A q := fun q h => by rw [← hAe]; exact Or.inr h
  have hS : va_S A s.heap s.heap [] := va_S.rf
  have hP : va_P (dC, dI) classes [(h0, .inr (3, [.null, .null, .null, .null, .int 0, .int 0, .null, .null, .null, .long 0, .long 0, .int 0, .int 0, .int 0, .int 0, .int 0, .long 0]))] s.heap := hP
  have hl := lv_entry ([.ref h0, .ref h1]) (n := 2) (Nat.le_of_ble_eq_true rfl)
  rw [lg_entry_eq]
  generalize (lg_sl ([.ref h0, .ref h1]) ++ List.replicate (2 - (lg_sl ([.ref h0, .ref h1])).length) Slot.unset).toArray = ls at hl ⊢
  have hl : lv_has ls 2 [(0, .ref h0), (1, .ref h1)] := hl
  refine lv_aload_n hx hb dX8_init_0 rfl (lv_at hl 0 rfl) ?_
  refine W.objInit hx hb hown (hkw _ m_57) (hkw _ m_1) (hkw _ m_2) rfl (by rw [hml]; exact hl.1) rfl dX8_init_1 (Nat.le_of_ble_eq_true rfl) (Nat.le_of_ble_eq_true rfl) ?_
  refine W.eq (g2 := F0 m 4 ls []) rfl ?_
  refine lv_aload_n hx hb dX8_init_4 rfl (lv_at hl 0 rfl) ?_
  refine lv_sipush (v := 1024) hx hb dX8_init_5 (by decide) ?_
  refine va_newa (atype := .int) (a0 := (1024, .inl (fun _ => 0))) (N' := 1024) (n := 1024) (ty := .int) hx hb (hkw _ m_30) rfl hK hP hD hS hA (fun _ => rfl) (by decide) (by decide) (by decide) (Nat.le_of_ble_eq_true rfl) (Nat.le_of_ble_eq_true rfl) dX8_init_8 (fun q1 k2 H hK hP hD hS => ?_)
  have hP : va_P (dC, dI) classes [(h0, .inr (3, [.null, .null, .null, .null, .int 0, .int 0, .null, .null, .null, .long 0, .long 0, .int 0, .int 0, .int 0, .int 0, .int 0, .long 0])), (q1, .inl (k2, 1024, .inl (fun _ => 0)))] H := hP
  have hD : va_D A [(h0, .inr (3, [.null, .null, .null, .null, .int 0, .int 0, .null, .null, .null, .long 0, .long 0, .int 0, .int 0, .int 0, .int 0, .int 0, .long 0])), (q1, .inl (k2, 1024, .inl (fun _ => 0)))] := hD
  have hK : va_K (dC, dI) classes [(k2, .int)] s := hK
  refine W.widen (k := 1) (n := 1024) (by decide) (by decide) ?_
  refine va_putF (D := (dC, dI)) (ci := 3) (v := .ref q1) (ty := .array .int) (C := RX8) (T := TX8) (N := 17) hx hb hkw kin_X8 tyX8 tyX8_ok nmX8 hown hK hP hD hS 0 rfl rfl 1 (by decide) (hkw _ m_58) (fun _ h9 => h9) rfl hin rfl (by decide +kernel) rfl rfl (Nat.le_of_ble_eq_true rfl) dX8_init_10 (fun H locs hP hD hS => ?_)
  have hP : va_P (dC, dI) classes [(h0, .inr (3, [.null, .ref q1, .null, .null, .int 0, .int 0, .null, .null, .null, .long 0, .long 0, .int 0, .int 0, .int 0, .int 0, .int 0, .long 0])), (q1, .inl (k2, 1024, .inl (fun _ => 0)))] H := hP
  have hD : va_D A [(h0, .inr (3, [.null, .ref q1, .null, .null, .int 0, .int 0, .null, .null, .null, .long 0, .long 0, .int 0, .int 0, .int 0, .int 0, .int 0, .long 0])), (q1, .inl (k2, 1024, .inl (fun _ => 0)))] := hD
  refine lv_aload_n hx hb dX8_init_13 rfl (lv_at hl 0 rfl) ?_
  refine lv_sipush (v := 1024) hx hb dX8_init_14 (by decide) ?_
  refine va_newa (atype := .int) (a0 := (1024, .inl (fun _ => 0))) (N' := 1024) (n := 1024) (ty := .int) hx hb (hkw _ m_30) rfl hK hP hD hS hA (fun _ => rfl) (by decide) (by decide) (by decide) (Nat.le_of_ble_eq_true rfl) (Nat.le_of_ble_eq_true rfl) dX8_init_17 (fun q3 k4 H hK hP hD hS => ?_)
  have hP : va_P (dC, dI) classes [(h0, .inr (3, [.null, .ref q1, .null, .null, .int 0, .int 0, .null, .null, .null, .long 0, .long 0, .int 0, .int 0, .int 0, .int 0, .int 0, .long 0])), (q1, .inl (k2, 1024, .inl (fun _ => 0))), (q3, .inl (k4, 1024, .inl (fun _ => 0)))] H := hP
  have hD : va_D A [(h0, .inr (3, [.null, .ref q1, .null, .null, .int 0, .int 0, .null, .null, .null, .long 0, .long 0, .int 0, .int 0, .int 0, .int 0, .int 0, .long 0])), (q1, .inl (k2, 1024, .inl (fun _ => 0))), (q3, .inl (k4, 1024, .inl (fun _ => 0)))] := hD
  have hK : va_K (dC, dI) classes [(k2, .int), (k4, .int)] s := hK
  refine W.widen (k := 2) (n := 2048) (by decide) (by decide) ?_
  refine va_putF (D := (dC, dI)) (ci := 3) (v := .ref q3) (ty := .array .int) (C := RX8) (T := TX8) (N := 17) hx hb hkw kin_X8 tyX8 tyX8_ok nmX8 hown hK hP hD hS 0 rfl rfl 2 (by decide) (hkw _ m_59) (fun _ h9 => h9) rfl hin rfl (by decide +kernel) rfl rfl (Nat.le_of_ble_eq_true rfl) dX8_init_19 (fun H locs hP hD hS => ?_)
  have hP : va_P (dC, dI) classes [(h0, .inr (3, [.null, .ref q1, .ref q3, .null, .int 0, .int 0, .null, .null, .null, .long 0, .long 0, .int 0, .int 0, .int 0, .int 0, .int 0, .long 0])), (q1, .inl (k2, 1024, .inl (fun _ => 0))), (q3, .inl (k4, 1024, .inl (fun _ => 0)))] H := hP
  have hD : va_D A [(h0, .inr (3, [.null, .ref q1, .ref q3, .null, .int 0, .int 0, .null, .null, .null, .long 0, .long 0, .int 0, .int 0, .int 0, .int 0, .int 0, .long 0])), (q1, .inl (k2, 1024, .inl (fun _ => 0))), (q3, .inl (k4, 1024, .inl (fun _ => 0)))] := hD
  refine lv_aload_n hx hb dX8_init_22 rfl (lv_at hl 0 rfl) ?_
  refine lv_iconst (v := 0) hx hb dX8_init_23 (by decide) ?_
  refine va_newa (atype := .byte) (a0 := (0, .inl (fun _ => 0))) (N' := 0) (n := 0) (ty := .byte) hx hb (hkw _ m_3) rfl hK hP hD hS hA (fun _ => rfl) (by decide) (by decide) (by decide) (Nat.le_of_ble_eq_true rfl) (Nat.le_of_ble_eq_true rfl) dX8_init_24 (fun q5 k6 H hK hP hD hS => ?_)
  have hP : va_P (dC, dI) classes [(h0, .inr (3, [.null, .ref q1, .ref q3, .null, .int 0, .int 0, .null, .null, .null, .long 0, .long 0, .int 0, .int 0, .int 0, .int 0, .int 0, .long 0])), (q1, .inl (k2, 1024, .inl (fun _ => 0))), (q3, .inl (k4, 1024, .inl (fun _ => 0))), (q5, .inl (k6, 0, .inl (fun _ => 0)))] H := hP
  have hD : va_D A [(h0, .inr (3, [.null, .ref q1, .ref q3, .null, .int 0, .int 0, .null, .null, .null, .long 0, .long 0, .int 0, .int 0, .int 0, .int 0, .int 0, .long 0])), (q1, .inl (k2, 1024, .inl (fun _ => 0))), (q3, .inl (k4, 1024, .inl (fun _ => 0))), (q5, .inl (k6, 0, .inl (fun _ => 0)))] := hD
  have hK : va_K (dC, dI) classes [(k2, .int), (k4, .int), (k6, .byte)] s := hK
  refine W.widen (k := 3) (n := 2048) (by decide) (by decide) ?_
  refine va_put (D := (dC, dI)) (ci := 3) (v := .ref q5) (ty := .array .byte) (C := RX8) (T := TX8) (N := 17) hx hb hkw kin_X8 tyX8 tyX8_ok nmX8 hown hK hP hD hS 0 rfl rfl 3 (by decide) (hkw _ m_60) (fun _ h9 => h9) rfl (by decide +kernel) rfl rfl (Nat.le_of_ble_eq_true rfl) dX8_init_26 (fun H locs hP hD hS => ?_)
  have hP : va_P (dC, dI) classes [(h0, .inr (3, [.null, .ref q1, .ref q3, .ref q5, .int 0, .int 0, .null, .null, .null, .long 0, .long 0, .int 0, .int 0, .int 0, .int 0, .int 0, .long 0])), (q1, .inl (k2, 1024, .inl (fun _ => 0))), (q3, .inl (k4, 1024, .inl (fun _ => 0))), (q5, .inl (k6, 0, .inl (fun _ => 0)))] H := hP
  have hD : va_D A [(h0, .inr (3, [.null, .ref q1, .ref q3, .ref q5, .int 0, .int 0, .null, .null, .null, .long 0, .long 0, .int 0, .int 0, .int 0, .int 0, .int 0, .long 0])), (q1, .inl (k2, 1024, .inl (fun _ => 0))), (q3, .inl (k4, 1024, .inl (fun _ => 0))), (q5, .inl (k6, 0, .inl (fun _ => 0)))] := hD
  refine lv_aload_n hx hb dX8_init_29 rfl (lv_at hl 0 rfl) ?_
  refine lv_aload_n hx hb dX8_init_30 rfl (lv_at hl 1 rfl) ?_
  refine va_putF (D := (dC, dI)) (ci := 3) (v := .ref h1) (ty := .object "KeySteward$Words") (C := RX8) (T := TX8) (N := 17) hx hb hkw kin_X8 tyX8 tyX8_ok nmX8 hown hK hP hD hS 0 rfl rfl 0 (by decide) (hkw _ m_61) (fun _ h9 => h9) rfl hin rfl (by decide +kernel) rfl rfl (Nat.le_of_ble_eq_true rfl) dX8_init_31 (fun H locs hP hD hS => ?_)
  have hP : va_P (dC, dI) classes [(h0, .inr (3, [.ref h1, .ref q1, .ref q3, .ref q5, .int 0, .int 0, .null, .null, .null, .long 0, .long 0, .int 0, .int 0, .int 0, .int 0, .int 0, .long 0])), (q1, .inl (k2, 1024, .inl (fun _ => 0))), (q3, .inl (k4, 1024, .inl (fun _ => 0))), (q5, .inl (k6, 0, .inl (fun _ => 0)))] H := hP
  have hD : va_D A [(h0, .inr (3, [.ref h1, .ref q1, .ref q3, .ref q5, .int 0, .int 0, .null, .null, .null, .long 0, .long 0, .int 0, .int 0, .int 0, .int 0, .int 0, .long 0])), (q1, .inl (k2, 1024, .inl (fun _ => 0))), (q3, .inl (k4, 1024, .inl (fun _ => 0))), (q5, .inl (k6, 0, .inl (fun _ => 0)))] := hD
  refine lv_aload_n hx hb dX8_init_34 rfl (lv_at hl 0 rfl) ?_
  refine va_new (ci := 0) (fs := [.int 0, .null, .int 0, .int 0]) (C := RX1) (T := TX1) (N := 4) hx hb hkw kin_X1 tyX1 tyX1_ok hown (hkw _ m_62) (hkw _ m_20) (hkw _ m_9) hK hP hD hS hA rfl (df_X1) (Nat.le_of_ble_eq_true rfl) (Nat.le_of_ble_eq_true rfl) dX8_init_35 (fun q7 H hP hD hS => ?_)
  have hP : va_P (dC, dI) classes [(h0, .inr (3, [.ref h1, .ref q1, .ref q3, .ref q5, .int 0, .int 0, .null, .null, .null, .long 0, .long 0, .int 0, .int 0, .int 0, .int 0, .int 0, .long 0])), (q1, .inl (k2, 1024, .inl (fun _ => 0))), (q3, .inl (k4, 1024, .inl (fun _ => 0))), (q5, .inl (k6, 0, .inl (fun _ => 0))), (q7, .inr (0, [.int 0, .null, .int 0, .int 0]))] H := hP
  have hD : va_D A [(h0, .inr (3, [.ref h1, .ref q1, .ref q3, .ref q5, .int 0, .int 0, .null, .null, .null, .long 0, .long 0, .int 0, .int 0, .int 0, .int 0, .int 0, .long 0])), (q1, .inl (k2, 1024, .inl (fun _ => 0))), (q3, .inl (k4, 1024, .inl (fun _ => 0))), (q5, .inl (k6, 0, .inl (fun _ => 0))), (q7, .inr (0, [.int 0, .null, .int 0, .int 0]))] := hD
  refine W.widen (k := 4) (n := 2052) (by decide) (by decide) ?_
  refine lv_dup hx hb dX8_init_38 rfl ?_
  refine lv_iconst (v := 0) hx hb dX8_init_39 (by decide) ?_
  have hPc := hP.sub (ws' := [(q7, .inr (0, [.int 0, .null, .int 0, .int 0]))]) [4] rfl
  have hDc := hD.sub (ws' := [(q7, .inr (0, [.int 0, .null, .int 0, .int 0]))]) [4] (by decide) rfl
  have hKc := hK.sub (tys' := []) [] rfl
  have hFc := va_free (wc := [(q7, .inr (0, [.int 0, .null, .int 0, .int 0]))]) hD hS hA [4] rfl
  refine va_callv (va_runI (As := [.int 0]) (rest := [.ref q7, .ref h0]) ⟨hx, hb, hml, hown, hkw⟩ (c_By_init l dC dI H.size q7 0) (cwI 1 hkw (kwI m_22) rfl rfl rfl (hkw _ m_9) (hkw _ m_63) (hkw _ m_24) rfl (by decide +kernel) ⟨Nat.le_of_ble_eq_true rfl, Nat.le_of_ble_eq_true rfl⟩) ⟨fbW, pW_in hPc hKc hDc hfx⟩ rfl rfl hl.1 rfl (lv_room (Nat.le_of_ble_eq_true rfl)) dX8_init_40 ⟨Nat.le_of_ble_eq_true rfl, Nat.le_of_ble_eq_true rfl⟩) hS (fun q _ h => hFc q h) hFc (fun u t H1 locs ht hvm hw hB hz1 hk1 hS => ?_)
  obtain ⟨q8, k9⟩ := u
  obtain ⟨hP1, hK1, hD1⟩ := hB
  rw [ht] at hP1
  have hK1 := va_K.moved hvm.symm hK1
  obtain ⟨hP, hD⟩ := va_join (wr := [(h0, .inr (3, [.ref h1, .ref q1, .ref q3, .ref q5, .int 0, .int 0, .null, .null, .null, .long 0, .long 0, .int 0, .int 0, .int 0, .int 0, .int 0, .long 0])), (q1, .inl (k2, 1024, .inl (fun _ => 0))), (q3, .inl (k4, 1024, .inl (fun _ => 0))), (q5, .inl (k6, 0, .inl (fun _ => 0)))]) (w1 := [(q7, .inr (0, [.int 0, .ref q8, .int 0, .int 0])), (q8, .inl (k9, 64, .inl (fun _ => 0)))]) hP hD [4] [0, 1, 2, 3] rfl rfl (by decide) (by decide) hk1 hFc hP1 hD1
  have hK := (hK.sub (tys' := [(k2, .int), (k4, .int), (k6, .byte)]) [0, 1, 2] rfl).app hK1
  generalize H1 = H at hP hS ⊢
  have hP : va_P (dC, dI) classes [(h0, .inr (3, [.ref h1, .ref q1, .ref q3, .ref q5, .int 0, .int 0, .null, .null, .null, .long 0, .long 0, .int 0, .int 0, .int 0, .int 0, .int 0, .long 0])), (q1, .inl (k2, 1024, .inl (fun _ => 0))), (q3, .inl (k4, 1024, .inl (fun _ => 0))), (q5, .inl (k6, 0, .inl (fun _ => 0))), (q7, .inr (0, [.int 0, .ref q8, .int 0, .int 0])), (q8, .inl (k9, 64, .inl (fun _ => 0)))] H := hP
  have hD : va_D A [(h0, .inr (3, [.ref h1, .ref q1, .ref q3, .ref q5, .int 0, .int 0, .null, .null, .null, .long 0, .long 0, .int 0, .int 0, .int 0, .int 0, .int 0, .long 0])), (q1, .inl (k2, 1024, .inl (fun _ => 0))), (q3, .inl (k4, 1024, .inl (fun _ => 0))), (q5, .inl (k6, 0, .inl (fun _ => 0))), (q7, .inr (0, [.int 0, .ref q8, .int 0, .int 0])), (q8, .inl (k9, 64, .inl (fun _ => 0)))] := hD
  have hK : va_K (dC, dI) classes [(k2, .int), (k4, .int), (k6, .byte), (k9, .byte)] s := hK
  refine W.widen (k := 5) (n := 2116) (Nat.le_of_ble_eq_true rfl) (Nat.le_of_ble_eq_true rfl) ?_
  have hw10 := hw
  try dsimp only at hw10
  refine va_put (D := (dC, dI)) (ci := 3) (v := .ref q7) (ty := .object "KeySteward$Bytes") (C := RX8) (T := TX8) (N := 17) hx hb hkw kin_X8 tyX8 tyX8_ok nmX8 hown hK hP hD hS 0 rfl rfl 6 (by decide) (hkw _ m_64) (fun _ h9 => h9) rfl (by decide +kernel) rfl rfl (Nat.le_of_ble_eq_true rfl) dX8_init_43 (fun H locs hP hD hS => ?_)
  have hP : va_P (dC, dI) classes [(h0, .inr (3, [.ref h1, .ref q1, .ref q3, .ref q5, .int 0, .int 0, .ref q7, .null, .null, .long 0, .long 0, .int 0, .int 0, .int 0, .int 0, .int 0, .long 0])), (q1, .inl (k2, 1024, .inl (fun _ => 0))), (q3, .inl (k4, 1024, .inl (fun _ => 0))), (q5, .inl (k6, 0, .inl (fun _ => 0))), (q7, .inr (0, [.int 0, .ref q8, .int 0, .int 0])), (q8, .inl (k9, 64, .inl (fun _ => 0)))] H := hP
  have hD : va_D A [(h0, .inr (3, [.ref h1, .ref q1, .ref q3, .ref q5, .int 0, .int 0, .ref q7, .null, .null, .long 0, .long 0, .int 0, .int 0, .int 0, .int 0, .int 0, .long 0])), (q1, .inl (k2, 1024, .inl (fun _ => 0))), (q3, .inl (k4, 1024, .inl (fun _ => 0))), (q5, .inl (k6, 0, .inl (fun _ => 0))), (q7, .inr (0, [.int 0, .ref q8, .int 0, .int 0])), (q8, .inl (k9, 64, .inl (fun _ => 0)))] := hD
  have hP9 := hP.sub (ws' := [(h0, .inr (3, [.ref h1, .ref q1, .ref q3, .ref q5, .int 0, .int 0, .ref q7, .null, .null, .long 0, .long 0, .int 0, .int 0, .int 0, .int 0, .int 0, .long 0]))]) [0] rfl
  have hD9 := hD.sub (ws' := [(h0, .inr (3, [.ref h1, .ref q1, .ref q3, .ref q5, .int 0, .int 0, .ref q7, .null, .null, .long 0, .long 0, .int 0, .int 0, .int 0, .int 0, .int 0, .long 0]))]) [0] (by decide) rfl
  have hK9 := hK.sub (tys' := []) [] rfl
  refine W.widen (k := 5) (n := 2116) (Nat.le_of_ble_eq_true rfl) (Nat.le_of_ble_eq_true rfl) ?_
  exact W.vret hx hb hr (fun t ht hW => ⟨⟨(q1, q3, q5, q7), rfl, trivial, by rw [ht]; exact hP9, va_K.moved hW.alike hK9, hD9⟩, hS.F ht⟩) hS.2.2 dX8_init_46

set_option maxHeartbeats 4000000 in
set_option maxRecDepth 100000 in
/-- Keys(words, ask, watchers) -/
theorem c_Ke_init (l : Launch) (dC : Nat → ClassId) (dI : Nat → Nat → Nat) (sz : Nat) (h0 : Nat) (h1 : Nat) (h2 : Nat) (h3 : Nat) : Met l yX4_init wX4_init ({ frames := 1, cells := 7, slots := 320, locals := 12 }) (va_Pc [.ref h0, .ref h1, .ref h2, .ref h3] (pW (dC, dI) [(h0, .inr (4, [.null, .null, .null, .null, .null, .null, .int 0, .null, .null, .int 0, .null, .null, .int 0, .int 0, .int 0, .int 0, .long 0, .int 0, .int 0]))] [] sz)) (va_Qv (fun ((q1, q2, q3, q4, q5, q6, q7) : Nat × Nat × Nat × Nat × Nat × Nat × Nat) => True) (fun ((q1, q2, q3, q4, q5, q6, q7) : Nat × Nat × Nat × Nat × Nat × Nat × Nat) (t : State) => bW (dC, dI) [(h0, .inr (4, [.ref h1, .ref h2, .ref h3, .ref q1, .ref q2, .ref q3, .int 0, .ref q4, .ref q5, .int 0, .ref q6, .ref q7, .int 0, .int 0, .int 0, .int 0, .long 0, .int 0, .int 0]))] [] (va_A [(h0, .inr (4, [.null, .null, .null, .null, .null, .null, .int 0, .null, .null, .int 0, .null, .null, .int 0, .int 0, .int 0, .int 0, .long 0, .int 0, .int 0]))] sz) t) (va_A [(h0, .inr (4, [.null, .null, .null, .null, .null, .null, .int 0, .null, .null, .int 0, .null, .null, .int 0, .int 0, .int 0, .int 0, .long 0, .int 0, .int 0]))] sz)) 7 320 (va_A [(h0, .inr (4, [.null, .null, .null, .null, .null, .null, .int 0, .null, .null, .int 0, .null, .null, .int 0, .int 0, .int 0, .int 0, .long 0, .int 0, .int 0]))] sz) := by
  refine Met.ofW (cc := cX4_init) (maxL := 4) (ret := none) (by decide) rfl ?_
  intro p e s m args below meth c s₁ B hml hv
  obtain ⟨rfl, hsz, hP, hK, hD0, hfx⟩ := hv
  have hx := B.exec
  have hb := B.bytes
  have hr := B.returns
  have hts := atoms_spec (ws := wX4_init) B.pre
  have hkw : ∀ w ∈ kw, w.before _ s = true := fun w h => hts w (List.mem_cons_of_mem _ h)
  have hown : s.vm.findClass RX4 = some m.cls := findClass_of_methodNamed B.named
  have hlocks := B.notSynchronized
  have hin : meth.name = "<init>" := (name_of_methodNamed B.named B.method).1
  subst hsz
  have hD := hD0.self (sz := s.heap.size)
  generalize hAe : va_A [(h0, .inr (4, [.null, .null, .null, .null, .null, .null, .int 0, .null, .null, .int 0, .null, .null, .int 0, .int 0, .int 0, .int 0, .long 0, .int 0, .int 0]))] s.heap.size = A at hD ⊢
  have hA : ∀ q : Nat, s.heap.size ≤ q → A q := fun q h => by rw [← hAe]; exact Or.inr h
  have hS : va_S A s.heap s.heap [] := va_S.rf
  have hP : va_P (dC, dI) classes [(h0, .inr (4, [.null, .null, .null, .null, .null, .null, .int 0, .null, .null, .int 0, .null, .null, .int 0, .int 0, .int 0, .int 0, .long 0, .int 0, .int 0]))] s.heap := hP
  have hl := lv_entry ([.ref h0, .ref h1, .ref h2, .ref h3]) (n := 4) (Nat.le_of_ble_eq_true rfl)
  rw [lg_entry_eq]
  generalize (lg_sl ([.ref h0, .ref h1, .ref h2, .ref h3]) ++ List.replicate (4 - (lg_sl ([.ref h0, .ref h1, .ref h2, .ref h3])).length) Slot.unset).toArray = ls at hl ⊢
  have hl : lv_has ls 4 [(0, .ref h0), (1, .ref h1), (2, .ref h2), (3, .ref h3)] := hl
  refine lv_aload_n hx hb dX4_init_0 rfl (lv_at hl 0 rfl) ?_
  refine W.objInit hx hb hown (hkw _ m_65) (hkw _ m_1) (hkw _ m_2) rfl (by rw [hml]; exact hl.1) rfl dX4_init_1 (Nat.le_of_ble_eq_true rfl) (Nat.le_of_ble_eq_true rfl) ?_
  refine W.eq (g2 := F0 m 4 ls []) rfl ?_
  refine lv_aload_n hx hb dX4_init_4 rfl (lv_at hl 0 rfl) ?_
  refine lv_bipush (v := 64) hx hb dX4_init_5 (by decide) ?_
  refine va_newa (atype := .int) (a0 := (64, .inl (fun _ => 0))) (N' := 64) (n := 64) (ty := .int) hx hb (hkw _ m_30) rfl hK hP hD hS hA (fun _ => rfl) (by decide) (by decide) (by decide) (Nat.le_of_ble_eq_true rfl) (Nat.le_of_ble_eq_true rfl) dX4_init_7 (fun q1 k2 H hK hP hD hS => ?_)
  have hP : va_P (dC, dI) classes [(h0, .inr (4, [.null, .null, .null, .null, .null, .null, .int 0, .null, .null, .int 0, .null, .null, .int 0, .int 0, .int 0, .int 0, .long 0, .int 0, .int 0])), (q1, .inl (k2, 64, .inl (fun _ => 0)))] H := hP
  have hD : va_D A [(h0, .inr (4, [.null, .null, .null, .null, .null, .null, .int 0, .null, .null, .int 0, .null, .null, .int 0, .int 0, .int 0, .int 0, .long 0, .int 0, .int 0])), (q1, .inl (k2, 64, .inl (fun _ => 0)))] := hD
  have hK : va_K (dC, dI) classes [(k2, .int)] s := hK
  refine W.widen (k := 1) (n := 64) (by decide) (by decide) ?_
  refine va_put (D := (dC, dI)) (ci := 4) (v := .ref q1) (ty := .array .int) (C := RX4) (T := TX4) (N := 19) hx hb hkw kin_X4 tyX4 tyX4_ok nmX4 hown hK hP hD hS 0 rfl rfl 3 (by decide) (hkw _ m_66) (fun _ h9 => h9) rfl (by decide +kernel) rfl rfl (Nat.le_of_ble_eq_true rfl) dX4_init_9 (fun H locs hP hD hS => ?_)
  have hP : va_P (dC, dI) classes [(h0, .inr (4, [.null, .null, .null, .ref q1, .null, .null, .int 0, .null, .null, .int 0, .null, .null, .int 0, .int 0, .int 0, .int 0, .long 0, .int 0, .int 0])), (q1, .inl (k2, 64, .inl (fun _ => 0)))] H := hP
  have hD : va_D A [(h0, .inr (4, [.null, .null, .null, .ref q1, .null, .null, .int 0, .null, .null, .int 0, .null, .null, .int 0, .int 0, .int 0, .int 0, .long 0, .int 0, .int 0])), (q1, .inl (k2, 64, .inl (fun _ => 0)))] := hD
  refine lv_aload_n hx hb dX4_init_12 rfl (lv_at hl 0 rfl) ?_
  refine lv_bipush (v := 64) hx hb dX4_init_13 (by decide) ?_
  refine va_newa (atype := .int) (a0 := (64, .inl (fun _ => 0))) (N' := 64) (n := 64) (ty := .int) hx hb (hkw _ m_30) rfl hK hP hD hS hA (fun _ => rfl) (by decide) (by decide) (by decide) (Nat.le_of_ble_eq_true rfl) (Nat.le_of_ble_eq_true rfl) dX4_init_15 (fun q3 k4 H hK hP hD hS => ?_)
  have hP : va_P (dC, dI) classes [(h0, .inr (4, [.null, .null, .null, .ref q1, .null, .null, .int 0, .null, .null, .int 0, .null, .null, .int 0, .int 0, .int 0, .int 0, .long 0, .int 0, .int 0])), (q1, .inl (k2, 64, .inl (fun _ => 0))), (q3, .inl (k4, 64, .inl (fun _ => 0)))] H := hP
  have hD : va_D A [(h0, .inr (4, [.null, .null, .null, .ref q1, .null, .null, .int 0, .null, .null, .int 0, .null, .null, .int 0, .int 0, .int 0, .int 0, .long 0, .int 0, .int 0])), (q1, .inl (k2, 64, .inl (fun _ => 0))), (q3, .inl (k4, 64, .inl (fun _ => 0)))] := hD
  have hK : va_K (dC, dI) classes [(k2, .int), (k4, .int)] s := hK
  refine W.widen (k := 2) (n := 128) (by decide) (by decide) ?_
  refine va_put (D := (dC, dI)) (ci := 4) (v := .ref q3) (ty := .array .int) (C := RX4) (T := TX4) (N := 19) hx hb hkw kin_X4 tyX4 tyX4_ok nmX4 hown hK hP hD hS 0 rfl rfl 4 (by decide) (hkw _ m_67) (fun _ h9 => h9) rfl (by decide +kernel) rfl rfl (Nat.le_of_ble_eq_true rfl) dX4_init_17 (fun H locs hP hD hS => ?_)
  have hP : va_P (dC, dI) classes [(h0, .inr (4, [.null, .null, .null, .ref q1, .ref q3, .null, .int 0, .null, .null, .int 0, .null, .null, .int 0, .int 0, .int 0, .int 0, .long 0, .int 0, .int 0])), (q1, .inl (k2, 64, .inl (fun _ => 0))), (q3, .inl (k4, 64, .inl (fun _ => 0)))] H := hP
  have hD : va_D A [(h0, .inr (4, [.null, .null, .null, .ref q1, .ref q3, .null, .int 0, .null, .null, .int 0, .null, .null, .int 0, .int 0, .int 0, .int 0, .long 0, .int 0, .int 0])), (q1, .inl (k2, 64, .inl (fun _ => 0))), (q3, .inl (k4, 64, .inl (fun _ => 0)))] := hD
  refine lv_aload_n hx hb dX4_init_20 rfl (lv_at hl 0 rfl) ?_
  refine lv_bipush (v := 64) hx hb dX4_init_21 (by decide) ?_
  refine va_newq (C := "KeySteward$Value") (N' := 64) (n := 64) hx hb hown (hkw _ m_68) (hfx.2.1) hK hP hD hS hA (by decide) (by decide) (by decide) (Nat.le_of_ble_eq_true rfl) (Nat.le_of_ble_eq_true rfl) dX4_init_23 (fun q5 k6 H hK hP hD hS => ?_)
  have hP : va_P (dC, dI) classes [(h0, .inr (4, [.null, .null, .null, .ref q1, .ref q3, .null, .int 0, .null, .null, .int 0, .null, .null, .int 0, .int 0, .int 0, .int 0, .long 0, .int 0, .int 0])), (q1, .inl (k2, 64, .inl (fun _ => 0))), (q3, .inl (k4, 64, .inl (fun _ => 0))), (q5, .inl (k6, 64, .inr (.inr (.inr (.inr (fun _ => none))))))] H := hP
  have hD : va_D A [(h0, .inr (4, [.null, .null, .null, .ref q1, .ref q3, .null, .int 0, .null, .null, .int 0, .null, .null, .int 0, .int 0, .int 0, .int 0, .long 0, .int 0, .int 0])), (q1, .inl (k2, 64, .inl (fun _ => 0))), (q3, .inl (k4, 64, .inl (fun _ => 0))), (q5, .inl (k6, 64, .inr (.inr (.inr (.inr (fun _ => none))))))] := hD
  have hK : va_K (dC, dI) classes [(k2, .int), (k4, .int), (k6, .object "KeySteward$Value")] s := hK
  refine W.widen (k := 3) (n := 192) (by decide) (by decide) ?_
  refine va_put (D := (dC, dI)) (ci := 4) (v := .ref q5) (ty := .array (.object "KeySteward$Value")) (C := RX4) (T := TX4) (N := 19) hx hb hkw kin_X4 tyX4 tyX4_ok nmX4 hown hK hP hD hS 0 rfl rfl 5 (by decide) (hkw _ m_69) (fun _ h9 => h9) rfl (by decide +kernel) rfl rfl (Nat.le_of_ble_eq_true rfl) dX4_init_26 (fun H locs hP hD hS => ?_)
  have hP : va_P (dC, dI) classes [(h0, .inr (4, [.null, .null, .null, .ref q1, .ref q3, .ref q5, .int 0, .null, .null, .int 0, .null, .null, .int 0, .int 0, .int 0, .int 0, .long 0, .int 0, .int 0])), (q1, .inl (k2, 64, .inl (fun _ => 0))), (q3, .inl (k4, 64, .inl (fun _ => 0))), (q5, .inl (k6, 64, .inr (.inr (.inr (.inr (fun _ => none))))))] H := hP
  have hD : va_D A [(h0, .inr (4, [.null, .null, .null, .ref q1, .ref q3, .ref q5, .int 0, .null, .null, .int 0, .null, .null, .int 0, .int 0, .int 0, .int 0, .long 0, .int 0, .int 0])), (q1, .inl (k2, 64, .inl (fun _ => 0))), (q3, .inl (k4, 64, .inl (fun _ => 0))), (q5, .inl (k6, 64, .inr (.inr (.inr (.inr (fun _ => none))))))] := hD
  refine lv_aload_n hx hb dX4_init_29 rfl (lv_at hl 0 rfl) ?_
  refine lv_bipush (v := 64) hx hb dX4_init_30 (by decide) ?_
  refine va_newa (atype := .byte) (a0 := (64, .inl (fun _ => 0))) (N' := 64) (n := 64) (ty := .byte) hx hb (hkw _ m_3) rfl hK hP hD hS hA (fun _ => rfl) (by decide) (by decide) (by decide) (Nat.le_of_ble_eq_true rfl) (Nat.le_of_ble_eq_true rfl) dX4_init_32 (fun q7 k8 H hK hP hD hS => ?_)
  have hP : va_P (dC, dI) classes [(h0, .inr (4, [.null, .null, .null, .ref q1, .ref q3, .ref q5, .int 0, .null, .null, .int 0, .null, .null, .int 0, .int 0, .int 0, .int 0, .long 0, .int 0, .int 0])), (q1, .inl (k2, 64, .inl (fun _ => 0))), (q3, .inl (k4, 64, .inl (fun _ => 0))), (q5, .inl (k6, 64, .inr (.inr (.inr (.inr (fun _ => none)))))), (q7, .inl (k8, 64, .inl (fun _ => 0)))] H := hP
  have hD : va_D A [(h0, .inr (4, [.null, .null, .null, .ref q1, .ref q3, .ref q5, .int 0, .null, .null, .int 0, .null, .null, .int 0, .int 0, .int 0, .int 0, .long 0, .int 0, .int 0])), (q1, .inl (k2, 64, .inl (fun _ => 0))), (q3, .inl (k4, 64, .inl (fun _ => 0))), (q5, .inl (k6, 64, .inr (.inr (.inr (.inr (fun _ => none)))))), (q7, .inl (k8, 64, .inl (fun _ => 0)))] := hD
  have hK : va_K (dC, dI) classes [(k2, .int), (k4, .int), (k6, .object "KeySteward$Value"), (k8, .byte)] s := hK
  refine W.widen (k := 4) (n := 256) (by decide) (by decide) ?_
  refine va_put (D := (dC, dI)) (ci := 4) (v := .ref q7) (ty := .array .byte) (C := RX4) (T := TX4) (N := 19) hx hb hkw kin_X4 tyX4 tyX4_ok nmX4 hown hK hP hD hS 0 rfl rfl 7 (by decide) (hkw _ m_70) (fun _ h9 => h9) rfl (by decide +kernel) rfl rfl (Nat.le_of_ble_eq_true rfl) dX4_init_34 (fun H locs hP hD hS => ?_)
  have hP : va_P (dC, dI) classes [(h0, .inr (4, [.null, .null, .null, .ref q1, .ref q3, .ref q5, .int 0, .ref q7, .null, .int 0, .null, .null, .int 0, .int 0, .int 0, .int 0, .long 0, .int 0, .int 0])), (q1, .inl (k2, 64, .inl (fun _ => 0))), (q3, .inl (k4, 64, .inl (fun _ => 0))), (q5, .inl (k6, 64, .inr (.inr (.inr (.inr (fun _ => none)))))), (q7, .inl (k8, 64, .inl (fun _ => 0)))] H := hP
  have hD : va_D A [(h0, .inr (4, [.null, .null, .null, .ref q1, .ref q3, .ref q5, .int 0, .ref q7, .null, .int 0, .null, .null, .int 0, .int 0, .int 0, .int 0, .long 0, .int 0, .int 0])), (q1, .inl (k2, 64, .inl (fun _ => 0))), (q3, .inl (k4, 64, .inl (fun _ => 0))), (q5, .inl (k6, 64, .inr (.inr (.inr (.inr (fun _ => none)))))), (q7, .inl (k8, 64, .inl (fun _ => 0)))] := hD
  refine lv_aload_n hx hb dX4_init_37 rfl (lv_at hl 0 rfl) ?_
  refine lv_iconst (v := 0) hx hb dX4_init_38 (by decide) ?_
  refine va_newa (atype := .byte) (a0 := (0, .inl (fun _ => 0))) (N' := 0) (n := 0) (ty := .byte) hx hb (hkw _ m_3) rfl hK hP hD hS hA (fun _ => rfl) (by decide) (by decide) (by decide) (Nat.le_of_ble_eq_true rfl) (Nat.le_of_ble_eq_true rfl) dX4_init_39 (fun q9 k10 H hK hP hD hS => ?_)
  have hP : va_P (dC, dI) classes [(h0, .inr (4, [.null, .null, .null, .ref q1, .ref q3, .ref q5, .int 0, .ref q7, .null, .int 0, .null, .null, .int 0, .int 0, .int 0, .int 0, .long 0, .int 0, .int 0])), (q1, .inl (k2, 64, .inl (fun _ => 0))), (q3, .inl (k4, 64, .inl (fun _ => 0))), (q5, .inl (k6, 64, .inr (.inr (.inr (.inr (fun _ => none)))))), (q7, .inl (k8, 64, .inl (fun _ => 0))), (q9, .inl (k10, 0, .inl (fun _ => 0)))] H := hP
  have hD : va_D A [(h0, .inr (4, [.null, .null, .null, .ref q1, .ref q3, .ref q5, .int 0, .ref q7, .null, .int 0, .null, .null, .int 0, .int 0, .int 0, .int 0, .long 0, .int 0, .int 0])), (q1, .inl (k2, 64, .inl (fun _ => 0))), (q3, .inl (k4, 64, .inl (fun _ => 0))), (q5, .inl (k6, 64, .inr (.inr (.inr (.inr (fun _ => none)))))), (q7, .inl (k8, 64, .inl (fun _ => 0))), (q9, .inl (k10, 0, .inl (fun _ => 0)))] := hD
  have hK : va_K (dC, dI) classes [(k2, .int), (k4, .int), (k6, .object "KeySteward$Value"), (k8, .byte), (k10, .byte)] s := hK
  refine W.widen (k := 5) (n := 256) (by decide) (by decide) ?_
  refine va_put (D := (dC, dI)) (ci := 4) (v := .ref q9) (ty := .array .byte) (C := RX4) (T := TX4) (N := 19) hx hb hkw kin_X4 tyX4 tyX4_ok nmX4 hown hK hP hD hS 0 rfl rfl 8 (by decide) (hkw _ m_71) (fun _ h9 => h9) rfl (by decide +kernel) rfl rfl (Nat.le_of_ble_eq_true rfl) dX4_init_41 (fun H locs hP hD hS => ?_)
  have hP : va_P (dC, dI) classes [(h0, .inr (4, [.null, .null, .null, .ref q1, .ref q3, .ref q5, .int 0, .ref q7, .ref q9, .int 0, .null, .null, .int 0, .int 0, .int 0, .int 0, .long 0, .int 0, .int 0])), (q1, .inl (k2, 64, .inl (fun _ => 0))), (q3, .inl (k4, 64, .inl (fun _ => 0))), (q5, .inl (k6, 64, .inr (.inr (.inr (.inr (fun _ => none)))))), (q7, .inl (k8, 64, .inl (fun _ => 0))), (q9, .inl (k10, 0, .inl (fun _ => 0)))] H := hP
  have hD : va_D A [(h0, .inr (4, [.null, .null, .null, .ref q1, .ref q3, .ref q5, .int 0, .ref q7, .ref q9, .int 0, .null, .null, .int 0, .int 0, .int 0, .int 0, .long 0, .int 0, .int 0])), (q1, .inl (k2, 64, .inl (fun _ => 0))), (q3, .inl (k4, 64, .inl (fun _ => 0))), (q5, .inl (k6, 64, .inr (.inr (.inr (.inr (fun _ => none)))))), (q7, .inl (k8, 64, .inl (fun _ => 0))), (q9, .inl (k10, 0, .inl (fun _ => 0)))] := hD
  refine lv_aload_n hx hb dX4_init_44 rfl (lv_at hl 0 rfl) ?_
  refine lv_bipush (v := 64) hx hb dX4_init_45 (by decide) ?_
  refine va_newa (atype := .long) (a0 := (64, .inr (.inl (fun _ => 0)))) (N' := 64) (n := 64) (ty := .long) hx hb (hkw _ m_72) rfl hK hP hD hS hA (fun _ => rfl) (by decide) (by decide) (by decide) (Nat.le_of_ble_eq_true rfl) (Nat.le_of_ble_eq_true rfl) dX4_init_47 (fun q11 k12 H hK hP hD hS => ?_)
  have hP : va_P (dC, dI) classes [(h0, .inr (4, [.null, .null, .null, .ref q1, .ref q3, .ref q5, .int 0, .ref q7, .ref q9, .int 0, .null, .null, .int 0, .int 0, .int 0, .int 0, .long 0, .int 0, .int 0])), (q1, .inl (k2, 64, .inl (fun _ => 0))), (q3, .inl (k4, 64, .inl (fun _ => 0))), (q5, .inl (k6, 64, .inr (.inr (.inr (.inr (fun _ => none)))))), (q7, .inl (k8, 64, .inl (fun _ => 0))), (q9, .inl (k10, 0, .inl (fun _ => 0))), (q11, .inl (k12, 64, .inr (.inl (fun _ => 0))))] H := hP
  have hD : va_D A [(h0, .inr (4, [.null, .null, .null, .ref q1, .ref q3, .ref q5, .int 0, .ref q7, .ref q9, .int 0, .null, .null, .int 0, .int 0, .int 0, .int 0, .long 0, .int 0, .int 0])), (q1, .inl (k2, 64, .inl (fun _ => 0))), (q3, .inl (k4, 64, .inl (fun _ => 0))), (q5, .inl (k6, 64, .inr (.inr (.inr (.inr (fun _ => none)))))), (q7, .inl (k8, 64, .inl (fun _ => 0))), (q9, .inl (k10, 0, .inl (fun _ => 0))), (q11, .inl (k12, 64, .inr (.inl (fun _ => 0))))] := hD
  have hK : va_K (dC, dI) classes [(k2, .int), (k4, .int), (k6, .object "KeySteward$Value"), (k8, .byte), (k10, .byte), (k12, .long)] s := hK
  refine W.widen (k := 6) (n := 320) (by decide) (by decide) ?_
  refine va_put (D := (dC, dI)) (ci := 4) (v := .ref q11) (ty := .array .long) (C := RX4) (T := TX4) (N := 19) hx hb hkw kin_X4 tyX4 tyX4_ok nmX4 hown hK hP hD hS 0 rfl rfl 10 (by decide) (hkw _ m_73) (fun _ h9 => h9) rfl (by decide +kernel) rfl rfl (Nat.le_of_ble_eq_true rfl) dX4_init_49 (fun H locs hP hD hS => ?_)
  have hP : va_P (dC, dI) classes [(h0, .inr (4, [.null, .null, .null, .ref q1, .ref q3, .ref q5, .int 0, .ref q7, .ref q9, .int 0, .ref q11, .null, .int 0, .int 0, .int 0, .int 0, .long 0, .int 0, .int 0])), (q1, .inl (k2, 64, .inl (fun _ => 0))), (q3, .inl (k4, 64, .inl (fun _ => 0))), (q5, .inl (k6, 64, .inr (.inr (.inr (.inr (fun _ => none)))))), (q7, .inl (k8, 64, .inl (fun _ => 0))), (q9, .inl (k10, 0, .inl (fun _ => 0))), (q11, .inl (k12, 64, .inr (.inl (fun _ => 0))))] H := hP
  have hD : va_D A [(h0, .inr (4, [.null, .null, .null, .ref q1, .ref q3, .ref q5, .int 0, .ref q7, .ref q9, .int 0, .ref q11, .null, .int 0, .int 0, .int 0, .int 0, .long 0, .int 0, .int 0])), (q1, .inl (k2, 64, .inl (fun _ => 0))), (q3, .inl (k4, 64, .inl (fun _ => 0))), (q5, .inl (k6, 64, .inr (.inr (.inr (.inr (fun _ => none)))))), (q7, .inl (k8, 64, .inl (fun _ => 0))), (q9, .inl (k10, 0, .inl (fun _ => 0))), (q11, .inl (k12, 64, .inr (.inl (fun _ => 0))))] := hD
  refine lv_aload_n hx hb dX4_init_52 rfl (lv_at hl 0 rfl) ?_
  refine lv_iconst (v := 0) hx hb dX4_init_53 (by decide) ?_
  refine va_newa (atype := .long) (a0 := (0, .inr (.inl (fun _ => 0)))) (N' := 0) (n := 0) (ty := .long) hx hb (hkw _ m_72) rfl hK hP hD hS hA (fun _ => rfl) (by decide) (by decide) (by decide) (Nat.le_of_ble_eq_true rfl) (Nat.le_of_ble_eq_true rfl) dX4_init_54 (fun q13 k14 H hK hP hD hS => ?_)
  have hP : va_P (dC, dI) classes [(h0, .inr (4, [.null, .null, .null, .ref q1, .ref q3, .ref q5, .int 0, .ref q7, .ref q9, .int 0, .ref q11, .null, .int 0, .int 0, .int 0, .int 0, .long 0, .int 0, .int 0])), (q1, .inl (k2, 64, .inl (fun _ => 0))), (q3, .inl (k4, 64, .inl (fun _ => 0))), (q5, .inl (k6, 64, .inr (.inr (.inr (.inr (fun _ => none)))))), (q7, .inl (k8, 64, .inl (fun _ => 0))), (q9, .inl (k10, 0, .inl (fun _ => 0))), (q11, .inl (k12, 64, .inr (.inl (fun _ => 0)))), (q13, .inl (k14, 0, .inr (.inl (fun _ => 0))))] H := hP
  have hD : va_D A [(h0, .inr (4, [.null, .null, .null, .ref q1, .ref q3, .ref q5, .int 0, .ref q7, .ref q9, .int 0, .ref q11, .null, .int 0, .int 0, .int 0, .int 0, .long 0, .int 0, .int 0])), (q1, .inl (k2, 64, .inl (fun _ => 0))), (q3, .inl (k4, 64, .inl (fun _ => 0))), (q5, .inl (k6, 64, .inr (.inr (.inr (.inr (fun _ => none)))))), (q7, .inl (k8, 64, .inl (fun _ => 0))), (q9, .inl (k10, 0, .inl (fun _ => 0))), (q11, .inl (k12, 64, .inr (.inl (fun _ => 0)))), (q13, .inl (k14, 0, .inr (.inl (fun _ => 0))))] := hD
  have hK : va_K (dC, dI) classes [(k2, .int), (k4, .int), (k6, .object "KeySteward$Value"), (k8, .byte), (k10, .byte), (k12, .long), (k14, .long)] s := hK
  refine W.widen (k := 7) (n := 320) (by decide) (by decide) ?_
  refine va_put (D := (dC, dI)) (ci := 4) (v := .ref q13) (ty := .array .long) (C := RX4) (T := TX4) (N := 19) hx hb hkw kin_X4 tyX4 tyX4_ok nmX4 hown hK hP hD hS 0 rfl rfl 11 (by decide) (hkw _ m_74) (fun _ h9 => h9) rfl (by decide +kernel) rfl rfl (Nat.le_of_ble_eq_true rfl) dX4_init_56 (fun H locs hP hD hS => ?_)
  have hP : va_P (dC, dI) classes [(h0, .inr (4, [.null, .null, .null, .ref q1, .ref q3, .ref q5, .int 0, .ref q7, .ref q9, .int 0, .ref q11, .ref q13, .int 0, .int 0, .int 0, .int 0, .long 0, .int 0, .int 0])), (q1, .inl (k2, 64, .inl (fun _ => 0))), (q3, .inl (k4, 64, .inl (fun _ => 0))), (q5, .inl (k6, 64, .inr (.inr (.inr (.inr (fun _ => none)))))), (q7, .inl (k8, 64, .inl (fun _ => 0))), (q9, .inl (k10, 0, .inl (fun _ => 0))), (q11, .inl (k12, 64, .inr (.inl (fun _ => 0)))), (q13, .inl (k14, 0, .inr (.inl (fun _ => 0))))] H := hP
  have hD : va_D A [(h0, .inr (4, [.null, .null, .null, .ref q1, .ref q3, .ref q5, .int 0, .ref q7, .ref q9, .int 0, .ref q11, .ref q13, .int 0, .int 0, .int 0, .int 0, .long 0, .int 0, .int 0])), (q1, .inl (k2, 64, .inl (fun _ => 0))), (q3, .inl (k4, 64, .inl (fun _ => 0))), (q5, .inl (k6, 64, .inr (.inr (.inr (.inr (fun _ => none)))))), (q7, .inl (k8, 64, .inl (fun _ => 0))), (q9, .inl (k10, 0, .inl (fun _ => 0))), (q11, .inl (k12, 64, .inr (.inl (fun _ => 0)))), (q13, .inl (k14, 0, .inr (.inl (fun _ => 0))))] := hD
  refine lv_aload_n hx hb dX4_init_59 rfl (lv_at hl 0 rfl) ?_
  refine lv_aload_n hx hb dX4_init_60 rfl (lv_at hl 1 rfl) ?_
  refine va_putF (D := (dC, dI)) (ci := 4) (v := .ref h1) (ty := .object "KeySteward$Words") (C := RX4) (T := TX4) (N := 19) hx hb hkw kin_X4 tyX4 tyX4_ok nmX4 hown hK hP hD hS 0 rfl rfl 0 (by decide) (hkw _ m_75) (fun _ h9 => h9) rfl hin rfl (by decide +kernel) rfl rfl (Nat.le_of_ble_eq_true rfl) dX4_init_61 (fun H locs hP hD hS => ?_)
  have hP : va_P (dC, dI) classes [(h0, .inr (4, [.ref h1, .null, .null, .ref q1, .ref q3, .ref q5, .int 0, .ref q7, .ref q9, .int 0, .ref q11, .ref q13, .int 0, .int 0, .int 0, .int 0, .long 0, .int 0, .int 0])), (q1, .inl (k2, 64, .inl (fun _ => 0))), (q3, .inl (k4, 64, .inl (fun _ => 0))), (q5, .inl (k6, 64, .inr (.inr (.inr (.inr (fun _ => none)))))), (q7, .inl (k8, 64, .inl (fun _ => 0))), (q9, .inl (k10, 0, .inl (fun _ => 0))), (q11, .inl (k12, 64, .inr (.inl (fun _ => 0)))), (q13, .inl (k14, 0, .inr (.inl (fun _ => 0))))] H := hP
  have hD : va_D A [(h0, .inr (4, [.ref h1, .null, .null, .ref q1, .ref q3, .ref q5, .int 0, .ref q7, .ref q9, .int 0, .ref q11, .ref q13, .int 0, .int 0, .int 0, .int 0, .long 0, .int 0, .int 0])), (q1, .inl (k2, 64, .inl (fun _ => 0))), (q3, .inl (k4, 64, .inl (fun _ => 0))), (q5, .inl (k6, 64, .inr (.inr (.inr (.inr (fun _ => none)))))), (q7, .inl (k8, 64, .inl (fun _ => 0))), (q9, .inl (k10, 0, .inl (fun _ => 0))), (q11, .inl (k12, 64, .inr (.inl (fun _ => 0)))), (q13, .inl (k14, 0, .inr (.inl (fun _ => 0))))] := hD
  refine lv_aload_n hx hb dX4_init_64 rfl (lv_at hl 0 rfl) ?_
  refine lv_aload_n hx hb dX4_init_65 rfl (lv_at hl 2 rfl) ?_
  refine va_putF (D := (dC, dI)) (ci := 4) (v := .ref h2) (ty := .object "KeySteward$Request") (C := RX4) (T := TX4) (N := 19) hx hb hkw kin_X4 tyX4 tyX4_ok nmX4 hown hK hP hD hS 0 rfl rfl 1 (by decide) (hkw _ m_76) (fun _ h9 => h9) rfl hin rfl (by decide +kernel) rfl rfl (Nat.le_of_ble_eq_true rfl) dX4_init_66 (fun H locs hP hD hS => ?_)
  have hP : va_P (dC, dI) classes [(h0, .inr (4, [.ref h1, .ref h2, .null, .ref q1, .ref q3, .ref q5, .int 0, .ref q7, .ref q9, .int 0, .ref q11, .ref q13, .int 0, .int 0, .int 0, .int 0, .long 0, .int 0, .int 0])), (q1, .inl (k2, 64, .inl (fun _ => 0))), (q3, .inl (k4, 64, .inl (fun _ => 0))), (q5, .inl (k6, 64, .inr (.inr (.inr (.inr (fun _ => none)))))), (q7, .inl (k8, 64, .inl (fun _ => 0))), (q9, .inl (k10, 0, .inl (fun _ => 0))), (q11, .inl (k12, 64, .inr (.inl (fun _ => 0)))), (q13, .inl (k14, 0, .inr (.inl (fun _ => 0))))] H := hP
  have hD : va_D A [(h0, .inr (4, [.ref h1, .ref h2, .null, .ref q1, .ref q3, .ref q5, .int 0, .ref q7, .ref q9, .int 0, .ref q11, .ref q13, .int 0, .int 0, .int 0, .int 0, .long 0, .int 0, .int 0])), (q1, .inl (k2, 64, .inl (fun _ => 0))), (q3, .inl (k4, 64, .inl (fun _ => 0))), (q5, .inl (k6, 64, .inr (.inr (.inr (.inr (fun _ => none)))))), (q7, .inl (k8, 64, .inl (fun _ => 0))), (q9, .inl (k10, 0, .inl (fun _ => 0))), (q11, .inl (k12, 64, .inr (.inl (fun _ => 0)))), (q13, .inl (k14, 0, .inr (.inl (fun _ => 0))))] := hD
  refine lv_aload_n hx hb dX4_init_69 rfl (lv_at hl 0 rfl) ?_
  refine lv_aload_n hx hb dX4_init_70 rfl (lv_at hl 3 rfl) ?_
  refine va_putF (D := (dC, dI)) (ci := 4) (v := .ref h3) (ty := .array (.object "KeySteward$Connection")) (C := RX4) (T := TX4) (N := 19) hx hb hkw kin_X4 tyX4 tyX4_ok nmX4 hown hK hP hD hS 0 rfl rfl 2 (by decide) (hkw _ m_77) (fun _ h9 => h9) rfl hin rfl (by decide +kernel) rfl rfl (Nat.le_of_ble_eq_true rfl) dX4_init_71 (fun H locs hP hD hS => ?_)
  have hP : va_P (dC, dI) classes [(h0, .inr (4, [.ref h1, .ref h2, .ref h3, .ref q1, .ref q3, .ref q5, .int 0, .ref q7, .ref q9, .int 0, .ref q11, .ref q13, .int 0, .int 0, .int 0, .int 0, .long 0, .int 0, .int 0])), (q1, .inl (k2, 64, .inl (fun _ => 0))), (q3, .inl (k4, 64, .inl (fun _ => 0))), (q5, .inl (k6, 64, .inr (.inr (.inr (.inr (fun _ => none)))))), (q7, .inl (k8, 64, .inl (fun _ => 0))), (q9, .inl (k10, 0, .inl (fun _ => 0))), (q11, .inl (k12, 64, .inr (.inl (fun _ => 0)))), (q13, .inl (k14, 0, .inr (.inl (fun _ => 0))))] H := hP
  have hD : va_D A [(h0, .inr (4, [.ref h1, .ref h2, .ref h3, .ref q1, .ref q3, .ref q5, .int 0, .ref q7, .ref q9, .int 0, .ref q11, .ref q13, .int 0, .int 0, .int 0, .int 0, .long 0, .int 0, .int 0])), (q1, .inl (k2, 64, .inl (fun _ => 0))), (q3, .inl (k4, 64, .inl (fun _ => 0))), (q5, .inl (k6, 64, .inr (.inr (.inr (.inr (fun _ => none)))))), (q7, .inl (k8, 64, .inl (fun _ => 0))), (q9, .inl (k10, 0, .inl (fun _ => 0))), (q11, .inl (k12, 64, .inr (.inl (fun _ => 0)))), (q13, .inl (k14, 0, .inr (.inl (fun _ => 0))))] := hD
  have hP9 := hP.sub (ws' := [(h0, .inr (4, [.ref h1, .ref h2, .ref h3, .ref q1, .ref q3, .ref q5, .int 0, .ref q7, .ref q9, .int 0, .ref q11, .ref q13, .int 0, .int 0, .int 0, .int 0, .long 0, .int 0, .int 0]))]) [0] rfl
  have hD9 := hD.sub (ws' := [(h0, .inr (4, [.ref h1, .ref h2, .ref h3, .ref q1, .ref q3, .ref q5, .int 0, .ref q7, .ref q9, .int 0, .ref q11, .ref q13, .int 0, .int 0, .int 0, .int 0, .long 0, .int 0, .int 0]))]) [0] (by decide) rfl
  have hK9 := hK.sub (tys' := []) [] rfl
  refine W.widen (k := 7) (n := 320) (Nat.le_of_ble_eq_true rfl) (Nat.le_of_ble_eq_true rfl) ?_
  exact W.vret hx hb hr (fun t ht hW => ⟨⟨(q1, q3, q5, q7, q9, q11, q13), rfl, trivial, by rw [ht]; exact hP9, va_K.moved hW.alike hK9, hD9⟩, hS.F ht⟩) hS.2.2 dX4_init_74

set_option maxHeartbeats 4000000 in
set_option maxRecDepth 100000 in
/-- Texts(ask, keys) -/
theorem c_Te_init (l : Launch) (dC : Nat → ClassId) (dI : Nat → Nat → Nat) (sz : Nat) (h0 : Nat) (h1 : Nat) (h2 : Nat) : Met l yX9_init wX9_init ({ frames := 2, cells := 2, slots := 68, locals := 33 }) (va_Pc [.ref h0, .ref h1, .ref h2] (pW (dC, dI) [(h0, .inr (5, [.null, .null, .null, .int 0, .int 0, .int 0, .int 0]))] [] sz)) (va_Qv (fun (_u : Unit) => True) (fun (_u : Unit) (t : State) => bW (dC, dI) [] [] (va_A [(h0, .inr (5, [.null, .null, .null, .int 0, .int 0, .int 0, .int 0]))] sz) t) (va_A [(h0, .inr (5, [.null, .null, .null, .int 0, .int 0, .int 0, .int 0]))] sz)) 2 68 (va_A [(h0, .inr (5, [.null, .null, .null, .int 0, .int 0, .int 0, .int 0]))] sz) := by
  refine Met.ofW (cc := cX9_init) (maxL := 3) (ret := none) (by decide) rfl ?_
  intro p e s m args below meth c s₁ B hml hv
  obtain ⟨rfl, hsz, hP, hK, hD0, hfx⟩ := hv
  have hx := B.exec
  have hb := B.bytes
  have hr := B.returns
  have hts := atoms_spec (ws := wX9_init) B.pre
  have hkw : ∀ w ∈ kw, w.before _ s = true := fun w h => hts w (List.mem_cons_of_mem _ h)
  have hown : s.vm.findClass RX9 = some m.cls := findClass_of_methodNamed B.named
  have hlocks := B.notSynchronized
  have hin : meth.name = "<init>" := (name_of_methodNamed B.named B.method).1
  subst hsz
  have hD := hD0.self (sz := s.heap.size)
  generalize hAe : va_A [(h0, .inr (5, [.null, .null, .null, .int 0, .int 0, .int 0, .int 0]))] s.heap.size = A at hD ⊢
  have hA : ∀ q : Nat, s.heap.size ≤ q → A q := fun q h => by rw [← hAe]; exact Or.inr h
  have hS : va_S A s.heap s.heap [] := va_S.rf
  have hP : va_P (dC, dI) classes [(h0, .inr (5, [.null, .null, .null, .int 0, .int 0, .int 0, .int 0]))] s.heap := hP
  have hl := lv_entry ([.ref h0, .ref h1, .ref h2]) (n := 3) (Nat.le_of_ble_eq_true rfl)
  rw [lg_entry_eq]
  generalize (lg_sl ([.ref h0, .ref h1, .ref h2]) ++ List.replicate (3 - (lg_sl ([.ref h0, .ref h1, .ref h2])).length) Slot.unset).toArray = ls at hl ⊢
  have hl : lv_has ls 3 [(0, .ref h0), (1, .ref h1), (2, .ref h2)] := hl
  refine lv_aload_n hx hb dX9_init_0 rfl (lv_at hl 0 rfl) ?_
  refine W.objInit hx hb hown (hkw _ m_78) (hkw _ m_1) (hkw _ m_2) rfl (by rw [hml]; exact hl.1) rfl dX9_init_1 (Nat.le_of_ble_eq_true rfl) (Nat.le_of_ble_eq_true rfl) ?_
  refine W.eq (g2 := F0 m 4 ls []) rfl ?_
  refine lv_aload_n hx hb dX9_init_4 rfl (lv_at hl 0 rfl) ?_
  refine va_new (ci := 0) (fs := [.int 0, .null, .int 0, .int 0]) (C := RX1) (T := TX1) (N := 4) hx hb hkw kin_X1 tyX1 tyX1_ok hown (hkw _ m_79) (hkw _ m_20) (hkw _ m_9) hK hP hD hS hA rfl (df_X1) (Nat.le_of_ble_eq_true rfl) (Nat.le_of_ble_eq_true rfl) dX9_init_5 (fun q1 H hP hD hS => ?_)
  have hP : va_P (dC, dI) classes [(h0, .inr (5, [.null, .null, .null, .int 0, .int 0, .int 0, .int 0])), (q1, .inr (0, [.int 0, .null, .int 0, .int 0]))] H := hP
  have hD : va_D A [(h0, .inr (5, [.null, .null, .null, .int 0, .int 0, .int 0, .int 0])), (q1, .inr (0, [.int 0, .null, .int 0, .int 0]))] := hD
  refine W.widen (k := 1) (n := 4) (by decide) (by decide) ?_
  refine lv_dup hx hb dX9_init_8 rfl ?_
  refine lv_bipush (v := 32) hx hb dX9_init_9 (by decide) ?_
  have hPc := hP.sub (ws' := [(q1, .inr (0, [.int 0, .null, .int 0, .int 0]))]) [1] rfl
  have hDc := hD.sub (ws' := [(q1, .inr (0, [.int 0, .null, .int 0, .int 0]))]) [1] (by decide) rfl
  have hKc := hK.sub (tys' := []) [] rfl
  have hFc := va_free (wc := [(q1, .inr (0, [.int 0, .null, .int 0, .int 0]))]) hD hS hA [1] rfl
  refine va_callv (va_runI (As := [.int 32]) (rest := [.ref q1, .ref h0]) ⟨hx, hb, hml, hown, hkw⟩ (c_By_init l dC dI H.size q1 32) (cwI 1 hkw (kwI m_22) rfl rfl rfl (hkw _ m_9) (hkw _ m_80) (hkw _ m_24) rfl (by decide +kernel) ⟨Nat.le_of_ble_eq_true rfl, Nat.le_of_ble_eq_true rfl⟩) ⟨fbW, pW_in hPc hKc hDc hfx⟩ rfl rfl hl.1 rfl (lv_room (Nat.le_of_ble_eq_true rfl)) dX9_init_11 ⟨Nat.le_of_ble_eq_true rfl, Nat.le_of_ble_eq_true rfl⟩) hS (fun q _ h => hFc q h) hFc (fun u t H1 locs ht hvm hw hB hz1 hk1 hS => ?_)
  obtain ⟨q2, k3⟩ := u
  obtain ⟨hP1, hK1, hD1⟩ := hB
  rw [ht] at hP1
  have hK1 := va_K.moved hvm.symm hK1
  obtain ⟨hP, hD⟩ := va_join (wr := [(h0, .inr (5, [.null, .null, .null, .int 0, .int 0, .int 0, .int 0]))]) (w1 := [(q1, .inr (0, [.int 32, .ref q2, .int 0, .int 0])), (q2, .inl (k3, 64, .inl (fun _ => 0)))]) hP hD [1] [0] rfl rfl (by decide) (by decide) hk1 hFc hP1 hD1
  have hK := (hK.sub (tys' := []) [] rfl).app hK1
  generalize H1 = H at hP hS ⊢
  have hP : va_P (dC, dI) classes [(h0, .inr (5, [.null, .null, .null, .int 0, .int 0, .int 0, .int 0])), (q1, .inr (0, [.int 32, .ref q2, .int 0, .int 0])), (q2, .inl (k3, 64, .inl (fun _ => 0)))] H := hP
  have hD : va_D A [(h0, .inr (5, [.null, .null, .null, .int 0, .int 0, .int 0, .int 0])), (q1, .inr (0, [.int 32, .ref q2, .int 0, .int 0])), (q2, .inl (k3, 64, .inl (fun _ => 0)))] := hD
  have hK : va_K (dC, dI) classes [(k3, .byte)] s := hK
  refine W.widen (k := 2) (n := 68) (Nat.le_of_ble_eq_true rfl) (Nat.le_of_ble_eq_true rfl) ?_
  have hw4 := hw
  try dsimp only at hw4
  refine va_putF (D := (dC, dI)) (ci := 5) (v := .ref q1) (ty := .object "KeySteward$Bytes") (C := RX9) (T := TX9) (N := 7) hx hb hkw kin_X9 tyX9 tyX9_ok nmX9 hown hK hP hD hS 0 rfl rfl 2 (by decide) (hkw _ m_81) (fun _ h9 => h9) rfl hin rfl (by decide +kernel) rfl rfl (Nat.le_of_ble_eq_true rfl) dX9_init_14 (fun H locs hP hD hS => ?_)
  have hP : va_P (dC, dI) classes [(h0, .inr (5, [.null, .null, .ref q1, .int 0, .int 0, .int 0, .int 0])), (q1, .inr (0, [.int 32, .ref q2, .int 0, .int 0])), (q2, .inl (k3, 64, .inl (fun _ => 0)))] H := hP
  have hD : va_D A [(h0, .inr (5, [.null, .null, .ref q1, .int 0, .int 0, .int 0, .int 0])), (q1, .inr (0, [.int 32, .ref q2, .int 0, .int 0])), (q2, .inl (k3, 64, .inl (fun _ => 0)))] := hD
  refine lv_aload_n hx hb dX9_init_17 rfl (lv_at hl 0 rfl) ?_
  refine lv_aload_n hx hb dX9_init_18 rfl (lv_at hl 1 rfl) ?_
  refine va_putF (D := (dC, dI)) (ci := 5) (v := .ref h1) (ty := .object "KeySteward$Request") (C := RX9) (T := TX9) (N := 7) hx hb hkw kin_X9 tyX9 tyX9_ok nmX9 hown hK hP hD hS 0 rfl rfl 0 (by decide) (hkw _ m_82) (fun _ h9 => h9) rfl hin rfl (by decide +kernel) rfl rfl (Nat.le_of_ble_eq_true rfl) dX9_init_19 (fun H locs hP hD hS => ?_)
  have hP : va_P (dC, dI) classes [(h0, .inr (5, [.ref h1, .null, .ref q1, .int 0, .int 0, .int 0, .int 0])), (q1, .inr (0, [.int 32, .ref q2, .int 0, .int 0])), (q2, .inl (k3, 64, .inl (fun _ => 0)))] H := hP
  have hD : va_D A [(h0, .inr (5, [.ref h1, .null, .ref q1, .int 0, .int 0, .int 0, .int 0])), (q1, .inr (0, [.int 32, .ref q2, .int 0, .int 0])), (q2, .inl (k3, 64, .inl (fun _ => 0)))] := hD
  refine lv_aload_n hx hb dX9_init_22 rfl (lv_at hl 0 rfl) ?_
  refine lv_aload_n hx hb dX9_init_23 rfl (lv_at hl 2 rfl) ?_
  refine va_putF (D := (dC, dI)) (ci := 5) (v := .ref h2) (ty := .object "KeySteward$Keys") (C := RX9) (T := TX9) (N := 7) hx hb hkw kin_X9 tyX9 tyX9_ok nmX9 hown hK hP hD hS 0 rfl rfl 1 (by decide) (hkw _ m_83) (fun _ h9 => h9) rfl hin rfl (by decide +kernel) rfl rfl (Nat.le_of_ble_eq_true rfl) dX9_init_24 (fun H locs hP hD hS => ?_)
  have hP : va_P (dC, dI) classes [(h0, .inr (5, [.ref h1, .ref h2, .ref q1, .int 0, .int 0, .int 0, .int 0])), (q1, .inr (0, [.int 32, .ref q2, .int 0, .int 0])), (q2, .inl (k3, 64, .inl (fun _ => 0)))] H := hP
  have hD : va_D A [(h0, .inr (5, [.ref h1, .ref h2, .ref q1, .int 0, .int 0, .int 0, .int 0])), (q1, .inr (0, [.int 32, .ref q2, .int 0, .int 0])), (q2, .inl (k3, 64, .inl (fun _ => 0)))] := hD
  have hP9 := hP.sub (ws' := []) [] rfl
  have hD9 := hD.sub (ws' := []) [] (by decide) rfl
  have hK9 := hK.sub (tys' := []) [] rfl
  refine W.widen (k := 2) (n := 68) (Nat.le_of_ble_eq_true rfl) (Nat.le_of_ble_eq_true rfl) ?_
  exact W.vret hx hb hr (fun t ht hW => ⟨⟨(), rfl, trivial, by rw [ht]; exact hP9, va_K.moved hW.alike hK9, hD9⟩, hS.F ht⟩) hS.2.2 dX9_init_27

set_option maxHeartbeats 4000000 in
set_option maxRecDepth 100000 in
/-- Li -/
theorem c_Li_init (l : Launch) (dC : Nat → ClassId) (dI : Nat → Nat → Nat) (sz : Nat) (h0 : Nat) (h1 : Nat) (h2 : Nat) (h3 : Nat) : Met l yX5_init wX5_init ({ frames := 1, cells := 0, slots := 0, locals := 12 }) (va_Pc [.ref h0, .ref h1, .ref h2, .ref h3] (pW (dC, dI) [(h0, .inr (6, [.null, .null, .null]))] [] sz)) (va_Qv (fun (_u : Unit) => True) (fun (_u : Unit) (t : State) => bW (dC, dI) [] [] (va_A [(h0, .inr (6, [.null, .null, .null]))] sz) t) (va_A [(h0, .inr (6, [.null, .null, .null]))] sz)) 0 0 (va_A [(h0, .inr (6, [.null, .null, .null]))] sz) := by
  refine Met.ofW (cc := cX5_init) (maxL := 4) (ret := none) (by decide) rfl ?_
  intro p e s m args below meth c s₁ B hml hv
  obtain ⟨rfl, hsz, hP, hK, hD0, hfx⟩ := hv
  have hx := B.exec
  have hb := B.bytes
  have hr := B.returns
  have hts := atoms_spec (ws := wX5_init) B.pre
  have hkw : ∀ w ∈ kw, w.before _ s = true := fun w h => hts w (List.mem_cons_of_mem _ h)
  have hown : s.vm.findClass RX5 = some m.cls := findClass_of_methodNamed B.named
  have hlocks := B.notSynchronized
  have hin : meth.name = "<init>" := (name_of_methodNamed B.named B.method).1
  subst hsz
  have hD := hD0.self (sz := s.heap.size)
  generalize hAe : va_A [(h0, .inr (6, [.null, .null, .null]))] s.heap.size = A at hD ⊢
  have hA : ∀ q : Nat, s.heap.size ≤ q → A q := fun q h => by rw [← hAe]; exact Or.inr h
  have hS : va_S A s.heap s.heap [] := va_S.rf
  have hP : va_P (dC, dI) classes [(h0, .inr (6, [.null, .null, .null]))] s.heap := hP
  have hl := lv_entry ([.ref h0, .ref h1, .ref h2, .ref h3]) (n := 4) (Nat.le_of_ble_eq_true rfl)
  rw [lg_entry_eq]
  generalize (lg_sl ([.ref h0, .ref h1, .ref h2, .ref h3]) ++ List.replicate (4 - (lg_sl ([.ref h0, .ref h1, .ref h2, .ref h3])).length) Slot.unset).toArray = ls at hl ⊢
  have hl : lv_has ls 4 [(0, .ref h0), (1, .ref h1), (2, .ref h2), (3, .ref h3)] := hl
  refine lv_aload_n hx hb dX5_init_0 rfl (lv_at hl 0 rfl) ?_
  refine W.objInit hx hb hown (hkw _ m_84) (hkw _ m_1) (hkw _ m_2) rfl (by rw [hml]; exact hl.1) rfl dX5_init_1 (Nat.le_of_ble_eq_true rfl) (Nat.le_of_ble_eq_true rfl) ?_
  refine W.eq (g2 := F0 m 4 ls []) rfl ?_
  refine lv_aload_n hx hb dX5_init_4 rfl (lv_at hl 0 rfl) ?_
  refine lv_aload_n hx hb dX5_init_5 rfl (lv_at hl 1 rfl) ?_
  refine va_putF (D := (dC, dI)) (ci := 6) (v := .ref h1) (ty := .object "KeySteward$Words") (C := RX5) (T := TX5) (N := 3) hx hb hkw kin_X5 tyX5 tyX5_ok nmX5 hown hK hP hD hS 0 rfl rfl 0 (by decide) (hkw _ m_85) (fun _ h9 => h9) rfl hin rfl (by decide +kernel) rfl rfl (Nat.le_of_ble_eq_true rfl) dX5_init_6 (fun H locs hP hD hS => ?_)
  have hP : va_P (dC, dI) classes [(h0, .inr (6, [.ref h1, .null, .null]))] H := hP
  have hD : va_D A [(h0, .inr (6, [.ref h1, .null, .null]))] := hD
  refine lv_aload_n hx hb dX5_init_9 rfl (lv_at hl 0 rfl) ?_
  refine lv_aload_n hx hb dX5_init_10 rfl (lv_at hl 2 rfl) ?_
  refine va_putF (D := (dC, dI)) (ci := 6) (v := .ref h2) (ty := .object "KeySteward$Request") (C := RX5) (T := TX5) (N := 3) hx hb hkw kin_X5 tyX5 tyX5_ok nmX5 hown hK hP hD hS 0 rfl rfl 1 (by decide) (hkw _ m_86) (fun _ h9 => h9) rfl hin rfl (by decide +kernel) rfl rfl (Nat.le_of_ble_eq_true rfl) dX5_init_11 (fun H locs hP hD hS => ?_)
  have hP : va_P (dC, dI) classes [(h0, .inr (6, [.ref h1, .ref h2, .null]))] H := hP
  have hD : va_D A [(h0, .inr (6, [.ref h1, .ref h2, .null]))] := hD
  refine lv_aload_n hx hb dX5_init_14 rfl (lv_at hl 0 rfl) ?_
  refine lv_aload_n hx hb dX5_init_15 rfl (lv_at hl 3 rfl) ?_
  refine va_putF (D := (dC, dI)) (ci := 6) (v := .ref h3) (ty := .object "KeySteward$Keys") (C := RX5) (T := TX5) (N := 3) hx hb hkw kin_X5 tyX5 tyX5_ok nmX5 hown hK hP hD hS 0 rfl rfl 2 (by decide) (hkw _ m_87) (fun _ h9 => h9) rfl hin rfl (by decide +kernel) rfl rfl (Nat.le_of_ble_eq_true rfl) dX5_init_16 (fun H locs hP hD hS => ?_)
  have hP : va_P (dC, dI) classes [(h0, .inr (6, [.ref h1, .ref h2, .ref h3]))] H := hP
  have hD : va_D A [(h0, .inr (6, [.ref h1, .ref h2, .ref h3]))] := hD
  have hP9 := hP.sub (ws' := []) [] rfl
  have hD9 := hD.sub (ws' := []) [] (by decide) rfl
  have hK9 := hK.sub (tys' := []) [] rfl
  refine W.widen (k := 0) (n := 0) (Nat.le_of_ble_eq_true rfl) (Nat.le_of_ble_eq_true rfl) ?_
  exact W.vret hx hb hr (fun t ht hW => ⟨⟨(), rfl, trivial, by rw [ht]; exact hP9, va_K.moved hW.alike hK9, hD9⟩, hS.F ht⟩) hS.2.2 dX5_init_19

set_option maxHeartbeats 4000000 in
set_option maxRecDepth 100000 in
/-- Me -/
theorem c_Me_init (l : Launch) (dC : Nat → ClassId) (dI : Nat → Nat → Nat) (sz : Nat) (h0 : Nat) (h1 : Nat) (h2 : Nat) (h3 : Nat) : Met l yX6_init wX6_init ({ frames := 2, cells := 3, slots := 132, locals := 33 }) (va_Pc [.ref h0, .ref h1, .ref h2, .ref h3] (pW (dC, dI) [(h0, .inr (7, [.null, .null, .null, .null, .null, .int 0]))] [] sz)) (va_Qv (fun (_u : Unit) => True) (fun (_u : Unit) (t : State) => bW (dC, dI) [] [] (va_A [(h0, .inr (7, [.null, .null, .null, .null, .null, .int 0]))] sz) t) (va_A [(h0, .inr (7, [.null, .null, .null, .null, .null, .int 0]))] sz)) 3 132 (va_A [(h0, .inr (7, [.null, .null, .null, .null, .null, .int 0]))] sz) := by
  refine Met.ofW (cc := cX6_init) (maxL := 4) (ret := none) (by decide) rfl ?_
  intro p e s m args below meth c s₁ B hml hv
  obtain ⟨rfl, hsz, hP, hK, hD0, hfx⟩ := hv
  have hx := B.exec
  have hb := B.bytes
  have hr := B.returns
  have hts := atoms_spec (ws := wX6_init) B.pre
  have hkw : ∀ w ∈ kw, w.before _ s = true := fun w h => hts w (List.mem_cons_of_mem _ h)
  have hown : s.vm.findClass RX6 = some m.cls := findClass_of_methodNamed B.named
  have hlocks := B.notSynchronized
  have hin : meth.name = "<init>" := (name_of_methodNamed B.named B.method).1
  subst hsz
  have hD := hD0.self (sz := s.heap.size)
  generalize hAe : va_A [(h0, .inr (7, [.null, .null, .null, .null, .null, .int 0]))] s.heap.size = A at hD ⊢
  have hA : ∀ q : Nat, s.heap.size ≤ q → A q := fun q h => by rw [← hAe]; exact Or.inr h
  have hS : va_S A s.heap s.heap [] := va_S.rf
  have hP : va_P (dC, dI) classes [(h0, .inr (7, [.null, .null, .null, .null, .null, .int 0]))] s.heap := hP
  have hl := lv_entry ([.ref h0, .ref h1, .ref h2, .ref h3]) (n := 4) (Nat.le_of_ble_eq_true rfl)
  rw [lg_entry_eq]
  generalize (lg_sl ([.ref h0, .ref h1, .ref h2, .ref h3]) ++ List.replicate (4 - (lg_sl ([.ref h0, .ref h1, .ref h2, .ref h3])).length) Slot.unset).toArray = ls at hl ⊢
  have hl : lv_has ls 4 [(0, .ref h0), (1, .ref h1), (2, .ref h2), (3, .ref h3)] := hl
  refine lv_aload_n hx hb dX6_init_0 rfl (lv_at hl 0 rfl) ?_
  refine W.objInit hx hb hown (hkw _ m_88) (hkw _ m_1) (hkw _ m_2) rfl (by rw [hml]; exact hl.1) rfl dX6_init_1 (Nat.le_of_ble_eq_true rfl) (Nat.le_of_ble_eq_true rfl) ?_
  refine W.eq (g2 := F0 m 4 ls []) rfl ?_
  refine lv_aload_n hx hb dX6_init_4 rfl (lv_at hl 0 rfl) ?_
  refine va_new (ci := 0) (fs := [.int 0, .null, .int 0, .int 0]) (C := RX1) (T := TX1) (N := 4) hx hb hkw kin_X1 tyX1 tyX1_ok hown (hkw _ m_89) (hkw _ m_20) (hkw _ m_9) hK hP hD hS hA rfl (df_X1) (Nat.le_of_ble_eq_true rfl) (Nat.le_of_ble_eq_true rfl) dX6_init_5 (fun q1 H hP hD hS => ?_)
  have hP : va_P (dC, dI) classes [(h0, .inr (7, [.null, .null, .null, .null, .null, .int 0])), (q1, .inr (0, [.int 0, .null, .int 0, .int 0]))] H := hP
  have hD : va_D A [(h0, .inr (7, [.null, .null, .null, .null, .null, .int 0])), (q1, .inr (0, [.int 0, .null, .int 0, .int 0]))] := hD
  refine W.widen (k := 1) (n := 4) (by decide) (by decide) ?_
  refine lv_dup hx hb dX6_init_8 rfl ?_
  refine lv_bipush (v := 32) hx hb dX6_init_9 (by decide) ?_
  have hPc := hP.sub (ws' := [(q1, .inr (0, [.int 0, .null, .int 0, .int 0]))]) [1] rfl
  have hDc := hD.sub (ws' := [(q1, .inr (0, [.int 0, .null, .int 0, .int 0]))]) [1] (by decide) rfl
  have hKc := hK.sub (tys' := []) [] rfl
  have hFc := va_free (wc := [(q1, .inr (0, [.int 0, .null, .int 0, .int 0]))]) hD hS hA [1] rfl
  refine va_callv (va_runI (As := [.int 32]) (rest := [.ref q1, .ref h0]) ⟨hx, hb, hml, hown, hkw⟩ (c_By_init l dC dI H.size q1 32) (cwI 1 hkw (kwI m_22) rfl rfl rfl (hkw _ m_9) (hkw _ m_90) (hkw _ m_24) rfl (by decide +kernel) ⟨Nat.le_of_ble_eq_true rfl, Nat.le_of_ble_eq_true rfl⟩) ⟨fbW, pW_in hPc hKc hDc hfx⟩ rfl rfl hl.1 rfl (lv_room (Nat.le_of_ble_eq_true rfl)) dX6_init_11 ⟨Nat.le_of_ble_eq_true rfl, Nat.le_of_ble_eq_true rfl⟩) hS (fun q _ h => hFc q h) hFc (fun u t H1 locs ht hvm hw hB hz1 hk1 hS => ?_)
  obtain ⟨q2, k3⟩ := u
  obtain ⟨hP1, hK1, hD1⟩ := hB
  rw [ht] at hP1
  have hK1 := va_K.moved hvm.symm hK1
  obtain ⟨hP, hD⟩ := va_join (wr := [(h0, .inr (7, [.null, .null, .null, .null, .null, .int 0]))]) (w1 := [(q1, .inr (0, [.int 32, .ref q2, .int 0, .int 0])), (q2, .inl (k3, 64, .inl (fun _ => 0)))]) hP hD [1] [0] rfl rfl (by decide) (by decide) hk1 hFc hP1 hD1
  have hK := (hK.sub (tys' := []) [] rfl).app hK1
  generalize H1 = H at hP hS ⊢
  have hP : va_P (dC, dI) classes [(h0, .inr (7, [.null, .null, .null, .null, .null, .int 0])), (q1, .inr (0, [.int 32, .ref q2, .int 0, .int 0])), (q2, .inl (k3, 64, .inl (fun _ => 0)))] H := hP
  have hD : va_D A [(h0, .inr (7, [.null, .null, .null, .null, .null, .int 0])), (q1, .inr (0, [.int 32, .ref q2, .int 0, .int 0])), (q2, .inl (k3, 64, .inl (fun _ => 0)))] := hD
  have hK : va_K (dC, dI) classes [(k3, .byte)] s := hK
  refine W.widen (k := 2) (n := 68) (Nat.le_of_ble_eq_true rfl) (Nat.le_of_ble_eq_true rfl) ?_
  have hw4 := hw
  try dsimp only at hw4
  refine va_putF (D := (dC, dI)) (ci := 7) (v := .ref q1) (ty := .object "KeySteward$Bytes") (C := RX6) (T := TX6) (N := 6) hx hb hkw kin_X6 tyX6 tyX6_ok nmX6 hown hK hP hD hS 0 rfl rfl 3 (by decide) (hkw _ m_91) (fun _ h9 => h9) rfl hin rfl (by decide +kernel) rfl rfl (Nat.le_of_ble_eq_true rfl) dX6_init_14 (fun H locs hP hD hS => ?_)
  have hP : va_P (dC, dI) classes [(h0, .inr (7, [.null, .null, .null, .ref q1, .null, .int 0])), (q1, .inr (0, [.int 32, .ref q2, .int 0, .int 0])), (q2, .inl (k3, 64, .inl (fun _ => 0)))] H := hP
  have hD : va_D A [(h0, .inr (7, [.null, .null, .null, .ref q1, .null, .int 0])), (q1, .inr (0, [.int 32, .ref q2, .int 0, .int 0])), (q2, .inl (k3, 64, .inl (fun _ => 0)))] := hD
  refine lv_aload_n hx hb dX6_init_17 rfl (lv_at hl 0 rfl) ?_
  refine lv_bipush (v := 64) hx hb dX6_init_18 (by decide) ?_
  refine va_newa (atype := .int) (a0 := (64, .inl (fun _ => 0))) (N' := 64) (n := 64) (ty := .int) hx hb (hkw _ m_30) rfl hK hP hD hS hA (fun _ => rfl) (by decide) (by decide) (by decide) (Nat.le_of_ble_eq_true rfl) (Nat.le_of_ble_eq_true rfl) dX6_init_20 (fun q5 k6 H hK hP hD hS => ?_)
  have hP : va_P (dC, dI) classes [(h0, .inr (7, [.null, .null, .null, .ref q1, .null, .int 0])), (q1, .inr (0, [.int 32, .ref q2, .int 0, .int 0])), (q2, .inl (k3, 64, .inl (fun _ => 0))), (q5, .inl (k6, 64, .inl (fun _ => 0)))] H := hP
  have hD : va_D A [(h0, .inr (7, [.null, .null, .null, .ref q1, .null, .int 0])), (q1, .inr (0, [.int 32, .ref q2, .int 0, .int 0])), (q2, .inl (k3, 64, .inl (fun _ => 0))), (q5, .inl (k6, 64, .inl (fun _ => 0)))] := hD
  have hK : va_K (dC, dI) classes [(k3, .byte), (k6, .int)] s := hK
  refine W.widen (k := 3) (n := 132) (by decide) (by decide) ?_
  refine va_put (D := (dC, dI)) (ci := 7) (v := .ref q5) (ty := .array .int) (C := RX6) (T := TX6) (N := 6) hx hb hkw kin_X6 tyX6 tyX6_ok nmX6 hown hK hP hD hS 0 rfl rfl 4 (by decide) (hkw _ m_92) (fun _ h9 => h9) rfl (by decide +kernel) rfl rfl (Nat.le_of_ble_eq_true rfl) dX6_init_22 (fun H locs hP hD hS => ?_)
  have hP : va_P (dC, dI) classes [(h0, .inr (7, [.null, .null, .null, .ref q1, .ref q5, .int 0])), (q1, .inr (0, [.int 32, .ref q2, .int 0, .int 0])), (q2, .inl (k3, 64, .inl (fun _ => 0))), (q5, .inl (k6, 64, .inl (fun _ => 0)))] H := hP
  have hD : va_D A [(h0, .inr (7, [.null, .null, .null, .ref q1, .ref q5, .int 0])), (q1, .inr (0, [.int 32, .ref q2, .int 0, .int 0])), (q2, .inl (k3, 64, .inl (fun _ => 0))), (q5, .inl (k6, 64, .inl (fun _ => 0)))] := hD
  refine lv_aload_n hx hb dX6_init_25 rfl (lv_at hl 0 rfl) ?_
  refine lv_aload_n hx hb dX6_init_26 rfl (lv_at hl 1 rfl) ?_
  refine va_putF (D := (dC, dI)) (ci := 7) (v := .ref h1) (ty := .object "KeySteward$Words") (C := RX6) (T := TX6) (N := 6) hx hb hkw kin_X6 tyX6 tyX6_ok nmX6 hown hK hP hD hS 0 rfl rfl 0 (by decide) (hkw _ m_93) (fun _ h9 => h9) rfl hin rfl (by decide +kernel) rfl rfl (Nat.le_of_ble_eq_true rfl) dX6_init_27 (fun H locs hP hD hS => ?_)
  have hP : va_P (dC, dI) classes [(h0, .inr (7, [.ref h1, .null, .null, .ref q1, .ref q5, .int 0])), (q1, .inr (0, [.int 32, .ref q2, .int 0, .int 0])), (q2, .inl (k3, 64, .inl (fun _ => 0))), (q5, .inl (k6, 64, .inl (fun _ => 0)))] H := hP
  have hD : va_D A [(h0, .inr (7, [.ref h1, .null, .null, .ref q1, .ref q5, .int 0])), (q1, .inr (0, [.int 32, .ref q2, .int 0, .int 0])), (q2, .inl (k3, 64, .inl (fun _ => 0))), (q5, .inl (k6, 64, .inl (fun _ => 0)))] := hD
  refine lv_aload_n hx hb dX6_init_30 rfl (lv_at hl 0 rfl) ?_
  refine lv_aload_n hx hb dX6_init_31 rfl (lv_at hl 2 rfl) ?_
  refine va_putF (D := (dC, dI)) (ci := 7) (v := .ref h2) (ty := .object "KeySteward$Request") (C := RX6) (T := TX6) (N := 6) hx hb hkw kin_X6 tyX6 tyX6_ok nmX6 hown hK hP hD hS 0 rfl rfl 1 (by decide) (hkw _ m_94) (fun _ h9 => h9) rfl hin rfl (by decide +kernel) rfl rfl (Nat.le_of_ble_eq_true rfl) dX6_init_32 (fun H locs hP hD hS => ?_)
  have hP : va_P (dC, dI) classes [(h0, .inr (7, [.ref h1, .ref h2, .null, .ref q1, .ref q5, .int 0])), (q1, .inr (0, [.int 32, .ref q2, .int 0, .int 0])), (q2, .inl (k3, 64, .inl (fun _ => 0))), (q5, .inl (k6, 64, .inl (fun _ => 0)))] H := hP
  have hD : va_D A [(h0, .inr (7, [.ref h1, .ref h2, .null, .ref q1, .ref q5, .int 0])), (q1, .inr (0, [.int 32, .ref q2, .int 0, .int 0])), (q2, .inl (k3, 64, .inl (fun _ => 0))), (q5, .inl (k6, 64, .inl (fun _ => 0)))] := hD
  refine lv_aload_n hx hb dX6_init_35 rfl (lv_at hl 0 rfl) ?_
  refine lv_aload_n hx hb dX6_init_36 rfl (lv_at hl 3 rfl) ?_
  refine va_putF (D := (dC, dI)) (ci := 7) (v := .ref h3) (ty := .object "KeySteward$Keys") (C := RX6) (T := TX6) (N := 6) hx hb hkw kin_X6 tyX6 tyX6_ok nmX6 hown hK hP hD hS 0 rfl rfl 2 (by decide) (hkw _ m_95) (fun _ h9 => h9) rfl hin rfl (by decide +kernel) rfl rfl (Nat.le_of_ble_eq_true rfl) dX6_init_37 (fun H locs hP hD hS => ?_)
  have hP : va_P (dC, dI) classes [(h0, .inr (7, [.ref h1, .ref h2, .ref h3, .ref q1, .ref q5, .int 0])), (q1, .inr (0, [.int 32, .ref q2, .int 0, .int 0])), (q2, .inl (k3, 64, .inl (fun _ => 0))), (q5, .inl (k6, 64, .inl (fun _ => 0)))] H := hP
  have hD : va_D A [(h0, .inr (7, [.ref h1, .ref h2, .ref h3, .ref q1, .ref q5, .int 0])), (q1, .inr (0, [.int 32, .ref q2, .int 0, .int 0])), (q2, .inl (k3, 64, .inl (fun _ => 0))), (q5, .inl (k6, 64, .inl (fun _ => 0)))] := hD
  have hP9 := hP.sub (ws' := []) [] rfl
  have hD9 := hD.sub (ws' := []) [] (by decide) rfl
  have hK9 := hK.sub (tys' := []) [] rfl
  refine W.widen (k := 3) (n := 132) (Nat.le_of_ble_eq_true rfl) (Nat.le_of_ble_eq_true rfl) ?_
  exact W.vret hx hb hr (fun t ht hW => ⟨⟨(), rfl, trivial, by rw [ht]; exact hP9, va_K.moved hW.alike hK9, hD9⟩, hS.F ht⟩) hS.2.2 dX6_init_40

set_option maxHeartbeats 4000000 in
set_option maxRecDepth 100000 in
/-- Or -/
theorem c_Or_init (l : Launch) (dC : Nat → ClassId) (dI : Nat → Nat → Nat) (sz : Nat) (h0 : Nat) (h1 : Nat) (h2 : Nat) (h3 : Nat) : Met l yX7_init wX7_init ({ frames := 1, cells := 0, slots := 0, locals := 12 }) (va_Pc [.ref h0, .ref h1, .ref h2, .ref h3] (pW (dC, dI) [(h0, .inr (8, [.null, .null, .null, .int 0, .int 0, .int 0, .int 0, .int 0, .int 0]))] [] sz)) (va_Qv (fun (_u : Unit) => True) (fun (_u : Unit) (t : State) => bW (dC, dI) [] [] (va_A [(h0, .inr (8, [.null, .null, .null, .int 0, .int 0, .int 0, .int 0, .int 0, .int 0]))] sz) t) (va_A [(h0, .inr (8, [.null, .null, .null, .int 0, .int 0, .int 0, .int 0, .int 0, .int 0]))] sz)) 0 0 (va_A [(h0, .inr (8, [.null, .null, .null, .int 0, .int 0, .int 0, .int 0, .int 0, .int 0]))] sz) := by
  refine Met.ofW (cc := cX7_init) (maxL := 4) (ret := none) (by decide) rfl ?_
  intro p e s m args below meth c s₁ B hml hv
  obtain ⟨rfl, hsz, hP, hK, hD0, hfx⟩ := hv
  have hx := B.exec
  have hb := B.bytes
  have hr := B.returns
  have hts := atoms_spec (ws := wX7_init) B.pre
  have hkw : ∀ w ∈ kw, w.before _ s = true := fun w h => hts w (List.mem_cons_of_mem _ h)
  have hown : s.vm.findClass RX7 = some m.cls := findClass_of_methodNamed B.named
  have hlocks := B.notSynchronized
  have hin : meth.name = "<init>" := (name_of_methodNamed B.named B.method).1
  subst hsz
  have hD := hD0.self (sz := s.heap.size)
  generalize hAe : va_A [(h0, .inr (8, [.null, .null, .null, .int 0, .int 0, .int 0, .int 0, .int 0, .int 0]))] s.heap.size = A at hD ⊢
  have hA : ∀ q : Nat, s.heap.size ≤ q → A q := fun q h => by rw [← hAe]; exact Or.inr h
  have hS : va_S A s.heap s.heap [] := va_S.rf
  have hP : va_P (dC, dI) classes [(h0, .inr (8, [.null, .null, .null, .int 0, .int 0, .int 0, .int 0, .int 0, .int 0]))] s.heap := hP
  have hl := lv_entry ([.ref h0, .ref h1, .ref h2, .ref h3]) (n := 4) (Nat.le_of_ble_eq_true rfl)
  rw [lg_entry_eq]
  generalize (lg_sl ([.ref h0, .ref h1, .ref h2, .ref h3]) ++ List.replicate (4 - (lg_sl ([.ref h0, .ref h1, .ref h2, .ref h3])).length) Slot.unset).toArray = ls at hl ⊢
  have hl : lv_has ls 4 [(0, .ref h0), (1, .ref h1), (2, .ref h2), (3, .ref h3)] := hl
  refine lv_aload_n hx hb dX7_init_0 rfl (lv_at hl 0 rfl) ?_
  refine W.objInit hx hb hown (hkw _ m_96) (hkw _ m_1) (hkw _ m_2) rfl (by rw [hml]; exact hl.1) rfl dX7_init_1 (Nat.le_of_ble_eq_true rfl) (Nat.le_of_ble_eq_true rfl) ?_
  refine W.eq (g2 := F0 m 4 ls []) rfl ?_
  refine lv_aload_n hx hb dX7_init_4 rfl (lv_at hl 0 rfl) ?_
  refine lv_aload_n hx hb dX7_init_5 rfl (lv_at hl 1 rfl) ?_
  refine va_putF (D := (dC, dI)) (ci := 8) (v := .ref h1) (ty := .object "KeySteward$Words") (C := RX7) (T := TX7) (N := 9) hx hb hkw kin_X7 tyX7 tyX7_ok nmX7 hown hK hP hD hS 0 rfl rfl 0 (by decide) (hkw _ m_97) (fun _ h9 => h9) rfl hin rfl (by decide +kernel) rfl rfl (Nat.le_of_ble_eq_true rfl) dX7_init_6 (fun H locs hP hD hS => ?_)
  have hP : va_P (dC, dI) classes [(h0, .inr (8, [.ref h1, .null, .null, .int 0, .int 0, .int 0, .int 0, .int 0, .int 0]))] H := hP
  have hD : va_D A [(h0, .inr (8, [.ref h1, .null, .null, .int 0, .int 0, .int 0, .int 0, .int 0, .int 0]))] := hD
  refine lv_aload_n hx hb dX7_init_9 rfl (lv_at hl 0 rfl) ?_
  refine lv_aload_n hx hb dX7_init_10 rfl (lv_at hl 2 rfl) ?_
  refine va_putF (D := (dC, dI)) (ci := 8) (v := .ref h2) (ty := .object "KeySteward$Request") (C := RX7) (T := TX7) (N := 9) hx hb hkw kin_X7 tyX7 tyX7_ok nmX7 hown hK hP hD hS 0 rfl rfl 1 (by decide) (hkw _ m_98) (fun _ h9 => h9) rfl hin rfl (by decide +kernel) rfl rfl (Nat.le_of_ble_eq_true rfl) dX7_init_11 (fun H locs hP hD hS => ?_)
  have hP : va_P (dC, dI) classes [(h0, .inr (8, [.ref h1, .ref h2, .null, .int 0, .int 0, .int 0, .int 0, .int 0, .int 0]))] H := hP
  have hD : va_D A [(h0, .inr (8, [.ref h1, .ref h2, .null, .int 0, .int 0, .int 0, .int 0, .int 0, .int 0]))] := hD
  refine lv_aload_n hx hb dX7_init_14 rfl (lv_at hl 0 rfl) ?_
  refine lv_aload_n hx hb dX7_init_15 rfl (lv_at hl 3 rfl) ?_
  refine va_putF (D := (dC, dI)) (ci := 8) (v := .ref h3) (ty := .object "KeySteward$Keys") (C := RX7) (T := TX7) (N := 9) hx hb hkw kin_X7 tyX7 tyX7_ok nmX7 hown hK hP hD hS 0 rfl rfl 2 (by decide) (hkw _ m_99) (fun _ h9 => h9) rfl hin rfl (by decide +kernel) rfl rfl (Nat.le_of_ble_eq_true rfl) dX7_init_16 (fun H locs hP hD hS => ?_)
  have hP : va_P (dC, dI) classes [(h0, .inr (8, [.ref h1, .ref h2, .ref h3, .int 0, .int 0, .int 0, .int 0, .int 0, .int 0]))] H := hP
  have hD : va_D A [(h0, .inr (8, [.ref h1, .ref h2, .ref h3, .int 0, .int 0, .int 0, .int 0, .int 0, .int 0]))] := hD
  have hP9 := hP.sub (ws' := []) [] rfl
  have hD9 := hD.sub (ws' := []) [] (by decide) rfl
  have hK9 := hK.sub (tys' := []) [] rfl
  refine W.widen (k := 0) (n := 0) (Nat.le_of_ble_eq_true rfl) (Nat.le_of_ble_eq_true rfl) ?_
  exact W.vret hx hb hr (fun t ht hW => ⟨⟨(), rfl, trivial, by rw [ht]; exact hP9, va_K.moved hW.alike hK9, hD9⟩, hS.F ht⟩) hS.2.2 dX7_init_19

set_option maxHeartbeats 4000000 in
set_option maxRecDepth 100000 in
/-- read of nothing -/
theorem c_Re_read (l : Launch) (dC : Nat → ClassId) (dI : Nat → Nat → Nat) (sz : Nat) (h0 : Nat) (h1 : Nat) (w0 : Nat) (w1 : Nat) (w2 : Nat) (w3 : Nat) (w4 : Nat) : Met l yX8_read wX8_read ({ frames := 0, cells := 0, slots := 0, locals := 0 }) (va_Pc [.ref h0, .ref h1, .int 0, .int 0] (pW (dC, dI) [(h0, .inr (3, [.ref w0, .ref w1, .ref w2, .ref w3, .int 0, .int 0, .ref w4, .null, .null, .long 0, .long 0, .int 0, .int 0, .int 0, .int 0, .int 0, .long 0]))] [] sz)) (va_Qi (fun (r : Int32) (_u : Unit) => r = 1) (fun (_u : Unit) (t : State) => bW (dC, dI) [] [] (va_A [(h0, .inr (3, [.ref w0, .ref w1, .ref w2, .ref w3, .int 0, .int 0, .ref w4, .null, .null, .long 0, .long 0, .int 0, .int 0, .int 0, .int 0, .int 0, .long 0]))] sz) t) (va_A [(h0, .inr (3, [.ref w0, .ref w1, .ref w2, .ref w3, .int 0, .int 0, .ref w4, .null, .null, .long 0, .long 0, .int 0, .int 0, .int 0, .int 0, .int 0, .long 0]))] sz)) 0 0 (va_A [(h0, .inr (3, [.ref w0, .ref w1, .ref w2, .ref w3, .int 0, .int 0, .ref w4, .null, .null, .long 0, .long 0, .int 0, .int 0, .int 0, .int 0, .int 0, .long 0]))] sz) := by
  refine Met.ofW (cc := cX8_read) (maxL := 4) (ret := (some .int)) (by decide) rfl ?_
  intro p e s m args below meth c s₁ B hml hv
  obtain ⟨rfl, hsz, hP, hK, hD0, hfx⟩ := hv
  have hx := B.exec
  have hb := B.bytes
  have hr := B.returns
  have hts := atoms_spec (ws := wX8_read) B.pre
  have hkw : ∀ w ∈ kw, w.before _ s = true := fun w h => hts w (List.mem_cons_of_mem _ h)
  have hown : s.vm.findClass RX8 = some m.cls := findClass_of_methodNamed B.named
  have hlocks := B.notSynchronized
  subst hsz
  have hD := hD0.self (sz := s.heap.size)
  generalize hAe : va_A [(h0, .inr (3, [.ref w0, .ref w1, .ref w2, .ref w3, .int 0, .int 0, .ref w4, .null, .null, .long 0, .long 0, .int 0, .int 0, .int 0, .int 0, .int 0, .long 0]))] s.heap.size = A at hD ⊢
  have hA : ∀ q : Nat, s.heap.size ≤ q → A q := fun q h => by rw [← hAe]; exact Or.inr h
  have hS : va_S A s.heap s.heap [] := va_S.rf
  have hP : va_P (dC, dI) classes [(h0, .inr (3, [.ref w0, .ref w1, .ref w2, .ref w3, .int 0, .int 0, .ref w4, .null, .null, .long 0, .long 0, .int 0, .int 0, .int 0, .int 0, .int 0, .long 0]))] s.heap := hP
  have hl := lv_entry ([.ref h0, .ref h1, .int 0, .int 0]) (n := 4) (Nat.le_of_ble_eq_true rfl)
  rw [lg_entry_eq]
  generalize (lg_sl ([.ref h0, .ref h1, .int 0, .int 0]) ++ List.replicate (4 - (lg_sl ([.ref h0, .ref h1, .int 0, .int 0])).length) Slot.unset).toArray = ls at hl ⊢
  have hl : lv_has ls 4 [(0, .ref h0), (1, .ref h1), (2, .int 0), (3, .int 0)] := hl
  refine lv_aload_n hx hb dX8_read_0 rfl (lv_at hl 0 rfl) ?_
  refine lv_aload_n hx hb dX8_read_1 rfl (lv_at hl 1 rfl) ?_
  refine va_put (D := (dC, dI)) (ci := 3) (v := .ref h1) (ty := .array .byte) (C := RX8) (T := TX8) (N := 17) hx hb hkw kin_X8 tyX8 tyX8_ok nmX8 hown hK hP hD hS 0 rfl rfl 3 (by decide) (hkw _ m_60) (fun _ h9 => h9) rfl (by decide +kernel) rfl rfl (Nat.le_of_ble_eq_true rfl) dX8_read_2 (fun H locs hP hD hS => ?_)
  have hP : va_P (dC, dI) classes [(h0, .inr (3, [.ref w0, .ref w1, .ref w2, .ref h1, .int 0, .int 0, .ref w4, .null, .null, .long 0, .long 0, .int 0, .int 0, .int 0, .int 0, .int 0, .long 0]))] H := hP
  have hD : va_D A [(h0, .inr (3, [.ref w0, .ref w1, .ref w2, .ref h1, .int 0, .int 0, .ref w4, .null, .null, .long 0, .long 0, .int 0, .int 0, .int 0, .int 0, .int 0, .long 0]))] := hD
  refine lv_aload_n hx hb dX8_read_5 rfl (lv_at hl 0 rfl) ?_
  refine lv_iconst (v := 0) hx hb dX8_read_6 (by decide) ?_
  refine va_put (D := (dC, dI)) (ci := 3) (v := .int 0) (ty := .int) (C := RX8) (T := TX8) (N := 17) hx hb hkw kin_X8 tyX8 tyX8_ok nmX8 hown hK hP hD hS 0 rfl rfl 4 (by decide) (hkw _ m_100) (fun _ h9 => h9) rfl (by decide +kernel) rfl rfl (Nat.le_of_ble_eq_true rfl) dX8_read_7 (fun H locs hP hD hS => ?_)
  have hP : va_P (dC, dI) classes [(h0, .inr (3, [.ref w0, .ref w1, .ref w2, .ref h1, .int 0, .int 0, .ref w4, .null, .null, .long 0, .long 0, .int 0, .int 0, .int 0, .int 0, .int 0, .long 0]))] H := hP
  have hD : va_D A [(h0, .inr (3, [.ref w0, .ref w1, .ref w2, .ref h1, .int 0, .int 0, .ref w4, .null, .null, .long 0, .long 0, .int 0, .int 0, .int 0, .int 0, .int 0, .long 0]))] := hD
  refine lv_aload_n hx hb dX8_read_10 rfl (lv_at hl 0 rfl) ?_
  refine lv_iload_n hx hb dX8_read_11 rfl (lv_at hl 2 rfl) ?_
  refine va_put (D := (dC, dI)) (ci := 3) (v := .int 0) (ty := .int) (C := RX8) (T := TX8) (N := 17) hx hb hkw kin_X8 tyX8 tyX8_ok nmX8 hown hK hP hD hS 0 rfl rfl 5 (by decide) (hkw _ m_101) (fun _ h9 => h9) rfl (by decide +kernel) rfl rfl (Nat.le_of_ble_eq_true rfl) dX8_read_12 (fun H locs hP hD hS => ?_)
  have hP : va_P (dC, dI) classes [(h0, .inr (3, [.ref w0, .ref w1, .ref w2, .ref h1, .int 0, .int 0, .ref w4, .null, .null, .long 0, .long 0, .int 0, .int 0, .int 0, .int 0, .int 0, .long 0]))] H := hP
  have hD : va_D A [(h0, .inr (3, [.ref w0, .ref w1, .ref w2, .ref h1, .int 0, .int 0, .ref w4, .null, .null, .long 0, .long 0, .int 0, .int 0, .int 0, .int 0, .int 0, .long 0]))] := hD
  refine lv_iload_n hx hb dX8_read_15 rfl (lv_at hl 2 rfl) ?_
  refine lv_if_lt (tgt := 30) hx hb dX8_read_16 (by decide) (fun c_16_0 => absurd c_16_0 (by decide)) (fun c_16_0 => ?_)
  refine lv_iload_n hx hb dX8_read_19 rfl (lv_at hl 2 rfl) ?_
  refine lv_iload_n hx hb dX8_read_20 rfl (lv_at hl 3 rfl) ?_
  refine lv_icmp_ge (tgt := 30) hx hb dX8_read_21 (by decide) (fun c_21_0 => ?_) (fun c_21_0 => absurd c_21_0 (by decide))
  refine lv_iconst (v := 1) hx hb dX8_read_30 (by decide) ?_
  have hP9 := hP.sub (ws' := []) [] rfl
  have hD9 := hD.sub (ws' := []) [] (by decide) rfl
  have hK9 := hK.sub (tys' := []) [] rfl
  refine W.widen (k := 0) (n := 0) (Nat.le_of_ble_eq_true rfl) (Nat.le_of_ble_eq_true rfl) ?_
  exact W.iret (v := 1) hx hb hr (fun t ht hW => ⟨⟨1, (), rfl, rfl, by rw [ht]; exact hP9, va_K.moved hW.alike hK9, hD9⟩, hS.F ht⟩) hS.2.2 dX8_read_31
