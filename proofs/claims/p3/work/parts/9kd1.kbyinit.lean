set_option maxHeartbeats 4000000 in
set_option maxRecDepth 100000 in
/-- Bytes(most): a row of 64 -/
theorem i_By_init (l : Launch) (dC : Nat → ClassId) (dI : Nat → Nat → Nat) (sz : Nat) (h0 : Nat) (mv : Int32) : Met l yX1_init wX1_init ({ frames := 1, cells := 1, slots := 64, locals := 12 }) (va_Pc [.ref h0, .int mv] (pW (dC, dI) [(h0, .inr (0, [.int 0, .null, .int 0, .int 0]))] [] sz)) (va_Qv (fun ((q, k) : Nat × ClassId) => True) (fun ((q, k) : Nat × ClassId) (t : State) => bW (dC, dI) [(h0, .inr (0, [.int mv, .ref q, .int 0, .int 0])), (q, .inl (k, 64, .inl (fun _ => 0)))] [(k, .byte)] (va_A [(h0, .inr (0, [.int 0, .null, .int 0, .int 0]))] sz) t) (va_A [(h0, .inr (0, [.int 0, .null, .int 0, .int 0]))] sz)) 1 64 (va_A [(h0, .inr (0, [.int 0, .null, .int 0, .int 0]))] sz) := by
  refine Met.ofW (cc := cX1_init) (maxL := 2) (ret := none) (by decide) rfl ?_
  intro p e s m args below meth c s₁ B hml hv
  obtain ⟨rfl, hsz, hP, hK, hD0, hfx⟩ := hv
  have hx := B.exec
  have hb := B.bytes
  have hr := B.returns
  have hts := atoms_spec (ws := wX1_init) B.pre
  have hkw : ∀ w ∈ kw, w.before _ s = true := fun w h => hts w (List.mem_cons_of_mem _ h)
  have hown : s.vm.findClass RX1 = some m.cls := findClass_of_methodNamed B.named
  have hlocks := B.notSynchronized
  have hin : meth.name = "<init>" := (name_of_methodNamed B.named B.method).1
  subst hsz
  have hD := hD0.self (sz := s.heap.size)
  generalize hAe : va_A [(h0, .inr (0, [.int 0, .null, .int 0, .int 0]))] s.heap.size = A at hD ⊢
  have hA : ∀ q : Nat, s.heap.size ≤ q → A q := fun q h => by rw [← hAe]; exact Or.inr h
  have hS : va_S A s.heap s.heap [] := va_S.rf
  have hP : va_P (dC, dI) classes [(h0, .inr (0, [.int 0, .null, .int 0, .int 0]))] s.heap := hP
  have hl := lv_entry ([.ref h0, .int mv]) (n := 2) (Nat.le_of_ble_eq_true rfl)
  rw [lg_entry_eq]
  generalize (lg_sl ([.ref h0, .int mv]) ++ List.replicate (2 - (lg_sl ([.ref h0, .int mv])).length) Slot.unset).toArray = ls at hl ⊢
  have hl : lv_has ls 2 [(0, .ref h0), (1, .int mv)] := hl
  refine lv_aload_n hx hb dX1_init_0 rfl (lv_at hl 0 rfl) ?_
  refine W.objInit hx hb hown (hkw _ m_0) (hkw _ m_1) (hkw _ m_2) rfl (by rw [hml]; exact hl.1) rfl dX1_init_1 (Nat.le_of_ble_eq_true rfl) (Nat.le_of_ble_eq_true rfl) ?_
  refine W.eq (g2 := F0 m 4 ls []) rfl ?_
  refine lv_aload_n hx hb dX1_init_4 rfl (lv_at hl 0 rfl) ?_
  refine lv_bipush (v := 64) hx hb dX1_init_5 (by decide) ?_
  refine va_newa (atype := .byte) (a0 := (64, .inl (fun _ => 0))) (N' := 64) (n := 64) (ty := .byte) hx hb (hkw _ m_3) rfl hK hP hD hS hA (fun _ => rfl) (by decide) (by decide) (by decide) (Nat.le_of_ble_eq_true rfl) (Nat.le_of_ble_eq_true rfl) dX1_init_7 (fun q1 k2 H hK hP hD hS => ?_)
  have hP : va_P (dC, dI) classes [(h0, .inr (0, [.int 0, .null, .int 0, .int 0])), (q1, .inl (k2, 64, .inl (fun _ => 0)))] H := hP
  have hD : va_D A [(h0, .inr (0, [.int 0, .null, .int 0, .int 0])), (q1, .inl (k2, 64, .inl (fun _ => 0)))] := hD
  have hK : va_K (dC, dI) classes [(k2, .byte)] s := hK
  refine W.widen (k := 1) (n := 64) (by decide) (by decide) ?_
  refine va_put (D := (dC, dI)) (ci := 0) (v := .ref q1) (ty := .array .byte) (C := RX1) (T := TX1) (N := 4) hx hb hkw kin_X1 tyX1 tyX1_ok nmX1 hown hK hP hD hS 0 rfl rfl 1 (by decide) (hkw _ m_4) (fun _ h9 => h9) rfl (by decide +kernel) rfl rfl (Nat.le_of_ble_eq_true rfl) dX1_init_9 (fun H locs hP hD hS => ?_)
  have hP : va_P (dC, dI) classes [(h0, .inr (0, [.int 0, .ref q1, .int 0, .int 0])), (q1, .inl (k2, 64, .inl (fun _ => 0)))] H := hP
  have hD : va_D A [(h0, .inr (0, [.int 0, .ref q1, .int 0, .int 0])), (q1, .inl (k2, 64, .inl (fun _ => 0)))] := hD
  refine lv_aload_n hx hb dX1_init_12 rfl (lv_at hl 0 rfl) ?_
  refine lv_iload_n hx hb dX1_init_13 rfl (lv_at hl 1 rfl) ?_
  refine va_putF (D := (dC, dI)) (ci := 0) (v := .int mv) (ty := .int) (C := RX1) (T := TX1) (N := 4) hx hb hkw kin_X1 tyX1 tyX1_ok nmX1 hown hK hP hD hS 0 rfl rfl 0 (by decide) (hkw _ m_5) (fun _ h9 => h9) rfl hin rfl (by decide +kernel) rfl rfl (Nat.le_of_ble_eq_true rfl) dX1_init_14 (fun H locs hP hD hS => ?_)
  have hP : va_P (dC, dI) classes [(h0, .inr (0, [.int mv, .ref q1, .int 0, .int 0])), (q1, .inl (k2, 64, .inl (fun _ => 0)))] H := hP
  have hD : va_D A [(h0, .inr (0, [.int mv, .ref q1, .int 0, .int 0])), (q1, .inl (k2, 64, .inl (fun _ => 0)))] := hD
  have hP9 := hP.sub (ws' := [(h0, .inr (0, [.int mv, .ref q1, .int 0, .int 0])), (q1, .inl (k2, 64, .inl (fun _ => 0)))]) [0, 1] rfl
  have hD9 := hD.sub (ws' := [(h0, .inr (0, [.int mv, .ref q1, .int 0, .int 0])), (q1, .inl (k2, 64, .inl (fun _ => 0)))]) [0, 1] (by decide) rfl
  have hK9 := hK.sub (tys' := [(k2, .byte)]) [0] rfl
  refine W.widen (k := 1) (n := 64) (Nat.le_of_ble_eq_true rfl) (Nat.le_of_ble_eq_true rfl) ?_
  exact W.vret hx hb hr (fun t ht hW => ⟨⟨(q1, k2), rfl, trivial, by rw [ht]; exact hP9, va_K.moved hW.alike hK9, hD9⟩, hS.F ht⟩) hS.2.2 dX1_init_17

set_option maxHeartbeats 4000000 in
set_option maxRecDepth 100000 in
/-- Connection() -/
theorem i_Co_init (l : Launch) (dC : Nat → ClassId) (dI : Nat → Nat → Nat) (sz : Nat) (h0 : Nat) : Met l yX3_init wX3_init ({ frames := 2, cells := 8, slots := 300, locals := 33 }) (va_Pc [.ref h0] (pW (dC, dI) [(h0, .inr (1, [.int 0, .null, .null, .null, .int 0, .int 0, .int 0, .int 0, .null, .int 0, .null, .int 0]))] [] sz)) (va_Qv (fun ((q1, q2, q3, q4, q5, q6, q7, q8, k4, k5, k6, k7, k8) : Nat × Nat × Nat × Nat × Nat × Nat × Nat × Nat × ClassId × ClassId × ClassId × ClassId × ClassId) => True) (fun ((q1, q2, q3, q4, q5, q6, q7, q8, k4, k5, k6, k7, k8) : Nat × Nat × Nat × Nat × Nat × Nat × Nat × Nat × ClassId × ClassId × ClassId × ClassId × ClassId) (t : State) => bW (dC, dI) [(h0, .inr (1, [.int 1, .ref q1, .ref q2, .ref q3, .int 0, .int 0, .int 0, .int 0, .ref q4, .int 0, .ref q5, .int 0])), (q1, .inr (0, [.int 131076, .ref q6, .int 0, .int 0])), (q6, .inl (k6, 64, .inl (fun _ => 0))), (q2, .inr (0, [.int 65536, .ref q7, .int 0, .int 0])), (q7, .inl (k7, 64, .inl (fun _ => 0))), (q3, .inr (0, [.int 67108864, .ref q8, .int 0, .int 0])), (q8, .inl (k8, 64, .inl (fun _ => 0))), (q4, .inl (k4, 64, .inl (fun _ => 0))), (q5, .inl (k5, 32, .inl (fun _ => 0)))] [(k6, .byte), (k7, .byte), (k8, .byte), (k4, .int), (k5, .int)] (va_A [(h0, .inr (1, [.int 0, .null, .null, .null, .int 0, .int 0, .int 0, .int 0, .null, .int 0, .null, .int 0]))] sz) t) (va_A [(h0, .inr (1, [.int 0, .null, .null, .null, .int 0, .int 0, .int 0, .int 0, .null, .int 0, .null, .int 0]))] sz)) 8 300 (va_A [(h0, .inr (1, [.int 0, .null, .null, .null, .int 0, .int 0, .int 0, .int 0, .null, .int 0, .null, .int 0]))] sz) := by
  refine Met.ofW (cc := cX3_init) (maxL := 1) (ret := none) (by decide) rfl ?_
  intro p e s m args below meth c s₁ B hml hv
  obtain ⟨rfl, hsz, hP, hK, hD0, hfx⟩ := hv
  have hx := B.exec
  have hb := B.bytes
  have hr := B.returns
  have hts := atoms_spec (ws := wX3_init) B.pre
  have hkw : ∀ w ∈ kw, w.before _ s = true := fun w h => hts w (List.mem_cons_of_mem _ h)
  have hown : s.vm.findClass RX3 = some m.cls := findClass_of_methodNamed B.named
  have hlocks := B.notSynchronized
  have hin : meth.name = "<init>" := (name_of_methodNamed B.named B.method).1
  subst hsz
  have hD := hD0.self (sz := s.heap.size)
  generalize hAe : va_A [(h0, .inr (1, [.int 0, .null, .null, .null, .int 0, .int 0, .int 0, .int 0, .null, .int 0, .null, .int 0]))] s.heap.size = A at hD ⊢
  have hA : ∀ q : Nat, s.heap.size ≤ q → A q := fun q h => by rw [← hAe]; exact Or.inr h
  have hS : va_S A s.heap s.heap [] := va_S.rf
  have hP : va_P (dC, dI) classes [(h0, .inr (1, [.int 0, .null, .null, .null, .int 0, .int 0, .int 0, .int 0, .null, .int 0, .null, .int 0]))] s.heap := hP
  have hl := lv_entry ([.ref h0]) (n := 1) (Nat.le_of_ble_eq_true rfl)
  rw [lg_entry_eq]
  generalize (lg_sl ([.ref h0]) ++ List.replicate (1 - (lg_sl ([.ref h0])).length) Slot.unset).toArray = ls at hl ⊢
  have hl : lv_has ls 1 [(0, .ref h0)] := hl
  refine lv_aload_n hx hb dX3_init_0 rfl (lv_at hl 0 rfl) ?_
  refine W.objInit hx hb hown (hkw _ m_17) (hkw _ m_1) (hkw _ m_2) rfl (by rw [hml]; exact hl.1) rfl dX3_init_1 (Nat.le_of_ble_eq_true rfl) (Nat.le_of_ble_eq_true rfl) ?_
  refine W.eq (g2 := F0 m 4 ls []) rfl ?_
  refine lv_aload_n hx hb dX3_init_4 rfl (lv_at hl 0 rfl) ?_
  refine lv_iconst (v := 1) hx hb dX3_init_5 (by decide) ?_
  refine va_put (D := (dC, dI)) (ci := 1) (v := .int 1) (ty := .boolean) (C := RX3) (T := TX3) (N := 12) hx hb hkw kin_X3 tyX3 tyX3_ok nmX3 hown hK hP hD hS 0 rfl rfl 0 (by decide) (hkw _ m_18) (fun _ h9 => h9) rfl (by decide +kernel) rfl rfl (Nat.le_of_ble_eq_true rfl) dX3_init_6 (fun H locs hP hD hS => ?_)
  have hP : va_P (dC, dI) classes [(h0, .inr (1, [.int 1, .null, .null, .null, .int 0, .int 0, .int 0, .int 0, .null, .int 0, .null, .int 0]))] H := hP
  have hD : va_D A [(h0, .inr (1, [.int 1, .null, .null, .null, .int 0, .int 0, .int 0, .int 0, .null, .int 0, .null, .int 0]))] := hD
  refine lv_aload_n hx hb dX3_init_9 rfl (lv_at hl 0 rfl) ?_
  refine va_new (ci := 0) (fs := [.int 0, .null, .int 0, .int 0]) (C := RX1) (T := TX1) (N := 4) hx hb hkw kin_X1 tyX1 tyX1_ok hown (hkw _ m_19) (hkw _ m_20) (hkw _ m_9) hK hP hD hS hA rfl (df_X1) (Nat.le_of_ble_eq_true rfl) (Nat.le_of_ble_eq_true rfl) dX3_init_10 (fun q1 H hP hD hS => ?_)
  have hP : va_P (dC, dI) classes [(h0, .inr (1, [.int 1, .null, .null, .null, .int 0, .int 0, .int 0, .int 0, .null, .int 0, .null, .int 0])), (q1, .inr (0, [.int 0, .null, .int 0, .int 0]))] H := hP
  have hD : va_D A [(h0, .inr (1, [.int 1, .null, .null, .null, .int 0, .int 0, .int 0, .int 0, .null, .int 0, .null, .int 0])), (q1, .inr (0, [.int 0, .null, .int 0, .int 0]))] := hD
  refine W.widen (k := 1) (n := 4) (by decide) (by decide) ?_
  refine lv_dup hx hb dX3_init_13 rfl ?_
  refine lv_ldc (v := 131076) hx hb hown (hkw _ m_21) dX3_init_14 ?_
  have hPc := hP.sub (ws' := [(q1, .inr (0, [.int 0, .null, .int 0, .int 0]))]) [1] rfl
  have hDc := hD.sub (ws' := [(q1, .inr (0, [.int 0, .null, .int 0, .int 0]))]) [1] (by decide) rfl
  have hKc := hK.sub (tys' := []) [] rfl
  have hFc := va_free (wc := [(q1, .inr (0, [.int 0, .null, .int 0, .int 0]))]) hD hS hA [1] rfl
  refine va_callv (va_runI (As := [.int 131076]) (rest := [.ref q1, .ref h0]) ⟨hx, hb, hml, hown, hkw⟩ (i_By_init l dC dI H.size q1 131076) (cwI 1 hkw (kwI m_22) rfl rfl rfl (hkw _ m_9) (hkw _ m_23) (hkw _ m_24) rfl (by decide +kernel) ⟨Nat.le_of_ble_eq_true rfl, Nat.le_of_ble_eq_true rfl⟩) ⟨fbW, pW_in hPc hKc hDc hfx⟩ rfl rfl hl.1 rfl (lv_room (Nat.le_of_ble_eq_true rfl)) dX3_init_16 ⟨Nat.le_of_ble_eq_true rfl, Nat.le_of_ble_eq_true rfl⟩) hS (fun q _ h => hFc q h) hFc (fun u t H1 locs ht hvm hw hB hz1 hk1 hS => ?_)
  obtain ⟨q2, k3⟩ := u
  obtain ⟨hP1, hK1, hD1⟩ := hB
  rw [ht] at hP1
  have hK1 := va_K.moved hvm.symm hK1
  obtain ⟨hP, hD⟩ := va_join (wr := [(h0, .inr (1, [.int 1, .null, .null, .null, .int 0, .int 0, .int 0, .int 0, .null, .int 0, .null, .int 0]))]) (w1 := [(q1, .inr (0, [.int 131076, .ref q2, .int 0, .int 0])), (q2, .inl (k3, 64, .inl (fun _ => 0)))]) hP hD [1] [0] rfl rfl (by decide) (by decide) hk1 hFc hP1 hD1
  have hK := (hK.sub (tys' := []) [] rfl).app hK1
  generalize H1 = H at hP hS ⊢
  have hP : va_P (dC, dI) classes [(h0, .inr (1, [.int 1, .null, .null, .null, .int 0, .int 0, .int 0, .int 0, .null, .int 0, .null, .int 0])), (q1, .inr (0, [.int 131076, .ref q2, .int 0, .int 0])), (q2, .inl (k3, 64, .inl (fun _ => 0)))] H := hP
  have hD : va_D A [(h0, .inr (1, [.int 1, .null, .null, .null, .int 0, .int 0, .int 0, .int 0, .null, .int 0, .null, .int 0])), (q1, .inr (0, [.int 131076, .ref q2, .int 0, .int 0])), (q2, .inl (k3, 64, .inl (fun _ => 0)))] := hD
  have hK : va_K (dC, dI) classes [(k3, .byte)] s := hK
  refine W.widen (k := 2) (n := 68) (Nat.le_of_ble_eq_true rfl) (Nat.le_of_ble_eq_true rfl) ?_
  have hw4 := hw
  try dsimp only at hw4
  refine va_putF (D := (dC, dI)) (ci := 1) (v := .ref q1) (ty := .object "KeySteward$Bytes") (C := RX3) (T := TX3) (N := 12) hx hb hkw kin_X3 tyX3 tyX3_ok nmX3 hown hK hP hD hS 0 rfl rfl 1 (by decide) (hkw _ m_25) (fun _ h9 => h9) rfl hin rfl (by decide +kernel) rfl rfl (Nat.le_of_ble_eq_true rfl) dX3_init_19 (fun H locs hP hD hS => ?_)
  have hP : va_P (dC, dI) classes [(h0, .inr (1, [.int 1, .ref q1, .null, .null, .int 0, .int 0, .int 0, .int 0, .null, .int 0, .null, .int 0])), (q1, .inr (0, [.int 131076, .ref q2, .int 0, .int 0])), (q2, .inl (k3, 64, .inl (fun _ => 0)))] H := hP
  have hD : va_D A [(h0, .inr (1, [.int 1, .ref q1, .null, .null, .int 0, .int 0, .int 0, .int 0, .null, .int 0, .null, .int 0])), (q1, .inr (0, [.int 131076, .ref q2, .int 0, .int 0])), (q2, .inl (k3, 64, .inl (fun _ => 0)))] := hD
  refine lv_aload_n hx hb dX3_init_22 rfl (lv_at hl 0 rfl) ?_
  refine va_new (ci := 0) (fs := [.int 0, .null, .int 0, .int 0]) (C := RX1) (T := TX1) (N := 4) hx hb hkw kin_X1 tyX1 tyX1_ok hown (hkw _ m_19) (hkw _ m_20) (hkw _ m_9) hK hP hD hS hA rfl (df_X1) (Nat.le_of_ble_eq_true rfl) (Nat.le_of_ble_eq_true rfl) dX3_init_23 (fun q5 H hP hD hS => ?_)
  have hP : va_P (dC, dI) classes [(h0, .inr (1, [.int 1, .ref q1, .null, .null, .int 0, .int 0, .int 0, .int 0, .null, .int 0, .null, .int 0])), (q1, .inr (0, [.int 131076, .ref q2, .int 0, .int 0])), (q2, .inl (k3, 64, .inl (fun _ => 0))), (q5, .inr (0, [.int 0, .null, .int 0, .int 0]))] H := hP
  have hD : va_D A [(h0, .inr (1, [.int 1, .ref q1, .null, .null, .int 0, .int 0, .int 0, .int 0, .null, .int 0, .null, .int 0])), (q1, .inr (0, [.int 131076, .ref q2, .int 0, .int 0])), (q2, .inl (k3, 64, .inl (fun _ => 0))), (q5, .inr (0, [.int 0, .null, .int 0, .int 0]))] := hD
  refine W.widen (k := 3) (n := 72) (by decide) (by decide) ?_
  refine lv_dup hx hb dX3_init_26 rfl ?_
  refine lv_ldc (v := 65536) hx hb hown (hkw _ m_26) dX3_init_27 ?_
  have hPc := hP.sub (ws' := [(q5, .inr (0, [.int 0, .null, .int 0, .int 0]))]) [3] rfl
  have hDc := hD.sub (ws' := [(q5, .inr (0, [.int 0, .null, .int 0, .int 0]))]) [3] (by decide) rfl
  have hKc := hK.sub (tys' := []) [] rfl
  have hFc := va_free (wc := [(q5, .inr (0, [.int 0, .null, .int 0, .int 0]))]) hD hS hA [3] rfl
  refine va_callv (va_runI (As := [.int 65536]) (rest := [.ref q5, .ref h0]) ⟨hx, hb, hml, hown, hkw⟩ (i_By_init l dC dI H.size q5 65536) (cwI 1 hkw (kwI m_22) rfl rfl rfl (hkw _ m_9) (hkw _ m_23) (hkw _ m_24) rfl (by decide +kernel) ⟨Nat.le_of_ble_eq_true rfl, Nat.le_of_ble_eq_true rfl⟩) ⟨fbW, pW_in hPc hKc hDc hfx⟩ rfl rfl hl.1 rfl (lv_room (Nat.le_of_ble_eq_true rfl)) dX3_init_29 ⟨Nat.le_of_ble_eq_true rfl, Nat.le_of_ble_eq_true rfl⟩) hS (fun q _ h => hFc q h) hFc (fun u t H1 locs ht hvm hw hB hz1 hk1 hS => ?_)
  obtain ⟨q6, k7⟩ := u
  obtain ⟨hP1, hK1, hD1⟩ := hB
  rw [ht] at hP1
  have hK1 := va_K.moved hvm.symm hK1
  obtain ⟨hP, hD⟩ := va_join (wr := [(h0, .inr (1, [.int 1, .ref q1, .null, .null, .int 0, .int 0, .int 0, .int 0, .null, .int 0, .null, .int 0])), (q1, .inr (0, [.int 131076, .ref q2, .int 0, .int 0])), (q2, .inl (k3, 64, .inl (fun _ => 0)))]) (w1 := [(q5, .inr (0, [.int 65536, .ref q6, .int 0, .int 0])), (q6, .inl (k7, 64, .inl (fun _ => 0)))]) hP hD [3] [0, 1, 2] rfl rfl (by decide) (by decide) hk1 hFc hP1 hD1
  have hK := (hK.sub (tys' := [(k3, .byte)]) [0] rfl).app hK1
  generalize H1 = H at hP hS ⊢
  have hP : va_P (dC, dI) classes [(h0, .inr (1, [.int 1, .ref q1, .null, .null, .int 0, .int 0, .int 0, .int 0, .null, .int 0, .null, .int 0])), (q1, .inr (0, [.int 131076, .ref q2, .int 0, .int 0])), (q2, .inl (k3, 64, .inl (fun _ => 0))), (q5, .inr (0, [.int 65536, .ref q6, .int 0, .int 0])), (q6, .inl (k7, 64, .inl (fun _ => 0)))] H := hP
  have hD : va_D A [(h0, .inr (1, [.int 1, .ref q1, .null, .null, .int 0, .int 0, .int 0, .int 0, .null, .int 0, .null, .int 0])), (q1, .inr (0, [.int 131076, .ref q2, .int 0, .int 0])), (q2, .inl (k3, 64, .inl (fun _ => 0))), (q5, .inr (0, [.int 65536, .ref q6, .int 0, .int 0])), (q6, .inl (k7, 64, .inl (fun _ => 0)))] := hD
  have hK : va_K (dC, dI) classes [(k3, .byte), (k7, .byte)] s := hK
  refine W.widen (k := 4) (n := 136) (Nat.le_of_ble_eq_true rfl) (Nat.le_of_ble_eq_true rfl) ?_
  have hw8 := hw
  try dsimp only at hw8
  refine va_putF (D := (dC, dI)) (ci := 1) (v := .ref q5) (ty := .object "KeySteward$Bytes") (C := RX3) (T := TX3) (N := 12) hx hb hkw kin_X3 tyX3 tyX3_ok nmX3 hown hK hP hD hS 0 rfl rfl 2 (by decide) (hkw _ m_27) (fun _ h9 => h9) rfl hin rfl (by decide +kernel) rfl rfl (Nat.le_of_ble_eq_true rfl) dX3_init_32 (fun H locs hP hD hS => ?_)
  have hP : va_P (dC, dI) classes [(h0, .inr (1, [.int 1, .ref q1, .ref q5, .null, .int 0, .int 0, .int 0, .int 0, .null, .int 0, .null, .int 0])), (q1, .inr (0, [.int 131076, .ref q2, .int 0, .int 0])), (q2, .inl (k3, 64, .inl (fun _ => 0))), (q5, .inr (0, [.int 65536, .ref q6, .int 0, .int 0])), (q6, .inl (k7, 64, .inl (fun _ => 0)))] H := hP
  have hD : va_D A [(h0, .inr (1, [.int 1, .ref q1, .ref q5, .null, .int 0, .int 0, .int 0, .int 0, .null, .int 0, .null, .int 0])), (q1, .inr (0, [.int 131076, .ref q2, .int 0, .int 0])), (q2, .inl (k3, 64, .inl (fun _ => 0))), (q5, .inr (0, [.int 65536, .ref q6, .int 0, .int 0])), (q6, .inl (k7, 64, .inl (fun _ => 0)))] := hD
  refine lv_aload_n hx hb dX3_init_35 rfl (lv_at hl 0 rfl) ?_
  refine va_new (ci := 0) (fs := [.int 0, .null, .int 0, .int 0]) (C := RX1) (T := TX1) (N := 4) hx hb hkw kin_X1 tyX1 tyX1_ok hown (hkw _ m_19) (hkw _ m_20) (hkw _ m_9) hK hP hD hS hA rfl (df_X1) (Nat.le_of_ble_eq_true rfl) (Nat.le_of_ble_eq_true rfl) dX3_init_36 (fun q9 H hP hD hS => ?_)
  have hP : va_P (dC, dI) classes [(h0, .inr (1, [.int 1, .ref q1, .ref q5, .null, .int 0, .int 0, .int 0, .int 0, .null, .int 0, .null, .int 0])), (q1, .inr (0, [.int 131076, .ref q2, .int 0, .int 0])), (q2, .inl (k3, 64, .inl (fun _ => 0))), (q5, .inr (0, [.int 65536, .ref q6, .int 0, .int 0])), (q6, .inl (k7, 64, .inl (fun _ => 0))), (q9, .inr (0, [.int 0, .null, .int 0, .int 0]))] H := hP
  have hD : va_D A [(h0, .inr (1, [.int 1, .ref q1, .ref q5, .null, .int 0, .int 0, .int 0, .int 0, .null, .int 0, .null, .int 0])), (q1, .inr (0, [.int 131076, .ref q2, .int 0, .int 0])), (q2, .inl (k3, 64, .inl (fun _ => 0))), (q5, .inr (0, [.int 65536, .ref q6, .int 0, .int 0])), (q6, .inl (k7, 64, .inl (fun _ => 0))), (q9, .inr (0, [.int 0, .null, .int 0, .int 0]))] := hD
  refine W.widen (k := 5) (n := 140) (by decide) (by decide) ?_
  refine lv_dup hx hb dX3_init_39 rfl ?_
  refine lv_ldc (v := 67108864) hx hb hown (hkw _ m_28) dX3_init_40 ?_
  have hPc := hP.sub (ws' := [(q9, .inr (0, [.int 0, .null, .int 0, .int 0]))]) [5] rfl
  have hDc := hD.sub (ws' := [(q9, .inr (0, [.int 0, .null, .int 0, .int 0]))]) [5] (by decide) rfl
  have hKc := hK.sub (tys' := []) [] rfl
  have hFc := va_free (wc := [(q9, .inr (0, [.int 0, .null, .int 0, .int 0]))]) hD hS hA [5] rfl
  refine va_callv (va_runI (As := [.int 67108864]) (rest := [.ref q9, .ref h0]) ⟨hx, hb, hml, hown, hkw⟩ (i_By_init l dC dI H.size q9 67108864) (cwI 1 hkw (kwI m_22) rfl rfl rfl (hkw _ m_9) (hkw _ m_23) (hkw _ m_24) rfl (by decide +kernel) ⟨Nat.le_of_ble_eq_true rfl, Nat.le_of_ble_eq_true rfl⟩) ⟨fbW, pW_in hPc hKc hDc hfx⟩ rfl rfl hl.1 rfl (lv_room (Nat.le_of_ble_eq_true rfl)) dX3_init_42 ⟨Nat.le_of_ble_eq_true rfl, Nat.le_of_ble_eq_true rfl⟩) hS (fun q _ h => hFc q h) hFc (fun u t H1 locs ht hvm hw hB hz1 hk1 hS => ?_)
  obtain ⟨q10, k11⟩ := u
  obtain ⟨hP1, hK1, hD1⟩ := hB
  rw [ht] at hP1
  have hK1 := va_K.moved hvm.symm hK1
  obtain ⟨hP, hD⟩ := va_join (wr := [(h0, .inr (1, [.int 1, .ref q1, .ref q5, .null, .int 0, .int 0, .int 0, .int 0, .null, .int 0, .null, .int 0])), (q1, .inr (0, [.int 131076, .ref q2, .int 0, .int 0])), (q2, .inl (k3, 64, .inl (fun _ => 0))), (q5, .inr (0, [.int 65536, .ref q6, .int 0, .int 0])), (q6, .inl (k7, 64, .inl (fun _ => 0)))]) (w1 := [(q9, .inr (0, [.int 67108864, .ref q10, .int 0, .int 0])), (q10, .inl (k11, 64, .inl (fun _ => 0)))]) hP hD [5] [0, 1, 2, 3, 4] rfl rfl (by decide) (by decide) hk1 hFc hP1 hD1
  have hK := (hK.sub (tys' := [(k3, .byte), (k7, .byte)]) [0, 1] rfl).app hK1
  generalize H1 = H at hP hS ⊢
  have hP : va_P (dC, dI) classes [(h0, .inr (1, [.int 1, .ref q1, .ref q5, .null, .int 0, .int 0, .int 0, .int 0, .null, .int 0, .null, .int 0])), (q1, .inr (0, [.int 131076, .ref q2, .int 0, .int 0])), (q2, .inl (k3, 64, .inl (fun _ => 0))), (q5, .inr (0, [.int 65536, .ref q6, .int 0, .int 0])), (q6, .inl (k7, 64, .inl (fun _ => 0))), (q9, .inr (0, [.int 67108864, .ref q10, .int 0, .int 0])), (q10, .inl (k11, 64, .inl (fun _ => 0)))] H := hP
  have hD : va_D A [(h0, .inr (1, [.int 1, .ref q1, .ref q5, .null, .int 0, .int 0, .int 0, .int 0, .null, .int 0, .null, .int 0])), (q1, .inr (0, [.int 131076, .ref q2, .int 0, .int 0])), (q2, .inl (k3, 64, .inl (fun _ => 0))), (q5, .inr (0, [.int 65536, .ref q6, .int 0, .int 0])), (q6, .inl (k7, 64, .inl (fun _ => 0))), (q9, .inr (0, [.int 67108864, .ref q10, .int 0, .int 0])), (q10, .inl (k11, 64, .inl (fun _ => 0)))] := hD
  have hK : va_K (dC, dI) classes [(k3, .byte), (k7, .byte), (k11, .byte)] s := hK
  refine W.widen (k := 6) (n := 204) (Nat.le_of_ble_eq_true rfl) (Nat.le_of_ble_eq_true rfl) ?_
  have hw12 := hw
  try dsimp only at hw12
  refine va_put (D := (dC, dI)) (ci := 1) (v := .ref q9) (ty := .object "KeySteward$Bytes") (C := RX3) (T := TX3) (N := 12) hx hb hkw kin_X3 tyX3 tyX3_ok nmX3 hown hK hP hD hS 0 rfl rfl 3 (by decide) (hkw _ m_29) (fun _ h9 => h9) rfl (by decide +kernel) rfl rfl (Nat.le_of_ble_eq_true rfl) dX3_init_45 (fun H locs hP hD hS => ?_)
  have hP : va_P (dC, dI) classes [(h0, .inr (1, [.int 1, .ref q1, .ref q5, .ref q9, .int 0, .int 0, .int 0, .int 0, .null, .int 0, .null, .int 0])), (q1, .inr (0, [.int 131076, .ref q2, .int 0, .int 0])), (q2, .inl (k3, 64, .inl (fun _ => 0))), (q5, .inr (0, [.int 65536, .ref q6, .int 0, .int 0])), (q6, .inl (k7, 64, .inl (fun _ => 0))), (q9, .inr (0, [.int 67108864, .ref q10, .int 0, .int 0])), (q10, .inl (k11, 64, .inl (fun _ => 0)))] H := hP
  have hD : va_D A [(h0, .inr (1, [.int 1, .ref q1, .ref q5, .ref q9, .int 0, .int 0, .int 0, .int 0, .null, .int 0, .null, .int 0])), (q1, .inr (0, [.int 131076, .ref q2, .int 0, .int 0])), (q2, .inl (k3, 64, .inl (fun _ => 0))), (q5, .inr (0, [.int 65536, .ref q6, .int 0, .int 0])), (q6, .inl (k7, 64, .inl (fun _ => 0))), (q9, .inr (0, [.int 67108864, .ref q10, .int 0, .int 0])), (q10, .inl (k11, 64, .inl (fun _ => 0)))] := hD
  refine lv_aload_n hx hb dX3_init_48 rfl (lv_at hl 0 rfl) ?_
  refine lv_bipush (v := 64) hx hb dX3_init_49 (by decide) ?_
  refine va_newa (atype := .int) (a0 := (64, .inl (fun _ => 0))) (N' := 64) (n := 64) (ty := .int) hx hb (hkw _ m_30) rfl hK hP hD hS hA (fun _ => rfl) (by decide) (by decide) (by decide) (Nat.le_of_ble_eq_true rfl) (Nat.le_of_ble_eq_true rfl) dX3_init_51 (fun q13 k14 H hK hP hD hS => ?_)
  have hP : va_P (dC, dI) classes [(h0, .inr (1, [.int 1, .ref q1, .ref q5, .ref q9, .int 0, .int 0, .int 0, .int 0, .null, .int 0, .null, .int 0])), (q1, .inr (0, [.int 131076, .ref q2, .int 0, .int 0])), (q2, .inl (k3, 64, .inl (fun _ => 0))), (q5, .inr (0, [.int 65536, .ref q6, .int 0, .int 0])), (q6, .inl (k7, 64, .inl (fun _ => 0))), (q9, .inr (0, [.int 67108864, .ref q10, .int 0, .int 0])), (q10, .inl (k11, 64, .inl (fun _ => 0))), (q13, .inl (k14, 64, .inl (fun _ => 0)))] H := hP
  have hD : va_D A [(h0, .inr (1, [.int 1, .ref q1, .ref q5, .ref q9, .int 0, .int 0, .int 0, .int 0, .null, .int 0, .null, .int 0])), (q1, .inr (0, [.int 131076, .ref q2, .int 0, .int 0])), (q2, .inl (k3, 64, .inl (fun _ => 0))), (q5, .inr (0, [.int 65536, .ref q6, .int 0, .int 0])), (q6, .inl (k7, 64, .inl (fun _ => 0))), (q9, .inr (0, [.int 67108864, .ref q10, .int 0, .int 0])), (q10, .inl (k11, 64, .inl (fun _ => 0))), (q13, .inl (k14, 64, .inl (fun _ => 0)))] := hD
  have hK : va_K (dC, dI) classes [(k3, .byte), (k7, .byte), (k11, .byte), (k14, .int)] s := hK
  refine W.widen (k := 7) (n := 268) (by decide) (by decide) ?_
  refine va_putF (D := (dC, dI)) (ci := 1) (v := .ref q13) (ty := .array .int) (C := RX3) (T := TX3) (N := 12) hx hb hkw kin_X3 tyX3 tyX3_ok nmX3 hown hK hP hD hS 0 rfl rfl 8 (by decide) (hkw _ m_31) (fun _ h9 => h9) rfl hin rfl (by decide +kernel) rfl rfl (Nat.le_of_ble_eq_true rfl) dX3_init_53 (fun H locs hP hD hS => ?_)
  have hP : va_P (dC, dI) classes [(h0, .inr (1, [.int 1, .ref q1, .ref q5, .ref q9, .int 0, .int 0, .int 0, .int 0, .ref q13, .int 0, .null, .int 0])), (q1, .inr (0, [.int 131076, .ref q2, .int 0, .int 0])), (q2, .inl (k3, 64, .inl (fun _ => 0))), (q5, .inr (0, [.int 65536, .ref q6, .int 0, .int 0])), (q6, .inl (k7, 64, .inl (fun _ => 0))), (q9, .inr (0, [.int 67108864, .ref q10, .int 0, .int 0])), (q10, .inl (k11, 64, .inl (fun _ => 0))), (q13, .inl (k14, 64, .inl (fun _ => 0)))] H := hP
  have hD : va_D A [(h0, .inr (1, [.int 1, .ref q1, .ref q5, .ref q9, .int 0, .int 0, .int 0, .int 0, .ref q13, .int 0, .null, .int 0])), (q1, .inr (0, [.int 131076, .ref q2, .int 0, .int 0])), (q2, .inl (k3, 64, .inl (fun _ => 0))), (q5, .inr (0, [.int 65536, .ref q6, .int 0, .int 0])), (q6, .inl (k7, 64, .inl (fun _ => 0))), (q9, .inr (0, [.int 67108864, .ref q10, .int 0, .int 0])), (q10, .inl (k11, 64, .inl (fun _ => 0))), (q13, .inl (k14, 64, .inl (fun _ => 0)))] := hD
  refine lv_aload_n hx hb dX3_init_56 rfl (lv_at hl 0 rfl) ?_
  refine lv_bipush (v := 32) hx hb dX3_init_57 (by decide) ?_
  refine va_newa (atype := .int) (a0 := (32, .inl (fun _ => 0))) (N' := 32) (n := 32) (ty := .int) hx hb (hkw _ m_30) rfl hK hP hD hS hA (fun _ => rfl) (by decide) (by decide) (by decide) (Nat.le_of_ble_eq_true rfl) (Nat.le_of_ble_eq_true rfl) dX3_init_59 (fun q15 k16 H hK hP hD hS => ?_)
  have hP : va_P (dC, dI) classes [(h0, .inr (1, [.int 1, .ref q1, .ref q5, .ref q9, .int 0, .int 0, .int 0, .int 0, .ref q13, .int 0, .null, .int 0])), (q1, .inr (0, [.int 131076, .ref q2, .int 0, .int 0])), (q2, .inl (k3, 64, .inl (fun _ => 0))), (q5, .inr (0, [.int 65536, .ref q6, .int 0, .int 0])), (q6, .inl (k7, 64, .inl (fun _ => 0))), (q9, .inr (0, [.int 67108864, .ref q10, .int 0, .int 0])), (q10, .inl (k11, 64, .inl (fun _ => 0))), (q13, .inl (k14, 64, .inl (fun _ => 0))), (q15, .inl (k16, 32, .inl (fun _ => 0)))] H := hP
  have hD : va_D A [(h0, .inr (1, [.int 1, .ref q1, .ref q5, .ref q9, .int 0, .int 0, .int 0, .int 0, .ref q13, .int 0, .null, .int 0])), (q1, .inr (0, [.int 131076, .ref q2, .int 0, .int 0])), (q2, .inl (k3, 64, .inl (fun _ => 0))), (q5, .inr (0, [.int 65536, .ref q6, .int 0, .int 0])), (q6, .inl (k7, 64, .inl (fun _ => 0))), (q9, .inr (0, [.int 67108864, .ref q10, .int 0, .int 0])), (q10, .inl (k11, 64, .inl (fun _ => 0))), (q13, .inl (k14, 64, .inl (fun _ => 0))), (q15, .inl (k16, 32, .inl (fun _ => 0)))] := hD
  have hK : va_K (dC, dI) classes [(k3, .byte), (k7, .byte), (k11, .byte), (k14, .int), (k16, .int)] s := hK
  refine W.widen (k := 8) (n := 300) (by decide) (by decide) ?_
  refine va_putF (D := (dC, dI)) (ci := 1) (v := .ref q15) (ty := .array .int) (C := RX3) (T := TX3) (N := 12) hx hb hkw kin_X3 tyX3 tyX3_ok nmX3 hown hK hP hD hS 0 rfl rfl 10 (by decide) (hkw _ m_32) (fun _ h9 => h9) rfl hin rfl (by decide +kernel) rfl rfl (Nat.le_of_ble_eq_true rfl) dX3_init_61 (fun H locs hP hD hS => ?_)
  have hP : va_P (dC, dI) classes [(h0, .inr (1, [.int 1, .ref q1, .ref q5, .ref q9, .int 0, .int 0, .int 0, .int 0, .ref q13, .int 0, .ref q15, .int 0])), (q1, .inr (0, [.int 131076, .ref q2, .int 0, .int 0])), (q2, .inl (k3, 64, .inl (fun _ => 0))), (q5, .inr (0, [.int 65536, .ref q6, .int 0, .int 0])), (q6, .inl (k7, 64, .inl (fun _ => 0))), (q9, .inr (0, [.int 67108864, .ref q10, .int 0, .int 0])), (q10, .inl (k11, 64, .inl (fun _ => 0))), (q13, .inl (k14, 64, .inl (fun _ => 0))), (q15, .inl (k16, 32, .inl (fun _ => 0)))] H := hP
  have hD : va_D A [(h0, .inr (1, [.int 1, .ref q1, .ref q5, .ref q9, .int 0, .int 0, .int 0, .int 0, .ref q13, .int 0, .ref q15, .int 0])), (q1, .inr (0, [.int 131076, .ref q2, .int 0, .int 0])), (q2, .inl (k3, 64, .inl (fun _ => 0))), (q5, .inr (0, [.int 65536, .ref q6, .int 0, .int 0])), (q6, .inl (k7, 64, .inl (fun _ => 0))), (q9, .inr (0, [.int 67108864, .ref q10, .int 0, .int 0])), (q10, .inl (k11, 64, .inl (fun _ => 0))), (q13, .inl (k14, 64, .inl (fun _ => 0))), (q15, .inl (k16, 32, .inl (fun _ => 0)))] := hD
  have hP9 := hP.sub (ws' := [(h0, .inr (1, [.int 1, .ref q1, .ref q5, .ref q9, .int 0, .int 0, .int 0, .int 0, .ref q13, .int 0, .ref q15, .int 0])), (q1, .inr (0, [.int 131076, .ref q2, .int 0, .int 0])), (q2, .inl (k3, 64, .inl (fun _ => 0))), (q5, .inr (0, [.int 65536, .ref q6, .int 0, .int 0])), (q6, .inl (k7, 64, .inl (fun _ => 0))), (q9, .inr (0, [.int 67108864, .ref q10, .int 0, .int 0])), (q10, .inl (k11, 64, .inl (fun _ => 0))), (q13, .inl (k14, 64, .inl (fun _ => 0))), (q15, .inl (k16, 32, .inl (fun _ => 0)))]) [0, 1, 2, 3, 4, 5, 6, 7, 8] rfl
  have hD9 := hD.sub (ws' := [(h0, .inr (1, [.int 1, .ref q1, .ref q5, .ref q9, .int 0, .int 0, .int 0, .int 0, .ref q13, .int 0, .ref q15, .int 0])), (q1, .inr (0, [.int 131076, .ref q2, .int 0, .int 0])), (q2, .inl (k3, 64, .inl (fun _ => 0))), (q5, .inr (0, [.int 65536, .ref q6, .int 0, .int 0])), (q6, .inl (k7, 64, .inl (fun _ => 0))), (q9, .inr (0, [.int 67108864, .ref q10, .int 0, .int 0])), (q10, .inl (k11, 64, .inl (fun _ => 0))), (q13, .inl (k14, 64, .inl (fun _ => 0))), (q15, .inl (k16, 32, .inl (fun _ => 0)))]) [0, 1, 2, 3, 4, 5, 6, 7, 8] (by decide) rfl
  have hK9 := hK.sub (tys' := [(k3, .byte), (k7, .byte), (k11, .byte), (k14, .int), (k16, .int)]) [0, 1, 2, 3, 4] rfl
  refine W.widen (k := 8) (n := 300) (Nat.le_of_ble_eq_true rfl) (Nat.le_of_ble_eq_true rfl) ?_
  exact W.vret hx hb hr (fun t ht hW => ⟨⟨(q1, q5, q9, q13, q15, q2, q6, q10, k14, k16, k3, k7, k11), rfl, trivial, by rw [ht]; exact hP9, va_K.moved hW.alike hK9, hD9⟩, hS.F ht⟩) hS.2.2 dX3_init_64

set_option maxHeartbeats 4000000 in
set_option maxRecDepth 100000 in
/-- Words() -/
theorem i_Wo_init (l : Launch) (dC : Nat → ClassId) (dI : Nat → Nat → Nat) (sz : Nat) (h0 : Nat) : Met l yX11_init wX11_init ({ frames := 1, cells := 4, slots := 2304, locals := 12 }) (va_Pc [.ref h0] (pW (dC, dI) [(h0, .inr (2, [.null, .null, .null, .null, .int 0]))] [] sz)) (va_Qv (fun ((q1, q2, q3, q4, k1, k2, k3, k4) : Nat × Nat × Nat × Nat × ClassId × ClassId × ClassId × ClassId) => True) (fun ((q1, q2, q3, q4, k1, k2, k3, k4) : Nat × Nat × Nat × Nat × ClassId × ClassId × ClassId × ClassId) (t : State) => bW (dC, dI) [(h0, .inr (2, [.ref q1, .ref q2, .ref q3, .ref q4, .int 0])), (q1, .inl (k1, 1024, .inl (fun _ => 0))), (q2, .inl (k2, 128, .inl (fun _ => 0))), (q3, .inl (k3, 128, .inl (fun _ => 0))), (q4, .inl (k4, 1024, .inl (fun _ => 0)))] [(k1, .byte), (k2, .int), (k3, .int), (k4, .int)] (va_A [(h0, .inr (2, [.null, .null, .null, .null, .int 0]))] sz) t) (va_A [(h0, .inr (2, [.null, .null, .null, .null, .int 0]))] sz)) 4 2304 (va_A [(h0, .inr (2, [.null, .null, .null, .null, .int 0]))] sz) := by
  refine Met.ofW (cc := cX11_init) (maxL := 1) (ret := none) (by decide) rfl ?_
  intro p e s m args below meth c s₁ B hml hv
  obtain ⟨rfl, hsz, hP, hK, hD0, hfx⟩ := hv
  have hx := B.exec
  have hb := B.bytes
  have hr := B.returns
  have hts := atoms_spec (ws := wX11_init) B.pre
  have hkw : ∀ w ∈ kw, w.before _ s = true := fun w h => hts w (List.mem_cons_of_mem _ h)
  have hown : s.vm.findClass RX11 = some m.cls := findClass_of_methodNamed B.named
  have hlocks := B.notSynchronized
  have hin : meth.name = "<init>" := (name_of_methodNamed B.named B.method).1
  subst hsz
  have hD := hD0.self (sz := s.heap.size)
  generalize hAe : va_A [(h0, .inr (2, [.null, .null, .null, .null, .int 0]))] s.heap.size = A at hD ⊢
  have hA : ∀ q : Nat, s.heap.size ≤ q → A q := fun q h => by rw [← hAe]; exact Or.inr h
  have hS : va_S A s.heap s.heap [] := va_S.rf
  have hP : va_P (dC, dI) classes [(h0, .inr (2, [.null, .null, .null, .null, .int 0]))] s.heap := hP
  have hl := lv_entry ([.ref h0]) (n := 1) (Nat.le_of_ble_eq_true rfl)
  rw [lg_entry_eq]
  generalize (lg_sl ([.ref h0]) ++ List.replicate (1 - (lg_sl ([.ref h0])).length) Slot.unset).toArray = ls at hl ⊢
  have hl : lv_has ls 1 [(0, .ref h0)] := hl
  refine lv_aload_n hx hb dX11_init_0 rfl (lv_at hl 0 rfl) ?_
  refine W.objInit hx hb hown (hkw _ m_52) (hkw _ m_1) (hkw _ m_2) rfl (by rw [hml]; exact hl.1) rfl dX11_init_1 (Nat.le_of_ble_eq_true rfl) (Nat.le_of_ble_eq_true rfl) ?_
  refine W.eq (g2 := F0 m 4 ls []) rfl ?_
  refine lv_aload_n hx hb dX11_init_4 rfl (lv_at hl 0 rfl) ?_
  refine lv_sipush (v := 1024) hx hb dX11_init_5 (by decide) ?_
  refine va_newa (atype := .byte) (a0 := (1024, .inl (fun _ => 0))) (N' := 1024) (n := 1024) (ty := .byte) hx hb (hkw _ m_3) rfl hK hP hD hS hA (fun _ => rfl) (by decide) (by decide) (by decide) (Nat.le_of_ble_eq_true rfl) (Nat.le_of_ble_eq_true rfl) dX11_init_8 (fun q1 k2 H hK hP hD hS => ?_)
  have hP : va_P (dC, dI) classes [(h0, .inr (2, [.null, .null, .null, .null, .int 0])), (q1, .inl (k2, 1024, .inl (fun _ => 0)))] H := hP
  have hD : va_D A [(h0, .inr (2, [.null, .null, .null, .null, .int 0])), (q1, .inl (k2, 1024, .inl (fun _ => 0)))] := hD
  have hK : va_K (dC, dI) classes [(k2, .byte)] s := hK
  refine W.widen (k := 1) (n := 1024) (by decide) (by decide) ?_
  refine va_put (D := (dC, dI)) (ci := 2) (v := .ref q1) (ty := .array .byte) (C := RX11) (T := TX11) (N := 5) hx hb hkw kin_X11 tyX11 tyX11_ok nmX11 hown hK hP hD hS 0 rfl rfl 0 (by decide) (hkw _ m_53) (fun _ h9 => h9) rfl (by decide +kernel) rfl rfl (Nat.le_of_ble_eq_true rfl) dX11_init_10 (fun H locs hP hD hS => ?_)
  have hP : va_P (dC, dI) classes [(h0, .inr (2, [.ref q1, .null, .null, .null, .int 0])), (q1, .inl (k2, 1024, .inl (fun _ => 0)))] H := hP
  have hD : va_D A [(h0, .inr (2, [.ref q1, .null, .null, .null, .int 0])), (q1, .inl (k2, 1024, .inl (fun _ => 0)))] := hD
  refine lv_aload_n hx hb dX11_init_13 rfl (lv_at hl 0 rfl) ?_
  refine lv_sipush (v := 128) hx hb dX11_init_14 (by decide) ?_
  refine va_newa (atype := .int) (a0 := (128, .inl (fun _ => 0))) (N' := 128) (n := 128) (ty := .int) hx hb (hkw _ m_30) rfl hK hP hD hS hA (fun _ => rfl) (by decide) (by decide) (by decide) (Nat.le_of_ble_eq_true rfl) (Nat.le_of_ble_eq_true rfl) dX11_init_17 (fun q3 k4 H hK hP hD hS => ?_)
  have hP : va_P (dC, dI) classes [(h0, .inr (2, [.ref q1, .null, .null, .null, .int 0])), (q1, .inl (k2, 1024, .inl (fun _ => 0))), (q3, .inl (k4, 128, .inl (fun _ => 0)))] H := hP
  have hD : va_D A [(h0, .inr (2, [.ref q1, .null, .null, .null, .int 0])), (q1, .inl (k2, 1024, .inl (fun _ => 0))), (q3, .inl (k4, 128, .inl (fun _ => 0)))] := hD
  have hK : va_K (dC, dI) classes [(k2, .byte), (k4, .int)] s := hK
  refine W.widen (k := 2) (n := 1152) (by decide) (by decide) ?_
  refine va_put (D := (dC, dI)) (ci := 2) (v := .ref q3) (ty := .array .int) (C := RX11) (T := TX11) (N := 5) hx hb hkw kin_X11 tyX11 tyX11_ok nmX11 hown hK hP hD hS 0 rfl rfl 1 (by decide) (hkw _ m_54) (fun _ h9 => h9) rfl (by decide +kernel) rfl rfl (Nat.le_of_ble_eq_true rfl) dX11_init_19 (fun H locs hP hD hS => ?_)
  have hP : va_P (dC, dI) classes [(h0, .inr (2, [.ref q1, .ref q3, .null, .null, .int 0])), (q1, .inl (k2, 1024, .inl (fun _ => 0))), (q3, .inl (k4, 128, .inl (fun _ => 0)))] H := hP
  have hD : va_D A [(h0, .inr (2, [.ref q1, .ref q3, .null, .null, .int 0])), (q1, .inl (k2, 1024, .inl (fun _ => 0))), (q3, .inl (k4, 128, .inl (fun _ => 0)))] := hD
  refine lv_aload_n hx hb dX11_init_22 rfl (lv_at hl 0 rfl) ?_
  refine lv_sipush (v := 128) hx hb dX11_init_23 (by decide) ?_
  refine va_newa (atype := .int) (a0 := (128, .inl (fun _ => 0))) (N' := 128) (n := 128) (ty := .int) hx hb (hkw _ m_30) rfl hK hP hD hS hA (fun _ => rfl) (by decide) (by decide) (by decide) (Nat.le_of_ble_eq_true rfl) (Nat.le_of_ble_eq_true rfl) dX11_init_26 (fun q5 k6 H hK hP hD hS => ?_)
  have hP : va_P (dC, dI) classes [(h0, .inr (2, [.ref q1, .ref q3, .null, .null, .int 0])), (q1, .inl (k2, 1024, .inl (fun _ => 0))), (q3, .inl (k4, 128, .inl (fun _ => 0))), (q5, .inl (k6, 128, .inl (fun _ => 0)))] H := hP
  have hD : va_D A [(h0, .inr (2, [.ref q1, .ref q3, .null, .null, .int 0])), (q1, .inl (k2, 1024, .inl (fun _ => 0))), (q3, .inl (k4, 128, .inl (fun _ => 0))), (q5, .inl (k6, 128, .inl (fun _ => 0)))] := hD
  have hK : va_K (dC, dI) classes [(k2, .byte), (k4, .int), (k6, .int)] s := hK
  refine W.widen (k := 3) (n := 1280) (by decide) (by decide) ?_
  refine va_put (D := (dC, dI)) (ci := 2) (v := .ref q5) (ty := .array .int) (C := RX11) (T := TX11) (N := 5) hx hb hkw kin_X11 tyX11 tyX11_ok nmX11 hown hK hP hD hS 0 rfl rfl 2 (by decide) (hkw _ m_55) (fun _ h9 => h9) rfl (by decide +kernel) rfl rfl (Nat.le_of_ble_eq_true rfl) dX11_init_28 (fun H locs hP hD hS => ?_)
  have hP : va_P (dC, dI) classes [(h0, .inr (2, [.ref q1, .ref q3, .ref q5, .null, .int 0])), (q1, .inl (k2, 1024, .inl (fun _ => 0))), (q3, .inl (k4, 128, .inl (fun _ => 0))), (q5, .inl (k6, 128, .inl (fun _ => 0)))] H := hP
  have hD : va_D A [(h0, .inr (2, [.ref q1, .ref q3, .ref q5, .null, .int 0])), (q1, .inl (k2, 1024, .inl (fun _ => 0))), (q3, .inl (k4, 128, .inl (fun _ => 0))), (q5, .inl (k6, 128, .inl (fun _ => 0)))] := hD
  refine lv_aload_n hx hb dX11_init_31 rfl (lv_at hl 0 rfl) ?_
  refine lv_sipush (v := 1024) hx hb dX11_init_32 (by decide) ?_
  refine va_newa (atype := .int) (a0 := (1024, .inl (fun _ => 0))) (N' := 1024) (n := 1024) (ty := .int) hx hb (hkw _ m_30) rfl hK hP hD hS hA (fun _ => rfl) (by decide) (by decide) (by decide) (Nat.le_of_ble_eq_true rfl) (Nat.le_of_ble_eq_true rfl) dX11_init_35 (fun q7 k8 H hK hP hD hS => ?_)
  have hP : va_P (dC, dI) classes [(h0, .inr (2, [.ref q1, .ref q3, .ref q5, .null, .int 0])), (q1, .inl (k2, 1024, .inl (fun _ => 0))), (q3, .inl (k4, 128, .inl (fun _ => 0))), (q5, .inl (k6, 128, .inl (fun _ => 0))), (q7, .inl (k8, 1024, .inl (fun _ => 0)))] H := hP
  have hD : va_D A [(h0, .inr (2, [.ref q1, .ref q3, .ref q5, .null, .int 0])), (q1, .inl (k2, 1024, .inl (fun _ => 0))), (q3, .inl (k4, 128, .inl (fun _ => 0))), (q5, .inl (k6, 128, .inl (fun _ => 0))), (q7, .inl (k8, 1024, .inl (fun _ => 0)))] := hD
  have hK : va_K (dC, dI) classes [(k2, .byte), (k4, .int), (k6, .int), (k8, .int)] s := hK
  refine W.widen (k := 4) (n := 2304) (by decide) (by decide) ?_
  refine va_putF (D := (dC, dI)) (ci := 2) (v := .ref q7) (ty := .array .int) (C := RX11) (T := TX11) (N := 5) hx hb hkw kin_X11 tyX11 tyX11_ok nmX11 hown hK hP hD hS 0 rfl rfl 3 (by decide) (hkw _ m_56) (fun _ h9 => h9) rfl hin rfl (by decide +kernel) rfl rfl (Nat.le_of_ble_eq_true rfl) dX11_init_37 (fun H locs hP hD hS => ?_)
  have hP : va_P (dC, dI) classes [(h0, .inr (2, [.ref q1, .ref q3, .ref q5, .ref q7, .int 0])), (q1, .inl (k2, 1024, .inl (fun _ => 0))), (q3, .inl (k4, 128, .inl (fun _ => 0))), (q5, .inl (k6, 128, .inl (fun _ => 0))), (q7, .inl (k8, 1024, .inl (fun _ => 0)))] H := hP
  have hD : va_D A [(h0, .inr (2, [.ref q1, .ref q3, .ref q5, .ref q7, .int 0])), (q1, .inl (k2, 1024, .inl (fun _ => 0))), (q3, .inl (k4, 128, .inl (fun _ => 0))), (q5, .inl (k6, 128, .inl (fun _ => 0))), (q7, .inl (k8, 1024, .inl (fun _ => 0)))] := hD
  have hP9 := hP.sub (ws' := [(h0, .inr (2, [.ref q1, .ref q3, .ref q5, .ref q7, .int 0])), (q1, .inl (k2, 1024, .inl (fun _ => 0))), (q3, .inl (k4, 128, .inl (fun _ => 0))), (q5, .inl (k6, 128, .inl (fun _ => 0))), (q7, .inl (k8, 1024, .inl (fun _ => 0)))]) [0, 1, 2, 3, 4] rfl
  have hD9 := hD.sub (ws' := [(h0, .inr (2, [.ref q1, .ref q3, .ref q5, .ref q7, .int 0])), (q1, .inl (k2, 1024, .inl (fun _ => 0))), (q3, .inl (k4, 128, .inl (fun _ => 0))), (q5, .inl (k6, 128, .inl (fun _ => 0))), (q7, .inl (k8, 1024, .inl (fun _ => 0)))]) [0, 1, 2, 3, 4] (by decide) rfl
  have hK9 := hK.sub (tys' := [(k2, .byte), (k4, .int), (k6, .int), (k8, .int)]) [0, 1, 2, 3] rfl
  refine W.widen (k := 4) (n := 2304) (Nat.le_of_ble_eq_true rfl) (Nat.le_of_ble_eq_true rfl) ?_
  exact W.vret hx hb hr (fun t ht hW => ⟨⟨(q1, q3, q5, q7, k2, k4, k6, k8), rfl, trivial, by rw [ht]; exact hP9, va_K.moved hW.alike hK9, hD9⟩, hS.F ht⟩) hS.2.2 dX11_init_40

set_option maxHeartbeats 4000000 in
set_option maxRecDepth 100000 in
/-- Request(words) -/
theorem i_Re_init (l : Launch) (dC : Nat → ClassId) (dI : Nat → Nat → Nat) (sz : Nat) (h0 : Nat) (h1 : Nat) : Met l yX8_init wX8_init ({ frames := 2, cells := 5, slots := 2116, locals := 33 }) (va_Pc [.ref h0, .ref h1] (pW (dC, dI) [(h0, .inr (3, [.null, .null, .null, .null, .int 0, .int 0, .null, .null, .null, .long 0, .long 0, .int 0, .int 0, .int 0, .int 0, .int 0, .long 0]))] [] sz)) (va_Qv (fun ((q1, q2, q3, q4, q5, k1, k2, k3, k5) : Nat × Nat × Nat × Nat × Nat × ClassId × ClassId × ClassId × ClassId) => True) (fun ((q1, q2, q3, q4, q5, k1, k2, k3, k5) : Nat × Nat × Nat × Nat × Nat × ClassId × ClassId × ClassId × ClassId) (t : State) => bW (dC, dI) [(h0, .inr (3, [.ref h1, .ref q1, .ref q2, .ref q3, .int 0, .int 0, .ref q4, .null, .null, .long 0, .long 0, .int 0, .int 0, .int 0, .int 0, .int 0, .long 0])), (q1, .inl (k1, 1024, .inl (fun _ => 0))), (q2, .inl (k2, 1024, .inl (fun _ => 0))), (q3, .inl (k3, 0, .inl (fun _ => 0))), (q4, .inr (0, [.int 0, .ref q5, .int 0, .int 0])), (q5, .inl (k5, 64, .inl (fun _ => 0)))] [(k1, .int), (k2, .int), (k3, .byte), (k5, .byte)] (va_A [(h0, .inr (3, [.null, .null, .null, .null, .int 0, .int 0, .null, .null, .null, .long 0, .long 0, .int 0, .int 0, .int 0, .int 0, .int 0, .long 0]))] sz) t) (va_A [(h0, .inr (3, [.null, .null, .null, .null, .int 0, .int 0, .null, .null, .null, .long 0, .long 0, .int 0, .int 0, .int 0, .int 0, .int 0, .long 0]))] sz)) 5 2116 (va_A [(h0, .inr (3, [.null, .null, .null, .null, .int 0, .int 0, .null, .null, .null, .long 0, .long 0, .int 0, .int 0, .int 0, .int 0, .int 0, .long 0]))] sz) := by
  refine Met.ofW (cc := cX8_init) (maxL := 2) (ret := none) (by decide) rfl ?_
  intro p e s m args below meth c s₁ B hml hv
  obtain ⟨rfl, hsz, hP, hK, hD0, hfx⟩ := hv
  have hx := B.exec
  have hb := B.bytes
  have hr := B.returns
  have hts := atoms_spec (ws := wX8_init) B.pre
  have hkw : ∀ w ∈ kw, w.before _ s = true := fun w h => hts w (List.mem_cons_of_mem _ h)
  have hown : s.vm.findClass RX8 = some m.cls := findClass_of_methodNamed B.named
  have hlocks := B.notSynchronized
  have hin : meth.name = "<init>" := (name_of_methodNamed B.named B.method).1
  subst hsz
  have hD := hD0.self (sz := s.heap.size)
  generalize hAe : va_A [(h0, .inr (3, [.null, .null, .null, .null, .int 0, .int 0, .null, .null, .null, .long 0, .long 0, .int 0, .int 0, .int 0, .int 0, .int 0, .long 0]))] s.heap.size = A at hD ⊢
  have hA : ∀ q : Nat, s.heap.size ≤ q → A q := fun q h => by rw [← hAe]; exact Or.inr h
  have hS : va_S A s.heap s.heap [] := va_S.rf
  have hP : va_P (dC, dI) classes [(h0, .inr (3, [.null, .null, .null, .null, .int 0, .int 0, .null, .null, .null, .long 0, .long 0, .int 0, .int 0, .int 0, .int 0, .int 0, .long 0]))] s.heap := hP
  have hl := lv_entry ([.ref h0, .ref h1]) (n := 2) (Nat.le_of_ble_eq_true rfl)
  rw [lg_entry_eq]
  generalize (lg_sl ([.ref h0, .ref h1]) ++ List.replicate (2 - (lg_sl ([.ref h0, .ref h1])).length) Slot.unset).toArray = ls at hl ⊢
  have hl : lv_has ls 2 [(0, .ref h0), (1, .ref h1)] := hl
  refine lv_aload_n hx hb dX8_init_0 rfl (lv_at hl 0 rfl) ?_
  refine W.objInit hx hb hown (hkw _ m_57) (hkw _ m_1) (hkw _ m_2) rfl (by rw [hml]; exact hl.1) rfl dX8_init_1 (Nat.le_of_ble_eq_true rfl) (Nat.le_of_ble_eq_true rfl) ?_
  refine W.eq (g2 := F0 m 4 ls []) rfl ?_
  refine lv_aload_n hx hb dX8_init_4 rfl (lv_at hl 0 rfl) ?_
  refine lv_sipush (v := 1024) hx hb dX8_init_5 (by decide) ?_
  refine va_newa (atype := .int) (a0 := (1024, .inl (fun _ => 0))) (N' := 1024) (n := 1024) (ty := .int) hx hb (hkw _ m_30) rfl hK hP hD hS hA (fun _ => rfl) (by decide) (by decide) (by decide) (Nat.le_of_ble_eq_true rfl) (Nat.le_of_ble_eq_true rfl) dX8_init_8 (fun q1 k2 H hK hP hD hS => ?_)
  have hP : va_P (dC, dI) classes [(h0, .inr (3, [.null, .null, .null, .null, .int 0, .int 0, .null, .null, .null, .long 0, .long 0, .int 0, .int 0, .int 0, .int 0, .int 0, .long 0])), (q1, .inl (k2, 1024, .inl (fun _ => 0)))] H := hP
  have hD : va_D A [(h0, .inr (3, [.null, .null, .null, .null, .int 0, .int 0, .null, .null, .null, .long 0, .long 0, .int 0, .int 0, .int 0, .int 0, .int 0, .long 0])), (q1, .inl (k2, 1024, .inl (fun _ => 0)))] := hD
  have hK : va_K (dC, dI) classes [(k2, .int)] s := hK
  refine W.widen (k := 1) (n := 1024) (by decide) (by decide) ?_
  refine va_putF (D := (dC, dI)) (ci := 3) (v := .ref q1) (ty := .array .int) (C := RX8) (T := TX8) (N := 17) hx hb hkw kin_X8 tyX8 tyX8_ok nmX8 hown hK hP hD hS 0 rfl rfl 1 (by decide) (hkw _ m_58) (fun _ h9 => h9) rfl hin rfl (by decide +kernel) rfl rfl (Nat.le_of_ble_eq_true rfl) dX8_init_10 (fun H locs hP hD hS => ?_)
  have hP : va_P (dC, dI) classes [(h0, .inr (3, [.null, .ref q1, .null, .null, .int 0, .int 0, .null, .null, .null, .long 0, .long 0, .int 0, .int 0, .int 0, .int 0, .int 0, .long 0])), (q1, .inl (k2, 1024, .inl (fun _ => 0)))] H := hP
  have hD : va_D A [(h0, .inr (3, [.null, .ref q1, .null, .null, .int 0, .int 0, .null, .null, .null, .long 0, .long 0, .int 0, .int 0, .int 0, .int 0, .int 0, .long 0])), (q1, .inl (k2, 1024, .inl (fun _ => 0)))] := hD
  refine lv_aload_n hx hb dX8_init_13 rfl (lv_at hl 0 rfl) ?_
  refine lv_sipush (v := 1024) hx hb dX8_init_14 (by decide) ?_
  refine va_newa (atype := .int) (a0 := (1024, .inl (fun _ => 0))) (N' := 1024) (n := 1024) (ty := .int) hx hb (hkw _ m_30) rfl hK hP hD hS hA (fun _ => rfl) (by decide) (by decide) (by decide) (Nat.le_of_ble_eq_true rfl) (Nat.le_of_ble_eq_true rfl) dX8_init_17 (fun q3 k4 H hK hP hD hS => ?_)
  have hP : va_P (dC, dI) classes [(h0, .inr (3, [.null, .ref q1, .null, .null, .int 0, .int 0, .null, .null, .null, .long 0, .long 0, .int 0, .int 0, .int 0, .int 0, .int 0, .long 0])), (q1, .inl (k2, 1024, .inl (fun _ => 0))), (q3, .inl (k4, 1024, .inl (fun _ => 0)))] H := hP
  have hD : va_D A [(h0, .inr (3, [.null, .ref q1, .null, .null, .int 0, .int 0, .null, .null, .null, .long 0, .long 0, .int 0, .int 0, .int 0, .int 0, .int 0, .long 0])), (q1, .inl (k2, 1024, .inl (fun _ => 0))), (q3, .inl (k4, 1024, .inl (fun _ => 0)))] := hD
  have hK : va_K (dC, dI) classes [(k2, .int), (k4, .int)] s := hK
  refine W.widen (k := 2) (n := 2048) (by decide) (by decide) ?_
  refine va_putF (D := (dC, dI)) (ci := 3) (v := .ref q3) (ty := .array .int) (C := RX8) (T := TX8) (N := 17) hx hb hkw kin_X8 tyX8 tyX8_ok nmX8 hown hK hP hD hS 0 rfl rfl 2 (by decide) (hkw _ m_59) (fun _ h9 => h9) rfl hin rfl (by decide +kernel) rfl rfl (Nat.le_of_ble_eq_true rfl) dX8_init_19 (fun H locs hP hD hS => ?_)
  have hP : va_P (dC, dI) classes [(h0, .inr (3, [.null, .ref q1, .ref q3, .null, .int 0, .int 0, .null, .null, .null, .long 0, .long 0, .int 0, .int 0, .int 0, .int 0, .int 0, .long 0])), (q1, .inl (k2, 1024, .inl (fun _ => 0))), (q3, .inl (k4, 1024, .inl (fun _ => 0)))] H := hP
  have hD : va_D A [(h0, .inr (3, [.null, .ref q1, .ref q3, .null, .int 0, .int 0, .null, .null, .null, .long 0, .long 0, .int 0, .int 0, .int 0, .int 0, .int 0, .long 0])), (q1, .inl (k2, 1024, .inl (fun _ => 0))), (q3, .inl (k4, 1024, .inl (fun _ => 0)))] := hD
  refine lv_aload_n hx hb dX8_init_22 rfl (lv_at hl 0 rfl) ?_
  refine lv_iconst (v := 0) hx hb dX8_init_23 (by decide) ?_
  refine va_newa (atype := .byte) (a0 := (0, .inl (fun _ => 0))) (N' := 0) (n := 0) (ty := .byte) hx hb (hkw _ m_3) rfl hK hP hD hS hA (fun _ => rfl) (by decide) (by decide) (by decide) (Nat.le_of_ble_eq_true rfl) (Nat.le_of_ble_eq_true rfl) dX8_init_24 (fun q5 k6 H hK hP hD hS => ?_)
  have hP : va_P (dC, dI) classes [(h0, .inr (3, [.null, .ref q1, .ref q3, .null, .int 0, .int 0, .null, .null, .null, .long 0, .long 0, .int 0, .int 0, .int 0, .int 0, .int 0, .long 0])), (q1, .inl (k2, 1024, .inl (fun _ => 0))), (q3, .inl (k4, 1024, .inl (fun _ => 0))), (q5, .inl (k6, 0, .inl (fun _ => 0)))] H := hP
  have hD : va_D A [(h0, .inr (3, [.null, .ref q1, .ref q3, .null, .int 0, .int 0, .null, .null, .null, .long 0, .long 0, .int 0, .int 0, .int 0, .int 0, .int 0, .long 0])), (q1, .inl (k2, 1024, .inl (fun _ => 0))), (q3, .inl (k4, 1024, .inl (fun _ => 0))), (q5, .inl (k6, 0, .inl (fun _ => 0)))] := hD
  have hK : va_K (dC, dI) classes [(k2, .int), (k4, .int), (k6, .byte)] s := hK
  refine W.widen (k := 3) (n := 2048) (by decide) (by decide) ?_
  refine va_put (D := (dC, dI)) (ci := 3) (v := .ref q5) (ty := .array .byte) (C := RX8) (T := TX8) (N := 17) hx hb hkw kin_X8 tyX8 tyX8_ok nmX8 hown hK hP hD hS 0 rfl rfl 3 (by decide) (hkw _ m_60) (fun _ h9 => h9) rfl (by decide +kernel) rfl rfl (Nat.le_of_ble_eq_true rfl) dX8_init_26 (fun H locs hP hD hS => ?_)
  have hP : va_P (dC, dI) classes [(h0, .inr (3, [.null, .ref q1, .ref q3, .ref q5, .int 0, .int 0, .null, .null, .null, .long 0, .long 0, .int 0, .int 0, .int 0, .int 0, .int 0, .long 0])), (q1, .inl (k2, 1024, .inl (fun _ => 0))), (q3, .inl (k4, 1024, .inl (fun _ => 0))), (q5, .inl (k6, 0, .inl (fun _ => 0)))] H := hP
  have hD : va_D A [(h0, .inr (3, [.null, .ref q1, .ref q3, .ref q5, .int 0, .int 0, .null, .null, .null, .long 0, .long 0, .int 0, .int 0, .int 0, .int 0, .int 0, .long 0])), (q1, .inl (k2, 1024, .inl (fun _ => 0))), (q3, .inl (k4, 1024, .inl (fun _ => 0))), (q5, .inl (k6, 0, .inl (fun _ => 0)))] := hD
  refine lv_aload_n hx hb dX8_init_29 rfl (lv_at hl 0 rfl) ?_
  refine lv_aload_n hx hb dX8_init_30 rfl (lv_at hl 1 rfl) ?_
  refine va_putF (D := (dC, dI)) (ci := 3) (v := .ref h1) (ty := .object "KeySteward$Words") (C := RX8) (T := TX8) (N := 17) hx hb hkw kin_X8 tyX8 tyX8_ok nmX8 hown hK hP hD hS 0 rfl rfl 0 (by decide) (hkw _ m_61) (fun _ h9 => h9) rfl hin rfl (by decide +kernel) rfl rfl (Nat.le_of_ble_eq_true rfl) dX8_init_31 (fun H locs hP hD hS => ?_)
  have hP : va_P (dC, dI) classes [(h0, .inr (3, [.ref h1, .ref q1, .ref q3, .ref q5, .int 0, .int 0, .null, .null, .null, .long 0, .long 0, .int 0, .int 0, .int 0, .int 0, .int 0, .long 0])), (q1, .inl (k2, 1024, .inl (fun _ => 0))), (q3, .inl (k4, 1024, .inl (fun _ => 0))), (q5, .inl (k6, 0, .inl (fun _ => 0)))] H := hP
  have hD : va_D A [(h0, .inr (3, [.ref h1, .ref q1, .ref q3, .ref q5, .int 0, .int 0, .null, .null, .null, .long 0, .long 0, .int 0, .int 0, .int 0, .int 0, .int 0, .long 0])), (q1, .inl (k2, 1024, .inl (fun _ => 0))), (q3, .inl (k4, 1024, .inl (fun _ => 0))), (q5, .inl (k6, 0, .inl (fun _ => 0)))] := hD
  refine lv_aload_n hx hb dX8_init_34 rfl (lv_at hl 0 rfl) ?_
  refine va_new (ci := 0) (fs := [.int 0, .null, .int 0, .int 0]) (C := RX1) (T := TX1) (N := 4) hx hb hkw kin_X1 tyX1 tyX1_ok hown (hkw _ m_62) (hkw _ m_20) (hkw _ m_9) hK hP hD hS hA rfl (df_X1) (Nat.le_of_ble_eq_true rfl) (Nat.le_of_ble_eq_true rfl) dX8_init_35 (fun q7 H hP hD hS => ?_)
  have hP : va_P (dC, dI) classes [(h0, .inr (3, [.ref h1, .ref q1, .ref q3, .ref q5, .int 0, .int 0, .null, .null, .null, .long 0, .long 0, .int 0, .int 0, .int 0, .int 0, .int 0, .long 0])), (q1, .inl (k2, 1024, .inl (fun _ => 0))), (q3, .inl (k4, 1024, .inl (fun _ => 0))), (q5, .inl (k6, 0, .inl (fun _ => 0))), (q7, .inr (0, [.int 0, .null, .int 0, .int 0]))] H := hP
  have hD : va_D A [(h0, .inr (3, [.ref h1, .ref q1, .ref q3, .ref q5, .int 0, .int 0, .null, .null, .null, .long 0, .long 0, .int 0, .int 0, .int 0, .int 0, .int 0, .long 0])), (q1, .inl (k2, 1024, .inl (fun _ => 0))), (q3, .inl (k4, 1024, .inl (fun _ => 0))), (q5, .inl (k6, 0, .inl (fun _ => 0))), (q7, .inr (0, [.int 0, .null, .int 0, .int 0]))] := hD
  refine W.widen (k := 4) (n := 2052) (by decide) (by decide) ?_
  refine lv_dup hx hb dX8_init_38 rfl ?_
  refine lv_iconst (v := 0) hx hb dX8_init_39 (by decide) ?_
  have hPc := hP.sub (ws' := [(q7, .inr (0, [.int 0, .null, .int 0, .int 0]))]) [4] rfl
  have hDc := hD.sub (ws' := [(q7, .inr (0, [.int 0, .null, .int 0, .int 0]))]) [4] (by decide) rfl
  have hKc := hK.sub (tys' := []) [] rfl
  have hFc := va_free (wc := [(q7, .inr (0, [.int 0, .null, .int 0, .int 0]))]) hD hS hA [4] rfl
  refine va_callv (va_runI (As := [.int 0]) (rest := [.ref q7, .ref h0]) ⟨hx, hb, hml, hown, hkw⟩ (i_By_init l dC dI H.size q7 0) (cwI 1 hkw (kwI m_22) rfl rfl rfl (hkw _ m_9) (hkw _ m_63) (hkw _ m_24) rfl (by decide +kernel) ⟨Nat.le_of_ble_eq_true rfl, Nat.le_of_ble_eq_true rfl⟩) ⟨fbW, pW_in hPc hKc hDc hfx⟩ rfl rfl hl.1 rfl (lv_room (Nat.le_of_ble_eq_true rfl)) dX8_init_40 ⟨Nat.le_of_ble_eq_true rfl, Nat.le_of_ble_eq_true rfl⟩) hS (fun q _ h => hFc q h) hFc (fun u t H1 locs ht hvm hw hB hz1 hk1 hS => ?_)
  obtain ⟨q8, k9⟩ := u
  obtain ⟨hP1, hK1, hD1⟩ := hB
  rw [ht] at hP1
  have hK1 := va_K.moved hvm.symm hK1
  obtain ⟨hP, hD⟩ := va_join (wr := [(h0, .inr (3, [.ref h1, .ref q1, .ref q3, .ref q5, .int 0, .int 0, .null, .null, .null, .long 0, .long 0, .int 0, .int 0, .int 0, .int 0, .int 0, .long 0])), (q1, .inl (k2, 1024, .inl (fun _ => 0))), (q3, .inl (k4, 1024, .inl (fun _ => 0))), (q5, .inl (k6, 0, .inl (fun _ => 0)))]) (w1 := [(q7, .inr (0, [.int 0, .ref q8, .int 0, .int 0])), (q8, .inl (k9, 64, .inl (fun _ => 0)))]) hP hD [4] [0, 1, 2, 3] rfl rfl (by decide) (by decide) hk1 hFc hP1 hD1
  have hK := (hK.sub (tys' := [(k2, .int), (k4, .int), (k6, .byte)]) [0, 1, 2] rfl).app hK1
  generalize H1 = H at hP hS ⊢
  have hP : va_P (dC, dI) classes [(h0, .inr (3, [.ref h1, .ref q1, .ref q3, .ref q5, .int 0, .int 0, .null, .null, .null, .long 0, .long 0, .int 0, .int 0, .int 0, .int 0, .int 0, .long 0])), (q1, .inl (k2, 1024, .inl (fun _ => 0))), (q3, .inl (k4, 1024, .inl (fun _ => 0))), (q5, .inl (k6, 0, .inl (fun _ => 0))), (q7, .inr (0, [.int 0, .ref q8, .int 0, .int 0])), (q8, .inl (k9, 64, .inl (fun _ => 0)))] H := hP
  have hD : va_D A [(h0, .inr (3, [.ref h1, .ref q1, .ref q3, .ref q5, .int 0, .int 0, .null, .null, .null, .long 0, .long 0, .int 0, .int 0, .int 0, .int 0, .int 0, .long 0])), (q1, .inl (k2, 1024, .inl (fun _ => 0))), (q3, .inl (k4, 1024, .inl (fun _ => 0))), (q5, .inl (k6, 0, .inl (fun _ => 0))), (q7, .inr (0, [.int 0, .ref q8, .int 0, .int 0])), (q8, .inl (k9, 64, .inl (fun _ => 0)))] := hD
  have hK : va_K (dC, dI) classes [(k2, .int), (k4, .int), (k6, .byte), (k9, .byte)] s := hK
  refine W.widen (k := 5) (n := 2116) (Nat.le_of_ble_eq_true rfl) (Nat.le_of_ble_eq_true rfl) ?_
  have hw10 := hw
  try dsimp only at hw10
  refine va_put (D := (dC, dI)) (ci := 3) (v := .ref q7) (ty := .object "KeySteward$Bytes") (C := RX8) (T := TX8) (N := 17) hx hb hkw kin_X8 tyX8 tyX8_ok nmX8 hown hK hP hD hS 0 rfl rfl 6 (by decide) (hkw _ m_64) (fun _ h9 => h9) rfl (by decide +kernel) rfl rfl (Nat.le_of_ble_eq_true rfl) dX8_init_43 (fun H locs hP hD hS => ?_)
  have hP : va_P (dC, dI) classes [(h0, .inr (3, [.ref h1, .ref q1, .ref q3, .ref q5, .int 0, .int 0, .ref q7, .null, .null, .long 0, .long 0, .int 0, .int 0, .int 0, .int 0, .int 0, .long 0])), (q1, .inl (k2, 1024, .inl (fun _ => 0))), (q3, .inl (k4, 1024, .inl (fun _ => 0))), (q5, .inl (k6, 0, .inl (fun _ => 0))), (q7, .inr (0, [.int 0, .ref q8, .int 0, .int 0])), (q8, .inl (k9, 64, .inl (fun _ => 0)))] H := hP
  have hD : va_D A [(h0, .inr (3, [.ref h1, .ref q1, .ref q3, .ref q5, .int 0, .int 0, .ref q7, .null, .null, .long 0, .long 0, .int 0, .int 0, .int 0, .int 0, .int 0, .long 0])), (q1, .inl (k2, 1024, .inl (fun _ => 0))), (q3, .inl (k4, 1024, .inl (fun _ => 0))), (q5, .inl (k6, 0, .inl (fun _ => 0))), (q7, .inr (0, [.int 0, .ref q8, .int 0, .int 0])), (q8, .inl (k9, 64, .inl (fun _ => 0)))] := hD
  have hP9 := hP.sub (ws' := [(h0, .inr (3, [.ref h1, .ref q1, .ref q3, .ref q5, .int 0, .int 0, .ref q7, .null, .null, .long 0, .long 0, .int 0, .int 0, .int 0, .int 0, .int 0, .long 0])), (q1, .inl (k2, 1024, .inl (fun _ => 0))), (q3, .inl (k4, 1024, .inl (fun _ => 0))), (q5, .inl (k6, 0, .inl (fun _ => 0))), (q7, .inr (0, [.int 0, .ref q8, .int 0, .int 0])), (q8, .inl (k9, 64, .inl (fun _ => 0)))]) [0, 1, 2, 3, 4, 5] rfl
  have hD9 := hD.sub (ws' := [(h0, .inr (3, [.ref h1, .ref q1, .ref q3, .ref q5, .int 0, .int 0, .ref q7, .null, .null, .long 0, .long 0, .int 0, .int 0, .int 0, .int 0, .int 0, .long 0])), (q1, .inl (k2, 1024, .inl (fun _ => 0))), (q3, .inl (k4, 1024, .inl (fun _ => 0))), (q5, .inl (k6, 0, .inl (fun _ => 0))), (q7, .inr (0, [.int 0, .ref q8, .int 0, .int 0])), (q8, .inl (k9, 64, .inl (fun _ => 0)))]) [0, 1, 2, 3, 4, 5] (by decide) rfl
  have hK9 := hK.sub (tys' := [(k2, .int), (k4, .int), (k6, .byte), (k9, .byte)]) [0, 1, 2, 3] rfl
  refine W.widen (k := 5) (n := 2116) (Nat.le_of_ble_eq_true rfl) (Nat.le_of_ble_eq_true rfl) ?_
  exact W.vret hx hb hr (fun t ht hW => ⟨⟨(q1, q3, q5, q7, q8, k2, k4, k6, k9), rfl, trivial, by rw [ht]; exact hP9, va_K.moved hW.alike hK9, hD9⟩, hS.F ht⟩) hS.2.2 dX8_init_46

set_option maxHeartbeats 4000000 in
set_option maxRecDepth 100000 in
/-- Keys(words, ask, watchers) -/
theorem i_Ke_init (l : Launch) (dC : Nat → ClassId) (dI : Nat → Nat → Nat) (sz : Nat) (h0 : Nat) (h1 : Nat) (h2 : Nat) (h3 : Nat) : Met l yX4_init wX4_init ({ frames := 1, cells := 7, slots := 320, locals := 12 }) (va_Pc [.ref h0, .ref h1, .ref h2, .ref h3] (pW (dC, dI) [(h0, .inr (4, [.null, .null, .null, .null, .null, .null, .int 0, .null, .null, .int 0, .null, .null, .int 0, .int 0, .int 0, .int 0, .long 0, .int 0, .int 0]))] [] sz)) (va_Qv (fun ((q1, q2, q3, q4, q5, q6, q7, k1, k2, k3, k4, k5, k6, k7) : Nat × Nat × Nat × Nat × Nat × Nat × Nat × ClassId × ClassId × ClassId × ClassId × ClassId × ClassId × ClassId) => True) (fun ((q1, q2, q3, q4, q5, q6, q7, k1, k2, k3, k4, k5, k6, k7) : Nat × Nat × Nat × Nat × Nat × Nat × Nat × ClassId × ClassId × ClassId × ClassId × ClassId × ClassId × ClassId) (t : State) => bW (dC, dI) [(h0, .inr (4, [.ref h1, .ref h2, .ref h3, .ref q1, .ref q2, .ref q3, .int 0, .ref q4, .ref q5, .int 0, .ref q6, .ref q7, .int 0, .int 0, .int 0, .int 0, .long 0, .int 0, .int 0])), (q1, .inl (k1, 64, .inl (fun _ => 0))), (q2, .inl (k2, 64, .inl (fun _ => 0))), (q3, .inl (k3, 64, .inr (.inr (.inr (.inr (fun _ => none)))))), (q4, .inl (k4, 64, .inl (fun _ => 0))), (q5, .inl (k5, 0, .inl (fun _ => 0))), (q6, .inl (k6, 64, .inr (.inl (fun _ => 0)))), (q7, .inl (k7, 0, .inr (.inl (fun _ => 0))))] [(k1, .int), (k2, .int), (k3, .object "KeySteward$Value"), (k4, .byte), (k5, .byte), (k6, .long), (k7, .long)] (va_A [(h0, .inr (4, [.null, .null, .null, .null, .null, .null, .int 0, .null, .null, .int 0, .null, .null, .int 0, .int 0, .int 0, .int 0, .long 0, .int 0, .int 0]))] sz) t) (va_A [(h0, .inr (4, [.null, .null, .null, .null, .null, .null, .int 0, .null, .null, .int 0, .null, .null, .int 0, .int 0, .int 0, .int 0, .long 0, .int 0, .int 0]))] sz)) 7 320 (va_A [(h0, .inr (4, [.null, .null, .null, .null, .null, .null, .int 0, .null, .null, .int 0, .null, .null, .int 0, .int 0, .int 0, .int 0, .long 0, .int 0, .int 0]))] sz) := by
  refine Met.ofW (cc := cX4_init) (maxL := 4) (ret := none) (by decide) rfl ?_
  intro p e s m args below meth c s₁ B hml hv
  obtain ⟨rfl, hsz, hP, hK, hD0, hfx⟩ := hv
  have hx := B.exec
  have hb := B.bytes
  have hr := B.returns
  have hts := atoms_spec (ws := wX4_init) B.pre
  have hkw : ∀ w ∈ kw, w.before _ s = true := fun w h => hts w (List.mem_cons_of_mem _ h)
  have hown : s.vm.findClass RX4 = some m.cls := findClass_of_methodNamed B.named
  have hlocks := B.notSynchronized
  have hin : meth.name = "<init>" := (name_of_methodNamed B.named B.method).1
  subst hsz
  have hD := hD0.self (sz := s.heap.size)
  generalize hAe : va_A [(h0, .inr (4, [.null, .null, .null, .null, .null, .null, .int 0, .null, .null, .int 0, .null, .null, .int 0, .int 0, .int 0, .int 0, .long 0, .int 0, .int 0]))] s.heap.size = A at hD ⊢
  have hA : ∀ q : Nat, s.heap.size ≤ q → A q := fun q h => by rw [← hAe]; exact Or.inr h
  have hS : va_S A s.heap s.heap [] := va_S.rf
  have hP : va_P (dC, dI) classes [(h0, .inr (4, [.null, .null, .null, .null, .null, .null, .int 0, .null, .null, .int 0, .null, .null, .int 0, .int 0, .int 0, .int 0, .long 0, .int 0, .int 0]))] s.heap := hP
  have hl := lv_entry ([.ref h0, .ref h1, .ref h2, .ref h3]) (n := 4) (Nat.le_of_ble_eq_true rfl)
  rw [lg_entry_eq]
  generalize (lg_sl ([.ref h0, .ref h1, .ref h2, .ref h3]) ++ List.replicate (4 - (lg_sl ([.ref h0, .ref h1, .ref h2, .ref h3])).length) Slot.unset).toArray = ls at hl ⊢
  have hl : lv_has ls 4 [(0, .ref h0), (1, .ref h1), (2, .ref h2), (3, .ref h3)] := hl
  refine lv_aload_n hx hb dX4_init_0 rfl (lv_at hl 0 rfl) ?_
  refine W.objInit hx hb hown (hkw _ m_65) (hkw _ m_1) (hkw _ m_2) rfl (by rw [hml]; exact hl.1) rfl dX4_init_1 (Nat.le_of_ble_eq_true rfl) (Nat.le_of_ble_eq_true rfl) ?_
  refine W.eq (g2 := F0 m 4 ls []) rfl ?_
  refine lv_aload_n hx hb dX4_init_4 rfl (lv_at hl 0 rfl) ?_
  refine lv_bipush (v := 64) hx hb dX4_init_5 (by decide) ?_
  refine va_newa (atype := .int) (a0 := (64, .inl (fun _ => 0))) (N' := 64) (n := 64) (ty := .int) hx hb (hkw _ m_30) rfl hK hP hD hS hA (fun _ => rfl) (by decide) (by decide) (by decide) (Nat.le_of_ble_eq_true rfl) (Nat.le_of_ble_eq_true rfl) dX4_init_7 (fun q1 k2 H hK hP hD hS => ?_)
  have hP : va_P (dC, dI) classes [(h0, .inr (4, [.null, .null, .null, .null, .null, .null, .int 0, .null, .null, .int 0, .null, .null, .int 0, .int 0, .int 0, .int 0, .long 0, .int 0, .int 0])), (q1, .inl (k2, 64, .inl (fun _ => 0)))] H := hP
  have hD : va_D A [(h0, .inr (4, [.null, .null, .null, .null, .null, .null, .int 0, .null, .null, .int 0, .null, .null, .int 0, .int 0, .int 0, .int 0, .long 0, .int 0, .int 0])), (q1, .inl (k2, 64, .inl (fun _ => 0)))] := hD
  have hK : va_K (dC, dI) classes [(k2, .int)] s := hK
  refine W.widen (k := 1) (n := 64) (by decide) (by decide) ?_
  refine va_put (D := (dC, dI)) (ci := 4) (v := .ref q1) (ty := .array .int) (C := RX4) (T := TX4) (N := 19) hx hb hkw kin_X4 tyX4 tyX4_ok nmX4 hown hK hP hD hS 0 rfl rfl 3 (by decide) (hkw _ m_66) (fun _ h9 => h9) rfl (by decide +kernel) rfl rfl (Nat.le_of_ble_eq_true rfl) dX4_init_9 (fun H locs hP hD hS => ?_)
  have hP : va_P (dC, dI) classes [(h0, .inr (4, [.null, .null, .null, .ref q1, .null, .null, .int 0, .null, .null, .int 0, .null, .null, .int 0, .int 0, .int 0, .int 0, .long 0, .int 0, .int 0])), (q1, .inl (k2, 64, .inl (fun _ => 0)))] H := hP
  have hD : va_D A [(h0, .inr (4, [.null, .null, .null, .ref q1, .null, .null, .int 0, .null, .null, .int 0, .null, .null, .int 0, .int 0, .int 0, .int 0, .long 0, .int 0, .int 0])), (q1, .inl (k2, 64, .inl (fun _ => 0)))] := hD
  refine lv_aload_n hx hb dX4_init_12 rfl (lv_at hl 0 rfl) ?_
  refine lv_bipush (v := 64) hx hb dX4_init_13 (by decide) ?_
  refine va_newa (atype := .int) (a0 := (64, .inl (fun _ => 0))) (N' := 64) (n := 64) (ty := .int) hx hb (hkw _ m_30) rfl hK hP hD hS hA (fun _ => rfl) (by decide) (by decide) (by decide) (Nat.le_of_ble_eq_true rfl) (Nat.le_of_ble_eq_true rfl) dX4_init_15 (fun q3 k4 H hK hP hD hS => ?_)
  have hP : va_P (dC, dI) classes [(h0, .inr (4, [.null, .null, .null, .ref q1, .null, .null, .int 0, .null, .null, .int 0, .null, .null, .int 0, .int 0, .int 0, .int 0, .long 0, .int 0, .int 0])), (q1, .inl (k2, 64, .inl (fun _ => 0))), (q3, .inl (k4, 64, .inl (fun _ => 0)))] H := hP
  have hD : va_D A [(h0, .inr (4, [.null, .null, .null, .ref q1, .null, .null, .int 0, .null, .null, .int 0, .null, .null, .int 0, .int 0, .int 0, .int 0, .long 0, .int 0, .int 0])), (q1, .inl (k2, 64, .inl (fun _ => 0))), (q3, .inl (k4, 64, .inl (fun _ => 0)))] := hD
  have hK : va_K (dC, dI) classes [(k2, .int), (k4, .int)] s := hK
  refine W.widen (k := 2) (n := 128) (by decide) (by decide) ?_
  refine va_put (D := (dC, dI)) (ci := 4) (v := .ref q3) (ty := .array .int) (C := RX4) (T := TX4) (N := 19) hx hb hkw kin_X4 tyX4 tyX4_ok nmX4 hown hK hP hD hS 0 rfl rfl 4 (by decide) (hkw _ m_67) (fun _ h9 => h9) rfl (by decide +kernel) rfl rfl (Nat.le_of_ble_eq_true rfl) dX4_init_17 (fun H locs hP hD hS => ?_)
  have hP : va_P (dC, dI) classes [(h0, .inr (4, [.null, .null, .null, .ref q1, .ref q3, .null, .int 0, .null, .null, .int 0, .null, .null, .int 0, .int 0, .int 0, .int 0, .long 0, .int 0, .int 0])), (q1, .inl (k2, 64, .inl (fun _ => 0))), (q3, .inl (k4, 64, .inl (fun _ => 0)))] H := hP
  have hD : va_D A [(h0, .inr (4, [.null, .null, .null, .ref q1, .ref q3, .null, .int 0, .null, .null, .int 0, .null, .null, .int 0, .int 0, .int 0, .int 0, .long 0, .int 0, .int 0])), (q1, .inl (k2, 64, .inl (fun _ => 0))), (q3, .inl (k4, 64, .inl (fun _ => 0)))] := hD
  refine lv_aload_n hx hb dX4_init_20 rfl (lv_at hl 0 rfl) ?_
  refine lv_bipush (v := 64) hx hb dX4_init_21 (by decide) ?_
  refine va_newq (C := "KeySteward$Value") (N' := 64) (n := 64) hx hb hown (hkw _ m_68) (hfx.2.1) hK hP hD hS hA (by decide) (by decide) (by decide) (Nat.le_of_ble_eq_true rfl) (Nat.le_of_ble_eq_true rfl) dX4_init_23 (fun q5 k6 H hK hP hD hS => ?_)
  have hP : va_P (dC, dI) classes [(h0, .inr (4, [.null, .null, .null, .ref q1, .ref q3, .null, .int 0, .null, .null, .int 0, .null, .null, .int 0, .int 0, .int 0, .int 0, .long 0, .int 0, .int 0])), (q1, .inl (k2, 64, .inl (fun _ => 0))), (q3, .inl (k4, 64, .inl (fun _ => 0))), (q5, .inl (k6, 64, .inr (.inr (.inr (.inr (fun _ => none))))))] H := hP
  have hD : va_D A [(h0, .inr (4, [.null, .null, .null, .ref q1, .ref q3, .null, .int 0, .null, .null, .int 0, .null, .null, .int 0, .int 0, .int 0, .int 0, .long 0, .int 0, .int 0])), (q1, .inl (k2, 64, .inl (fun _ => 0))), (q3, .inl (k4, 64, .inl (fun _ => 0))), (q5, .inl (k6, 64, .inr (.inr (.inr (.inr (fun _ => none))))))] := hD
  have hK : va_K (dC, dI) classes [(k2, .int), (k4, .int), (k6, .object "KeySteward$Value")] s := hK
  refine W.widen (k := 3) (n := 192) (by decide) (by decide) ?_
  refine va_put (D := (dC, dI)) (ci := 4) (v := .ref q5) (ty := .array (.object "KeySteward$Value")) (C := RX4) (T := TX4) (N := 19) hx hb hkw kin_X4 tyX4 tyX4_ok nmX4 hown hK hP hD hS 0 rfl rfl 5 (by decide) (hkw _ m_69) (fun _ h9 => h9) rfl (by decide +kernel) rfl rfl (Nat.le_of_ble_eq_true rfl) dX4_init_26 (fun H locs hP hD hS => ?_)
  have hP : va_P (dC, dI) classes [(h0, .inr (4, [.null, .null, .null, .ref q1, .ref q3, .ref q5, .int 0, .null, .null, .int 0, .null, .null, .int 0, .int 0, .int 0, .int 0, .long 0, .int 0, .int 0])), (q1, .inl (k2, 64, .inl (fun _ => 0))), (q3, .inl (k4, 64, .inl (fun _ => 0))), (q5, .inl (k6, 64, .inr (.inr (.inr (.inr (fun _ => none))))))] H := hP
  have hD : va_D A [(h0, .inr (4, [.null, .null, .null, .ref q1, .ref q3, .ref q5, .int 0, .null, .null, .int 0, .null, .null, .int 0, .int 0, .int 0, .int 0, .long 0, .int 0, .int 0])), (q1, .inl (k2, 64, .inl (fun _ => 0))), (q3, .inl (k4, 64, .inl (fun _ => 0))), (q5, .inl (k6, 64, .inr (.inr (.inr (.inr (fun _ => none))))))] := hD
  refine lv_aload_n hx hb dX4_init_29 rfl (lv_at hl 0 rfl) ?_
  refine lv_bipush (v := 64) hx hb dX4_init_30 (by decide) ?_
  refine va_newa (atype := .byte) (a0 := (64, .inl (fun _ => 0))) (N' := 64) (n := 64) (ty := .byte) hx hb (hkw _ m_3) rfl hK hP hD hS hA (fun _ => rfl) (by decide) (by decide) (by decide) (Nat.le_of_ble_eq_true rfl) (Nat.le_of_ble_eq_true rfl) dX4_init_32 (fun q7 k8 H hK hP hD hS => ?_)
  have hP : va_P (dC, dI) classes [(h0, .inr (4, [.null, .null, .null, .ref q1, .ref q3, .ref q5, .int 0, .null, .null, .int 0, .null, .null, .int 0, .int 0, .int 0, .int 0, .long 0, .int 0, .int 0])), (q1, .inl (k2, 64, .inl (fun _ => 0))), (q3, .inl (k4, 64, .inl (fun _ => 0))), (q5, .inl (k6, 64, .inr (.inr (.inr (.inr (fun _ => none)))))), (q7, .inl (k8, 64, .inl (fun _ => 0)))] H := hP
  have hD : va_D A [(h0, .inr (4, [.null, .null, .null, .ref q1, .ref q3, .ref q5, .int 0, .null, .null, .int 0, .null, .null, .int 0, .int 0, .int 0, .int 0, .long 0, .int 0, .int 0])), (q1, .inl (k2, 64, .inl (fun _ => 0))), (q3, .inl (k4, 64, .inl (fun _ => 0))), (q5, .inl (k6, 64, .inr (.inr (.inr (.inr (fun _ => none)))))), (q7, .inl (k8, 64, .inl (fun _ => 0)))] := hD
  have hK : va_K (dC, dI) classes [(k2, .int), (k4, .int), (k6, .object "KeySteward$Value"), (k8, .byte)] s := hK
  refine W.widen (k := 4) (n := 256) (by decide) (by decide) ?_
  refine va_put (D := (dC, dI)) (ci := 4) (v := .ref q7) (ty := .array .byte) (C := RX4) (T := TX4) (N := 19) hx hb hkw kin_X4 tyX4 tyX4_ok nmX4 hown hK hP hD hS 0 rfl rfl 7 (by decide) (hkw _ m_70) (fun _ h9 => h9) rfl (by decide +kernel) rfl rfl (Nat.le_of_ble_eq_true rfl) dX4_init_34 (fun H locs hP hD hS => ?_)
  have hP : va_P (dC, dI) classes [(h0, .inr (4, [.null, .null, .null, .ref q1, .ref q3, .ref q5, .int 0, .ref q7, .null, .int 0, .null, .null, .int 0, .int 0, .int 0, .int 0, .long 0, .int 0, .int 0])), (q1, .inl (k2, 64, .inl (fun _ => 0))), (q3, .inl (k4, 64, .inl (fun _ => 0))), (q5, .inl (k6, 64, .inr (.inr (.inr (.inr (fun _ => none)))))), (q7, .inl (k8, 64, .inl (fun _ => 0)))] H := hP
  have hD : va_D A [(h0, .inr (4, [.null, .null, .null, .ref q1, .ref q3, .ref q5, .int 0, .ref q7, .null, .int 0, .null, .null, .int 0, .int 0, .int 0, .int 0, .long 0, .int 0, .int 0])), (q1, .inl (k2, 64, .inl (fun _ => 0))), (q3, .inl (k4, 64, .inl (fun _ => 0))), (q5, .inl (k6, 64, .inr (.inr (.inr (.inr (fun _ => none)))))), (q7, .inl (k8, 64, .inl (fun _ => 0)))] := hD
  refine lv_aload_n hx hb dX4_init_37 rfl (lv_at hl 0 rfl) ?_
  refine lv_iconst (v := 0) hx hb dX4_init_38 (by decide) ?_
  refine va_newa (atype := .byte) (a0 := (0, .inl (fun _ => 0))) (N' := 0) (n := 0) (ty := .byte) hx hb (hkw _ m_3) rfl hK hP hD hS hA (fun _ => rfl) (by decide) (by decide) (by decide) (Nat.le_of_ble_eq_true rfl) (Nat.le_of_ble_eq_true rfl) dX4_init_39 (fun q9 k10 H hK hP hD hS => ?_)
  have hP : va_P (dC, dI) classes [(h0, .inr (4, [.null, .null, .null, .ref q1, .ref q3, .ref q5, .int 0, .ref q7, .null, .int 0, .null, .null, .int 0, .int 0, .int 0, .int 0, .long 0, .int 0, .int 0])), (q1, .inl (k2, 64, .inl (fun _ => 0))), (q3, .inl (k4, 64, .inl (fun _ => 0))), (q5, .inl (k6, 64, .inr (.inr (.inr (.inr (fun _ => none)))))), (q7, .inl (k8, 64, .inl (fun _ => 0))), (q9, .inl (k10, 0, .inl (fun _ => 0)))] H := hP
  have hD : va_D A [(h0, .inr (4, [.null, .null, .null, .ref q1, .ref q3, .ref q5, .int 0, .ref q7, .null, .int 0, .null, .null, .int 0, .int 0, .int 0, .int 0, .long 0, .int 0, .int 0])), (q1, .inl (k2, 64, .inl (fun _ => 0))), (q3, .inl (k4, 64, .inl (fun _ => 0))), (q5, .inl (k6, 64, .inr (.inr (.inr (.inr (fun _ => none)))))), (q7, .inl (k8, 64, .inl (fun _ => 0))), (q9, .inl (k10, 0, .inl (fun _ => 0)))] := hD
  have hK : va_K (dC, dI) classes [(k2, .int), (k4, .int), (k6, .object "KeySteward$Value"), (k8, .byte), (k10, .byte)] s := hK
  refine W.widen (k := 5) (n := 256) (by decide) (by decide) ?_
  refine va_put (D := (dC, dI)) (ci := 4) (v := .ref q9) (ty := .array .byte) (C := RX4) (T := TX4) (N := 19) hx hb hkw kin_X4 tyX4 tyX4_ok nmX4 hown hK hP hD hS 0 rfl rfl 8 (by decide) (hkw _ m_71) (fun _ h9 => h9) rfl (by decide +kernel) rfl rfl (Nat.le_of_ble_eq_true rfl) dX4_init_41 (fun H locs hP hD hS => ?_)
  have hP : va_P (dC, dI) classes [(h0, .inr (4, [.null, .null, .null, .ref q1, .ref q3, .ref q5, .int 0, .ref q7, .ref q9, .int 0, .null, .null, .int 0, .int 0, .int 0, .int 0, .long 0, .int 0, .int 0])), (q1, .inl (k2, 64, .inl (fun _ => 0))), (q3, .inl (k4, 64, .inl (fun _ => 0))), (q5, .inl (k6, 64, .inr (.inr (.inr (.inr (fun _ => none)))))), (q7, .inl (k8, 64, .inl (fun _ => 0))), (q9, .inl (k10, 0, .inl (fun _ => 0)))] H := hP
  have hD : va_D A [(h0, .inr (4, [.null, .null, .null, .ref q1, .ref q3, .ref q5, .int 0, .ref q7, .ref q9, .int 0, .null, .null, .int 0, .int 0, .int 0, .int 0, .long 0, .int 0, .int 0])), (q1, .inl (k2, 64, .inl (fun _ => 0))), (q3, .inl (k4, 64, .inl (fun _ => 0))), (q5, .inl (k6, 64, .inr (.inr (.inr (.inr (fun _ => none)))))), (q7, .inl (k8, 64, .inl (fun _ => 0))), (q9, .inl (k10, 0, .inl (fun _ => 0)))] := hD
  refine lv_aload_n hx hb dX4_init_44 rfl (lv_at hl 0 rfl) ?_
  refine lv_bipush (v := 64) hx hb dX4_init_45 (by decide) ?_
  refine va_newa (atype := .long) (a0 := (64, .inr (.inl (fun _ => 0)))) (N' := 64) (n := 64) (ty := .long) hx hb (hkw _ m_72) rfl hK hP hD hS hA (fun _ => rfl) (by decide) (by decide) (by decide) (Nat.le_of_ble_eq_true rfl) (Nat.le_of_ble_eq_true rfl) dX4_init_47 (fun q11 k12 H hK hP hD hS => ?_)
  have hP : va_P (dC, dI) classes [(h0, .inr (4, [.null, .null, .null, .ref q1, .ref q3, .ref q5, .int 0, .ref q7, .ref q9, .int 0, .null, .null, .int 0, .int 0, .int 0, .int 0, .long 0, .int 0, .int 0])), (q1, .inl (k2, 64, .inl (fun _ => 0))), (q3, .inl (k4, 64, .inl (fun _ => 0))), (q5, .inl (k6, 64, .inr (.inr (.inr (.inr (fun _ => none)))))), (q7, .inl (k8, 64, .inl (fun _ => 0))), (q9, .inl (k10, 0, .inl (fun _ => 0))), (q11, .inl (k12, 64, .inr (.inl (fun _ => 0))))] H := hP
  have hD : va_D A [(h0, .inr (4, [.null, .null, .null, .ref q1, .ref q3, .ref q5, .int 0, .ref q7, .ref q9, .int 0, .null, .null, .int 0, .int 0, .int 0, .int 0, .long 0, .int 0, .int 0])), (q1, .inl (k2, 64, .inl (fun _ => 0))), (q3, .inl (k4, 64, .inl (fun _ => 0))), (q5, .inl (k6, 64, .inr (.inr (.inr (.inr (fun _ => none)))))), (q7, .inl (k8, 64, .inl (fun _ => 0))), (q9, .inl (k10, 0, .inl (fun _ => 0))), (q11, .inl (k12, 64, .inr (.inl (fun _ => 0))))] := hD
  have hK : va_K (dC, dI) classes [(k2, .int), (k4, .int), (k6, .object "KeySteward$Value"), (k8, .byte), (k10, .byte), (k12, .long)] s := hK
  refine W.widen (k := 6) (n := 320) (by decide) (by decide) ?_
  refine va_put (D := (dC, dI)) (ci := 4) (v := .ref q11) (ty := .array .long) (C := RX4) (T := TX4) (N := 19) hx hb hkw kin_X4 tyX4 tyX4_ok nmX4 hown hK hP hD hS 0 rfl rfl 10 (by decide) (hkw _ m_73) (fun _ h9 => h9) rfl (by decide +kernel) rfl rfl (Nat.le_of_ble_eq_true rfl) dX4_init_49 (fun H locs hP hD hS => ?_)
  have hP : va_P (dC, dI) classes [(h0, .inr (4, [.null, .null, .null, .ref q1, .ref q3, .ref q5, .int 0, .ref q7, .ref q9, .int 0, .ref q11, .null, .int 0, .int 0, .int 0, .int 0, .long 0, .int 0, .int 0])), (q1, .inl (k2, 64, .inl (fun _ => 0))), (q3, .inl (k4, 64, .inl (fun _ => 0))), (q5, .inl (k6, 64, .inr (.inr (.inr (.inr (fun _ => none)))))), (q7, .inl (k8, 64, .inl (fun _ => 0))), (q9, .inl (k10, 0, .inl (fun _ => 0))), (q11, .inl (k12, 64, .inr (.inl (fun _ => 0))))] H := hP
  have hD : va_D A [(h0, .inr (4, [.null, .null, .null, .ref q1, .ref q3, .ref q5, .int 0, .ref q7, .ref q9, .int 0, .ref q11, .null, .int 0, .int 0, .int 0, .int 0, .long 0, .int 0, .int 0])), (q1, .inl (k2, 64, .inl (fun _ => 0))), (q3, .inl (k4, 64, .inl (fun _ => 0))), (q5, .inl (k6, 64, .inr (.inr (.inr (.inr (fun _ => none)))))), (q7, .inl (k8, 64, .inl (fun _ => 0))), (q9, .inl (k10, 0, .inl (fun _ => 0))), (q11, .inl (k12, 64, .inr (.inl (fun _ => 0))))] := hD
  refine lv_aload_n hx hb dX4_init_52 rfl (lv_at hl 0 rfl) ?_
  refine lv_iconst (v := 0) hx hb dX4_init_53 (by decide) ?_
  refine va_newa (atype := .long) (a0 := (0, .inr (.inl (fun _ => 0)))) (N' := 0) (n := 0) (ty := .long) hx hb (hkw _ m_72) rfl hK hP hD hS hA (fun _ => rfl) (by decide) (by decide) (by decide) (Nat.le_of_ble_eq_true rfl) (Nat.le_of_ble_eq_true rfl) dX4_init_54 (fun q13 k14 H hK hP hD hS => ?_)
  have hP : va_P (dC, dI) classes [(h0, .inr (4, [.null, .null, .null, .ref q1, .ref q3, .ref q5, .int 0, .ref q7, .ref q9, .int 0, .ref q11, .null, .int 0, .int 0, .int 0, .int 0, .long 0, .int 0, .int 0])), (q1, .inl (k2, 64, .inl (fun _ => 0))), (q3, .inl (k4, 64, .inl (fun _ => 0))), (q5, .inl (k6, 64, .inr (.inr (.inr (.inr (fun _ => none)))))), (q7, .inl (k8, 64, .inl (fun _ => 0))), (q9, .inl (k10, 0, .inl (fun _ => 0))), (q11, .inl (k12, 64, .inr (.inl (fun _ => 0)))), (q13, .inl (k14, 0, .inr (.inl (fun _ => 0))))] H := hP
  have hD : va_D A [(h0, .inr (4, [.null, .null, .null, .ref q1, .ref q3, .ref q5, .int 0, .ref q7, .ref q9, .int 0, .ref q11, .null, .int 0, .int 0, .int 0, .int 0, .long 0, .int 0, .int 0])), (q1, .inl (k2, 64, .inl (fun _ => 0))), (q3, .inl (k4, 64, .inl (fun _ => 0))), (q5, .inl (k6, 64, .inr (.inr (.inr (.inr (fun _ => none)))))), (q7, .inl (k8, 64, .inl (fun _ => 0))), (q9, .inl (k10, 0, .inl (fun _ => 0))), (q11, .inl (k12, 64, .inr (.inl (fun _ => 0)))), (q13, .inl (k14, 0, .inr (.inl (fun _ => 0))))] := hD
  have hK : va_K (dC, dI) classes [(k2, .int), (k4, .int), (k6, .object "KeySteward$Value"), (k8, .byte), (k10, .byte), (k12, .long), (k14, .long)] s := hK
  refine W.widen (k := 7) (n := 320) (by decide) (by decide) ?_
  refine va_put (D := (dC, dI)) (ci := 4) (v := .ref q13) (ty := .array .long) (C := RX4) (T := TX4) (N := 19) hx hb hkw kin_X4 tyX4 tyX4_ok nmX4 hown hK hP hD hS 0 rfl rfl 11 (by decide) (hkw _ m_74) (fun _ h9 => h9) rfl (by decide +kernel) rfl rfl (Nat.le_of_ble_eq_true rfl) dX4_init_56 (fun H locs hP hD hS => ?_)
  have hP : va_P (dC, dI) classes [(h0, .inr (4, [.null, .null, .null, .ref q1, .ref q3, .ref q5, .int 0, .ref q7, .ref q9, .int 0, .ref q11, .ref q13, .int 0, .int 0, .int 0, .int 0, .long 0, .int 0, .int 0])), (q1, .inl (k2, 64, .inl (fun _ => 0))), (q3, .inl (k4, 64, .inl (fun _ => 0))), (q5, .inl (k6, 64, .inr (.inr (.inr (.inr (fun _ => none)))))), (q7, .inl (k8, 64, .inl (fun _ => 0))), (q9, .inl (k10, 0, .inl (fun _ => 0))), (q11, .inl (k12, 64, .inr (.inl (fun _ => 0)))), (q13, .inl (k14, 0, .inr (.inl (fun _ => 0))))] H := hP
  have hD : va_D A [(h0, .inr (4, [.null, .null, .null, .ref q1, .ref q3, .ref q5, .int 0, .ref q7, .ref q9, .int 0, .ref q11, .ref q13, .int 0, .int 0, .int 0, .int 0, .long 0, .int 0, .int 0])), (q1, .inl (k2, 64, .inl (fun _ => 0))), (q3, .inl (k4, 64, .inl (fun _ => 0))), (q5, .inl (k6, 64, .inr (.inr (.inr (.inr (fun _ => none)))))), (q7, .inl (k8, 64, .inl (fun _ => 0))), (q9, .inl (k10, 0, .inl (fun _ => 0))), (q11, .inl (k12, 64, .inr (.inl (fun _ => 0)))), (q13, .inl (k14, 0, .inr (.inl (fun _ => 0))))] := hD
  refine lv_aload_n hx hb dX4_init_59 rfl (lv_at hl 0 rfl) ?_
  refine lv_aload_n hx hb dX4_init_60 rfl (lv_at hl 1 rfl) ?_
  refine va_putF (D := (dC, dI)) (ci := 4) (v := .ref h1) (ty := .object "KeySteward$Words") (C := RX4) (T := TX4) (N := 19) hx hb hkw kin_X4 tyX4 tyX4_ok nmX4 hown hK hP hD hS 0 rfl rfl 0 (by decide) (hkw _ m_75) (fun _ h9 => h9) rfl hin rfl (by decide +kernel) rfl rfl (Nat.le_of_ble_eq_true rfl) dX4_init_61 (fun H locs hP hD hS => ?_)
  have hP : va_P (dC, dI) classes [(h0, .inr (4, [.ref h1, .null, .null, .ref q1, .ref q3, .ref q5, .int 0, .ref q7, .ref q9, .int 0, .ref q11, .ref q13, .int 0, .int 0, .int 0, .int 0, .long 0, .int 0, .int 0])), (q1, .inl (k2, 64, .inl (fun _ => 0))), (q3, .inl (k4, 64, .inl (fun _ => 0))), (q5, .inl (k6, 64, .inr (.inr (.inr (.inr (fun _ => none)))))), (q7, .inl (k8, 64, .inl (fun _ => 0))), (q9, .inl (k10, 0, .inl (fun _ => 0))), (q11, .inl (k12, 64, .inr (.inl (fun _ => 0)))), (q13, .inl (k14, 0, .inr (.inl (fun _ => 0))))] H := hP
  have hD : va_D A [(h0, .inr (4, [.ref h1, .null, .null, .ref q1, .ref q3, .ref q5, .int 0, .ref q7, .ref q9, .int 0, .ref q11, .ref q13, .int 0, .int 0, .int 0, .int 0, .long 0, .int 0, .int 0])), (q1, .inl (k2, 64, .inl (fun _ => 0))), (q3, .inl (k4, 64, .inl (fun _ => 0))), (q5, .inl (k6, 64, .inr (.inr (.inr (.inr (fun _ => none)))))), (q7, .inl (k8, 64, .inl (fun _ => 0))), (q9, .inl (k10, 0, .inl (fun _ => 0))), (q11, .inl (k12, 64, .inr (.inl (fun _ => 0)))), (q13, .inl (k14, 0, .inr (.inl (fun _ => 0))))] := hD
  refine lv_aload_n hx hb dX4_init_64 rfl (lv_at hl 0 rfl) ?_
  refine lv_aload_n hx hb dX4_init_65 rfl (lv_at hl 2 rfl) ?_
  refine va_putF (D := (dC, dI)) (ci := 4) (v := .ref h2) (ty := .object "KeySteward$Request") (C := RX4) (T := TX4) (N := 19) hx hb hkw kin_X4 tyX4 tyX4_ok nmX4 hown hK hP hD hS 0 rfl rfl 1 (by decide) (hkw _ m_76) (fun _ h9 => h9) rfl hin rfl (by decide +kernel) rfl rfl (Nat.le_of_ble_eq_true rfl) dX4_init_66 (fun H locs hP hD hS => ?_)
  have hP : va_P (dC, dI) classes [(h0, .inr (4, [.ref h1, .ref h2, .null, .ref q1, .ref q3, .ref q5, .int 0, .ref q7, .ref q9, .int 0, .ref q11, .ref q13, .int 0, .int 0, .int 0, .int 0, .long 0, .int 0, .int 0])), (q1, .inl (k2, 64, .inl (fun _ => 0))), (q3, .inl (k4, 64, .inl (fun _ => 0))), (q5, .inl (k6, 64, .inr (.inr (.inr (.inr (fun _ => none)))))), (q7, .inl (k8, 64, .inl (fun _ => 0))), (q9, .inl (k10, 0, .inl (fun _ => 0))), (q11, .inl (k12, 64, .inr (.inl (fun _ => 0)))), (q13, .inl (k14, 0, .inr (.inl (fun _ => 0))))] H := hP
  have hD : va_D A [(h0, .inr (4, [.ref h1, .ref h2, .null, .ref q1, .ref q3, .ref q5, .int 0, .ref q7, .ref q9, .int 0, .ref q11, .ref q13, .int 0, .int 0, .int 0, .int 0, .long 0, .int 0, .int 0])), (q1, .inl (k2, 64, .inl (fun _ => 0))), (q3, .inl (k4, 64, .inl (fun _ => 0))), (q5, .inl (k6, 64, .inr (.inr (.inr (.inr (fun _ => none)))))), (q7, .inl (k8, 64, .inl (fun _ => 0))), (q9, .inl (k10, 0, .inl (fun _ => 0))), (q11, .inl (k12, 64, .inr (.inl (fun _ => 0)))), (q13, .inl (k14, 0, .inr (.inl (fun _ => 0))))] := hD
  refine lv_aload_n hx hb dX4_init_69 rfl (lv_at hl 0 rfl) ?_
  refine lv_aload_n hx hb dX4_init_70 rfl (lv_at hl 3 rfl) ?_
  refine va_putF (D := (dC, dI)) (ci := 4) (v := .ref h3) (ty := .array (.object "KeySteward$Connection")) (C := RX4) (T := TX4) (N := 19) hx hb hkw kin_X4 tyX4 tyX4_ok nmX4 hown hK hP hD hS 0 rfl rfl 2 (by decide) (hkw _ m_77) (fun _ h9 => h9) rfl hin rfl (by decide +kernel) rfl rfl (Nat.le_of_ble_eq_true rfl) dX4_init_71 (fun H locs hP hD hS => ?_)
  have hP : va_P (dC, dI) classes [(h0, .inr (4, [.ref h1, .ref h2, .ref h3, .ref q1, .ref q3, .ref q5, .int 0, .ref q7, .ref q9, .int 0, .ref q11, .ref q13, .int 0, .int 0, .int 0, .int 0, .long 0, .int 0, .int 0])), (q1, .inl (k2, 64, .inl (fun _ => 0))), (q3, .inl (k4, 64, .inl (fun _ => 0))), (q5, .inl (k6, 64, .inr (.inr (.inr (.inr (fun _ => none)))))), (q7, .inl (k8, 64, .inl (fun _ => 0))), (q9, .inl (k10, 0, .inl (fun _ => 0))), (q11, .inl (k12, 64, .inr (.inl (fun _ => 0)))), (q13, .inl (k14, 0, .inr (.inl (fun _ => 0))))] H := hP
  have hD : va_D A [(h0, .inr (4, [.ref h1, .ref h2, .ref h3, .ref q1, .ref q3, .ref q5, .int 0, .ref q7, .ref q9, .int 0, .ref q11, .ref q13, .int 0, .int 0, .int 0, .int 0, .long 0, .int 0, .int 0])), (q1, .inl (k2, 64, .inl (fun _ => 0))), (q3, .inl (k4, 64, .inl (fun _ => 0))), (q5, .inl (k6, 64, .inr (.inr (.inr (.inr (fun _ => none)))))), (q7, .inl (k8, 64, .inl (fun _ => 0))), (q9, .inl (k10, 0, .inl (fun _ => 0))), (q11, .inl (k12, 64, .inr (.inl (fun _ => 0)))), (q13, .inl (k14, 0, .inr (.inl (fun _ => 0))))] := hD
  have hP9 := hP.sub (ws' := [(h0, .inr (4, [.ref h1, .ref h2, .ref h3, .ref q1, .ref q3, .ref q5, .int 0, .ref q7, .ref q9, .int 0, .ref q11, .ref q13, .int 0, .int 0, .int 0, .int 0, .long 0, .int 0, .int 0])), (q1, .inl (k2, 64, .inl (fun _ => 0))), (q3, .inl (k4, 64, .inl (fun _ => 0))), (q5, .inl (k6, 64, .inr (.inr (.inr (.inr (fun _ => none)))))), (q7, .inl (k8, 64, .inl (fun _ => 0))), (q9, .inl (k10, 0, .inl (fun _ => 0))), (q11, .inl (k12, 64, .inr (.inl (fun _ => 0)))), (q13, .inl (k14, 0, .inr (.inl (fun _ => 0))))]) [0, 1, 2, 3, 4, 5, 6, 7] rfl
  have hD9 := hD.sub (ws' := [(h0, .inr (4, [.ref h1, .ref h2, .ref h3, .ref q1, .ref q3, .ref q5, .int 0, .ref q7, .ref q9, .int 0, .ref q11, .ref q13, .int 0, .int 0, .int 0, .int 0, .long 0, .int 0, .int 0])), (q1, .inl (k2, 64, .inl (fun _ => 0))), (q3, .inl (k4, 64, .inl (fun _ => 0))), (q5, .inl (k6, 64, .inr (.inr (.inr (.inr (fun _ => none)))))), (q7, .inl (k8, 64, .inl (fun _ => 0))), (q9, .inl (k10, 0, .inl (fun _ => 0))), (q11, .inl (k12, 64, .inr (.inl (fun _ => 0)))), (q13, .inl (k14, 0, .inr (.inl (fun _ => 0))))]) [0, 1, 2, 3, 4, 5, 6, 7] (by decide) rfl
  have hK9 := hK.sub (tys' := [(k2, .int), (k4, .int), (k6, .object "KeySteward$Value"), (k8, .byte), (k10, .byte), (k12, .long), (k14, .long)]) [0, 1, 2, 3, 4, 5, 6] rfl
  refine W.widen (k := 7) (n := 320) (Nat.le_of_ble_eq_true rfl) (Nat.le_of_ble_eq_true rfl) ?_
  exact W.vret hx hb hr (fun t ht hW => ⟨⟨(q1, q3, q5, q7, q9, q11, q13, k2, k4, k6, k8, k10, k12, k14), rfl, trivial, by rw [ht]; exact hP9, va_K.moved hW.alike hK9, hD9⟩, hS.F ht⟩) hS.2.2 dX4_init_74

set_option maxHeartbeats 4000000 in
set_option maxRecDepth 100000 in
/-- Texts(ask, keys) -/
theorem i_Te_init (l : Launch) (dC : Nat → ClassId) (dI : Nat → Nat → Nat) (sz : Nat) (h0 : Nat) (h1 : Nat) (h2 : Nat) : Met l yX9_init wX9_init ({ frames := 2, cells := 2, slots := 68, locals := 33 }) (va_Pc [.ref h0, .ref h1, .ref h2] (pW (dC, dI) [(h0, .inr (5, [.null, .null, .null, .int 0, .int 0, .int 0, .int 0]))] [] sz)) (va_Qv (fun ((q1, q2, k2) : Nat × Nat × ClassId) => True) (fun ((q1, q2, k2) : Nat × Nat × ClassId) (t : State) => bW (dC, dI) [(h0, .inr (5, [.ref h1, .ref h2, .ref q1, .int 0, .int 0, .int 0, .int 0])), (q1, .inr (0, [.int 32, .ref q2, .int 0, .int 0])), (q2, .inl (k2, 64, .inl (fun _ => 0)))] [(k2, .byte)] (va_A [(h0, .inr (5, [.null, .null, .null, .int 0, .int 0, .int 0, .int 0]))] sz) t) (va_A [(h0, .inr (5, [.null, .null, .null, .int 0, .int 0, .int 0, .int 0]))] sz)) 2 68 (va_A [(h0, .inr (5, [.null, .null, .null, .int 0, .int 0, .int 0, .int 0]))] sz) := by
  refine Met.ofW (cc := cX9_init) (maxL := 3) (ret := none) (by decide) rfl ?_
  intro p e s m args below meth c s₁ B hml hv
  obtain ⟨rfl, hsz, hP, hK, hD0, hfx⟩ := hv
  have hx := B.exec
  have hb := B.bytes
  have hr := B.returns
  have hts := atoms_spec (ws := wX9_init) B.pre
  have hkw : ∀ w ∈ kw, w.before _ s = true := fun w h => hts w (List.mem_cons_of_mem _ h)
  have hown : s.vm.findClass RX9 = some m.cls := findClass_of_methodNamed B.named
  have hlocks := B.notSynchronized
  have hin : meth.name = "<init>" := (name_of_methodNamed B.named B.method).1
  subst hsz
  have hD := hD0.self (sz := s.heap.size)
  generalize hAe : va_A [(h0, .inr (5, [.null, .null, .null, .int 0, .int 0, .int 0, .int 0]))] s.heap.size = A at hD ⊢
  have hA : ∀ q : Nat, s.heap.size ≤ q → A q := fun q h => by rw [← hAe]; exact Or.inr h
  have hS : va_S A s.heap s.heap [] := va_S.rf
  have hP : va_P (dC, dI) classes [(h0, .inr (5, [.null, .null, .null, .int 0, .int 0, .int 0, .int 0]))] s.heap := hP
  have hl := lv_entry ([.ref h0, .ref h1, .ref h2]) (n := 3) (Nat.le_of_ble_eq_true rfl)
  rw [lg_entry_eq]
  generalize (lg_sl ([.ref h0, .ref h1, .ref h2]) ++ List.replicate (3 - (lg_sl ([.ref h0, .ref h1, .ref h2])).length) Slot.unset).toArray = ls at hl ⊢
  have hl : lv_has ls 3 [(0, .ref h0), (1, .ref h1), (2, .ref h2)] := hl
  refine lv_aload_n hx hb dX9_init_0 rfl (lv_at hl 0 rfl) ?_
  refine W.objInit hx hb hown (hkw _ m_78) (hkw _ m_1) (hkw _ m_2) rfl (by rw [hml]; exact hl.1) rfl dX9_init_1 (Nat.le_of_ble_eq_true rfl) (Nat.le_of_ble_eq_true rfl) ?_
  refine W.eq (g2 := F0 m 4 ls []) rfl ?_
  refine lv_aload_n hx hb dX9_init_4 rfl (lv_at hl 0 rfl) ?_
  refine va_new (ci := 0) (fs := [.int 0, .null, .int 0, .int 0]) (C := RX1) (T := TX1) (N := 4) hx hb hkw kin_X1 tyX1 tyX1_ok hown (hkw _ m_79) (hkw _ m_20) (hkw _ m_9) hK hP hD hS hA rfl (df_X1) (Nat.le_of_ble_eq_true rfl) (Nat.le_of_ble_eq_true rfl) dX9_init_5 (fun q1 H hP hD hS => ?_)
  have hP : va_P (dC, dI) classes [(h0, .inr (5, [.null, .null, .null, .int 0, .int 0, .int 0, .int 0])), (q1, .inr (0, [.int 0, .null, .int 0, .int 0]))] H := hP
  have hD : va_D A [(h0, .inr (5, [.null, .null, .null, .int 0, .int 0, .int 0, .int 0])), (q1, .inr (0, [.int 0, .null, .int 0, .int 0]))] := hD
  refine W.widen (k := 1) (n := 4) (by decide) (by decide) ?_
  refine lv_dup hx hb dX9_init_8 rfl ?_
  refine lv_bipush (v := 32) hx hb dX9_init_9 (by decide) ?_
  have hPc := hP.sub (ws' := [(q1, .inr (0, [.int 0, .null, .int 0, .int 0]))]) [1] rfl
  have hDc := hD.sub (ws' := [(q1, .inr (0, [.int 0, .null, .int 0, .int 0]))]) [1] (by decide) rfl
  have hKc := hK.sub (tys' := []) [] rfl
  have hFc := va_free (wc := [(q1, .inr (0, [.int 0, .null, .int 0, .int 0]))]) hD hS hA [1] rfl
  refine va_callv (va_runI (As := [.int 32]) (rest := [.ref q1, .ref h0]) ⟨hx, hb, hml, hown, hkw⟩ (i_By_init l dC dI H.size q1 32) (cwI 1 hkw (kwI m_22) rfl rfl rfl (hkw _ m_9) (hkw _ m_80) (hkw _ m_24) rfl (by decide +kernel) ⟨Nat.le_of_ble_eq_true rfl, Nat.le_of_ble_eq_true rfl⟩) ⟨fbW, pW_in hPc hKc hDc hfx⟩ rfl rfl hl.1 rfl (lv_room (Nat.le_of_ble_eq_true rfl)) dX9_init_11 ⟨Nat.le_of_ble_eq_true rfl, Nat.le_of_ble_eq_true rfl⟩) hS (fun q _ h => hFc q h) hFc (fun u t H1 locs ht hvm hw hB hz1 hk1 hS => ?_)
  obtain ⟨q2, k3⟩ := u
  obtain ⟨hP1, hK1, hD1⟩ := hB
  rw [ht] at hP1
  have hK1 := va_K.moved hvm.symm hK1
  obtain ⟨hP, hD⟩ := va_join (wr := [(h0, .inr (5, [.null, .null, .null, .int 0, .int 0, .int 0, .int 0]))]) (w1 := [(q1, .inr (0, [.int 32, .ref q2, .int 0, .int 0])), (q2, .inl (k3, 64, .inl (fun _ => 0)))]) hP hD [1] [0] rfl rfl (by decide) (by decide) hk1 hFc hP1 hD1
  have hK := (hK.sub (tys' := []) [] rfl).app hK1
  generalize H1 = H at hP hS ⊢
  have hP : va_P (dC, dI) classes [(h0, .inr (5, [.null, .null, .null, .int 0, .int 0, .int 0, .int 0])), (q1, .inr (0, [.int 32, .ref q2, .int 0, .int 0])), (q2, .inl (k3, 64, .inl (fun _ => 0)))] H := hP
  have hD : va_D A [(h0, .inr (5, [.null, .null, .null, .int 0, .int 0, .int 0, .int 0])), (q1, .inr (0, [.int 32, .ref q2, .int 0, .int 0])), (q2, .inl (k3, 64, .inl (fun _ => 0)))] := hD
  have hK : va_K (dC, dI) classes [(k3, .byte)] s := hK
  refine W.widen (k := 2) (n := 68) (Nat.le_of_ble_eq_true rfl) (Nat.le_of_ble_eq_true rfl) ?_
  have hw4 := hw
  try dsimp only at hw4
  refine va_putF (D := (dC, dI)) (ci := 5) (v := .ref q1) (ty := .object "KeySteward$Bytes") (C := RX9) (T := TX9) (N := 7) hx hb hkw kin_X9 tyX9 tyX9_ok nmX9 hown hK hP hD hS 0 rfl rfl 2 (by decide) (hkw _ m_81) (fun _ h9 => h9) rfl hin rfl (by decide +kernel) rfl rfl (Nat.le_of_ble_eq_true rfl) dX9_init_14 (fun H locs hP hD hS => ?_)
  have hP : va_P (dC, dI) classes [(h0, .inr (5, [.null, .null, .ref q1, .int 0, .int 0, .int 0, .int 0])), (q1, .inr (0, [.int 32, .ref q2, .int 0, .int 0])), (q2, .inl (k3, 64, .inl (fun _ => 0)))] H := hP
  have hD : va_D A [(h0, .inr (5, [.null, .null, .ref q1, .int 0, .int 0, .int 0, .int 0])), (q1, .inr (0, [.int 32, .ref q2, .int 0, .int 0])), (q2, .inl (k3, 64, .inl (fun _ => 0)))] := hD
  refine lv_aload_n hx hb dX9_init_17 rfl (lv_at hl 0 rfl) ?_
  refine lv_aload_n hx hb dX9_init_18 rfl (lv_at hl 1 rfl) ?_
  refine va_putF (D := (dC, dI)) (ci := 5) (v := .ref h1) (ty := .object "KeySteward$Request") (C := RX9) (T := TX9) (N := 7) hx hb hkw kin_X9 tyX9 tyX9_ok nmX9 hown hK hP hD hS 0 rfl rfl 0 (by decide) (hkw _ m_82) (fun _ h9 => h9) rfl hin rfl (by decide +kernel) rfl rfl (Nat.le_of_ble_eq_true rfl) dX9_init_19 (fun H locs hP hD hS => ?_)
  have hP : va_P (dC, dI) classes [(h0, .inr (5, [.ref h1, .null, .ref q1, .int 0, .int 0, .int 0, .int 0])), (q1, .inr (0, [.int 32, .ref q2, .int 0, .int 0])), (q2, .inl (k3, 64, .inl (fun _ => 0)))] H := hP
  have hD : va_D A [(h0, .inr (5, [.ref h1, .null, .ref q1, .int 0, .int 0, .int 0, .int 0])), (q1, .inr (0, [.int 32, .ref q2, .int 0, .int 0])), (q2, .inl (k3, 64, .inl (fun _ => 0)))] := hD
  refine lv_aload_n hx hb dX9_init_22 rfl (lv_at hl 0 rfl) ?_
  refine lv_aload_n hx hb dX9_init_23 rfl (lv_at hl 2 rfl) ?_
  refine va_putF (D := (dC, dI)) (ci := 5) (v := .ref h2) (ty := .object "KeySteward$Keys") (C := RX9) (T := TX9) (N := 7) hx hb hkw kin_X9 tyX9 tyX9_ok nmX9 hown hK hP hD hS 0 rfl rfl 1 (by decide) (hkw _ m_83) (fun _ h9 => h9) rfl hin rfl (by decide +kernel) rfl rfl (Nat.le_of_ble_eq_true rfl) dX9_init_24 (fun H locs hP hD hS => ?_)
  have hP : va_P (dC, dI) classes [(h0, .inr (5, [.ref h1, .ref h2, .ref q1, .int 0, .int 0, .int 0, .int 0])), (q1, .inr (0, [.int 32, .ref q2, .int 0, .int 0])), (q2, .inl (k3, 64, .inl (fun _ => 0)))] H := hP
  have hD : va_D A [(h0, .inr (5, [.ref h1, .ref h2, .ref q1, .int 0, .int 0, .int 0, .int 0])), (q1, .inr (0, [.int 32, .ref q2, .int 0, .int 0])), (q2, .inl (k3, 64, .inl (fun _ => 0)))] := hD
  have hP9 := hP.sub (ws' := [(h0, .inr (5, [.ref h1, .ref h2, .ref q1, .int 0, .int 0, .int 0, .int 0])), (q1, .inr (0, [.int 32, .ref q2, .int 0, .int 0])), (q2, .inl (k3, 64, .inl (fun _ => 0)))]) [0, 1, 2] rfl
  have hD9 := hD.sub (ws' := [(h0, .inr (5, [.ref h1, .ref h2, .ref q1, .int 0, .int 0, .int 0, .int 0])), (q1, .inr (0, [.int 32, .ref q2, .int 0, .int 0])), (q2, .inl (k3, 64, .inl (fun _ => 0)))]) [0, 1, 2] (by decide) rfl
  have hK9 := hK.sub (tys' := [(k3, .byte)]) [0] rfl
  refine W.widen (k := 2) (n := 68) (Nat.le_of_ble_eq_true rfl) (Nat.le_of_ble_eq_true rfl) ?_
  exact W.vret hx hb hr (fun t ht hW => ⟨⟨(q1, q2, k3), rfl, trivial, by rw [ht]; exact hP9, va_K.moved hW.alike hK9, hD9⟩, hS.F ht⟩) hS.2.2 dX9_init_27

set_option maxHeartbeats 4000000 in
set_option maxRecDepth 100000 in
/-- Lists -/
theorem i_Li_init (l : Launch) (dC : Nat → ClassId) (dI : Nat → Nat → Nat) (sz : Nat) (h0 : Nat) (h1 : Nat) (h2 : Nat) (h3 : Nat) : Met l yX5_init wX5_init ({ frames := 1, cells := 0, slots := 0, locals := 12 }) (va_Pc [.ref h0, .ref h1, .ref h2, .ref h3] (pW (dC, dI) [(h0, .inr (6, [.null, .null, .null]))] [] sz)) (va_Qv (fun (_u : Unit) => True) (fun (_u : Unit) (t : State) => bW (dC, dI) [(h0, .inr (6, [.ref h1, .ref h2, .ref h3]))] [] (va_A [(h0, .inr (6, [.null, .null, .null]))] sz) t) (va_A [(h0, .inr (6, [.null, .null, .null]))] sz)) 0 0 (va_A [(h0, .inr (6, [.null, .null, .null]))] sz) := by
  refine Met.ofW (cc := cX5_init) (maxL := 4) (ret := none) (by decide) rfl ?_
  intro p e s m args below meth c s₁ B hml hv
  obtain ⟨rfl, hsz, hP, hK, hD0, hfx⟩ := hv
  have hx := B.exec
  have hb := B.bytes
  have hr := B.returns
  have hts := atoms_spec (ws := wX5_init) B.pre
  have hkw : ∀ w ∈ kw, w.before _ s = true := fun w h => hts w (List.mem_cons_of_mem _ h)
  have hown : s.vm.findClass RX5 = some m.cls := findClass_of_methodNamed B.named
  have hlocks := B.notSynchronized
  have hin : meth.name = "<init>" := (name_of_methodNamed B.named B.method).1
  subst hsz
  have hD := hD0.self (sz := s.heap.size)
  generalize hAe : va_A [(h0, .inr (6, [.null, .null, .null]))] s.heap.size = A at hD ⊢
  have hA : ∀ q : Nat, s.heap.size ≤ q → A q := fun q h => by rw [← hAe]; exact Or.inr h
  have hS : va_S A s.heap s.heap [] := va_S.rf
  have hP : va_P (dC, dI) classes [(h0, .inr (6, [.null, .null, .null]))] s.heap := hP
  have hl := lv_entry ([.ref h0, .ref h1, .ref h2, .ref h3]) (n := 4) (Nat.le_of_ble_eq_true rfl)
  rw [lg_entry_eq]
  generalize (lg_sl ([.ref h0, .ref h1, .ref h2, .ref h3]) ++ List.replicate (4 - (lg_sl ([.ref h0, .ref h1, .ref h2, .ref h3])).length) Slot.unset).toArray = ls at hl ⊢
  have hl : lv_has ls 4 [(0, .ref h0), (1, .ref h1), (2, .ref h2), (3, .ref h3)] := hl
  refine lv_aload_n hx hb dX5_init_0 rfl (lv_at hl 0 rfl) ?_
  refine W.objInit hx hb hown (hkw _ m_84) (hkw _ m_1) (hkw _ m_2) rfl (by rw [hml]; exact hl.1) rfl dX5_init_1 (Nat.le_of_ble_eq_true rfl) (Nat.le_of_ble_eq_true rfl) ?_
  refine W.eq (g2 := F0 m 4 ls []) rfl ?_
  refine lv_aload_n hx hb dX5_init_4 rfl (lv_at hl 0 rfl) ?_
  refine lv_aload_n hx hb dX5_init_5 rfl (lv_at hl 1 rfl) ?_
  refine va_putF (D := (dC, dI)) (ci := 6) (v := .ref h1) (ty := .object "KeySteward$Words") (C := RX5) (T := TX5) (N := 3) hx hb hkw kin_X5 tyX5 tyX5_ok nmX5 hown hK hP hD hS 0 rfl rfl 0 (by decide) (hkw _ m_85) (fun _ h9 => h9) rfl hin rfl (by decide +kernel) rfl rfl (Nat.le_of_ble_eq_true rfl) dX5_init_6 (fun H locs hP hD hS => ?_)
  have hP : va_P (dC, dI) classes [(h0, .inr (6, [.ref h1, .null, .null]))] H := hP
  have hD : va_D A [(h0, .inr (6, [.ref h1, .null, .null]))] := hD
  refine lv_aload_n hx hb dX5_init_9 rfl (lv_at hl 0 rfl) ?_
  refine lv_aload_n hx hb dX5_init_10 rfl (lv_at hl 2 rfl) ?_
  refine va_putF (D := (dC, dI)) (ci := 6) (v := .ref h2) (ty := .object "KeySteward$Request") (C := RX5) (T := TX5) (N := 3) hx hb hkw kin_X5 tyX5 tyX5_ok nmX5 hown hK hP hD hS 0 rfl rfl 1 (by decide) (hkw _ m_86) (fun _ h9 => h9) rfl hin rfl (by decide +kernel) rfl rfl (Nat.le_of_ble_eq_true rfl) dX5_init_11 (fun H locs hP hD hS => ?_)
  have hP : va_P (dC, dI) classes [(h0, .inr (6, [.ref h1, .ref h2, .null]))] H := hP
  have hD : va_D A [(h0, .inr (6, [.ref h1, .ref h2, .null]))] := hD
  refine lv_aload_n hx hb dX5_init_14 rfl (lv_at hl 0 rfl) ?_
  refine lv_aload_n hx hb dX5_init_15 rfl (lv_at hl 3 rfl) ?_
  refine va_putF (D := (dC, dI)) (ci := 6) (v := .ref h3) (ty := .object "KeySteward$Keys") (C := RX5) (T := TX5) (N := 3) hx hb hkw kin_X5 tyX5 tyX5_ok nmX5 hown hK hP hD hS 0 rfl rfl 2 (by decide) (hkw _ m_87) (fun _ h9 => h9) rfl hin rfl (by decide +kernel) rfl rfl (Nat.le_of_ble_eq_true rfl) dX5_init_16 (fun H locs hP hD hS => ?_)
  have hP : va_P (dC, dI) classes [(h0, .inr (6, [.ref h1, .ref h2, .ref h3]))] H := hP
  have hD : va_D A [(h0, .inr (6, [.ref h1, .ref h2, .ref h3]))] := hD
  have hP9 := hP.sub (ws' := [(h0, .inr (6, [.ref h1, .ref h2, .ref h3]))]) [0] rfl
  have hD9 := hD.sub (ws' := [(h0, .inr (6, [.ref h1, .ref h2, .ref h3]))]) [0] (by decide) rfl
  have hK9 := hK.sub (tys' := []) [] rfl
  refine W.widen (k := 0) (n := 0) (Nat.le_of_ble_eq_true rfl) (Nat.le_of_ble_eq_true rfl) ?_
  exact W.vret hx hb hr (fun t ht hW => ⟨⟨(), rfl, trivial, by rw [ht]; exact hP9, va_K.moved hW.alike hK9, hD9⟩, hS.F ht⟩) hS.2.2 dX5_init_19

set_option maxHeartbeats 4000000 in
set_option maxRecDepth 100000 in
/-- Members -/
theorem i_Me_init (l : Launch) (dC : Nat → ClassId) (dI : Nat → Nat → Nat) (sz : Nat) (h0 : Nat) (h1 : Nat) (h2 : Nat) (h3 : Nat) : Met l yX6_init wX6_init ({ frames := 2, cells := 3, slots := 132, locals := 33 }) (va_Pc [.ref h0, .ref h1, .ref h2, .ref h3] (pW (dC, dI) [(h0, .inr (7, [.null, .null, .null, .null, .null, .int 0]))] [] sz)) (va_Qv (fun ((q1, q2, q3, k2, k3) : Nat × Nat × Nat × ClassId × ClassId) => True) (fun ((q1, q2, q3, k2, k3) : Nat × Nat × Nat × ClassId × ClassId) (t : State) => bW (dC, dI) [(h0, .inr (7, [.ref h1, .ref h2, .ref h3, .ref q1, .ref q3, .int 0])), (q1, .inr (0, [.int 32, .ref q2, .int 0, .int 0])), (q2, .inl (k2, 64, .inl (fun _ => 0))), (q3, .inl (k3, 64, .inl (fun _ => 0)))] [(k2, .byte), (k3, .int)] (va_A [(h0, .inr (7, [.null, .null, .null, .null, .null, .int 0]))] sz) t) (va_A [(h0, .inr (7, [.null, .null, .null, .null, .null, .int 0]))] sz)) 3 132 (va_A [(h0, .inr (7, [.null, .null, .null, .null, .null, .int 0]))] sz) := by
  refine Met.ofW (cc := cX6_init) (maxL := 4) (ret := none) (by decide) rfl ?_
  intro p e s m args below meth c s₁ B hml hv
  obtain ⟨rfl, hsz, hP, hK, hD0, hfx⟩ := hv
  have hx := B.exec
  have hb := B.bytes
  have hr := B.returns
  have hts := atoms_spec (ws := wX6_init) B.pre
  have hkw : ∀ w ∈ kw, w.before _ s = true := fun w h => hts w (List.mem_cons_of_mem _ h)
  have hown : s.vm.findClass RX6 = some m.cls := findClass_of_methodNamed B.named
  have hlocks := B.notSynchronized
  have hin : meth.name = "<init>" := (name_of_methodNamed B.named B.method).1
  subst hsz
  have hD := hD0.self (sz := s.heap.size)
  generalize hAe : va_A [(h0, .inr (7, [.null, .null, .null, .null, .null, .int 0]))] s.heap.size = A at hD ⊢
  have hA : ∀ q : Nat, s.heap.size ≤ q → A q := fun q h => by rw [← hAe]; exact Or.inr h
  have hS : va_S A s.heap s.heap [] := va_S.rf
  have hP : va_P (dC, dI) classes [(h0, .inr (7, [.null, .null, .null, .null, .null, .int 0]))] s.heap := hP
  have hl := lv_entry ([.ref h0, .ref h1, .ref h2, .ref h3]) (n := 4) (Nat.le_of_ble_eq_true rfl)
  rw [lg_entry_eq]
  generalize (lg_sl ([.ref h0, .ref h1, .ref h2, .ref h3]) ++ List.replicate (4 - (lg_sl ([.ref h0, .ref h1, .ref h2, .ref h3])).length) Slot.unset).toArray = ls at hl ⊢
  have hl : lv_has ls 4 [(0, .ref h0), (1, .ref h1), (2, .ref h2), (3, .ref h3)] := hl
  refine lv_aload_n hx hb dX6_init_0 rfl (lv_at hl 0 rfl) ?_
  refine W.objInit hx hb hown (hkw _ m_88) (hkw _ m_1) (hkw _ m_2) rfl (by rw [hml]; exact hl.1) rfl dX6_init_1 (Nat.le_of_ble_eq_true rfl) (Nat.le_of_ble_eq_true rfl) ?_
  refine W.eq (g2 := F0 m 4 ls []) rfl ?_
  refine lv_aload_n hx hb dX6_init_4 rfl (lv_at hl 0 rfl) ?_
  refine va_new (ci := 0) (fs := [.int 0, .null, .int 0, .int 0]) (C := RX1) (T := TX1) (N := 4) hx hb hkw kin_X1 tyX1 tyX1_ok hown (hkw _ m_89) (hkw _ m_20) (hkw _ m_9) hK hP hD hS hA rfl (df_X1) (Nat.le_of_ble_eq_true rfl) (Nat.le_of_ble_eq_true rfl) dX6_init_5 (fun q1 H hP hD hS => ?_)
  have hP : va_P (dC, dI) classes [(h0, .inr (7, [.null, .null, .null, .null, .null, .int 0])), (q1, .inr (0, [.int 0, .null, .int 0, .int 0]))] H := hP
  have hD : va_D A [(h0, .inr (7, [.null, .null, .null, .null, .null, .int 0])), (q1, .inr (0, [.int 0, .null, .int 0, .int 0]))] := hD
  refine W.widen (k := 1) (n := 4) (by decide) (by decide) ?_
  refine lv_dup hx hb dX6_init_8 rfl ?_
  refine lv_bipush (v := 32) hx hb dX6_init_9 (by decide) ?_
  have hPc := hP.sub (ws' := [(q1, .inr (0, [.int 0, .null, .int 0, .int 0]))]) [1] rfl
  have hDc := hD.sub (ws' := [(q1, .inr (0, [.int 0, .null, .int 0, .int 0]))]) [1] (by decide) rfl
  have hKc := hK.sub (tys' := []) [] rfl
  have hFc := va_free (wc := [(q1, .inr (0, [.int 0, .null, .int 0, .int 0]))]) hD hS hA [1] rfl
  refine va_callv (va_runI (As := [.int 32]) (rest := [.ref q1, .ref h0]) ⟨hx, hb, hml, hown, hkw⟩ (i_By_init l dC dI H.size q1 32) (cwI 1 hkw (kwI m_22) rfl rfl rfl (hkw _ m_9) (hkw _ m_90) (hkw _ m_24) rfl (by decide +kernel) ⟨Nat.le_of_ble_eq_true rfl, Nat.le_of_ble_eq_true rfl⟩) ⟨fbW, pW_in hPc hKc hDc hfx⟩ rfl rfl hl.1 rfl (lv_room (Nat.le_of_ble_eq_true rfl)) dX6_init_11 ⟨Nat.le_of_ble_eq_true rfl, Nat.le_of_ble_eq_true rfl⟩) hS (fun q _ h => hFc q h) hFc (fun u t H1 locs ht hvm hw hB hz1 hk1 hS => ?_)
  obtain ⟨q2, k3⟩ := u
  obtain ⟨hP1, hK1, hD1⟩ := hB
  rw [ht] at hP1
  have hK1 := va_K.moved hvm.symm hK1
  obtain ⟨hP, hD⟩ := va_join (wr := [(h0, .inr (7, [.null, .null, .null, .null, .null, .int 0]))]) (w1 := [(q1, .inr (0, [.int 32, .ref q2, .int 0, .int 0])), (q2, .inl (k3, 64, .inl (fun _ => 0)))]) hP hD [1] [0] rfl rfl (by decide) (by decide) hk1 hFc hP1 hD1
  have hK := (hK.sub (tys' := []) [] rfl).app hK1
  generalize H1 = H at hP hS ⊢
  have hP : va_P (dC, dI) classes [(h0, .inr (7, [.null, .null, .null, .null, .null, .int 0])), (q1, .inr (0, [.int 32, .ref q2, .int 0, .int 0])), (q2, .inl (k3, 64, .inl (fun _ => 0)))] H := hP
  have hD : va_D A [(h0, .inr (7, [.null, .null, .null, .null, .null, .int 0])), (q1, .inr (0, [.int 32, .ref q2, .int 0, .int 0])), (q2, .inl (k3, 64, .inl (fun _ => 0)))] := hD
  have hK : va_K (dC, dI) classes [(k3, .byte)] s := hK
  refine W.widen (k := 2) (n := 68) (Nat.le_of_ble_eq_true rfl) (Nat.le_of_ble_eq_true rfl) ?_
  have hw4 := hw
  try dsimp only at hw4
  refine va_putF (D := (dC, dI)) (ci := 7) (v := .ref q1) (ty := .object "KeySteward$Bytes") (C := RX6) (T := TX6) (N := 6) hx hb hkw kin_X6 tyX6 tyX6_ok nmX6 hown hK hP hD hS 0 rfl rfl 3 (by decide) (hkw _ m_91) (fun _ h9 => h9) rfl hin rfl (by decide +kernel) rfl rfl (Nat.le_of_ble_eq_true rfl) dX6_init_14 (fun H locs hP hD hS => ?_)
  have hP : va_P (dC, dI) classes [(h0, .inr (7, [.null, .null, .null, .ref q1, .null, .int 0])), (q1, .inr (0, [.int 32, .ref q2, .int 0, .int 0])), (q2, .inl (k3, 64, .inl (fun _ => 0)))] H := hP
  have hD : va_D A [(h0, .inr (7, [.null, .null, .null, .ref q1, .null, .int 0])), (q1, .inr (0, [.int 32, .ref q2, .int 0, .int 0])), (q2, .inl (k3, 64, .inl (fun _ => 0)))] := hD
  refine lv_aload_n hx hb dX6_init_17 rfl (lv_at hl 0 rfl) ?_
  refine lv_bipush (v := 64) hx hb dX6_init_18 (by decide) ?_
  refine va_newa (atype := .int) (a0 := (64, .inl (fun _ => 0))) (N' := 64) (n := 64) (ty := .int) hx hb (hkw _ m_30) rfl hK hP hD hS hA (fun _ => rfl) (by decide) (by decide) (by decide) (Nat.le_of_ble_eq_true rfl) (Nat.le_of_ble_eq_true rfl) dX6_init_20 (fun q5 k6 H hK hP hD hS => ?_)
  have hP : va_P (dC, dI) classes [(h0, .inr (7, [.null, .null, .null, .ref q1, .null, .int 0])), (q1, .inr (0, [.int 32, .ref q2, .int 0, .int 0])), (q2, .inl (k3, 64, .inl (fun _ => 0))), (q5, .inl (k6, 64, .inl (fun _ => 0)))] H := hP
  have hD : va_D A [(h0, .inr (7, [.null, .null, .null, .ref q1, .null, .int 0])), (q1, .inr (0, [.int 32, .ref q2, .int 0, .int 0])), (q2, .inl (k3, 64, .inl (fun _ => 0))), (q5, .inl (k6, 64, .inl (fun _ => 0)))] := hD
  have hK : va_K (dC, dI) classes [(k3, .byte), (k6, .int)] s := hK
  refine W.widen (k := 3) (n := 132) (by decide) (by decide) ?_
  refine va_put (D := (dC, dI)) (ci := 7) (v := .ref q5) (ty := .array .int) (C := RX6) (T := TX6) (N := 6) hx hb hkw kin_X6 tyX6 tyX6_ok nmX6 hown hK hP hD hS 0 rfl rfl 4 (by decide) (hkw _ m_92) (fun _ h9 => h9) rfl (by decide +kernel) rfl rfl (Nat.le_of_ble_eq_true rfl) dX6_init_22 (fun H locs hP hD hS => ?_)
  have hP : va_P (dC, dI) classes [(h0, .inr (7, [.null, .null, .null, .ref q1, .ref q5, .int 0])), (q1, .inr (0, [.int 32, .ref q2, .int 0, .int 0])), (q2, .inl (k3, 64, .inl (fun _ => 0))), (q5, .inl (k6, 64, .inl (fun _ => 0)))] H := hP
  have hD : va_D A [(h0, .inr (7, [.null, .null, .null, .ref q1, .ref q5, .int 0])), (q1, .inr (0, [.int 32, .ref q2, .int 0, .int 0])), (q2, .inl (k3, 64, .inl (fun _ => 0))), (q5, .inl (k6, 64, .inl (fun _ => 0)))] := hD
  refine lv_aload_n hx hb dX6_init_25 rfl (lv_at hl 0 rfl) ?_
  refine lv_aload_n hx hb dX6_init_26 rfl (lv_at hl 1 rfl) ?_
  refine va_putF (D := (dC, dI)) (ci := 7) (v := .ref h1) (ty := .object "KeySteward$Words") (C := RX6) (T := TX6) (N := 6) hx hb hkw kin_X6 tyX6 tyX6_ok nmX6 hown hK hP hD hS 0 rfl rfl 0 (by decide) (hkw _ m_93) (fun _ h9 => h9) rfl hin rfl (by decide +kernel) rfl rfl (Nat.le_of_ble_eq_true rfl) dX6_init_27 (fun H locs hP hD hS => ?_)
  have hP : va_P (dC, dI) classes [(h0, .inr (7, [.ref h1, .null, .null, .ref q1, .ref q5, .int 0])), (q1, .inr (0, [.int 32, .ref q2, .int 0, .int 0])), (q2, .inl (k3, 64, .inl (fun _ => 0))), (q5, .inl (k6, 64, .inl (fun _ => 0)))] H := hP
  have hD : va_D A [(h0, .inr (7, [.ref h1, .null, .null, .ref q1, .ref q5, .int 0])), (q1, .inr (0, [.int 32, .ref q2, .int 0, .int 0])), (q2, .inl (k3, 64, .inl (fun _ => 0))), (q5, .inl (k6, 64, .inl (fun _ => 0)))] := hD
  refine lv_aload_n hx hb dX6_init_30 rfl (lv_at hl 0 rfl) ?_
  refine lv_aload_n hx hb dX6_init_31 rfl (lv_at hl 2 rfl) ?_
  refine va_putF (D := (dC, dI)) (ci := 7) (v := .ref h2) (ty := .object "KeySteward$Request") (C := RX6) (T := TX6) (N := 6) hx hb hkw kin_X6 tyX6 tyX6_ok nmX6 hown hK hP hD hS 0 rfl rfl 1 (by decide) (hkw _ m_94) (fun _ h9 => h9) rfl hin rfl (by decide +kernel) rfl rfl (Nat.le_of_ble_eq_true rfl) dX6_init_32 (fun H locs hP hD hS => ?_)
  have hP : va_P (dC, dI) classes [(h0, .inr (7, [.ref h1, .ref h2, .null, .ref q1, .ref q5, .int 0])), (q1, .inr (0, [.int 32, .ref q2, .int 0, .int 0])), (q2, .inl (k3, 64, .inl (fun _ => 0))), (q5, .inl (k6, 64, .inl (fun _ => 0)))] H := hP
  have hD : va_D A [(h0, .inr (7, [.ref h1, .ref h2, .null, .ref q1, .ref q5, .int 0])), (q1, .inr (0, [.int 32, .ref q2, .int 0, .int 0])), (q2, .inl (k3, 64, .inl (fun _ => 0))), (q5, .inl (k6, 64, .inl (fun _ => 0)))] := hD
  refine lv_aload_n hx hb dX6_init_35 rfl (lv_at hl 0 rfl) ?_
  refine lv_aload_n hx hb dX6_init_36 rfl (lv_at hl 3 rfl) ?_
  refine va_putF (D := (dC, dI)) (ci := 7) (v := .ref h3) (ty := .object "KeySteward$Keys") (C := RX6) (T := TX6) (N := 6) hx hb hkw kin_X6 tyX6 tyX6_ok nmX6 hown hK hP hD hS 0 rfl rfl 2 (by decide) (hkw _ m_95) (fun _ h9 => h9) rfl hin rfl (by decide +kernel) rfl rfl (Nat.le_of_ble_eq_true rfl) dX6_init_37 (fun H locs hP hD hS => ?_)
  have hP : va_P (dC, dI) classes [(h0, .inr (7, [.ref h1, .ref h2, .ref h3, .ref q1, .ref q5, .int 0])), (q1, .inr (0, [.int 32, .ref q2, .int 0, .int 0])), (q2, .inl (k3, 64, .inl (fun _ => 0))), (q5, .inl (k6, 64, .inl (fun _ => 0)))] H := hP
  have hD : va_D A [(h0, .inr (7, [.ref h1, .ref h2, .ref h3, .ref q1, .ref q5, .int 0])), (q1, .inr (0, [.int 32, .ref q2, .int 0, .int 0])), (q2, .inl (k3, 64, .inl (fun _ => 0))), (q5, .inl (k6, 64, .inl (fun _ => 0)))] := hD
  have hP9 := hP.sub (ws' := [(h0, .inr (7, [.ref h1, .ref h2, .ref h3, .ref q1, .ref q5, .int 0])), (q1, .inr (0, [.int 32, .ref q2, .int 0, .int 0])), (q2, .inl (k3, 64, .inl (fun _ => 0))), (q5, .inl (k6, 64, .inl (fun _ => 0)))]) [0, 1, 2, 3] rfl
  have hD9 := hD.sub (ws' := [(h0, .inr (7, [.ref h1, .ref h2, .ref h3, .ref q1, .ref q5, .int 0])), (q1, .inr (0, [.int 32, .ref q2, .int 0, .int 0])), (q2, .inl (k3, 64, .inl (fun _ => 0))), (q5, .inl (k6, 64, .inl (fun _ => 0)))]) [0, 1, 2, 3] (by decide) rfl
  have hK9 := hK.sub (tys' := [(k3, .byte), (k6, .int)]) [0, 1] rfl
  refine W.widen (k := 3) (n := 132) (Nat.le_of_ble_eq_true rfl) (Nat.le_of_ble_eq_true rfl) ?_
  exact W.vret hx hb hr (fun t ht hW => ⟨⟨(q1, q2, q5, k3, k6), rfl, trivial, by rw [ht]; exact hP9, va_K.moved hW.alike hK9, hD9⟩, hS.F ht⟩) hS.2.2 dX6_init_40

set_option maxHeartbeats 4000000 in
set_option maxRecDepth 100000 in
/-- Orders -/
theorem i_Or_init (l : Launch) (dC : Nat → ClassId) (dI : Nat → Nat → Nat) (sz : Nat) (h0 : Nat) (h1 : Nat) (h2 : Nat) (h3 : Nat) : Met l yX7_init wX7_init ({ frames := 1, cells := 0, slots := 0, locals := 12 }) (va_Pc [.ref h0, .ref h1, .ref h2, .ref h3] (pW (dC, dI) [(h0, .inr (8, [.null, .null, .null, .int 0, .int 0, .int 0, .int 0, .int 0, .int 0]))] [] sz)) (va_Qv (fun (_u : Unit) => True) (fun (_u : Unit) (t : State) => bW (dC, dI) [(h0, .inr (8, [.ref h1, .ref h2, .ref h3, .int 0, .int 0, .int 0, .int 0, .int 0, .int 0]))] [] (va_A [(h0, .inr (8, [.null, .null, .null, .int 0, .int 0, .int 0, .int 0, .int 0, .int 0]))] sz) t) (va_A [(h0, .inr (8, [.null, .null, .null, .int 0, .int 0, .int 0, .int 0, .int 0, .int 0]))] sz)) 0 0 (va_A [(h0, .inr (8, [.null, .null, .null, .int 0, .int 0, .int 0, .int 0, .int 0, .int 0]))] sz) := by
  refine Met.ofW (cc := cX7_init) (maxL := 4) (ret := none) (by decide) rfl ?_
  intro p e s m args below meth c s₁ B hml hv
  obtain ⟨rfl, hsz, hP, hK, hD0, hfx⟩ := hv
  have hx := B.exec
  have hb := B.bytes
  have hr := B.returns
  have hts := atoms_spec (ws := wX7_init) B.pre
  have hkw : ∀ w ∈ kw, w.before _ s = true := fun w h => hts w (List.mem_cons_of_mem _ h)
  have hown : s.vm.findClass RX7 = some m.cls := findClass_of_methodNamed B.named
  have hlocks := B.notSynchronized
  have hin : meth.name = "<init>" := (name_of_methodNamed B.named B.method).1
  subst hsz
  have hD := hD0.self (sz := s.heap.size)
  generalize hAe : va_A [(h0, .inr (8, [.null, .null, .null, .int 0, .int 0, .int 0, .int 0, .int 0, .int 0]))] s.heap.size = A at hD ⊢
  have hA : ∀ q : Nat, s.heap.size ≤ q → A q := fun q h => by rw [← hAe]; exact Or.inr h
  have hS : va_S A s.heap s.heap [] := va_S.rf
  have hP : va_P (dC, dI) classes [(h0, .inr (8, [.null, .null, .null, .int 0, .int 0, .int 0, .int 0, .int 0, .int 0]))] s.heap := hP
  have hl := lv_entry ([.ref h0, .ref h1, .ref h2, .ref h3]) (n := 4) (Nat.le_of_ble_eq_true rfl)
  rw [lg_entry_eq]
  generalize (lg_sl ([.ref h0, .ref h1, .ref h2, .ref h3]) ++ List.replicate (4 - (lg_sl ([.ref h0, .ref h1, .ref h2, .ref h3])).length) Slot.unset).toArray = ls at hl ⊢
  have hl : lv_has ls 4 [(0, .ref h0), (1, .ref h1), (2, .ref h2), (3, .ref h3)] := hl
  refine lv_aload_n hx hb dX7_init_0 rfl (lv_at hl 0 rfl) ?_
  refine W.objInit hx hb hown (hkw _ m_96) (hkw _ m_1) (hkw _ m_2) rfl (by rw [hml]; exact hl.1) rfl dX7_init_1 (Nat.le_of_ble_eq_true rfl) (Nat.le_of_ble_eq_true rfl) ?_
  refine W.eq (g2 := F0 m 4 ls []) rfl ?_
  refine lv_aload_n hx hb dX7_init_4 rfl (lv_at hl 0 rfl) ?_
  refine lv_aload_n hx hb dX7_init_5 rfl (lv_at hl 1 rfl) ?_
  refine va_putF (D := (dC, dI)) (ci := 8) (v := .ref h1) (ty := .object "KeySteward$Words") (C := RX7) (T := TX7) (N := 9) hx hb hkw kin_X7 tyX7 tyX7_ok nmX7 hown hK hP hD hS 0 rfl rfl 0 (by decide) (hkw _ m_97) (fun _ h9 => h9) rfl hin rfl (by decide +kernel) rfl rfl (Nat.le_of_ble_eq_true rfl) dX7_init_6 (fun H locs hP hD hS => ?_)
  have hP : va_P (dC, dI) classes [(h0, .inr (8, [.ref h1, .null, .null, .int 0, .int 0, .int 0, .int 0, .int 0, .int 0]))] H := hP
  have hD : va_D A [(h0, .inr (8, [.ref h1, .null, .null, .int 0, .int 0, .int 0, .int 0, .int 0, .int 0]))] := hD
  refine lv_aload_n hx hb dX7_init_9 rfl (lv_at hl 0 rfl) ?_
  refine lv_aload_n hx hb dX7_init_10 rfl (lv_at hl 2 rfl) ?_
  refine va_putF (D := (dC, dI)) (ci := 8) (v := .ref h2) (ty := .object "KeySteward$Request") (C := RX7) (T := TX7) (N := 9) hx hb hkw kin_X7 tyX7 tyX7_ok nmX7 hown hK hP hD hS 0 rfl rfl 1 (by decide) (hkw _ m_98) (fun _ h9 => h9) rfl hin rfl (by decide +kernel) rfl rfl (Nat.le_of_ble_eq_true rfl) dX7_init_11 (fun H locs hP hD hS => ?_)
  have hP : va_P (dC, dI) classes [(h0, .inr (8, [.ref h1, .ref h2, .null, .int 0, .int 0, .int 0, .int 0, .int 0, .int 0]))] H := hP
  have hD : va_D A [(h0, .inr (8, [.ref h1, .ref h2, .null, .int 0, .int 0, .int 0, .int 0, .int 0, .int 0]))] := hD
  refine lv_aload_n hx hb dX7_init_14 rfl (lv_at hl 0 rfl) ?_
  refine lv_aload_n hx hb dX7_init_15 rfl (lv_at hl 3 rfl) ?_
  refine va_putF (D := (dC, dI)) (ci := 8) (v := .ref h3) (ty := .object "KeySteward$Keys") (C := RX7) (T := TX7) (N := 9) hx hb hkw kin_X7 tyX7 tyX7_ok nmX7 hown hK hP hD hS 0 rfl rfl 2 (by decide) (hkw _ m_99) (fun _ h9 => h9) rfl hin rfl (by decide +kernel) rfl rfl (Nat.le_of_ble_eq_true rfl) dX7_init_16 (fun H locs hP hD hS => ?_)
  have hP : va_P (dC, dI) classes [(h0, .inr (8, [.ref h1, .ref h2, .ref h3, .int 0, .int 0, .int 0, .int 0, .int 0, .int 0]))] H := hP
  have hD : va_D A [(h0, .inr (8, [.ref h1, .ref h2, .ref h3, .int 0, .int 0, .int 0, .int 0, .int 0, .int 0]))] := hD
  have hP9 := hP.sub (ws' := [(h0, .inr (8, [.ref h1, .ref h2, .ref h3, .int 0, .int 0, .int 0, .int 0, .int 0, .int 0]))]) [0] rfl
  have hD9 := hD.sub (ws' := [(h0, .inr (8, [.ref h1, .ref h2, .ref h3, .int 0, .int 0, .int 0, .int 0, .int 0, .int 0]))]) [0] (by decide) rfl
  have hK9 := hK.sub (tys' := []) [] rfl
  refine W.widen (k := 0) (n := 0) (Nat.le_of_ble_eq_true rfl) (Nat.le_of_ble_eq_true rfl) ?_
  exact W.vret hx hb hr (fun t ht hW => ⟨⟨(), rfl, trivial, by rw [ht]; exact hP9, va_K.moved hW.alike hK9, hD9⟩, hS.F ht⟩) hS.2.2 dX7_init_19

