set_option maxHeartbeats 4000000 in
set_option maxRecDepth 100000 in
/-- Connection() -/
theorem c_Co_init (l : Launch) (dC : Nat → ClassId) (dI : Nat → Nat → Nat) (sz : Nat) (h0 : Nat) : Met l yX3_init wX3_init ({ frames := 2, cells := 8, slots := 300, locals := 33 }) (va_Pc [.ref h0] (pW (dC, dI) [(h0, .inr (1, [.int 0, .null, .null, .null, .int 0, .int 0, .int 0, .int 0, .null, .int 0, .null, .int 0]))] [] sz)) (va_Qv (fun ((q1, q2, q3, q4, q5, q6, q7, q8, k) : Nat × Nat × Nat × Nat × Nat × Nat × Nat × Nat × ClassId) => True) (fun ((q1, q2, q3, q4, q5, q6, q7, q8, k) : Nat × Nat × Nat × Nat × Nat × Nat × Nat × Nat × ClassId) (t : State) => bW (dC, dI) [(h0, .inr (1, [.int 1, .ref q1, .ref q2, .ref q3, .int 0, .int 0, .int 0, .int 0, .ref q4, .int 0, .ref q5, .int 0])), (q1, .inr (0, [.int 131076, .ref q6, .int 0, .int 0])), (q6, .inl (k, 64, .inl (fun _ => 0))), (q2, .inr (0, [.int 65536, .ref q7, .int 0, .int 0])), (q3, .inr (0, [.int 67108864, .ref q8, .int 0, .int 0]))] [(k, .byte)] (va_A [(h0, .inr (1, [.int 0, .null, .null, .null, .int 0, .int 0, .int 0, .int 0, .null, .int 0, .null, .int 0]))] sz) t) (va_A [(h0, .inr (1, [.int 0, .null, .null, .null, .int 0, .int 0, .int 0, .int 0, .null, .int 0, .null, .int 0]))] sz)) 8 300 (va_A [(h0, .inr (1, [.int 0, .null, .null, .null, .int 0, .int 0, .int 0, .int 0, .null, .int 0, .null, .int 0]))] sz) := by
  refine Met.ofW (cc := cX3_init) (maxL := 1) (ret := none) (by decide) rfl ?_
  intro p e s m args below meth c s₁ B hml hv
  obtain ⟨rfl, hsz, hP, hK, hD0, hfx⟩ := hv
  have hx := B.exec
  have hb := B.bytes
  have hr := B.returns
  have hts := atoms_spec (ws := wX3_init) B.pre
  have hkw : ∀ w ∈ kw, w.before _ s = true := fun w h => hts w (List.mem_cons_of_mem _ h)
  have hown : s.vm.findClass RX3 = some m.cls := findClass_of_methodNamed B.named
  have hlocks := B.notSynchronized
  have hin : meth.name = "<init>" := (name_of_methodNamed B.named B.method).1
  subst hsz
  have hD := hD0.self (sz := s.heap.size)
  generalize hAe : va_A [(h0, .inr (1, [.int 0, .null, .null, .null, .int 0, .int 0, .int 0, .int 0, .null, .int 0, .null, .int 0]))] s.heap.size = A at hD ⊢
  have hA : ∀ q : Nat, s.heap.size ≤ q → A q := fun q h => by rw [← hAe]; exact Or.inr h
  have hS : va_S A s.heap s.heap [] := va_S.rf
  have hP : va_P (dC, dI) classes [(h0, .inr (1, [.int 0, .null, .null, .null, .int 0, .int 0, .int 0, .int 0, .null, .int 0, .null, .int 0]))] s.heap := hP
  have hl := lv_entry ([.ref h0]) (n := 1) (Nat.le_of_ble_eq_true rfl)
  rw [lg_entry_eq]
  generalize (lg_sl ([.ref h0]) ++ List.replicate (1 - (lg_sl ([.ref h0])).length) Slot.unset).toArray = ls at hl ⊢
  have hl : lv_has ls 1 [(0, .ref h0)] := hl
  refine lv_aload_n hx hb dX3_init_0 rfl (lv_at hl 0 rfl) ?_
  refine W.objInit hx hb hown (hkw _ m_17) (hkw _ m_1) (hkw _ m_2) rfl (by rw [hml]; exact hl.1) rfl dX3_init_1 (Nat.le_of_ble_eq_true rfl) (Nat.le_of_ble_eq_true rfl) ?_
  refine W.eq (g2 := F0 m 4 ls []) rfl ?_
  refine lv_aload_n hx hb dX3_init_4 rfl (lv_at hl 0 rfl) ?_
  refine lv_iconst (v := 1) hx hb dX3_init_5 (by decide) ?_
  refine va_put (D := (dC, dI)) (ci := 1) (v := .int 1) (ty := .boolean) (C := RX3) (T := TX3) (N := 12) hx hb hkw kin_X3 tyX3 tyX3_ok nmX3 hown hK hP hD hS 0 rfl rfl 0 (by decide) (hkw _ m_18) (fun _ h9 => h9) rfl (by decide +kernel) rfl rfl (Nat.le_of_ble_eq_true rfl) dX3_init_6 (fun H locs hP hD hS => ?_)
  have hP : va_P (dC, dI) classes [(h0, .inr (1, [.int 1, .null, .null, .null, .int 0, .int 0, .int 0, .int 0, .null, .int 0, .null, .int 0]))] H := hP
  have hD : va_D A [(h0, .inr (1, [.int 1, .null, .null, .null, .int 0, .int 0, .int 0, .int 0, .null, .int 0, .null, .int 0]))] := hD
  refine lv_aload_n hx hb dX3_init_9 rfl (lv_at hl 0 rfl) ?_
  refine va_new (ci := 0) (fs := [.int 0, .null, .int 0, .int 0]) (C := RX1) (T := TX1) (N := 4) hx hb hkw kin_X1 tyX1 tyX1_ok hown (hkw _ m_19) (hkw _ m_20) (hkw _ m_9) hK hP hD hS hA rfl (df_X1) (Nat.le_of_ble_eq_true rfl) (Nat.le_of_ble_eq_true rfl) dX3_init_10 (fun q1 H hP hD hS => ?_)
  have hP : va_P (dC, dI) classes [(h0, .inr (1, [.int 1, .null, .null, .null, .int 0, .int 0, .int 0, .int 0, .null, .int 0, .null, .int 0])), (q1, .inr (0, [.int 0, .null, .int 0, .int 0]))] H := hP
  have hD : va_D A [(h0, .inr (1, [.int 1, .null, .null, .null, .int 0, .int 0, .int 0, .int 0, .null, .int 0, .null, .int 0])), (q1, .inr (0, [.int 0, .null, .int 0, .int 0]))] := hD
  refine W.widen (k := 1) (n := 4) (by decide) (by decide) ?_
  refine lv_dup hx hb dX3_init_13 rfl ?_
  refine lv_ldc (v := 131076) hx hb hown (hkw _ m_21) dX3_init_14 ?_
  have hPc := hP.sub (ws' := [(q1, .inr (0, [.int 0, .null, .int 0, .int 0]))]) [1] rfl
  have hDc := hD.sub (ws' := [(q1, .inr (0, [.int 0, .null, .int 0, .int 0]))]) [1] (by decide) rfl
  have hKc := hK.sub (tys' := []) [] rfl
  have hFc := va_free (wc := [(q1, .inr (0, [.int 0, .null, .int 0, .int 0]))]) hD hS hA [1] rfl
  refine va_callv (va_runI (As := [.int 131076]) (rest := [.ref q1, .ref h0]) ⟨hx, hb, hml, hown, hkw⟩ (c_By_init l dC dI H.size q1 131076) (cwI 1 hkw (kwI m_22) rfl rfl rfl (hkw _ m_9) (hkw _ m_23) (hkw _ m_24) rfl (by decide +kernel) ⟨Nat.le_of_ble_eq_true rfl, Nat.le_of_ble_eq_true rfl⟩) ⟨fbW, pW_in hPc hKc hDc hfx⟩ rfl rfl hl.1 rfl (lv_room (Nat.le_of_ble_eq_true rfl)) dX3_init_16 ⟨Nat.le_of_ble_eq_true rfl, Nat.le_of_ble_eq_true rfl⟩) hS (fun q _ h => hFc q h) hFc (fun u t H1 locs ht hvm hw hB hz1 hk1 hS => ?_)
  obtain ⟨q2, k3⟩ := u
  obtain ⟨hP1, hK1, hD1⟩ := hB
  rw [ht] at hP1
  have hK1 := va_K.moved hvm.symm hK1
  obtain ⟨hP, hD⟩ := va_join (wr := [(h0, .inr (1, [.int 1, .null, .null, .null, .int 0, .int 0, .int 0, .int 0, .null, .int 0, .null, .int 0]))]) (w1 := [(q1, .inr (0, [.int 131076, .ref q2, .int 0, .int 0])), (q2, .inl (k3, 64, .inl (fun _ => 0)))]) hP hD [1] [0] rfl rfl (by decide) (by decide) hk1 hFc hP1 hD1
  have hK := (hK.sub (tys' := []) [] rfl).app hK1
  generalize H1 = H at hP hS ⊢
  have hP : va_P (dC, dI) classes [(h0, .inr (1, [.int 1, .null, .null, .null, .int 0, .int 0, .int 0, .int 0, .null, .int 0, .null, .int 0])), (q1, .inr (0, [.int 131076, .ref q2, .int 0, .int 0])), (q2, .inl (k3, 64, .inl (fun _ => 0)))] H := hP
  have hD : va_D A [(h0, .inr (1, [.int 1, .null, .null, .null, .int 0, .int 0, .int 0, .int 0, .null, .int 0, .null, .int 0])), (q1, .inr (0, [.int 131076, .ref q2, .int 0, .int 0])), (q2, .inl (k3, 64, .inl (fun _ => 0)))] := hD
  have hK : va_K (dC, dI) classes [(k3, .byte)] s := hK
  refine W.widen (k := 2) (n := 68) (Nat.le_of_ble_eq_true rfl) (Nat.le_of_ble_eq_true rfl) ?_
  have hw4 := hw
  try dsimp only at hw4
  refine va_putF (D := (dC, dI)) (ci := 1) (v := .ref q1) (ty := .object "KeySteward$Bytes") (C := RX3) (T := TX3) (N := 12) hx hb hkw kin_X3 tyX3 tyX3_ok nmX3 hown hK hP hD hS 0 rfl rfl 1 (by decide) (hkw _ m_25) (fun _ h9 => h9) rfl hin rfl (by decide +kernel) rfl rfl (Nat.le_of_ble_eq_true rfl) dX3_init_19 (fun H locs hP hD hS => ?_)
  have hP : va_P (dC, dI) classes [(h0, .inr (1, [.int 1, .ref q1, .null, .null, .int 0, .int 0, .int 0, .int 0, .null, .int 0, .null, .int 0])), (q1, .inr (0, [.int 131076, .ref q2, .int 0, .int 0])), (q2, .inl (k3, 64, .inl (fun _ => 0)))] H := hP
  have hD : va_D A [(h0, .inr (1, [.int 1, .ref q1, .null, .null, .int 0, .int 0, .int 0, .int 0, .null, .int 0, .null, .int 0])), (q1, .inr (0, [.int 131076, .ref q2, .int 0, .int 0])), (q2, .inl (k3, 64, .inl (fun _ => 0)))] := hD
  refine lv_aload_n hx hb dX3_init_22 rfl (lv_at hl 0 rfl) ?_
  refine va_new (ci := 0) (fs := [.int 0, .null, .int 0, .int 0]) (C := RX1) (T := TX1) (N := 4) hx hb hkw kin_X1 tyX1 tyX1_ok hown (hkw _ m_19) (hkw _ m_20) (hkw _ m_9) hK hP hD hS hA rfl (df_X1) (Nat.le_of_ble_eq_true rfl) (Nat.le_of_ble_eq_true rfl) dX3_init_23 (fun q5 H hP hD hS => ?_)
  have hP : va_P (dC, dI) classes [(h0, .inr (1, [.int 1, .ref q1, .null, .null, .int 0, .int 0, .int 0, .int 0, .null, .int 0, .null, .int 0])), (q1, .inr (0, [.int 131076, .ref q2, .int 0, .int 0])), (q2, .inl (k3, 64, .inl (fun _ => 0))), (q5, .inr (0, [.int 0, .null, .int 0, .int 0]))] H := hP
  have hD : va_D A [(h0, .inr (1, [.int 1, .ref q1, .null, .null, .int 0, .int 0, .int 0, .int 0, .null, .int 0, .null, .int 0])), (q1, .inr (0, [.int 131076, .ref q2, .int 0, .int 0])), (q2, .inl (k3, 64, .inl (fun _ => 0))), (q5, .inr (0, [.int 0, .null, .int 0, .int 0]))] := hD
  refine W.widen (k := 3) (n := 72) (by decide) (by decide) ?_
  refine lv_dup hx hb dX3_init_26 rfl ?_
  refine lv_ldc (v := 65536) hx hb hown (hkw _ m_26) dX3_init_27 ?_
  have hPc := hP.sub (ws' := [(q5, .inr (0, [.int 0, .null, .int 0, .int 0]))]) [3] rfl
  have hDc := hD.sub (ws' := [(q5, .inr (0, [.int 0, .null, .int 0, .int 0]))]) [3] (by decide) rfl
  have hKc := hK.sub (tys' := []) [] rfl
  have hFc := va_free (wc := [(q5, .inr (0, [.int 0, .null, .int 0, .int 0]))]) hD hS hA [3] rfl
  refine va_callv (va_runI (As := [.int 65536]) (rest := [.ref q5, .ref h0]) ⟨hx, hb, hml, hown, hkw⟩ (c_By_init l dC dI H.size q5 65536) (cwI 1 hkw (kwI m_22) rfl rfl rfl (hkw _ m_9) (hkw _ m_23) (hkw _ m_24) rfl (by decide +kernel) ⟨Nat.le_of_ble_eq_true rfl, Nat.le_of_ble_eq_true rfl⟩) ⟨fbW, pW_in hPc hKc hDc hfx⟩ rfl rfl hl.1 rfl (lv_room (Nat.le_of_ble_eq_true rfl)) dX3_init_29 ⟨Nat.le_of_ble_eq_true rfl, Nat.le_of_ble_eq_true rfl⟩) hS (fun q _ h => hFc q h) hFc (fun u t H1 locs ht hvm hw hB hz1 hk1 hS => ?_)
  obtain ⟨q6, k7⟩ := u
  obtain ⟨hP1, hK1, hD1⟩ := hB
  rw [ht] at hP1
  have hK1 := va_K.moved hvm.symm hK1
  obtain ⟨hP, hD⟩ := va_join (wr := [(h0, .inr (1, [.int 1, .ref q1, .null, .null, .int 0, .int 0, .int 0, .int 0, .null, .int 0, .null, .int 0])), (q1, .inr (0, [.int 131076, .ref q2, .int 0, .int 0])), (q2, .inl (k3, 64, .inl (fun _ => 0)))]) (w1 := [(q5, .inr (0, [.int 65536, .ref q6, .int 0, .int 0])), (q6, .inl (k7, 64, .inl (fun _ => 0)))]) hP hD [3] [0, 1, 2] rfl rfl (by decide) (by decide) hk1 hFc hP1 hD1
  have hK := (hK.sub (tys' := [(k3, .byte)]) [0] rfl).app hK1
  generalize H1 = H at hP hS ⊢
  have hP : va_P (dC, dI) classes [(h0, .inr (1, [.int 1, .ref q1, .null, .null, .int 0, .int 0, .int 0, .int 0, .null, .int 0, .null, .int 0])), (q1, .inr (0, [.int 131076, .ref q2, .int 0, .int 0])), (q2, .inl (k3, 64, .inl (fun _ => 0))), (q5, .inr (0, [.int 65536, .ref q6, .int 0, .int 0])), (q6, .inl (k7, 64, .inl (fun _ => 0)))] H := hP
  have hD : va_D A [(h0, .inr (1, [.int 1, .ref q1, .null, .null, .int 0, .int 0, .int 0, .int 0, .null, .int 0, .null, .int 0])), (q1, .inr (0, [.int 131076, .ref q2, .int 0, .int 0])), (q2, .inl (k3, 64, .inl (fun _ => 0))), (q5, .inr (0, [.int 65536, .ref q6, .int 0, .int 0])), (q6, .inl (k7, 64, .inl (fun _ => 0)))] := hD
  have hK : va_K (dC, dI) classes [(k3, .byte), (k7, .byte)] s := hK
  refine W.widen (k := 4) (n := 136) (Nat.le_of_ble_eq_true rfl) (Nat.le_of_ble_eq_true rfl) ?_
  have hw8 := hw
  try dsimp only at hw8
  refine va_putF (D := (dC, dI)) (ci := 1) (v := .ref q5) (ty := .object "KeySteward$Bytes") (C := RX3) (T := TX3) (N := 12) hx hb hkw kin_X3 tyX3 tyX3_ok nmX3 hown hK hP hD hS 0 rfl rfl 2 (by decide) (hkw _ m_27) (fun _ h9 => h9) rfl hin rfl (by decide +kernel) rfl rfl (Nat.le_of_ble_eq_true rfl) dX3_init_32 (fun H locs hP hD hS => ?_)
  have hP : va_P (dC, dI) classes [(h0, .inr (1, [.int 1, .ref q1, .ref q5, .null, .int 0, .int 0, .int 0, .int 0, .null, .int 0, .null, .int 0])), (q1, .inr (0, [.int 131076, .ref q2, .int 0, .int 0])), (q2, .inl (k3, 64, .inl (fun _ => 0))), (q5, .inr (0, [.int 65536, .ref q6, .int 0, .int 0])), (q6, .inl (k7, 64, .inl (fun _ => 0)))] H := hP
  have hD : va_D A [(h0, .inr (1, [.int 1, .ref q1, .ref q5, .null, .int 0, .int 0, .int 0, .int 0, .null, .int 0, .null, .int 0])), (q1, .inr (0, [.int 131076, .ref q2, .int 0, .int 0])), (q2, .inl (k3, 64, .inl (fun _ => 0))), (q5, .inr (0, [.int 65536, .ref q6, .int 0, .int 0])), (q6, .inl (k7, 64, .inl (fun _ => 0)))] := hD
  refine lv_aload_n hx hb dX3_init_35 rfl (lv_at hl 0 rfl) ?_
  refine va_new (ci := 0) (fs := [.int 0, .null, .int 0, .int 0]) (C := RX1) (T := TX1) (N := 4) hx hb hkw kin_X1 tyX1 tyX1_ok hown (hkw _ m_19) (hkw _ m_20) (hkw _ m_9) hK hP hD hS hA rfl (df_X1) (Nat.le_of_ble_eq_true rfl) (Nat.le_of_ble_eq_true rfl) dX3_init_36 (fun q9 H hP hD hS => ?_)
  have hP : va_P (dC, dI) classes [(h0, .inr (1, [.int 1, .ref q1, .ref q5, .null, .int 0, .int 0, .int 0, .int 0, .null, .int 0, .null, .int 0])), (q1, .inr (0, [.int 131076, .ref q2, .int 0, .int 0])), (q2, .inl (k3, 64, .inl (fun _ => 0))), (q5, .inr (0, [.int 65536, .ref q6, .int 0, .int 0])), (q6, .inl (k7, 64, .inl (fun _ => 0))), (q9, .inr (0, [.int 0, .null, .int 0, .int 0]))] H := hP
  have hD : va_D A [(h0, .inr (1, [.int 1, .ref q1, .ref q5, .null, .int 0, .int 0, .int 0, .int 0, .null, .int 0, .null, .int 0])), (q1, .inr (0, [.int 131076, .ref q2, .int 0, .int 0])), (q2, .inl (k3, 64, .inl (fun _ => 0))), (q5, .inr (0, [.int 65536, .ref q6, .int 0, .int 0])), (q6, .inl (k7, 64, .inl (fun _ => 0))), (q9, .inr (0, [.int 0, .null, .int 0, .int 0]))] := hD
  refine W.widen (k := 5) (n := 140) (by decide) (by decide) ?_
  refine lv_dup hx hb dX3_init_39 rfl ?_
  refine lv_ldc (v := 67108864) hx hb hown (hkw _ m_28) dX3_init_40 ?_
  have hPc := hP.sub (ws' := [(q9, .inr (0, [.int 0, .null, .int 0, .int 0]))]) [5] rfl
  have hDc := hD.sub (ws' := [(q9, .inr (0, [.int 0, .null, .int 0, .int 0]))]) [5] (by decide) rfl
  have hKc := hK.sub (tys' := []) [] rfl
  have hFc := va_free (wc := [(q9, .inr (0, [.int 0, .null, .int 0, .int 0]))]) hD hS hA [5] rfl
  refine va_callv (va_runI (As := [.int 67108864]) (rest := [.ref q9, .ref h0]) ⟨hx, hb, hml, hown, hkw⟩ (c_By_init l dC dI H.size q9 67108864) (cwI 1 hkw (kwI m_22) rfl rfl rfl (hkw _ m_9) (hkw _ m_23) (hkw _ m_24) rfl (by decide +kernel) ⟨Nat.le_of_ble_eq_true rfl, Nat.le_of_ble_eq_true rfl⟩) ⟨fbW, pW_in hPc hKc hDc hfx⟩ rfl rfl hl.1 rfl (lv_room (Nat.le_of_ble_eq_true rfl)) dX3_init_42 ⟨Nat.le_of_ble_eq_true rfl, Nat.le_of_ble_eq_true rfl⟩) hS (fun q _ h => hFc q h) hFc (fun u t H1 locs ht hvm hw hB hz1 hk1 hS => ?_)
  obtain ⟨q10, k11⟩ := u
  obtain ⟨hP1, hK1, hD1⟩ := hB
  rw [ht] at hP1
  have hK1 := va_K.moved hvm.symm hK1
  obtain ⟨hP, hD⟩ := va_join (wr := [(h0, .inr (1, [.int 1, .ref q1, .ref q5, .null, .int 0, .int 0, .int 0, .int 0, .null, .int 0, .null, .int 0])), (q1, .inr (0, [.int 131076, .ref q2, .int 0, .int 0])), (q2, .inl (k3, 64, .inl (fun _ => 0))), (q5, .inr (0, [.int 65536, .ref q6, .int 0, .int 0])), (q6, .inl (k7, 64, .inl (fun _ => 0)))]) (w1 := [(q9, .inr (0, [.int 67108864, .ref q10, .int 0, .int 0])), (q10, .inl (k11, 64, .inl (fun _ => 0)))]) hP hD [5] [0, 1, 2, 3, 4] rfl rfl (by decide) (by decide) hk1 hFc hP1 hD1
  have hK := (hK.sub (tys' := [(k3, .byte), (k7, .byte)]) [0, 1] rfl).app hK1
  generalize H1 = H at hP hS ⊢
  have hP : va_P (dC, dI) classes [(h0, .inr (1, [.int 1, .ref q1, .ref q5, .null, .int 0, .int 0, .int 0, .int 0, .null, .int 0, .null, .int 0])), (q1, .inr (0, [.int 131076, .ref q2, .int 0, .int 0])), (q2, .inl (k3, 64, .inl (fun _ => 0))), (q5, .inr (0, [.int 65536, .ref q6, .int 0, .int 0])), (q6, .inl (k7, 64, .inl (fun _ => 0))), (q9, .inr (0, [.int 67108864, .ref q10, .int 0, .int 0])), (q10, .inl (k11, 64, .inl (fun _ => 0)))] H := hP
  have hD : va_D A [(h0, .inr (1, [.int 1, .ref q1, .ref q5, .null, .int 0, .int 0, .int 0, .int 0, .null, .int 0, .null, .int 0])), (q1, .inr (0, [.int 131076, .ref q2, .int 0, .int 0])), (q2, .inl (k3, 64, .inl (fun _ => 0))), (q5, .inr (0, [.int 65536, .ref q6, .int 0, .int 0])), (q6, .inl (k7, 64, .inl (fun _ => 0))), (q9, .inr (0, [.int 67108864, .ref q10, .int 0, .int 0])), (q10, .inl (k11, 64, .inl (fun _ => 0)))] := hD
  have hK : va_K (dC, dI) classes [(k3, .byte), (k7, .byte), (k11, .byte)] s := hK
  refine W.widen (k := 6) (n := 204) (Nat.le_of_ble_eq_true rfl) (Nat.le_of_ble_eq_true rfl) ?_
  have hw12 := hw
  try dsimp only at hw12
  refine va_put (D := (dC, dI)) (ci := 1) (v := .ref q9) (ty := .object "KeySteward$Bytes") (C := RX3) (T := TX3) (N := 12) hx hb hkw kin_X3 tyX3 tyX3_ok nmX3 hown hK hP hD hS 0 rfl rfl 3 (by decide) (hkw _ m_29) (fun _ h9 => h9) rfl (by decide +kernel) rfl rfl (Nat.le_of_ble_eq_true rfl) dX3_init_45 (fun H locs hP hD hS => ?_)
  have hP : va_P (dC, dI) classes [(h0, .inr (1, [.int 1, .ref q1, .ref q5, .ref q9, .int 0, .int 0, .int 0, .int 0, .null, .int 0, .null, .int 0])), (q1, .inr (0, [.int 131076, .ref q2, .int 0, .int 0])), (q2, .inl (k3, 64, .inl (fun _ => 0))), (q5, .inr (0, [.int 65536, .ref q6, .int 0, .int 0])), (q6, .inl (k7, 64, .inl (fun _ => 0))), (q9, .inr (0, [.int 67108864, .ref q10, .int 0, .int 0])), (q10, .inl (k11, 64, .inl (fun _ => 0)))] H := hP
  have hD : va_D A [(h0, .inr (1, [.int 1, .ref q1, .ref q5, .ref q9, .int 0, .int 0, .int 0, .int 0, .null, .int 0, .null, .int 0])), (q1, .inr (0, [.int 131076, .ref q2, .int 0, .int 0])), (q2, .inl (k3, 64, .inl (fun _ => 0))), (q5, .inr (0, [.int 65536, .ref q6, .int 0, .int 0])), (q6, .inl (k7, 64, .inl (fun _ => 0))), (q9, .inr (0, [.int 67108864, .ref q10, .int 0, .int 0])), (q10, .inl (k11, 64, .inl (fun _ => 0)))] := hD
  refine lv_aload_n hx hb dX3_init_48 rfl (lv_at hl 0 rfl) ?_
  refine lv_bipush (v := 64) hx hb dX3_init_49 (by decide) ?_
  refine va_newa (atype := .int) (a0 := (64, .inl (fun _ => 0))) (N' := 64) (n := 64) (ty := .int) hx hb (hkw _ m_30) rfl hK hP hD hS hA (fun _ => rfl) (by decide) (by decide) (by decide) (Nat.le_of_ble_eq_true rfl) (Nat.le_of_ble_eq_true rfl) dX3_init_51 (fun q13 k14 H hK hP hD hS => ?_)
  have hP : va_P (dC, dI) classes [(h0, .inr (1, [.int 1, .ref q1, .ref q5, .ref q9, .int 0, .int 0, .int 0, .int 0, .null, .int 0, .null, .int 0])), (q1, .inr (0, [.int 131076, .ref q2, .int 0, .int 0])), (q2, .inl (k3, 64, .inl (fun _ => 0))), (q5, .inr (0, [.int 65536, .ref q6, .int 0, .int 0])), (q6, .inl (k7, 64, .inl (fun _ => 0))), (q9, .inr (0, [.int 67108864, .ref q10, .int 0, .int 0])), (q10, .inl (k11, 64, .inl (fun _ => 0))), (q13, .inl (k14, 64, .inl (fun _ => 0)))] H := hP
  have hD : va_D A [(h0, .inr (1, [.int 1, .ref q1, .ref q5, .ref q9, .int 0, .int 0, .int 0, .int 0, .null, .int 0, .null, .int 0])), (q1, .inr (0, [.int 131076, .ref q2, .int 0, .int 0])), (q2, .inl (k3, 64, .inl (fun _ => 0))), (q5, .inr (0, [.int 65536, .ref q6, .int 0, .int 0])), (q6, .inl (k7, 64, .inl (fun _ => 0))), (q9, .inr (0, [.int 67108864, .ref q10, .int 0, .int 0])), (q10, .inl (k11, 64, .inl (fun _ => 0))), (q13, .inl (k14, 64, .inl (fun _ => 0)))] := hD
  have hK : va_K (dC, dI) classes [(k3, .byte), (k7, .byte), (k11, .byte), (k14, .int)] s := hK
  refine W.widen (k := 7) (n := 268) (by decide) (by decide) ?_
  refine va_putF (D := (dC, dI)) (ci := 1) (v := .ref q13) (ty := .array .int) (C := RX3) (T := TX3) (N := 12) hx hb hkw kin_X3 tyX3 tyX3_ok nmX3 hown hK hP hD hS 0 rfl rfl 8 (by decide) (hkw _ m_31) (fun _ h9 => h9) rfl hin rfl (by decide +kernel) rfl rfl (Nat.le_of_ble_eq_true rfl) dX3_init_53 (fun H locs hP hD hS => ?_)
  have hP : va_P (dC, dI) classes [(h0, .inr (1, [.int 1, .ref q1, .ref q5, .ref q9, .int 0, .int 0, .int 0, .int 0, .ref q13, .int 0, .null, .int 0])), (q1, .inr (0, [.int 131076, .ref q2, .int 0, .int 0])), (q2, .inl (k3, 64, .inl (fun _ => 0))), (q5, .inr (0, [.int 65536, .ref q6, .int 0, .int 0])), (q6, .inl (k7, 64, .inl (fun _ => 0))), (q9, .inr (0, [.int 67108864, .ref q10, .int 0, .int 0])), (q10, .inl (k11, 64, .inl (fun _ => 0))), (q13, .inl (k14, 64, .inl (fun _ => 0)))] H := hP
  have hD : va_D A [(h0, .inr (1, [.int 1, .ref q1, .ref q5, .ref q9, .int 0, .int 0, .int 0, .int 0, .ref q13, .int 0, .null, .int 0])), (q1, .inr (0, [.int 131076, .ref q2, .int 0, .int 0])), (q2, .inl (k3, 64, .inl (fun _ => 0))), (q5, .inr (0, [.int 65536, .ref q6, .int 0, .int 0])), (q6, .inl (k7, 64, .inl (fun _ => 0))), (q9, .inr (0, [.int 67108864, .ref q10, .int 0, .int 0])), (q10, .inl (k11, 64, .inl (fun _ => 0))), (q13, .inl (k14, 64, .inl (fun _ => 0)))] := hD
  refine lv_aload_n hx hb dX3_init_56 rfl (lv_at hl 0 rfl) ?_
  refine lv_bipush (v := 32) hx hb dX3_init_57 (by decide) ?_
  refine va_newa (atype := .int) (a0 := (32, .inl (fun _ => 0))) (N' := 32) (n := 32) (ty := .int) hx hb (hkw _ m_30) rfl hK hP hD hS hA (fun _ => rfl) (by decide) (by decide) (by decide) (Nat.le_of_ble_eq_true rfl) (Nat.le_of_ble_eq_true rfl) dX3_init_59 (fun q15 k16 H hK hP hD hS => ?_)
  have hP : va_P (dC, dI) classes [(h0, .inr (1, [.int 1, .ref q1, .ref q5, .ref q9, .int 0, .int 0, .int 0, .int 0, .ref q13, .int 0, .null, .int 0])), (q1, .inr (0, [.int 131076, .ref q2, .int 0, .int 0])), (q2, .inl (k3, 64, .inl (fun _ => 0))), (q5, .inr (0, [.int 65536, .ref q6, .int 0, .int 0])), (q6, .inl (k7, 64, .inl (fun _ => 0))), (q9, .inr (0, [.int 67108864, .ref q10, .int 0, .int 0])), (q10, .inl (k11, 64, .inl (fun _ => 0))), (q13, .inl (k14, 64, .inl (fun _ => 0))), (q15, .inl (k16, 32, .inl (fun _ => 0)))] H := hP
  have hD : va_D A [(h0, .inr (1, [.int 1, .ref q1, .ref q5, .ref q9, .int 0, .int 0, .int 0, .int 0, .ref q13, .int 0, .null, .int 0])), (q1, .inr (0, [.int 131076, .ref q2, .int 0, .int 0])), (q2, .inl (k3, 64, .inl (fun _ => 0))), (q5, .inr (0, [.int 65536, .ref q6, .int 0, .int 0])), (q6, .inl (k7, 64, .inl (fun _ => 0))), (q9, .inr (0, [.int 67108864, .ref q10, .int 0, .int 0])), (q10, .inl (k11, 64, .inl (fun _ => 0))), (q13, .inl (k14, 64, .inl (fun _ => 0))), (q15, .inl (k16, 32, .inl (fun _ => 0)))] := hD
  have hK : va_K (dC, dI) classes [(k3, .byte), (k7, .byte), (k11, .byte), (k14, .int), (k16, .int)] s := hK
  refine W.widen (k := 8) (n := 300) (by decide) (by decide) ?_
  refine va_putF (D := (dC, dI)) (ci := 1) (v := .ref q15) (ty := .array .int) (C := RX3) (T := TX3) (N := 12) hx hb hkw kin_X3 tyX3 tyX3_ok nmX3 hown hK hP hD hS 0 rfl rfl 10 (by decide) (hkw _ m_32) (fun _ h9 => h9) rfl hin rfl (by decide +kernel) rfl rfl (Nat.le_of_ble_eq_true rfl) dX3_init_61 (fun H locs hP hD hS => ?_)
  have hP : va_P (dC, dI) classes [(h0, .inr (1, [.int 1, .ref q1, .ref q5, .ref q9, .int 0, .int 0, .int 0, .int 0, .ref q13, .int 0, .ref q15, .int 0])), (q1, .inr (0, [.int 131076, .ref q2, .int 0, .int 0])), (q2, .inl (k3, 64, .inl (fun _ => 0))), (q5, .inr (0, [.int 65536, .ref q6, .int 0, .int 0])), (q6, .inl (k7, 64, .inl (fun _ => 0))), (q9, .inr (0, [.int 67108864, .ref q10, .int 0, .int 0])), (q10, .inl (k11, 64, .inl (fun _ => 0))), (q13, .inl (k14, 64, .inl (fun _ => 0))), (q15, .inl (k16, 32, .inl (fun _ => 0)))] H := hP
  have hD : va_D A [(h0, .inr (1, [.int 1, .ref q1, .ref q5, .ref q9, .int 0, .int 0, .int 0, .int 0, .ref q13, .int 0, .ref q15, .int 0])), (q1, .inr (0, [.int 131076, .ref q2, .int 0, .int 0])), (q2, .inl (k3, 64, .inl (fun _ => 0))), (q5, .inr (0, [.int 65536, .ref q6, .int 0, .int 0])), (q6, .inl (k7, 64, .inl (fun _ => 0))), (q9, .inr (0, [.int 67108864, .ref q10, .int 0, .int 0])), (q10, .inl (k11, 64, .inl (fun _ => 0))), (q13, .inl (k14, 64, .inl (fun _ => 0))), (q15, .inl (k16, 32, .inl (fun _ => 0)))] := hD
  have hP9 := hP.sub (ws' := [(h0, .inr (1, [.int 1, .ref q1, .ref q5, .ref q9, .int 0, .int 0, .int 0, .int 0, .ref q13, .int 0, .ref q15, .int 0])), (q1, .inr (0, [.int 131076, .ref q2, .int 0, .int 0])), (q2, .inl (k3, 64, .inl (fun _ => 0))), (q5, .inr (0, [.int 65536, .ref q6, .int 0, .int 0])), (q9, .inr (0, [.int 67108864, .ref q10, .int 0, .int 0]))]) [0, 1, 2, 3, 5] rfl
  have hD9 := hD.sub (ws' := [(h0, .inr (1, [.int 1, .ref q1, .ref q5, .ref q9, .int 0, .int 0, .int 0, .int 0, .ref q13, .int 0, .ref q15, .int 0])), (q1, .inr (0, [.int 131076, .ref q2, .int 0, .int 0])), (q2, .inl (k3, 64, .inl (fun _ => 0))), (q5, .inr (0, [.int 65536, .ref q6, .int 0, .int 0])), (q9, .inr (0, [.int 67108864, .ref q10, .int 0, .int 0]))]) [0, 1, 2, 3, 5] (by decide) rfl
  have hK9 := hK.sub (tys' := [(k3, .byte)]) [0] rfl
  refine W.widen (k := 8) (n := 300) (Nat.le_of_ble_eq_true rfl) (Nat.le_of_ble_eq_true rfl) ?_
  exact W.vret hx hb hr (fun t ht hW => ⟨⟨(q1, q5, q9, q13, q15, q2, q6, q10, k3), rfl, trivial, by rw [ht]; exact hP9, va_K.moved hW.alike hK9, hD9⟩, hS.F ht⟩) hS.2.2 dX3_init_64

set_option maxHeartbeats 4000000 in
set_option maxRecDepth 100000 in
/-- unwatch() -/
theorem c_Co_unwatch (l : Launch) (dC : Nat → ClassId) (dI : Nat → Nat → Nat) (sz : Nat) (h0 : Nat) (h1 : Nat) (h2 : Nat) (h3 : Nat) (h4 : Nat) (h5 : Nat) (lv : Int32) (v1 : Int32) (v2 : Int32) (v3 : Int32) (v4 : Int32) (v5 : Int32) (v6 : Int32) : Met l yX3_unwatch wX3_unwatch ({ frames := 0, cells := 0, slots := 0, locals := 0 }) (va_Pc [.ref h0] (pW (dC, dI) [(h0, .inr (1, [.int lv, .ref h1, .ref h2, .ref h3, .int v1, .int v2, .int v3, .int v4, .ref h4, .int v5, .ref h5, .int v6]))] [] sz)) (va_Qv (fun (_u : Unit) => True) (fun (_u : Unit) (t : State) => bW (dC, dI) [(h0, .inr (1, [.int lv, .ref h1, .ref h2, .ref h3, .int v1, .int v2, .int 0, .int v4, .ref h4, .int 0, .ref h5, .int v6]))] [] (va_A [(h0, .inr (1, [.int lv, .ref h1, .ref h2, .ref h3, .int v1, .int v2, .int v3, .int v4, .ref h4, .int v5, .ref h5, .int v6]))] sz) t) (va_A [(h0, .inr (1, [.int lv, .ref h1, .ref h2, .ref h3, .int v1, .int v2, .int v3, .int v4, .ref h4, .int v5, .ref h5, .int v6]))] sz)) 0 0 (va_A [(h0, .inr (1, [.int lv, .ref h1, .ref h2, .ref h3, .int v1, .int v2, .int v3, .int v4, .ref h4, .int v5, .ref h5, .int v6]))] sz) := by
  refine Met.ofW (cc := cX3_unwatch) (maxL := 1) (ret := none) (by decide) rfl ?_
  intro p e s m args below meth c s₁ B hml hv
  obtain ⟨rfl, hsz, hP, hK, hD0, hfx⟩ := hv
  have hx := B.exec
  have hb := B.bytes
  have hr := B.returns
  have hts := atoms_spec (ws := wX3_unwatch) B.pre
  have hkw : ∀ w ∈ kw, w.before _ s = true := fun w h => hts w (List.mem_cons_of_mem _ h)
  have hown : s.vm.findClass RX3 = some m.cls := findClass_of_methodNamed B.named
  have hlocks := B.notSynchronized
  subst hsz
  have hD := hD0.self (sz := s.heap.size)
  generalize hAe : va_A [(h0, .inr (1, [.int lv, .ref h1, .ref h2, .ref h3, .int v1, .int v2, .int v3, .int v4, .ref h4, .int v5, .ref h5, .int v6]))] s.heap.size = A at hD ⊢
  have hA : ∀ q : Nat, s.heap.size ≤ q → A q := fun q h => by rw [← hAe]; exact Or.inr h
  have hS : va_S A s.heap s.heap [] := va_S.rf
  have hP : va_P (dC, dI) classes [(h0, .inr (1, [.int lv, .ref h1, .ref h2, .ref h3, .int v1, .int v2, .int v3, .int v4, .ref h4, .int v5, .ref h5, .int v6]))] s.heap := hP
  have hl := lv_entry ([.ref h0]) (n := 1) (Nat.le_of_ble_eq_true rfl)
  rw [lg_entry_eq]
  generalize (lg_sl ([.ref h0]) ++ List.replicate (1 - (lg_sl ([.ref h0])).length) Slot.unset).toArray = ls at hl ⊢
  have hl : lv_has ls 1 [(0, .ref h0)] := hl
  refine lv_aload_n hx hb dX3_unwatch_0 rfl (lv_at hl 0 rfl) ?_
  refine lv_iconst (v := 0) hx hb dX3_unwatch_1 (by decide) ?_
  refine va_put (D := (dC, dI)) (ci := 1) (v := .int 0) (ty := .int) (C := RX3) (T := TX3) (N := 12) hx hb hkw kin_X3 tyX3 tyX3_ok nmX3 hown hK hP hD hS 0 rfl rfl 9 (by decide) (hkw _ m_33) (fun _ h9 => h9) rfl (by decide +kernel) rfl rfl (Nat.le_of_ble_eq_true rfl) dX3_unwatch_2 (fun H locs hP hD hS => ?_)
  have hP : va_P (dC, dI) classes [(h0, .inr (1, [.int lv, .ref h1, .ref h2, .ref h3, .int v1, .int v2, .int v3, .int v4, .ref h4, .int 0, .ref h5, .int v6]))] H := hP
  have hD : va_D A [(h0, .inr (1, [.int lv, .ref h1, .ref h2, .ref h3, .int v1, .int v2, .int v3, .int v4, .ref h4, .int 0, .ref h5, .int v6]))] := hD
  refine lv_aload_n hx hb dX3_unwatch_5 rfl (lv_at hl 0 rfl) ?_
  refine lv_iconst (v := 0) hx hb dX3_unwatch_6 (by decide) ?_
  refine va_put (D := (dC, dI)) (ci := 1) (v := .int 0) (ty := .boolean) (C := RX3) (T := TX3) (N := 12) hx hb hkw kin_X3 tyX3 tyX3_ok nmX3 hown hK hP hD hS 0 rfl rfl 6 (by decide) (hkw _ m_34) (fun _ h9 => h9) rfl (by decide +kernel) rfl rfl (Nat.le_of_ble_eq_true rfl) dX3_unwatch_7 (fun H locs hP hD hS => ?_)
  have hP : va_P (dC, dI) classes [(h0, .inr (1, [.int lv, .ref h1, .ref h2, .ref h3, .int v1, .int v2, .int 0, .int v4, .ref h4, .int 0, .ref h5, .int v6]))] H := hP
  have hD : va_D A [(h0, .inr (1, [.int lv, .ref h1, .ref h2, .ref h3, .int v1, .int v2, .int 0, .int v4, .ref h4, .int 0, .ref h5, .int v6]))] := hD
  have hP9 := hP.sub (ws' := [(h0, .inr (1, [.int lv, .ref h1, .ref h2, .ref h3, .int v1, .int v2, .int 0, .int v4, .ref h4, .int 0, .ref h5, .int v6]))]) [0] rfl
  have hD9 := hD.sub (ws' := [(h0, .inr (1, [.int lv, .ref h1, .ref h2, .ref h3, .int v1, .int v2, .int 0, .int v4, .ref h4, .int 0, .ref h5, .int v6]))]) [0] (by decide) rfl
  have hK9 := hK.sub (tys' := []) [] rfl
  refine W.widen (k := 0) (n := 0) (Nat.le_of_ble_eq_true rfl) (Nat.le_of_ble_eq_true rfl) ?_
  exact W.vret hx hb hr (fun t ht hW => ⟨⟨(), rfl, trivial, by rw [ht]; exact hP9, va_K.moved hW.alike hK9, hD9⟩, hS.F ht⟩) hS.2.2 dX3_unwatch_10

set_option maxHeartbeats 4000000 in
set_option maxRecDepth 100000 in
/-- endBlock() -/
theorem c_Co_endBlock (l : Launch) (dC : Nat → ClassId) (dI : Nat → Nat → Nat) (sz : Nat) (h0 : Nat) (h1 : Nat) (h2 : Nat) (h3 : Nat) (h4 : Nat) (h5 : Nat) (lv : Int32) (v1 : Int32) (v2 : Int32) (v3 : Int32) (v4 : Int32) (v5 : Int32) (v6 : Int32) (mc : Int32) (rc : Nat) (sc : Int32) (bc : Int32) : Met l yX3_endBlock wX3_endBlock ({ frames := 1, cells := 0, slots := 0, locals := 20 }) (va_Pc [.ref h0] (pW (dC, dI) [(h0, .inr (1, [.int lv, .ref h1, .ref h2, .ref h3, .int v1, .int v2, .int v3, .int v4, .ref h4, .int v5, .ref h5, .int v6])), (h3, .inr (0, [.int mc, .ref rc, .int sc, .int bc]))] [] sz)) (va_Qv (fun (_u : Unit) => True) (fun (_u : Unit) (t : State) => bW (dC, dI) [(h0, .inr (1, [.int lv, .ref h1, .ref h2, .ref h3, .int 0, .int 0, .int 0, .int 0, .ref h4, .int 0, .ref h5, .int v6])), (h3, .inr (0, [.int mc, .ref rc, .int 0, .int 0]))] [] (va_A [(h0, .inr (1, [.int lv, .ref h1, .ref h2, .ref h3, .int v1, .int v2, .int v3, .int v4, .ref h4, .int v5, .ref h5, .int v6])), (h3, .inr (0, [.int mc, .ref rc, .int sc, .int bc]))] sz) t) (va_A [(h0, .inr (1, [.int lv, .ref h1, .ref h2, .ref h3, .int v1, .int v2, .int v3, .int v4, .ref h4, .int v5, .ref h5, .int v6])), (h3, .inr (0, [.int mc, .ref rc, .int sc, .int bc]))] sz)) 0 0 (va_A [(h0, .inr (1, [.int lv, .ref h1, .ref h2, .ref h3, .int v1, .int v2, .int v3, .int v4, .ref h4, .int v5, .ref h5, .int v6])), (h3, .inr (0, [.int mc, .ref rc, .int sc, .int bc]))] sz) := by
  refine Met.ofW (cc := cX3_endBlock) (maxL := 1) (ret := none) (by decide) rfl ?_
  intro p e s m args below meth c s₁ B hml hv
  obtain ⟨rfl, hsz, hP, hK, hD0, hfx⟩ := hv
  have hx := B.exec
  have hb := B.bytes
  have hr := B.returns
  have hts := atoms_spec (ws := wX3_endBlock) B.pre
  have hkw : ∀ w ∈ kw, w.before _ s = true := fun w h => hts w (List.mem_cons_of_mem _ h)
  have hown : s.vm.findClass RX3 = some m.cls := findClass_of_methodNamed B.named
  have hlocks := B.notSynchronized
  subst hsz
  have hD := hD0.self (sz := s.heap.size)
  generalize hAe : va_A [(h0, .inr (1, [.int lv, .ref h1, .ref h2, .ref h3, .int v1, .int v2, .int v3, .int v4, .ref h4, .int v5, .ref h5, .int v6])), (h3, .inr (0, [.int mc, .ref rc, .int sc, .int bc]))] s.heap.size = A at hD ⊢
  have hA : ∀ q : Nat, s.heap.size ≤ q → A q := fun q h => by rw [← hAe]; exact Or.inr h
  have hS : va_S A s.heap s.heap [] := va_S.rf
  have hP : va_P (dC, dI) classes [(h0, .inr (1, [.int lv, .ref h1, .ref h2, .ref h3, .int v1, .int v2, .int v3, .int v4, .ref h4, .int v5, .ref h5, .int v6])), (h3, .inr (0, [.int mc, .ref rc, .int sc, .int bc]))] s.heap := hP
  have hl := lv_entry ([.ref h0]) (n := 1) (Nat.le_of_ble_eq_true rfl)
  rw [lg_entry_eq]
  generalize (lg_sl ([.ref h0]) ++ List.replicate (1 - (lg_sl ([.ref h0])).length) Slot.unset).toArray = ls at hl ⊢
  have hl : lv_has ls 1 [(0, .ref h0)] := hl
  refine lv_aload_n hx hb dX3_endBlock_0 rfl (lv_at hl 0 rfl) ?_
  refine lv_iconst (v := 0) hx hb dX3_endBlock_1 (by decide) ?_
  refine va_put (D := (dC, dI)) (ci := 1) (v := .int 0) (ty := .boolean) (C := RX3) (T := TX3) (N := 12) hx hb hkw kin_X3 tyX3 tyX3_ok nmX3 hown hK hP hD hS 0 rfl rfl 4 (by decide) (hkw _ m_35) (fun _ h9 => h9) rfl (by decide +kernel) rfl rfl (Nat.le_of_ble_eq_true rfl) dX3_endBlock_2 (fun H locs hP hD hS => ?_)
  have hP : va_P (dC, dI) classes [(h0, .inr (1, [.int lv, .ref h1, .ref h2, .ref h3, .int 0, .int v2, .int v3, .int v4, .ref h4, .int v5, .ref h5, .int v6])), (h3, .inr (0, [.int mc, .ref rc, .int sc, .int bc]))] H := hP
  have hD : va_D A [(h0, .inr (1, [.int lv, .ref h1, .ref h2, .ref h3, .int 0, .int v2, .int v3, .int v4, .ref h4, .int v5, .ref h5, .int v6])), (h3, .inr (0, [.int mc, .ref rc, .int sc, .int bc]))] := hD
  refine lv_aload_n hx hb dX3_endBlock_5 rfl (lv_at hl 0 rfl) ?_
  refine lv_iconst (v := 0) hx hb dX3_endBlock_6 (by decide) ?_
  refine va_put (D := (dC, dI)) (ci := 1) (v := .int 0) (ty := .boolean) (C := RX3) (T := TX3) (N := 12) hx hb hkw kin_X3 tyX3 tyX3_ok nmX3 hown hK hP hD hS 0 rfl rfl 5 (by decide) (hkw _ m_36) (fun _ h9 => h9) rfl (by decide +kernel) rfl rfl (Nat.le_of_ble_eq_true rfl) dX3_endBlock_7 (fun H locs hP hD hS => ?_)
  have hP : va_P (dC, dI) classes [(h0, .inr (1, [.int lv, .ref h1, .ref h2, .ref h3, .int 0, .int 0, .int v3, .int v4, .ref h4, .int v5, .ref h5, .int v6])), (h3, .inr (0, [.int mc, .ref rc, .int sc, .int bc]))] H := hP
  have hD : va_D A [(h0, .inr (1, [.int lv, .ref h1, .ref h2, .ref h3, .int 0, .int 0, .int v3, .int v4, .ref h4, .int v5, .ref h5, .int v6])), (h3, .inr (0, [.int mc, .ref rc, .int sc, .int bc]))] := hD
  refine lv_aload_n hx hb dX3_endBlock_10 rfl (lv_at hl 0 rfl) ?_
  refine lv_iconst (v := 0) hx hb dX3_endBlock_11 (by decide) ?_
  refine va_put (D := (dC, dI)) (ci := 1) (v := .int 0) (ty := .int) (C := RX3) (T := TX3) (N := 12) hx hb hkw kin_X3 tyX3 tyX3_ok nmX3 hown hK hP hD hS 0 rfl rfl 7 (by decide) (hkw _ m_37) (fun _ h9 => h9) rfl (by decide +kernel) rfl rfl (Nat.le_of_ble_eq_true rfl) dX3_endBlock_12 (fun H locs hP hD hS => ?_)
  have hP : va_P (dC, dI) classes [(h0, .inr (1, [.int lv, .ref h1, .ref h2, .ref h3, .int 0, .int 0, .int v3, .int 0, .ref h4, .int v5, .ref h5, .int v6])), (h3, .inr (0, [.int mc, .ref rc, .int sc, .int bc]))] H := hP
  have hD : va_D A [(h0, .inr (1, [.int lv, .ref h1, .ref h2, .ref h3, .int 0, .int 0, .int v3, .int 0, .ref h4, .int v5, .ref h5, .int v6])), (h3, .inr (0, [.int mc, .ref rc, .int sc, .int bc]))] := hD
  refine lv_aload_n hx hb dX3_endBlock_15 rfl (lv_at hl 0 rfl) ?_
  refine va_get (D := (dC, dI)) (ci := 1) (v := .ref h3) (C := RX3) (T := TX3) (N := 12) hx hb hkw kin_X3 hown hK hP 0 rfl rfl 3 (by decide) (hkw _ m_29) (fun _ h9 => h9) rfl dX3_endBlock_16 ?_
  have hPc := hP.sub (ws' := [(h3, .inr (0, [.int mc, .ref rc, .int sc, .int bc]))]) [1] rfl
  have hDc := hD.sub (ws' := [(h3, .inr (0, [.int mc, .ref rc, .int sc, .int bc]))]) [1] (by decide) rfl
  have hKc := hK.sub (tys' := []) [] rfl
  have hFc := va_free (wc := [(h3, .inr (0, [.int mc, .ref rc, .int sc, .int bc]))]) hD hS hA [1] rfl
  refine va_callv (va_runV (As := []) (rest := []) ⟨hx, hb, hml, hown, hkw⟩ (c_By_empty l dC dI H.size h3 rc mc sc bc) (callVv 0 hkw (kwI m_38) rfl rfl rfl (hkw _ m_9) (hkw _ m_39) (hkw _ m_40) (hkw _ m_41) (by decide +kernel) ⟨Nat.le_of_ble_eq_true rfl, Nat.le_of_ble_eq_true rfl⟩) ⟨fbW, va_recv hK hP (ci := 0) (q0 := 1) rfl rfl, pW_in hPc hKc hDc hfx⟩ rfl rfl hl.1 rfl (lv_room (Nat.le_of_ble_eq_true rfl)) dX3_endBlock_19 ⟨Nat.le_of_ble_eq_true rfl, Nat.le_of_ble_eq_true rfl⟩) hS (fun q _ h => hFc q h) hFc (fun u t H1 locs ht hvm hw hB hz1 hk1 hS => ?_)
  obtain ⟨hP1, hK1, hD1⟩ := hB
  rw [ht] at hP1
  have hK1 := va_K.moved hvm.symm hK1
  obtain ⟨hP, hD⟩ := va_join (wr := [(h0, .inr (1, [.int lv, .ref h1, .ref h2, .ref h3, .int 0, .int 0, .int v3, .int 0, .ref h4, .int v5, .ref h5, .int v6]))]) (w1 := [(h3, .inr (0, [.int mc, .ref rc, .int 0, .int 0]))]) hP hD [1] [0] rfl rfl (by decide) (by decide) hk1 hFc hP1 hD1
  have hK := (hK.sub (tys' := []) [] rfl).app hK1
  generalize H1 = H at hP hS ⊢
  have hP : va_P (dC, dI) classes [(h0, .inr (1, [.int lv, .ref h1, .ref h2, .ref h3, .int 0, .int 0, .int v3, .int 0, .ref h4, .int v5, .ref h5, .int v6])), (h3, .inr (0, [.int mc, .ref rc, .int 0, .int 0]))] H := hP
  have hD : va_D A [(h0, .inr (1, [.int lv, .ref h1, .ref h2, .ref h3, .int 0, .int 0, .int v3, .int 0, .ref h4, .int v5, .ref h5, .int v6])), (h3, .inr (0, [.int mc, .ref rc, .int 0, .int 0]))] := hD
  have hK : va_K (dC, dI) classes [] s := hK
  have hw1 := hw
  try dsimp only at hw1
  refine lv_aload_n hx hb dX3_endBlock_22 rfl (lv_at hl 0 rfl) ?_
  have hPc := hP.sub (ws' := [(h0, .inr (1, [.int lv, .ref h1, .ref h2, .ref h3, .int 0, .int 0, .int v3, .int 0, .ref h4, .int v5, .ref h5, .int v6]))]) [0] rfl
  have hDc := hD.sub (ws' := [(h0, .inr (1, [.int lv, .ref h1, .ref h2, .ref h3, .int 0, .int 0, .int v3, .int 0, .ref h4, .int v5, .ref h5, .int v6]))]) [0] (by decide) rfl
  have hKc := hK.sub (tys' := []) [] rfl
  have hFc := va_free (wc := [(h0, .inr (1, [.int lv, .ref h1, .ref h2, .ref h3, .int 0, .int 0, .int v3, .int 0, .ref h4, .int v5, .ref h5, .int v6]))]) hD hS hA [0] rfl
  refine va_callv (va_runV (As := []) (rest := []) ⟨hx, hb, hml, hown, hkw⟩ (c_Co_unwatch l dC dI H.size h0 h1 h2 h3 h4 h5 lv 0 0 v3 0 v5 v6) (callVv 0 hkw (kwI m_42) rfl rfl rfl (hkw _ m_43) (hkw _ m_44) (hkw _ m_45) (hkw _ m_46) (by decide +kernel) ⟨Nat.le_of_ble_eq_true rfl, Nat.le_of_ble_eq_true rfl⟩) ⟨fbW, va_recv hK hP (ci := 1) (q0 := 0) rfl rfl, pW_in hPc hKc hDc hfx⟩ rfl rfl hl.1 rfl (lv_room (Nat.le_of_ble_eq_true rfl)) dX3_endBlock_23 ⟨Nat.le_of_ble_eq_true rfl, Nat.le_of_ble_eq_true rfl⟩) hS (fun q _ h => hFc q h) hFc (fun u t H1 locs ht hvm hw hB hz1 hk1 hS => ?_)
  obtain ⟨hP1, hK1, hD1⟩ := hB
  rw [ht] at hP1
  have hK1 := va_K.moved hvm.symm hK1
  obtain ⟨hP, hD⟩ := va_join (wr := [(h3, .inr (0, [.int mc, .ref rc, .int 0, .int 0]))]) (w1 := [(h0, .inr (1, [.int lv, .ref h1, .ref h2, .ref h3, .int 0, .int 0, .int 0, .int 0, .ref h4, .int 0, .ref h5, .int v6]))]) hP hD [0] [1] rfl rfl (by decide) (by decide) hk1 hFc hP1 hD1
  have hK := (hK.sub (tys' := []) [] rfl).app hK1
  generalize H1 = H at hP hS ⊢
  have hP : va_P (dC, dI) classes [(h3, .inr (0, [.int mc, .ref rc, .int 0, .int 0])), (h0, .inr (1, [.int lv, .ref h1, .ref h2, .ref h3, .int 0, .int 0, .int 0, .int 0, .ref h4, .int 0, .ref h5, .int v6]))] H := hP
  have hD : va_D A [(h3, .inr (0, [.int mc, .ref rc, .int 0, .int 0])), (h0, .inr (1, [.int lv, .ref h1, .ref h2, .ref h3, .int 0, .int 0, .int 0, .int 0, .ref h4, .int 0, .ref h5, .int v6]))] := hD
  have hK : va_K (dC, dI) classes [] s := hK
  have hw2 := hw
  try dsimp only at hw2
  have hP9 := hP.sub (ws' := [(h0, .inr (1, [.int lv, .ref h1, .ref h2, .ref h3, .int 0, .int 0, .int 0, .int 0, .ref h4, .int 0, .ref h5, .int v6])), (h3, .inr (0, [.int mc, .ref rc, .int 0, .int 0]))]) [1, 0] rfl
  have hD9 := hD.sub (ws' := [(h0, .inr (1, [.int lv, .ref h1, .ref h2, .ref h3, .int 0, .int 0, .int 0, .int 0, .ref h4, .int 0, .ref h5, .int v6])), (h3, .inr (0, [.int mc, .ref rc, .int 0, .int 0]))]) [1, 0] (by decide) rfl
  have hK9 := hK.sub (tys' := []) [] rfl
  refine W.widen (k := 0) (n := 0) (Nat.le_of_ble_eq_true rfl) (Nat.le_of_ble_eq_true rfl) ?_
  exact W.vret hx hb hr (fun t ht hW => ⟨⟨(), rfl, trivial, by rw [ht]; exact hP9, va_K.moved hW.alike hK9, hD9⟩, hS.F ht⟩) hS.2.2 dX3_endBlock_26

set_option maxHeartbeats 4000000 in
set_option maxRecDepth 100000 in
/-- close() -/
theorem c_Co_close (l : Launch) (dC : Nat → ClassId) (dI : Nat → Nat → Nat) (sz : Nat) (h0 : Nat) (h1 : Nat) (h2 : Nat) (h3 : Nat) (h4 : Nat) (h5 : Nat) (lv : Int32) (v1 : Int32) (v2 : Int32) (v3 : Int32) (v4 : Int32) (v5 : Int32) (v6 : Int32) (ma : Int32) (ra : Nat) (sa : Int32) (ba : Int32) (mc : Int32) (rc : Nat) (sc : Int32) (bc : Int32) : Met l yX3_close wX3_close ({ frames := 2, cells := 0, slots := 0, locals := 40 }) (va_Pc [.ref h0] (pW (dC, dI) [(h0, .inr (1, [.int lv, .ref h1, .ref h2, .ref h3, .int v1, .int v2, .int v3, .int v4, .ref h4, .int v5, .ref h5, .int v6])), (h1, .inr (0, [.int ma, .ref ra, .int sa, .int ba])), (h3, .inr (0, [.int mc, .ref rc, .int sc, .int bc]))] [] sz)) (va_Qv (fun (_u : Unit) => True) (fun (_u : Unit) (t : State) => bW (dC, dI) [(h0, .inr (1, [.int 0, .ref h1, .ref h2, .ref h3, .int 0, .int 0, .int 0, .int 0, .ref h4, .int 0, .ref h5, .int 0])), (h1, .inr (0, [.int ma, .ref ra, .int 0, .int 0])), (h3, .inr (0, [.int mc, .ref rc, .int 0, .int 0]))] [] (va_A [(h0, .inr (1, [.int lv, .ref h1, .ref h2, .ref h3, .int v1, .int v2, .int v3, .int v4, .ref h4, .int v5, .ref h5, .int v6])), (h1, .inr (0, [.int ma, .ref ra, .int sa, .int ba])), (h3, .inr (0, [.int mc, .ref rc, .int sc, .int bc]))] sz) t) (va_A [(h0, .inr (1, [.int lv, .ref h1, .ref h2, .ref h3, .int v1, .int v2, .int v3, .int v4, .ref h4, .int v5, .ref h5, .int v6])), (h1, .inr (0, [.int ma, .ref ra, .int sa, .int ba])), (h3, .inr (0, [.int mc, .ref rc, .int sc, .int bc]))] sz)) 0 0 (va_A [(h0, .inr (1, [.int lv, .ref h1, .ref h2, .ref h3, .int v1, .int v2, .int v3, .int v4, .ref h4, .int v5, .ref h5, .int v6])), (h1, .inr (0, [.int ma, .ref ra, .int sa, .int ba])), (h3, .inr (0, [.int mc, .ref rc, .int sc, .int bc]))] sz) := by
  refine Met.ofW (cc := cX3_close) (maxL := 1) (ret := none) (by decide) rfl ?_
  intro p e s m args below meth c s₁ B hml hv
  obtain ⟨rfl, hsz, hP, hK, hD0, hfx⟩ := hv
  have hx := B.exec
  have hb := B.bytes
  have hr := B.returns
  have hts := atoms_spec (ws := wX3_close) B.pre
  have hkw : ∀ w ∈ kw, w.before _ s = true := fun w h => hts w (List.mem_cons_of_mem _ h)
  have hown : s.vm.findClass RX3 = some m.cls := findClass_of_methodNamed B.named
  have hlocks := B.notSynchronized
  subst hsz
  have hD := hD0.self (sz := s.heap.size)
  generalize hAe : va_A [(h0, .inr (1, [.int lv, .ref h1, .ref h2, .ref h3, .int v1, .int v2, .int v3, .int v4, .ref h4, .int v5, .ref h5, .int v6])), (h1, .inr (0, [.int ma, .ref ra, .int sa, .int ba])), (h3, .inr (0, [.int mc, .ref rc, .int sc, .int bc]))] s.heap.size = A at hD ⊢
  have hA : ∀ q : Nat, s.heap.size ≤ q → A q := fun q h => by rw [← hAe]; exact Or.inr h
  have hS : va_S A s.heap s.heap [] := va_S.rf
  have hP : va_P (dC, dI) classes [(h0, .inr (1, [.int lv, .ref h1, .ref h2, .ref h3, .int v1, .int v2, .int v3, .int v4, .ref h4, .int v5, .ref h5, .int v6])), (h1, .inr (0, [.int ma, .ref ra, .int sa, .int ba])), (h3, .inr (0, [.int mc, .ref rc, .int sc, .int bc]))] s.heap := hP
  have hl := lv_entry ([.ref h0]) (n := 1) (Nat.le_of_ble_eq_true rfl)
  rw [lg_entry_eq]
  generalize (lg_sl ([.ref h0]) ++ List.replicate (1 - (lg_sl ([.ref h0])).length) Slot.unset).toArray = ls at hl ⊢
  have hl : lv_has ls 1 [(0, .ref h0)] := hl
  refine lv_aload_n hx hb dX3_close_0 rfl (lv_at hl 0 rfl) ?_
  refine lv_iconst (v := 0) hx hb dX3_close_1 (by decide) ?_
  refine va_put (D := (dC, dI)) (ci := 1) (v := .int 0) (ty := .boolean) (C := RX3) (T := TX3) (N := 12) hx hb hkw kin_X3 tyX3 tyX3_ok nmX3 hown hK hP hD hS 0 rfl rfl 0 (by decide) (hkw _ m_18) (fun _ h9 => h9) rfl (by decide +kernel) rfl rfl (Nat.le_of_ble_eq_true rfl) dX3_close_2 (fun H locs hP hD hS => ?_)
  have hP : va_P (dC, dI) classes [(h0, .inr (1, [.int 0, .ref h1, .ref h2, .ref h3, .int v1, .int v2, .int v3, .int v4, .ref h4, .int v5, .ref h5, .int v6])), (h1, .inr (0, [.int ma, .ref ra, .int sa, .int ba])), (h3, .inr (0, [.int mc, .ref rc, .int sc, .int bc]))] H := hP
  have hD : va_D A [(h0, .inr (1, [.int 0, .ref h1, .ref h2, .ref h3, .int v1, .int v2, .int v3, .int v4, .ref h4, .int v5, .ref h5, .int v6])), (h1, .inr (0, [.int ma, .ref ra, .int sa, .int ba])), (h3, .inr (0, [.int mc, .ref rc, .int sc, .int bc]))] := hD
  refine lv_aload_n hx hb dX3_close_5 rfl (lv_at hl 0 rfl) ?_
  refine va_get (D := (dC, dI)) (ci := 1) (v := .ref h1) (C := RX3) (T := TX3) (N := 12) hx hb hkw kin_X3 hown hK hP 0 rfl rfl 1 (by decide) (hkw _ m_25) (fun _ h9 => h9) rfl dX3_close_6 ?_
  have hPc := hP.sub (ws' := [(h1, .inr (0, [.int ma, .ref ra, .int sa, .int ba]))]) [1] rfl
  have hDc := hD.sub (ws' := [(h1, .inr (0, [.int ma, .ref ra, .int sa, .int ba]))]) [1] (by decide) rfl
  have hKc := hK.sub (tys' := []) [] rfl
  have hFc := va_free (wc := [(h1, .inr (0, [.int ma, .ref ra, .int sa, .int ba]))]) hD hS hA [1] rfl
  refine va_callv (va_runV (As := []) (rest := []) ⟨hx, hb, hml, hown, hkw⟩ (c_By_empty l dC dI H.size h1 ra ma sa ba) (callVv 0 hkw (kwI m_38) rfl rfl rfl (hkw _ m_9) (hkw _ m_39) (hkw _ m_40) (hkw _ m_41) (by decide +kernel) ⟨Nat.le_of_ble_eq_true rfl, Nat.le_of_ble_eq_true rfl⟩) ⟨fbW, va_recv hK hP (ci := 0) (q0 := 1) rfl rfl, pW_in hPc hKc hDc hfx⟩ rfl rfl hl.1 rfl (lv_room (Nat.le_of_ble_eq_true rfl)) dX3_close_9 ⟨Nat.le_of_ble_eq_true rfl, Nat.le_of_ble_eq_true rfl⟩) hS (fun q _ h => hFc q h) hFc (fun u t H1 locs ht hvm hw hB hz1 hk1 hS => ?_)
  obtain ⟨hP1, hK1, hD1⟩ := hB
  rw [ht] at hP1
  have hK1 := va_K.moved hvm.symm hK1
  obtain ⟨hP, hD⟩ := va_join (wr := [(h0, .inr (1, [.int 0, .ref h1, .ref h2, .ref h3, .int v1, .int v2, .int v3, .int v4, .ref h4, .int v5, .ref h5, .int v6])), (h3, .inr (0, [.int mc, .ref rc, .int sc, .int bc]))]) (w1 := [(h1, .inr (0, [.int ma, .ref ra, .int 0, .int 0]))]) hP hD [1] [0, 2] rfl rfl (by decide) (by decide) hk1 hFc hP1 hD1
  have hK := (hK.sub (tys' := []) [] rfl).app hK1
  generalize H1 = H at hP hS ⊢
  have hP : va_P (dC, dI) classes [(h0, .inr (1, [.int 0, .ref h1, .ref h2, .ref h3, .int v1, .int v2, .int v3, .int v4, .ref h4, .int v5, .ref h5, .int v6])), (h3, .inr (0, [.int mc, .ref rc, .int sc, .int bc])), (h1, .inr (0, [.int ma, .ref ra, .int 0, .int 0]))] H := hP
  have hD : va_D A [(h0, .inr (1, [.int 0, .ref h1, .ref h2, .ref h3, .int v1, .int v2, .int v3, .int v4, .ref h4, .int v5, .ref h5, .int v6])), (h3, .inr (0, [.int mc, .ref rc, .int sc, .int bc])), (h1, .inr (0, [.int ma, .ref ra, .int 0, .int 0]))] := hD
  have hK : va_K (dC, dI) classes [] s := hK
  have hw1 := hw
  try dsimp only at hw1
  refine lv_aload_n hx hb dX3_close_12 rfl (lv_at hl 0 rfl) ?_
  have hPc := hP.sub (ws' := [(h0, .inr (1, [.int 0, .ref h1, .ref h2, .ref h3, .int v1, .int v2, .int v3, .int v4, .ref h4, .int v5, .ref h5, .int v6])), (h3, .inr (0, [.int mc, .ref rc, .int sc, .int bc]))]) [0, 1] rfl
  have hDc := hD.sub (ws' := [(h0, .inr (1, [.int 0, .ref h1, .ref h2, .ref h3, .int v1, .int v2, .int v3, .int v4, .ref h4, .int v5, .ref h5, .int v6])), (h3, .inr (0, [.int mc, .ref rc, .int sc, .int bc]))]) [0, 1] (by decide) rfl
  have hKc := hK.sub (tys' := []) [] rfl
  have hFc := va_free (wc := [(h0, .inr (1, [.int 0, .ref h1, .ref h2, .ref h3, .int v1, .int v2, .int v3, .int v4, .ref h4, .int v5, .ref h5, .int v6])), (h3, .inr (0, [.int mc, .ref rc, .int sc, .int bc]))]) hD hS hA [0, 1] rfl
  refine va_callv (va_runV (As := []) (rest := []) ⟨hx, hb, hml, hown, hkw⟩ (c_Co_endBlock l dC dI H.size h0 h1 h2 h3 h4 h5 0 v1 v2 v3 v4 v5 v6 mc rc sc bc) (callVv 0 hkw (kwI m_47) rfl rfl rfl (hkw _ m_43) (hkw _ m_48) (hkw _ m_49) (hkw _ m_50) (by decide +kernel) ⟨Nat.le_of_ble_eq_true rfl, Nat.le_of_ble_eq_true rfl⟩) ⟨fbW, va_recv hK hP (ci := 1) (q0 := 0) rfl rfl, pW_in hPc hKc hDc hfx⟩ rfl rfl hl.1 rfl (lv_room (Nat.le_of_ble_eq_true rfl)) dX3_close_13 ⟨Nat.le_of_ble_eq_true rfl, Nat.le_of_ble_eq_true rfl⟩) hS (fun q _ h => hFc q h) hFc (fun u t H1 locs ht hvm hw hB hz1 hk1 hS => ?_)
  obtain ⟨hP1, hK1, hD1⟩ := hB
  rw [ht] at hP1
  have hK1 := va_K.moved hvm.symm hK1
  obtain ⟨hP, hD⟩ := va_join (wr := [(h1, .inr (0, [.int ma, .ref ra, .int 0, .int 0]))]) (w1 := [(h0, .inr (1, [.int 0, .ref h1, .ref h2, .ref h3, .int 0, .int 0, .int 0, .int 0, .ref h4, .int 0, .ref h5, .int v6])), (h3, .inr (0, [.int mc, .ref rc, .int 0, .int 0]))]) hP hD [0, 1] [2] rfl rfl (by decide) (by decide) hk1 hFc hP1 hD1
  have hK := (hK.sub (tys' := []) [] rfl).app hK1
  generalize H1 = H at hP hS ⊢
  have hP : va_P (dC, dI) classes [(h1, .inr (0, [.int ma, .ref ra, .int 0, .int 0])), (h0, .inr (1, [.int 0, .ref h1, .ref h2, .ref h3, .int 0, .int 0, .int 0, .int 0, .ref h4, .int 0, .ref h5, .int v6])), (h3, .inr (0, [.int mc, .ref rc, .int 0, .int 0]))] H := hP
  have hD : va_D A [(h1, .inr (0, [.int ma, .ref ra, .int 0, .int 0])), (h0, .inr (1, [.int 0, .ref h1, .ref h2, .ref h3, .int 0, .int 0, .int 0, .int 0, .ref h4, .int 0, .ref h5, .int v6])), (h3, .inr (0, [.int mc, .ref rc, .int 0, .int 0]))] := hD
  have hK : va_K (dC, dI) classes [] s := hK
  have hw2 := hw
  try dsimp only at hw2
  refine lv_aload_n hx hb dX3_close_16 rfl (lv_at hl 0 rfl) ?_
  refine lv_iconst (v := 0) hx hb dX3_close_17 (by decide) ?_
  refine va_put (D := (dC, dI)) (ci := 1) (v := .int 0) (ty := .int) (C := RX3) (T := TX3) (N := 12) hx hb hkw kin_X3 tyX3 tyX3_ok nmX3 hown hK hP hD hS 1 rfl rfl 11 (by decide) (hkw _ m_51) (fun _ h9 => h9) rfl (by decide +kernel) rfl rfl (Nat.le_of_ble_eq_true rfl) dX3_close_18 (fun H locs hP hD hS => ?_)
  have hP : va_P (dC, dI) classes [(h1, .inr (0, [.int ma, .ref ra, .int 0, .int 0])), (h0, .inr (1, [.int 0, .ref h1, .ref h2, .ref h3, .int 0, .int 0, .int 0, .int 0, .ref h4, .int 0, .ref h5, .int 0])), (h3, .inr (0, [.int mc, .ref rc, .int 0, .int 0]))] H := hP
  have hD : va_D A [(h1, .inr (0, [.int ma, .ref ra, .int 0, .int 0])), (h0, .inr (1, [.int 0, .ref h1, .ref h2, .ref h3, .int 0, .int 0, .int 0, .int 0, .ref h4, .int 0, .ref h5, .int 0])), (h3, .inr (0, [.int mc, .ref rc, .int 0, .int 0]))] := hD
  have hP9 := hP.sub (ws' := [(h0, .inr (1, [.int 0, .ref h1, .ref h2, .ref h3, .int 0, .int 0, .int 0, .int 0, .ref h4, .int 0, .ref h5, .int 0])), (h1, .inr (0, [.int ma, .ref ra, .int 0, .int 0])), (h3, .inr (0, [.int mc, .ref rc, .int 0, .int 0]))]) [1, 0, 2] rfl
  have hD9 := hD.sub (ws' := [(h0, .inr (1, [.int 0, .ref h1, .ref h2, .ref h3, .int 0, .int 0, .int 0, .int 0, .ref h4, .int 0, .ref h5, .int 0])), (h1, .inr (0, [.int ma, .ref ra, .int 0, .int 0])), (h3, .inr (0, [.int mc, .ref rc, .int 0, .int 0]))]) [1, 0, 2] (by decide) rfl
  have hK9 := hK.sub (tys' := []) [] rfl
  refine W.widen (k := 0) (n := 0) (Nat.le_of_ble_eq_true rfl) (Nat.le_of_ble_eq_true rfl) ?_
  exact W.vret hx hb hr (fun t ht hW => ⟨⟨(), rfl, trivial, by rw [ht]; exact hP9, va_K.moved hW.alike hK9, hD9⟩, hS.F ht⟩) hS.2.2 dX3_close_21
