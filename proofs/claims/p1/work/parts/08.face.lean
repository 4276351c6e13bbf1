set_option maxHeartbeats 4000000 in
set_option maxRecDepth 100000 in
/-- feed, fresh -/
theorem c_KS_feed (l : Launch) (dC : Nat → ClassId) (dI : Nat → Nat → Nat) (sz : Nat) (h0 : Nat) (t0 : Nat) (xm1 : Nat) (a0 : Nat) (w0 : Nat) (k0 : Nat) (e0 : Nat) (xm2 : Nat) (xm3 : Nat) (xm4 : Nat) (xm5 : Nat) (j0 : Nat) (j1 : Nat) (j2 : Nat) (tr : Nat) (kt : ClassId) (gt : Nat → Int32) (p0 : Int32) (p1 : Int32) (p2 : Int32) (p3 : Int32) (p4 : Int32) : Met l yX12_feed wX12_feed ({ frames := 2, cells := 0, slots := 0, locals := 44 }) (va_Pc [.ref h0, .int p0, .int p1, .int p2, .int p3, .int p4] (pW (dC, dI) [(h0, .inr (9, [.ref t0, .ref xm1, .ref a0, .ref w0, .ref k0, .ref e0, .ref xm2, .ref xm3, .ref xm4, .ref xm5, .ref j0, .ref j1, .ref j2, .int 0, .int 0, .int 0, .int (-1), .int 1])), (t0, .inr (0, [.int 65540, .ref tr, .int 0, .int 0])), (tr, .inl (kt, 64, .inl gt))] [(kt, .byte)] sz)) (va_Qi (fun (r : Int32) (_u : Unit) => r = 1) (fun (_u : Unit) (t : State) => bW (dC, dI) [] [] (va_A [(h0, .inr (9, [.ref t0, .ref xm1, .ref a0, .ref w0, .ref k0, .ref e0, .ref xm2, .ref xm3, .ref xm4, .ref xm5, .ref j0, .ref j1, .ref j2, .int 0, .int 0, .int 0, .int (-1), .int 1])), (t0, .inr (0, [.int 65540, .ref tr, .int 0, .int 0])), (tr, .inl (kt, 64, .inl gt))] sz) t) (va_A [(h0, .inr (9, [.ref t0, .ref xm1, .ref a0, .ref w0, .ref k0, .ref e0, .ref xm2, .ref xm3, .ref xm4, .ref xm5, .ref j0, .ref j1, .ref j2, .int 0, .int 0, .int 0, .int (-1), .int 1])), (t0, .inr (0, [.int 65540, .ref tr, .int 0, .int 0])), (tr, .inl (kt, 64, .inl gt))] sz)) 0 0 (va_A [(h0, .inr (9, [.ref t0, .ref xm1, .ref a0, .ref w0, .ref k0, .ref e0, .ref xm2, .ref xm3, .ref xm4, .ref xm5, .ref j0, .ref j1, .ref j2, .int 0, .int 0, .int 0, .int (-1), .int 1])), (t0, .inr (0, [.int 65540, .ref tr, .int 0, .int 0])), (tr, .inl (kt, 64, .inl gt))] sz) := by
  refine Met.ofW (cc := cX12_feed) (maxL := 6) (ret := (some .boolean)) (by decide) rfl ?_
  intro p e s m args below meth c s₁ B hml hv
  obtain ⟨rfl, hsz, hP, hK, hD0, hfx⟩ := hv
  have hx := B.exec
  have hb := B.bytes
  have hr := B.returns
  have hts := atoms_spec (ws := wX12_feed) B.pre
  have hkw : ∀ w ∈ kw, w.before _ s = true := fun w h => hts w (List.mem_cons_of_mem _ h)
  have hown : s.vm.findClass RX12 = some m.cls := findClass_of_methodNamed B.named
  have hlocks := B.notSynchronized
  subst hsz
  have hD := hD0.self (sz := s.heap.size)
  generalize hAe : va_A [(h0, .inr (9, [.ref t0, .ref xm1, .ref a0, .ref w0, .ref k0, .ref e0, .ref xm2, .ref xm3, .ref xm4, .ref xm5, .ref j0, .ref j1, .ref j2, .int 0, .int 0, .int 0, .int (-1), .int 1])), (t0, .inr (0, [.int 65540, .ref tr, .int 0, .int 0])), (tr, .inl (kt, 64, .inl gt))] s.heap.size = A at hD ⊢
  have hA : ∀ q : Nat, s.heap.size ≤ q → A q := fun q h => by rw [← hAe]; exact Or.inr h
  have hS : va_S A s.heap s.heap [] := va_S.rf
  have hP : va_P (dC, dI) classes [(h0, .inr (9, [.ref t0, .ref xm1, .ref a0, .ref w0, .ref k0, .ref e0, .ref xm2, .ref xm3, .ref xm4, .ref xm5, .ref j0, .ref j1, .ref j2, .int 0, .int 0, .int 0, .int (-1), .int 1])), (t0, .inr (0, [.int 65540, .ref tr, .int 0, .int 0])), (tr, .inl (kt, 64, .inl gt))] s.heap := hP
  have hl := lv_entry ([.ref h0, .int p0, .int p1, .int p2, .int p3, .int p4]) (n := 6) (Nat.le_of_ble_eq_true rfl)
  rw [lg_entry_eq]
  generalize (lg_sl ([.ref h0, .int p0, .int p1, .int p2, .int p3, .int p4]) ++ List.replicate (6 - (lg_sl ([.ref h0, .int p0, .int p1, .int p2, .int p3, .int p4])).length) Slot.unset).toArray = ls at hl ⊢
  have hl : lv_has ls 6 [(0, .ref h0), (1, .int p0), (2, .int p1), (3, .int p2), (4, .int p3), (5, .int p4)] := hl
  refine lv_aload_n hx hb dX12_feed_0 rfl (lv_at hl 0 rfl) ?_
  refine va_get (D := (dC, dI)) (ci := 9) (v := .ref t0) (C := RX12) (T := TX12) (N := 18) hx hb hkw kin_X12 hown hK hP 0 rfl rfl 0 (by decide) (hkw _ m_103) (fun _ h9 => h9) rfl dX12_feed_1 ?_
  refine va_get (D := (dC, dI)) (ci := 0) (v := .int 0) (C := RX1) (T := TX1) (N := 4) hx hb hkw kin_X1 hown hK hP 1 rfl rfl 2 (by decide) (hkw _ m_104) (fun _ h9 => h9) rfl dX12_feed_4 ?_
  refine lv_ldc (v := 65520) hx hb hown (hkw _ m_105) dX12_feed_7 ?_
  refine lv_icmp_le (tgt := 14) hx hb dX12_feed_9 (by decide) (fun c_9_0 => ?_) (fun c_9_0 => absurd c_9_0 (by decide))
  refine lv_aload_n hx hb dX12_feed_14 rfl (lv_at hl 0 rfl) ?_
  refine va_get (D := (dC, dI)) (ci := 9) (v := .ref t0) (C := RX12) (T := TX12) (N := 18) hx hb hkw kin_X12 hown hK hP 0 rfl rfl 0 (by decide) (hkw _ m_103) (fun _ h9 => h9) rfl dX12_feed_15 ?_
  refine lv_iload_n hx hb dX12_feed_18 rfl (lv_at hl 1 rfl) ?_
  have hPc := hP.sub (ws' := [(t0, .inr (0, [.int 65540, .ref tr, .int 0, .int 0])), (tr, .inl (kt, 64, .inl gt))]) [1, 2] rfl
  have hDc := hD.sub (ws' := [(t0, .inr (0, [.int 65540, .ref tr, .int 0, .int 0])), (tr, .inl (kt, 64, .inl gt))]) [1, 2] (by decide) rfl
  have hKc := hK.sub (tys' := [(kt, .byte)]) [0] rfl
  have hFc := va_free (wc := [(t0, .inr (0, [.int 65540, .ref tr, .int 0, .int 0])), (tr, .inl (kt, 64, .inl gt))]) hD hS hA [1, 2] rfl
  refine va_callv (va_runV (As := [.int p0]) (rest := []) ⟨hx, hb, hml, hown, hkw⟩ (c_By_four_0 l dC dI s.heap.size t0 tr kt gt p0) (callVv 1 hkw (kwI m_106) rfl rfl rfl (hkw _ m_9) (hkw _ m_107) (hkw _ m_108) (hkw _ m_109) (by decide +kernel) ⟨Nat.le_of_ble_eq_true rfl, Nat.le_of_ble_eq_true rfl⟩) ⟨fbW, va_recv hK hP (ci := 0) (q0 := 1) rfl rfl, pW_in hPc hKc hDc hfx⟩ rfl rfl hl.1 rfl (lv_room (Nat.le_of_ble_eq_true rfl)) dX12_feed_19 ⟨Nat.le_of_ble_eq_true rfl, Nat.le_of_ble_eq_true rfl⟩) hS (fun q _ h => hFc q h) hFc (fun u t H1 locs ht hvm hw hB hz1 hk1 hS => ?_)
  obtain ⟨q1, rfl⟩ : ∃ z, z = u := ⟨_, rfl⟩
  obtain ⟨hP1, hK1, hD1⟩ := hB
  rw [ht] at hP1
  have hK1 := va_K.moved hvm.symm hK1
  obtain ⟨hP, hD⟩ := va_join (wr := [(h0, .inr (9, [.ref t0, .ref xm1, .ref a0, .ref w0, .ref k0, .ref e0, .ref xm2, .ref xm3, .ref xm4, .ref xm5, .ref j0, .ref j1, .ref j2, .int 0, .int 0, .int 0, .int (-1), .int 1]))]) (w1 := [(t0, .inr (0, [.int 65540, .ref tr, .int 4, .int 0])), (tr, .inl (kt, 64, .inl q1))]) hP hD [1, 2] [0] rfl rfl (by decide) (by decide) hk1 hFc hP1 hD1
  have hK := (hK.sub (tys' := []) [] rfl).app hK1
  generalize H1 = H at hP hS ⊢
  have hP : va_P (dC, dI) classes [(h0, .inr (9, [.ref t0, .ref xm1, .ref a0, .ref w0, .ref k0, .ref e0, .ref xm2, .ref xm3, .ref xm4, .ref xm5, .ref j0, .ref j1, .ref j2, .int 0, .int 0, .int 0, .int (-1), .int 1])), (t0, .inr (0, [.int 65540, .ref tr, .int 4, .int 0])), (tr, .inl (kt, 64, .inl q1))] H := hP
  have hD : va_D A [(h0, .inr (9, [.ref t0, .ref xm1, .ref a0, .ref w0, .ref k0, .ref e0, .ref xm2, .ref xm3, .ref xm4, .ref xm5, .ref j0, .ref j1, .ref j2, .int 0, .int 0, .int 0, .int (-1), .int 1])), (t0, .inr (0, [.int 65540, .ref tr, .int 4, .int 0])), (tr, .inl (kt, 64, .inl q1))] := hD
  have hK : va_K (dC, dI) classes [(kt, .byte)] s := hK
  have hw2 := hw
  try dsimp only at hw2
  refine lv_aload_n hx hb dX12_feed_22 rfl (lv_at hl 0 rfl) ?_
  refine va_get (D := (dC, dI)) (ci := 9) (v := .ref t0) (C := RX12) (T := TX12) (N := 18) hx hb hkw kin_X12 hown hK hP 0 rfl rfl 0 (by decide) (hkw _ m_103) (fun _ h9 => h9) rfl dX12_feed_23 ?_
  refine lv_iload_n hx hb dX12_feed_26 rfl (lv_at hl 2 rfl) ?_
  have hPc := hP.sub (ws' := [(t0, .inr (0, [.int 65540, .ref tr, .int 4, .int 0])), (tr, .inl (kt, 64, .inl q1))]) [1, 2] rfl
  have hDc := hD.sub (ws' := [(t0, .inr (0, [.int 65540, .ref tr, .int 4, .int 0])), (tr, .inl (kt, 64, .inl q1))]) [1, 2] (by decide) rfl
  have hKc := hK.sub (tys' := [(kt, .byte)]) [0] rfl
  have hFc := va_free (wc := [(t0, .inr (0, [.int 65540, .ref tr, .int 4, .int 0])), (tr, .inl (kt, 64, .inl q1))]) hD hS hA [1, 2] rfl
  refine va_callv (va_runV (As := [.int p1]) (rest := []) ⟨hx, hb, hml, hown, hkw⟩ (c_By_four_4 l dC dI H.size t0 tr kt q1 p1) (callVv 1 hkw (kwI m_106) rfl rfl rfl (hkw _ m_9) (hkw _ m_107) (hkw _ m_108) (hkw _ m_109) (by decide +kernel) ⟨Nat.le_of_ble_eq_true rfl, Nat.le_of_ble_eq_true rfl⟩) ⟨fbW, va_recv hK hP (ci := 0) (q0 := 1) rfl rfl, pW_in hPc hKc hDc hfx⟩ rfl rfl hl.1 rfl (lv_room (Nat.le_of_ble_eq_true rfl)) dX12_feed_27 ⟨Nat.le_of_ble_eq_true rfl, Nat.le_of_ble_eq_true rfl⟩) hS (fun q _ h => hFc q h) hFc (fun u t H1 locs ht hvm hw hB hz1 hk1 hS => ?_)
  obtain ⟨q3, rfl⟩ : ∃ z, z = u := ⟨_, rfl⟩
  obtain ⟨hP1, hK1, hD1⟩ := hB
  rw [ht] at hP1
  have hK1 := va_K.moved hvm.symm hK1
  obtain ⟨hP, hD⟩ := va_join (wr := [(h0, .inr (9, [.ref t0, .ref xm1, .ref a0, .ref w0, .ref k0, .ref e0, .ref xm2, .ref xm3, .ref xm4, .ref xm5, .ref j0, .ref j1, .ref j2, .int 0, .int 0, .int 0, .int (-1), .int 1]))]) (w1 := [(t0, .inr (0, [.int 65540, .ref tr, .int 8, .int 0])), (tr, .inl (kt, 64, .inl q3))]) hP hD [1, 2] [0] rfl rfl (by decide) (by decide) hk1 hFc hP1 hD1
  have hK := (hK.sub (tys' := []) [] rfl).app hK1
  generalize H1 = H at hP hS ⊢
  have hP : va_P (dC, dI) classes [(h0, .inr (9, [.ref t0, .ref xm1, .ref a0, .ref w0, .ref k0, .ref e0, .ref xm2, .ref xm3, .ref xm4, .ref xm5, .ref j0, .ref j1, .ref j2, .int 0, .int 0, .int 0, .int (-1), .int 1])), (t0, .inr (0, [.int 65540, .ref tr, .int 8, .int 0])), (tr, .inl (kt, 64, .inl q3))] H := hP
  have hD : va_D A [(h0, .inr (9, [.ref t0, .ref xm1, .ref a0, .ref w0, .ref k0, .ref e0, .ref xm2, .ref xm3, .ref xm4, .ref xm5, .ref j0, .ref j1, .ref j2, .int 0, .int 0, .int 0, .int (-1), .int 1])), (t0, .inr (0, [.int 65540, .ref tr, .int 8, .int 0])), (tr, .inl (kt, 64, .inl q3))] := hD
  have hK : va_K (dC, dI) classes [(kt, .byte)] s := hK
  have hw4 := hw
  try dsimp only at hw4
  refine lv_aload_n hx hb dX12_feed_30 rfl (lv_at hl 0 rfl) ?_
  refine va_get (D := (dC, dI)) (ci := 9) (v := .ref t0) (C := RX12) (T := TX12) (N := 18) hx hb hkw kin_X12 hown hK hP 0 rfl rfl 0 (by decide) (hkw _ m_103) (fun _ h9 => h9) rfl dX12_feed_31 ?_
  refine lv_iload_n hx hb dX12_feed_34 rfl (lv_at hl 3 rfl) ?_
  have hPc := hP.sub (ws' := [(t0, .inr (0, [.int 65540, .ref tr, .int 8, .int 0])), (tr, .inl (kt, 64, .inl q3))]) [1, 2] rfl
  have hDc := hD.sub (ws' := [(t0, .inr (0, [.int 65540, .ref tr, .int 8, .int 0])), (tr, .inl (kt, 64, .inl q3))]) [1, 2] (by decide) rfl
  have hKc := hK.sub (tys' := [(kt, .byte)]) [0] rfl
  have hFc := va_free (wc := [(t0, .inr (0, [.int 65540, .ref tr, .int 8, .int 0])), (tr, .inl (kt, 64, .inl q3))]) hD hS hA [1, 2] rfl
  refine va_callv (va_runV (As := [.int p2]) (rest := []) ⟨hx, hb, hml, hown, hkw⟩ (c_By_four_8 l dC dI H.size t0 tr kt q3 p2) (callVv 1 hkw (kwI m_106) rfl rfl rfl (hkw _ m_9) (hkw _ m_107) (hkw _ m_108) (hkw _ m_109) (by decide +kernel) ⟨Nat.le_of_ble_eq_true rfl, Nat.le_of_ble_eq_true rfl⟩) ⟨fbW, va_recv hK hP (ci := 0) (q0 := 1) rfl rfl, pW_in hPc hKc hDc hfx⟩ rfl rfl hl.1 rfl (lv_room (Nat.le_of_ble_eq_true rfl)) dX12_feed_35 ⟨Nat.le_of_ble_eq_true rfl, Nat.le_of_ble_eq_true rfl⟩) hS (fun q _ h => hFc q h) hFc (fun u t H1 locs ht hvm hw hB hz1 hk1 hS => ?_)
  obtain ⟨q5, rfl⟩ : ∃ z, z = u := ⟨_, rfl⟩
  obtain ⟨hP1, hK1, hD1⟩ := hB
  rw [ht] at hP1
  have hK1 := va_K.moved hvm.symm hK1
  obtain ⟨hP, hD⟩ := va_join (wr := [(h0, .inr (9, [.ref t0, .ref xm1, .ref a0, .ref w0, .ref k0, .ref e0, .ref xm2, .ref xm3, .ref xm4, .ref xm5, .ref j0, .ref j1, .ref j2, .int 0, .int 0, .int 0, .int (-1), .int 1]))]) (w1 := [(t0, .inr (0, [.int 65540, .ref tr, .int 12, .int 0])), (tr, .inl (kt, 64, .inl q5))]) hP hD [1, 2] [0] rfl rfl (by decide) (by decide) hk1 hFc hP1 hD1
  have hK := (hK.sub (tys' := []) [] rfl).app hK1
  generalize H1 = H at hP hS ⊢
  have hP : va_P (dC, dI) classes [(h0, .inr (9, [.ref t0, .ref xm1, .ref a0, .ref w0, .ref k0, .ref e0, .ref xm2, .ref xm3, .ref xm4, .ref xm5, .ref j0, .ref j1, .ref j2, .int 0, .int 0, .int 0, .int (-1), .int 1])), (t0, .inr (0, [.int 65540, .ref tr, .int 12, .int 0])), (tr, .inl (kt, 64, .inl q5))] H := hP
  have hD : va_D A [(h0, .inr (9, [.ref t0, .ref xm1, .ref a0, .ref w0, .ref k0, .ref e0, .ref xm2, .ref xm3, .ref xm4, .ref xm5, .ref j0, .ref j1, .ref j2, .int 0, .int 0, .int 0, .int (-1), .int 1])), (t0, .inr (0, [.int 65540, .ref tr, .int 12, .int 0])), (tr, .inl (kt, 64, .inl q5))] := hD
  have hK : va_K (dC, dI) classes [(kt, .byte)] s := hK
  have hw6 := hw
  try dsimp only at hw6
  refine lv_aload_n hx hb dX12_feed_38 rfl (lv_at hl 0 rfl) ?_
  refine va_get (D := (dC, dI)) (ci := 9) (v := .ref t0) (C := RX12) (T := TX12) (N := 18) hx hb hkw kin_X12 hown hK hP 0 rfl rfl 0 (by decide) (hkw _ m_103) (fun _ h9 => h9) rfl dX12_feed_39 ?_
  refine lv_iload hx hb dX12_feed_42 (lv_at hl 4 rfl) ?_
  have hPc := hP.sub (ws' := [(t0, .inr (0, [.int 65540, .ref tr, .int 12, .int 0])), (tr, .inl (kt, 64, .inl q5))]) [1, 2] rfl
  have hDc := hD.sub (ws' := [(t0, .inr (0, [.int 65540, .ref tr, .int 12, .int 0])), (tr, .inl (kt, 64, .inl q5))]) [1, 2] (by decide) rfl
  have hKc := hK.sub (tys' := [(kt, .byte)]) [0] rfl
  have hFc := va_free (wc := [(t0, .inr (0, [.int 65540, .ref tr, .int 12, .int 0])), (tr, .inl (kt, 64, .inl q5))]) hD hS hA [1, 2] rfl
  refine va_callv (va_runV (As := [.int p3]) (rest := []) ⟨hx, hb, hml, hown, hkw⟩ (c_By_four_12 l dC dI H.size t0 tr kt q5 p3) (callVv 1 hkw (kwI m_106) rfl rfl rfl (hkw _ m_9) (hkw _ m_107) (hkw _ m_108) (hkw _ m_109) (by decide +kernel) ⟨Nat.le_of_ble_eq_true rfl, Nat.le_of_ble_eq_true rfl⟩) ⟨fbW, va_recv hK hP (ci := 0) (q0 := 1) rfl rfl, pW_in hPc hKc hDc hfx⟩ rfl rfl hl.1 rfl (lv_room (Nat.le_of_ble_eq_true rfl)) dX12_feed_44 ⟨Nat.le_of_ble_eq_true rfl, Nat.le_of_ble_eq_true rfl⟩) hS (fun q _ h => hFc q h) hFc (fun u t H1 locs ht hvm hw hB hz1 hk1 hS => ?_)
  obtain ⟨q7, rfl⟩ : ∃ z, z = u := ⟨_, rfl⟩
  obtain ⟨hP1, hK1, hD1⟩ := hB
  rw [ht] at hP1
  have hK1 := va_K.moved hvm.symm hK1
  obtain ⟨hP, hD⟩ := va_join (wr := [(h0, .inr (9, [.ref t0, .ref xm1, .ref a0, .ref w0, .ref k0, .ref e0, .ref xm2, .ref xm3, .ref xm4, .ref xm5, .ref j0, .ref j1, .ref j2, .int 0, .int 0, .int 0, .int (-1), .int 1]))]) (w1 := [(t0, .inr (0, [.int 65540, .ref tr, .int 16, .int 0])), (tr, .inl (kt, 64, .inl q7))]) hP hD [1, 2] [0] rfl rfl (by decide) (by decide) hk1 hFc hP1 hD1
  have hK := (hK.sub (tys' := []) [] rfl).app hK1
  generalize H1 = H at hP hS ⊢
  have hP : va_P (dC, dI) classes [(h0, .inr (9, [.ref t0, .ref xm1, .ref a0, .ref w0, .ref k0, .ref e0, .ref xm2, .ref xm3, .ref xm4, .ref xm5, .ref j0, .ref j1, .ref j2, .int 0, .int 0, .int 0, .int (-1), .int 1])), (t0, .inr (0, [.int 65540, .ref tr, .int 16, .int 0])), (tr, .inl (kt, 64, .inl q7))] H := hP
  have hD : va_D A [(h0, .inr (9, [.ref t0, .ref xm1, .ref a0, .ref w0, .ref k0, .ref e0, .ref xm2, .ref xm3, .ref xm4, .ref xm5, .ref j0, .ref j1, .ref j2, .int 0, .int 0, .int 0, .int (-1), .int 1])), (t0, .inr (0, [.int 65540, .ref tr, .int 16, .int 0])), (tr, .inl (kt, 64, .inl q7))] := hD
  have hK : va_K (dC, dI) classes [(kt, .byte)] s := hK
  have hw8 := hw
  try dsimp only at hw8
  refine lv_aload_n hx hb dX12_feed_47 rfl (lv_at hl 0 rfl) ?_
  refine va_get (D := (dC, dI)) (ci := 9) (v := .ref t0) (C := RX12) (T := TX12) (N := 18) hx hb hkw kin_X12 hown hK hP 0 rfl rfl 0 (by decide) (hkw _ m_103) (fun _ h9 => h9) rfl dX12_feed_48 ?_
  refine lv_iload hx hb dX12_feed_51 (lv_at hl 5 rfl) ?_
  have hPc := hP.sub (ws' := [(t0, .inr (0, [.int 65540, .ref tr, .int 16, .int 0])), (tr, .inl (kt, 64, .inl q7))]) [1, 2] rfl
  have hDc := hD.sub (ws' := [(t0, .inr (0, [.int 65540, .ref tr, .int 16, .int 0])), (tr, .inl (kt, 64, .inl q7))]) [1, 2] (by decide) rfl
  have hKc := hK.sub (tys' := [(kt, .byte)]) [0] rfl
  have hFc := va_free (wc := [(t0, .inr (0, [.int 65540, .ref tr, .int 16, .int 0])), (tr, .inl (kt, 64, .inl q7))]) hD hS hA [1, 2] rfl
  refine va_callv (va_runV (As := [.int p4]) (rest := []) ⟨hx, hb, hml, hown, hkw⟩ (c_By_four_16 l dC dI H.size t0 tr kt q7 p4) (callVv 1 hkw (kwI m_106) rfl rfl rfl (hkw _ m_9) (hkw _ m_107) (hkw _ m_108) (hkw _ m_109) (by decide +kernel) ⟨Nat.le_of_ble_eq_true rfl, Nat.le_of_ble_eq_true rfl⟩) ⟨fbW, va_recv hK hP (ci := 0) (q0 := 1) rfl rfl, pW_in hPc hKc hDc hfx⟩ rfl rfl hl.1 rfl (lv_room (Nat.le_of_ble_eq_true rfl)) dX12_feed_53 ⟨Nat.le_of_ble_eq_true rfl, Nat.le_of_ble_eq_true rfl⟩) hS (fun q _ h => hFc q h) hFc (fun u t H1 locs ht hvm hw hB hz1 hk1 hS => ?_)
  obtain ⟨q9, rfl⟩ : ∃ z, z = u := ⟨_, rfl⟩
  obtain ⟨hP1, hK1, hD1⟩ := hB
  rw [ht] at hP1
  have hK1 := va_K.moved hvm.symm hK1
  obtain ⟨hP, hD⟩ := va_join (wr := [(h0, .inr (9, [.ref t0, .ref xm1, .ref a0, .ref w0, .ref k0, .ref e0, .ref xm2, .ref xm3, .ref xm4, .ref xm5, .ref j0, .ref j1, .ref j2, .int 0, .int 0, .int 0, .int (-1), .int 1]))]) (w1 := [(t0, .inr (0, [.int 65540, .ref tr, .int 20, .int 0])), (tr, .inl (kt, 64, .inl q9))]) hP hD [1, 2] [0] rfl rfl (by decide) (by decide) hk1 hFc hP1 hD1
  have hK := (hK.sub (tys' := []) [] rfl).app hK1
  generalize H1 = H at hP hS ⊢
  have hP : va_P (dC, dI) classes [(h0, .inr (9, [.ref t0, .ref xm1, .ref a0, .ref w0, .ref k0, .ref e0, .ref xm2, .ref xm3, .ref xm4, .ref xm5, .ref j0, .ref j1, .ref j2, .int 0, .int 0, .int 0, .int (-1), .int 1])), (t0, .inr (0, [.int 65540, .ref tr, .int 20, .int 0])), (tr, .inl (kt, 64, .inl q9))] H := hP
  have hD : va_D A [(h0, .inr (9, [.ref t0, .ref xm1, .ref a0, .ref w0, .ref k0, .ref e0, .ref xm2, .ref xm3, .ref xm4, .ref xm5, .ref j0, .ref j1, .ref j2, .int 0, .int 0, .int 0, .int (-1), .int 1])), (t0, .inr (0, [.int 65540, .ref tr, .int 20, .int 0])), (tr, .inl (kt, 64, .inl q9))] := hD
  have hK : va_K (dC, dI) classes [(kt, .byte)] s := hK
  have hw10 := hw
  try dsimp only at hw10
  refine lv_iconst (v := 1) hx hb dX12_feed_56 (by decide) ?_
  have hP9 := hP.sub (ws' := []) [] rfl
  have hD9 := hD.sub (ws' := []) [] (by decide) rfl
  have hK9 := hK.sub (tys' := []) [] rfl
  refine W.widen (k := 0) (n := 0) (Nat.le_of_ble_eq_true rfl) (Nat.le_of_ble_eq_true rfl) ?_
  exact W.zret (v := 1) (ty := .boolean) hx hb hr rfl (fun t ht hW => ⟨⟨1, (), rfl, rfl, by rw [ht]; exact hP9, va_K.moved hW.alike hK9, hD9⟩, hS.F ht⟩) hS.2.2 dX12_feed_57

set_option maxHeartbeats 4000000 in
set_option maxRecDepth 100000 in
/-- end_0, fresh -/
theorem c_KS_end_0 (l : Launch) (dC : Nat → ClassId) (dI : Nat → Nat → Nat) (sz : Nat) (h0 : Nat) (t0 : Nat) (xm1 : Nat) (a0 : Nat) (w0 : Nat) (k0 : Nat) (e0 : Nat) (xm2 : Nat) (xm3 : Nat) (xm4 : Nat) (xm5 : Nat) (j0 : Nat) (j1 : Nat) (j2 : Nat) (tr : Nat) : Met l yX12_end wX12_end ({ frames := 1, cells := 0, slots := 0, locals := 21 }) (va_Pc [.ref h0, .int 0] (pW (dC, dI) [(h0, .inr (9, [.ref t0, .ref xm1, .ref a0, .ref w0, .ref k0, .ref e0, .ref xm2, .ref xm3, .ref xm4, .ref xm5, .ref j0, .ref j1, .ref j2, .int 0, .int 0, .int 0, .int (-1), .int 1])), (t0, .inr (0, [.int 65540, .ref tr, .int 0, .int 0]))] [] sz)) (va_Qi (fun (r : Int32) (_u : Unit) => r = 1) (fun (_u : Unit) (t : State) => bW (dC, dI) [] [] (va_A [(h0, .inr (9, [.ref t0, .ref xm1, .ref a0, .ref w0, .ref k0, .ref e0, .ref xm2, .ref xm3, .ref xm4, .ref xm5, .ref j0, .ref j1, .ref j2, .int 0, .int 0, .int 0, .int (-1), .int 1])), (t0, .inr (0, [.int 65540, .ref tr, .int 0, .int 0]))] sz) t) (va_A [(h0, .inr (9, [.ref t0, .ref xm1, .ref a0, .ref w0, .ref k0, .ref e0, .ref xm2, .ref xm3, .ref xm4, .ref xm5, .ref j0, .ref j1, .ref j2, .int 0, .int 0, .int 0, .int (-1), .int 1])), (t0, .inr (0, [.int 65540, .ref tr, .int 0, .int 0]))] sz)) 0 0 (va_A [(h0, .inr (9, [.ref t0, .ref xm1, .ref a0, .ref w0, .ref k0, .ref e0, .ref xm2, .ref xm3, .ref xm4, .ref xm5, .ref j0, .ref j1, .ref j2, .int 0, .int 0, .int 0, .int (-1), .int 1])), (t0, .inr (0, [.int 65540, .ref tr, .int 0, .int 0]))] sz) := by
  refine Met.ofW (cc := cX12_end) (maxL := 2) (ret := (some .boolean)) (by decide) rfl ?_
  intro p e s m args below meth c s₁ B hml hv
  obtain ⟨rfl, hsz, hP, hK, hD0, hfx⟩ := hv
  have hx := B.exec
  have hb := B.bytes
  have hr := B.returns
  have hts := atoms_spec (ws := wX12_end) B.pre
  have hkw : ∀ w ∈ kw, w.before _ s = true := fun w h => hts w (List.mem_cons_of_mem _ h)
  have hown : s.vm.findClass RX12 = some m.cls := findClass_of_methodNamed B.named
  have hlocks := B.notSynchronized
  subst hsz
  have hD := hD0.self (sz := s.heap.size)
  generalize hAe : va_A [(h0, .inr (9, [.ref t0, .ref xm1, .ref a0, .ref w0, .ref k0, .ref e0, .ref xm2, .ref xm3, .ref xm4, .ref xm5, .ref j0, .ref j1, .ref j2, .int 0, .int 0, .int 0, .int (-1), .int 1])), (t0, .inr (0, [.int 65540, .ref tr, .int 0, .int 0]))] s.heap.size = A at hD ⊢
  have hA : ∀ q : Nat, s.heap.size ≤ q → A q := fun q h => by rw [← hAe]; exact Or.inr h
  have hS : va_S A s.heap s.heap [] := va_S.rf
  have hP : va_P (dC, dI) classes [(h0, .inr (9, [.ref t0, .ref xm1, .ref a0, .ref w0, .ref k0, .ref e0, .ref xm2, .ref xm3, .ref xm4, .ref xm5, .ref j0, .ref j1, .ref j2, .int 0, .int 0, .int 0, .int (-1), .int 1])), (t0, .inr (0, [.int 65540, .ref tr, .int 0, .int 0]))] s.heap := hP
  have hl := lv_entry ([.ref h0, .int 0]) (n := 2) (Nat.le_of_ble_eq_true rfl)
  rw [lg_entry_eq]
  generalize (lg_sl ([.ref h0, .int 0]) ++ List.replicate (2 - (lg_sl ([.ref h0, .int 0])).length) Slot.unset).toArray = ls at hl ⊢
  have hl : lv_has ls 2 [(0, .ref h0), (1, .int 0)] := hl
  refine lv_iload_n hx hb dX12_end_0 rfl (lv_at hl 1 rfl) ?_
  refine lv_if_lt (tgt := 15) hx hb dX12_end_1 (by decide) (fun c_1_0 => absurd c_1_0 (by decide)) (fun c_1_0 => ?_)
  refine lv_iload_n hx hb dX12_end_4 rfl (lv_at hl 1 rfl) ?_
  refine lv_aload_n hx hb dX12_end_5 rfl (lv_at hl 0 rfl) ?_
  refine va_get (D := (dC, dI)) (ci := 9) (v := .ref t0) (C := RX12) (T := TX12) (N := 18) hx hb hkw kin_X12 hown hK hP 0 rfl rfl 0 (by decide) (hkw _ m_103) (fun _ h9 => h9) rfl dX12_end_6 ?_
  refine va_get (D := (dC, dI)) (ci := 0) (v := .int 0) (C := RX1) (T := TX1) (N := 4) hx hb hkw kin_X1 hown hK hP 1 rfl rfl 2 (by decide) (hkw _ m_104) (fun _ h9 => h9) rfl dX12_end_9 ?_
  refine lv_icmp_le (tgt := 17) hx hb dX12_end_12 (by decide) (fun c_12_0 => ?_) (fun c_12_0 => absurd c_12_0 (by decide))
  refine lv_aload_n hx hb dX12_end_17 rfl (lv_at hl 0 rfl) ?_
  refine va_get (D := (dC, dI)) (ci := 9) (v := .ref t0) (C := RX12) (T := TX12) (N := 18) hx hb hkw kin_X12 hown hK hP 0 rfl rfl 0 (by decide) (hkw _ m_103) (fun _ h9 => h9) rfl dX12_end_18 ?_
  refine lv_iload_n hx hb dX12_end_21 rfl (lv_at hl 1 rfl) ?_
  have hPc := hP.sub (ws' := [(t0, .inr (0, [.int 65540, .ref tr, .int 0, .int 0]))]) [1] rfl
  have hDc := hD.sub (ws' := [(t0, .inr (0, [.int 65540, .ref tr, .int 0, .int 0]))]) [1] (by decide) rfl
  have hKc := hK.sub (tys' := []) [] rfl
  have hFc := va_free (wc := [(t0, .inr (0, [.int 65540, .ref tr, .int 0, .int 0]))]) hD hS hA [1] rfl
  refine va_callv (va_runV (As := [.int 0]) (rest := []) ⟨hx, hb, hml, hown, hkw⟩ (c_By_cut l dC dI s.heap.size t0 tr 65540 0) (callVv 1 hkw (kwI m_110) rfl rfl rfl (hkw _ m_9) (hkw _ m_111) (hkw _ m_112) (hkw _ m_113) (by decide +kernel) ⟨Nat.le_of_ble_eq_true rfl, Nat.le_of_ble_eq_true rfl⟩) ⟨fbW, va_recv hK hP (ci := 0) (q0 := 1) rfl rfl, pW_in hPc hKc hDc hfx⟩ rfl rfl hl.1 rfl (lv_room (Nat.le_of_ble_eq_true rfl)) dX12_end_22 ⟨Nat.le_of_ble_eq_true rfl, Nat.le_of_ble_eq_true rfl⟩) hS (fun q _ h => hFc q h) hFc (fun u t H1 locs ht hvm hw hB hz1 hk1 hS => ?_)
  obtain ⟨hP1, hK1, hD1⟩ := hB
  rw [ht] at hP1
  have hK1 := va_K.moved hvm.symm hK1
  obtain ⟨hP, hD⟩ := va_join (wr := [(h0, .inr (9, [.ref t0, .ref xm1, .ref a0, .ref w0, .ref k0, .ref e0, .ref xm2, .ref xm3, .ref xm4, .ref xm5, .ref j0, .ref j1, .ref j2, .int 0, .int 0, .int 0, .int (-1), .int 1]))]) (w1 := [(t0, .inr (0, [.int 65540, .ref tr, .int 0, .int 0]))]) hP hD [1] [0] rfl rfl (by decide) (by decide) hk1 hFc hP1 hD1
  have hK := (hK.sub (tys' := []) [] rfl).app hK1
  generalize H1 = H at hP hS ⊢
  have hP : va_P (dC, dI) classes [(h0, .inr (9, [.ref t0, .ref xm1, .ref a0, .ref w0, .ref k0, .ref e0, .ref xm2, .ref xm3, .ref xm4, .ref xm5, .ref j0, .ref j1, .ref j2, .int 0, .int 0, .int 0, .int (-1), .int 1])), (t0, .inr (0, [.int 65540, .ref tr, .int 0, .int 0]))] H := hP
  have hD : va_D A [(h0, .inr (9, [.ref t0, .ref xm1, .ref a0, .ref w0, .ref k0, .ref e0, .ref xm2, .ref xm3, .ref xm4, .ref xm5, .ref j0, .ref j1, .ref j2, .int 0, .int 0, .int 0, .int (-1), .int 1])), (t0, .inr (0, [.int 65540, .ref tr, .int 0, .int 0]))] := hD
  have hK : va_K (dC, dI) classes [] s := hK
  have hw1 := hw
  try dsimp only at hw1
  refine lv_iconst (v := 1) hx hb dX12_end_25 (by decide) ?_
  have hP9 := hP.sub (ws' := []) [] rfl
  have hD9 := hD.sub (ws' := []) [] (by decide) rfl
  have hK9 := hK.sub (tys' := []) [] rfl
  refine W.widen (k := 0) (n := 0) (Nat.le_of_ble_eq_true rfl) (Nat.le_of_ble_eq_true rfl) ?_
  exact W.zret (v := 1) (ty := .boolean) hx hb hr rfl (fun t ht hW => ⟨⟨1, (), rfl, rfl, by rw [ht]; exact hP9, va_K.moved hW.alike hK9, hD9⟩, hS.F ht⟩) hS.2.2 dX12_end_26

set_option maxHeartbeats 4000000 in
set_option maxRecDepth 100000 in
/-- end_out, fresh -/
theorem c_KS_end_out (l : Launch) (dC : Nat → ClassId) (dI : Nat → Nat → Nat) (sz : Nat) (h0 : Nat) (t0 : Nat) (xm1 : Nat) (a0 : Nat) (w0 : Nat) (k0 : Nat) (e0 : Nat) (xm2 : Nat) (xm3 : Nat) (xm4 : Nat) (xm5 : Nat) (j0 : Nat) (j1 : Nat) (j2 : Nat) (tr : Nat) (p0 : Int32) (ho : p0 < 0 ∨ 0 < p0) : Met l yX12_end wX12_end ({ frames := 0, cells := 0, slots := 0, locals := 0 }) (va_Pc [.ref h0, .int p0] (pW (dC, dI) [(h0, .inr (9, [.ref t0, .ref xm1, .ref a0, .ref w0, .ref k0, .ref e0, .ref xm2, .ref xm3, .ref xm4, .ref xm5, .ref j0, .ref j1, .ref j2, .int 0, .int 0, .int 0, .int (-1), .int 1])), (t0, .inr (0, [.int 65540, .ref tr, .int 0, .int 0]))] [] sz)) (va_Qi (fun (r : Int32) (_u : Unit) => r = 0) (fun (_u : Unit) (t : State) => bW (dC, dI) [] [] (va_A [(h0, .inr (9, [.ref t0, .ref xm1, .ref a0, .ref w0, .ref k0, .ref e0, .ref xm2, .ref xm3, .ref xm4, .ref xm5, .ref j0, .ref j1, .ref j2, .int 0, .int 0, .int 0, .int (-1), .int 1])), (t0, .inr (0, [.int 65540, .ref tr, .int 0, .int 0]))] sz) t) (va_A [(h0, .inr (9, [.ref t0, .ref xm1, .ref a0, .ref w0, .ref k0, .ref e0, .ref xm2, .ref xm3, .ref xm4, .ref xm5, .ref j0, .ref j1, .ref j2, .int 0, .int 0, .int 0, .int (-1), .int 1])), (t0, .inr (0, [.int 65540, .ref tr, .int 0, .int 0]))] sz)) 0 0 (va_A [(h0, .inr (9, [.ref t0, .ref xm1, .ref a0, .ref w0, .ref k0, .ref e0, .ref xm2, .ref xm3, .ref xm4, .ref xm5, .ref j0, .ref j1, .ref j2, .int 0, .int 0, .int 0, .int (-1), .int 1])), (t0, .inr (0, [.int 65540, .ref tr, .int 0, .int 0]))] sz) := by
  refine Met.ofW (cc := cX12_end) (maxL := 2) (ret := (some .boolean)) (by decide) rfl ?_
  intro p e s m args below meth c s₁ B hml hv
  obtain ⟨rfl, hsz, hP, hK, hD0, hfx⟩ := hv
  have hx := B.exec
  have hb := B.bytes
  have hr := B.returns
  have hts := atoms_spec (ws := wX12_end) B.pre
  have hkw : ∀ w ∈ kw, w.before _ s = true := fun w h => hts w (List.mem_cons_of_mem _ h)
  have hown : s.vm.findClass RX12 = some m.cls := findClass_of_methodNamed B.named
  have hlocks := B.notSynchronized
  subst hsz
  have hD := hD0.self (sz := s.heap.size)
  generalize hAe : va_A [(h0, .inr (9, [.ref t0, .ref xm1, .ref a0, .ref w0, .ref k0, .ref e0, .ref xm2, .ref xm3, .ref xm4, .ref xm5, .ref j0, .ref j1, .ref j2, .int 0, .int 0, .int 0, .int (-1), .int 1])), (t0, .inr (0, [.int 65540, .ref tr, .int 0, .int 0]))] s.heap.size = A at hD ⊢
  have hA : ∀ q : Nat, s.heap.size ≤ q → A q := fun q h => by rw [← hAe]; exact Or.inr h
  have hS : va_S A s.heap s.heap [] := va_S.rf
  have hP : va_P (dC, dI) classes [(h0, .inr (9, [.ref t0, .ref xm1, .ref a0, .ref w0, .ref k0, .ref e0, .ref xm2, .ref xm3, .ref xm4, .ref xm5, .ref j0, .ref j1, .ref j2, .int 0, .int 0, .int 0, .int (-1), .int 1])), (t0, .inr (0, [.int 65540, .ref tr, .int 0, .int 0]))] s.heap := hP
  have hl := lv_entry ([.ref h0, .int p0]) (n := 2) (Nat.le_of_ble_eq_true rfl)
  rw [lg_entry_eq]
  generalize (lg_sl ([.ref h0, .int p0]) ++ List.replicate (2 - (lg_sl ([.ref h0, .int p0])).length) Slot.unset).toArray = ls at hl ⊢
  have hl : lv_has ls 2 [(0, .ref h0), (1, .int p0)] := hl
  refine lv_iload_n hx hb dX12_end_0 rfl (lv_at hl 1 rfl) ?_
  refine lv_if_lt (tgt := 15) hx hb dX12_end_1 (by decide) (fun c_1_0 => ?_) (fun c_1_0 => ?_)
  · refine lv_iconst (v := 0) hx hb dX12_end_15 (by decide) ?_
    have hP9 := hP.sub (ws' := []) [] rfl
    have hD9 := hD.sub (ws' := []) [] (by decide) rfl
    have hK9 := hK.sub (tys' := []) [] rfl
    refine W.widen (k := 0) (n := 0) (Nat.le_of_ble_eq_true rfl) (Nat.le_of_ble_eq_true rfl) ?_
    exact W.zret (v := 0) (ty := .boolean) hx hb hr rfl (fun t ht hW => ⟨⟨0, (), rfl, rfl, by rw [ht]; exact hP9, va_K.moved hW.alike hK9, hD9⟩, hS.F ht⟩) hS.2.2 dX12_end_16
  · refine lv_iload_n hx hb dX12_end_4 rfl (lv_at hl 1 rfl) ?_
    refine lv_aload_n hx hb dX12_end_5 rfl (lv_at hl 0 rfl) ?_
    refine va_get (D := (dC, dI)) (ci := 9) (v := .ref t0) (C := RX12) (T := TX12) (N := 18) hx hb hkw kin_X12 hown hK hP 0 rfl rfl 0 (by decide) (hkw _ m_103) (fun _ h9 => h9) rfl dX12_end_6 ?_
    refine va_get (D := (dC, dI)) (ci := 0) (v := .int 0) (C := RX1) (T := TX1) (N := 4) hx hb hkw kin_X1 hown hK hP 1 rfl rfl 2 (by decide) (hkw _ m_104) (fun _ h9 => h9) rfl dX12_end_9 ?_
    refine lv_icmp_le (tgt := 17) hx hb dX12_end_12 (by decide) (fun c_12_0 => absurd c_12_0 (dead_le ho c_1_0)) (fun c_12_0 => ?_)
    refine lv_iconst (v := 0) hx hb dX12_end_15 (by decide) ?_
    have hP9 := hP.sub (ws' := []) [] rfl
    have hD9 := hD.sub (ws' := []) [] (by decide) rfl
    have hK9 := hK.sub (tys' := []) [] rfl
    refine W.widen (k := 0) (n := 0) (Nat.le_of_ble_eq_true rfl) (Nat.le_of_ble_eq_true rfl) ?_
    exact W.zret (v := 0) (ty := .boolean) hx hb hr rfl (fun t ht hW => ⟨⟨0, (), rfl, rfl, by rw [ht]; exact hP9, va_K.moved hW.alike hK9, hD9⟩, hS.F ht⟩) hS.2.2 dX12_end_16

set_option maxHeartbeats 4000000 in
set_option maxRecDepth 100000 in
/-- isOpen_0, fresh -/
theorem c_KS_isOpen_0 (l : Launch) (dC : Nat → ClassId) (dI : Nat → Nat → Nat) (sz : Nat) (h0 : Nat) (t0 : Nat) (xm1 : Nat) (a0 : Nat) (w0 : Nat) (k0 : Nat) (e0 : Nat) (xm2 : Nat) (xm3 : Nat) (xm4 : Nat) (xm5 : Nat) (j0 : Nat) (j1 : Nat) (j2 : Nat) (ka : ClassId) (fa : Nat → Option Nat) (c0 : Nat) (i0 : Nat) (o0 : Nat) (b0 : Nat) (y0 : Nat) (z0 : Nat) (hc0 : fa 0 = some c0) : Met l yX12_isOpen wX12_isOpen ({ frames := 1, cells := 0, slots := 0, locals := 21 }) (va_Pc [.ref h0, .int 0] (pW (dC, dI) [(h0, .inr (9, [.ref t0, .ref xm1, .ref a0, .ref w0, .ref k0, .ref e0, .ref xm2, .ref xm3, .ref xm4, .ref xm5, .ref j0, .ref j1, .ref j2, .int 0, .int 0, .int 0, .int (-1), .int 1])), (a0, .inl (ka, 4, .inr (.inr (.inr (.inr fa))))), (c0, .inr (1, [.int 1, .ref i0, .ref o0, .ref b0, .int 0, .int 0, .int 0, .int 0, .ref y0, .int 0, .ref z0, .int 0]))] [(ka, .object "KeySteward$Connection")] sz)) (va_Qi (fun (r : Int32) (_u : Unit) => r = 1) (fun (_u : Unit) (t : State) => bW (dC, dI) [] [] (va_A [(h0, .inr (9, [.ref t0, .ref xm1, .ref a0, .ref w0, .ref k0, .ref e0, .ref xm2, .ref xm3, .ref xm4, .ref xm5, .ref j0, .ref j1, .ref j2, .int 0, .int 0, .int 0, .int (-1), .int 1])), (a0, .inl (ka, 4, .inr (.inr (.inr (.inr fa))))), (c0, .inr (1, [.int 1, .ref i0, .ref o0, .ref b0, .int 0, .int 0, .int 0, .int 0, .ref y0, .int 0, .ref z0, .int 0]))] sz) t) (va_A [(h0, .inr (9, [.ref t0, .ref xm1, .ref a0, .ref w0, .ref k0, .ref e0, .ref xm2, .ref xm3, .ref xm4, .ref xm5, .ref j0, .ref j1, .ref j2, .int 0, .int 0, .int 0, .int (-1), .int 1])), (a0, .inl (ka, 4, .inr (.inr (.inr (.inr fa))))), (c0, .inr (1, [.int 1, .ref i0, .ref o0, .ref b0, .int 0, .int 0, .int 0, .int 0, .ref y0, .int 0, .ref z0, .int 0]))] sz)) 0 0 (va_A [(h0, .inr (9, [.ref t0, .ref xm1, .ref a0, .ref w0, .ref k0, .ref e0, .ref xm2, .ref xm3, .ref xm4, .ref xm5, .ref j0, .ref j1, .ref j2, .int 0, .int 0, .int 0, .int (-1), .int 1])), (a0, .inl (ka, 4, .inr (.inr (.inr (.inr fa))))), (c0, .inr (1, [.int 1, .ref i0, .ref o0, .ref b0, .int 0, .int 0, .int 0, .int 0, .ref y0, .int 0, .ref z0, .int 0]))] sz) := by
  refine Met.ofW (cc := cX12_isOpen) (maxL := 3) (ret := (some .boolean)) (by decide) rfl ?_
  intro p e s m args below meth c s₁ B hml hv
  obtain ⟨rfl, hsz, hP, hK, hD0, hfx⟩ := hv
  have hx := B.exec
  have hb := B.bytes
  have hr := B.returns
  have hts := atoms_spec (ws := wX12_isOpen) B.pre
  have hkw : ∀ w ∈ kw, w.before _ s = true := fun w h => hts w (List.mem_cons_of_mem _ h)
  have hown : s.vm.findClass RX12 = some m.cls := findClass_of_methodNamed B.named
  have hlocks := B.notSynchronized
  subst hsz
  have hD := hD0.self (sz := s.heap.size)
  generalize hAe : va_A [(h0, .inr (9, [.ref t0, .ref xm1, .ref a0, .ref w0, .ref k0, .ref e0, .ref xm2, .ref xm3, .ref xm4, .ref xm5, .ref j0, .ref j1, .ref j2, .int 0, .int 0, .int 0, .int (-1), .int 1])), (a0, .inl (ka, 4, .inr (.inr (.inr (.inr fa))))), (c0, .inr (1, [.int 1, .ref i0, .ref o0, .ref b0, .int 0, .int 0, .int 0, .int 0, .ref y0, .int 0, .ref z0, .int 0]))] s.heap.size = A at hD ⊢
  have hA : ∀ q : Nat, s.heap.size ≤ q → A q := fun q h => by rw [← hAe]; exact Or.inr h
  have hS : va_S A s.heap s.heap [] := va_S.rf
  have hP : va_P (dC, dI) classes [(h0, .inr (9, [.ref t0, .ref xm1, .ref a0, .ref w0, .ref k0, .ref e0, .ref xm2, .ref xm3, .ref xm4, .ref xm5, .ref j0, .ref j1, .ref j2, .int 0, .int 0, .int 0, .int (-1), .int 1])), (a0, .inl (ka, 4, .inr (.inr (.inr (.inr fa))))), (c0, .inr (1, [.int 1, .ref i0, .ref o0, .ref b0, .int 0, .int 0, .int 0, .int 0, .ref y0, .int 0, .ref z0, .int 0]))] s.heap := hP
  have hl := lv_entry ([.ref h0, .int 0]) (n := 3) (Nat.le_of_ble_eq_true rfl)
  rw [lg_entry_eq]
  generalize (lg_sl ([.ref h0, .int 0]) ++ List.replicate (3 - (lg_sl ([.ref h0, .int 0])).length) Slot.unset).toArray = ls at hl ⊢
  have hl : lv_has ls 3 [(0, .ref h0), (1, .int 0)] := hl
  refine lv_aload_n hx hb dX12_isOpen_0 rfl (lv_at hl 0 rfl) ?_
  refine lv_iload_n hx hb dX12_isOpen_1 rfl (lv_at hl 1 rfl) ?_
  have hPc := hP.sub (ws' := [(h0, .inr (9, [.ref t0, .ref xm1, .ref a0, .ref w0, .ref k0, .ref e0, .ref xm2, .ref xm3, .ref xm4, .ref xm5, .ref j0, .ref j1, .ref j2, .int 0, .int 0, .int 0, .int (-1), .int 1])), (a0, .inl (ka, 4, .inr (.inr (.inr (.inr fa)))))]) [0, 1] rfl
  have hDc := hD.sub (ws' := [(h0, .inr (9, [.ref t0, .ref xm1, .ref a0, .ref w0, .ref k0, .ref e0, .ref xm2, .ref xm3, .ref xm4, .ref xm5, .ref j0, .ref j1, .ref j2, .int 0, .int 0, .int 0, .int (-1), .int 1])), (a0, .inl (ka, 4, .inr (.inr (.inr (.inr fa)))))]) [0, 1] (by decide) rfl
  have hKc := hK.sub (tys' := [(ka, .object "KeySteward$Connection")]) [0] rfl
  have hFc := va_free (wc := [(h0, .inr (9, [.ref t0, .ref xm1, .ref a0, .ref w0, .ref k0, .ref e0, .ref xm2, .ref xm3, .ref xm4, .ref xm5, .ref j0, .ref j1, .ref j2, .int 0, .int 0, .int 0, .int (-1), .int 1])), (a0, .inl (ka, 4, .inr (.inr (.inr (.inr fa)))))]) hD hS hA [0, 1] rfl
  refine va_callq (va_runV (As := [.int 0]) (rest := []) ⟨hx, hb, hml, hown, hkw⟩ (c_KS_coOf_0 l dC dI s.heap.size h0 t0 xm1 a0 w0 k0 e0 xm2 xm3 xm4 xm5 j0 j1 j2 ka fa c0 hc0) (callVv 1 hkw (kwI m_121) rfl rfl rfl (hkw _ m_122) (hkw _ m_123) (hkw _ m_124) (hkw _ m_125) (by decide +kernel) ⟨Nat.le_of_ble_eq_true rfl, Nat.le_of_ble_eq_true rfl⟩) ⟨fbW, va_recv hK hP (ci := 9) (q0 := 0) rfl rfl, pW_in hPc hKc hDc hfx⟩ rfl rfl hl.1 rfl (lv_room (Nat.le_of_ble_eq_true rfl)) dX12_isOpen_2 ⟨Nat.le_of_ble_eq_true rfl, Nat.le_of_ble_eq_true rfl⟩) hS (fun q _ h => hFc q h) hFc (fun r1 u t H1 locs ht hvm hw hB hz1 hk1 hS => ?_)
  obtain ⟨hP1, hK1, hD1⟩ := hB
  rw [ht] at hP1
  have hK1 := va_K.moved hvm.symm hK1
  obtain ⟨hP, hD⟩ := va_join (wr := [(c0, .inr (1, [.int 1, .ref i0, .ref o0, .ref b0, .int 0, .int 0, .int 0, .int 0, .ref y0, .int 0, .ref z0, .int 0]))]) (w1 := [(h0, .inr (9, [.ref t0, .ref xm1, .ref a0, .ref w0, .ref k0, .ref e0, .ref xm2, .ref xm3, .ref xm4, .ref xm5, .ref j0, .ref j1, .ref j2, .int 0, .int 0, .int 0, .int (-1), .int 1])), (a0, .inl (ka, 4, .inr (.inr (.inr (.inr fa)))))]) hP hD [0, 1] [2] rfl rfl (by decide) (by decide) hk1 hFc hP1 hD1
  have hK := (hK.sub (tys' := []) [] rfl).app hK1
  generalize H1 = H at hP hS ⊢
  have hP : va_P (dC, dI) classes [(c0, .inr (1, [.int 1, .ref i0, .ref o0, .ref b0, .int 0, .int 0, .int 0, .int 0, .ref y0, .int 0, .ref z0, .int 0])), (h0, .inr (9, [.ref t0, .ref xm1, .ref a0, .ref w0, .ref k0, .ref e0, .ref xm2, .ref xm3, .ref xm4, .ref xm5, .ref j0, .ref j1, .ref j2, .int 0, .int 0, .int 0, .int (-1), .int 1])), (a0, .inl (ka, 4, .inr (.inr (.inr (.inr fa)))))] H := hP
  have hD : va_D A [(c0, .inr (1, [.int 1, .ref i0, .ref o0, .ref b0, .int 0, .int 0, .int 0, .int 0, .ref y0, .int 0, .ref z0, .int 0])), (h0, .inr (9, [.ref t0, .ref xm1, .ref a0, .ref w0, .ref k0, .ref e0, .ref xm2, .ref xm3, .ref xm4, .ref xm5, .ref j0, .ref j1, .ref j2, .int 0, .int 0, .int 0, .int (-1), .int 1])), (a0, .inl (ka, 4, .inr (.inr (.inr (.inr fa)))))] := hD
  have hK : va_K (dC, dI) classes [(ka, .object "KeySteward$Connection")] s := hK
  have hw2 := hw
  try dsimp only at hw2
  subst hw2
  refine lv_astore_n (lv' := [(2, .ref c0), (0, .ref h0), (1, .int 0)]) hx hb dX12_isOpen_5 rfl hl (by decide) rfl (fun ls hl => ?_)
  refine lv_aload_n hx hb dX12_isOpen_6 rfl (lv_at hl 0 rfl) ?_
  refine lv_ifnull hx hb dX12_isOpen_7 ?_
  refine lv_aload_n hx hb dX12_isOpen_10 rfl (lv_at hl 0 rfl) ?_
  refine va_get (D := (dC, dI)) (ci := 1) (v := .int 1) (C := RX3) (T := TX3) (N := 12) hx hb hkw kin_X3 hown hK hP 0 rfl rfl 0 (by decide) (hkw _ m_114) (fun _ h9 => h9) rfl dX12_isOpen_11 ?_
  refine lv_if_eq (tgt := 21) hx hb dX12_isOpen_14 (by decide) (fun c_14_0 => absurd c_14_0 (by decide)) (fun c_14_0 => ?_)
  refine lv_iconst (v := 1) hx hb dX12_isOpen_17 (by decide) ?_
  refine lv_goto (tgt := 22) hx hb dX12_isOpen_18 (by decide) ?_
  have hP9 := hP.sub (ws' := []) [] rfl
  have hD9 := hD.sub (ws' := []) [] (by decide) rfl
  have hK9 := hK.sub (tys' := []) [] rfl
  refine W.widen (k := 0) (n := 0) (Nat.le_of_ble_eq_true rfl) (Nat.le_of_ble_eq_true rfl) ?_
  exact W.zret (v := 1) (ty := .boolean) hx hb hr rfl (fun t ht hW => ⟨⟨1, (), rfl, rfl, by rw [ht]; exact hP9, va_K.moved hW.alike hK9, hD9⟩, hS.F ht⟩) hS.2.2 dX12_isOpen_22

set_option maxHeartbeats 4000000 in
set_option maxRecDepth 100000 in
/-- out_0, fresh -/
theorem c_KS_out_0 (l : Launch) (dC : Nat → ClassId) (dI : Nat → Nat → Nat) (sz : Nat) (h0 : Nat) (t0 : Nat) (xm1 : Nat) (a0 : Nat) (w0 : Nat) (k0 : Nat) (e0 : Nat) (xm2 : Nat) (xm3 : Nat) (xm4 : Nat) (xm5 : Nat) (j0 : Nat) (j1 : Nat) (j2 : Nat) (ka : ClassId) (fa : Nat → Option Nat) (c0 : Nat) (i0 : Nat) (o0 : Nat) (b0 : Nat) (y0 : Nat) (z0 : Nat) (ro0 : Nat) (hc0 : fa 0 = some c0) : Met l yX12_out wX12_out ({ frames := 1, cells := 0, slots := 0, locals := 21 }) (va_Pc [.ref h0, .int 0] (pW (dC, dI) [(h0, .inr (9, [.ref t0, .ref xm1, .ref a0, .ref w0, .ref k0, .ref e0, .ref xm2, .ref xm3, .ref xm4, .ref xm5, .ref j0, .ref j1, .ref j2, .int 0, .int 0, .int 0, .int (-1), .int 1])), (a0, .inl (ka, 4, .inr (.inr (.inr (.inr fa))))), (c0, .inr (1, [.int 1, .ref i0, .ref o0, .ref b0, .int 0, .int 0, .int 0, .int 0, .ref y0, .int 0, .ref z0, .int 0])), (o0, .inr (0, [.int 65536, .ref ro0, .int 0, .int 0]))] [(ka, .object "KeySteward$Connection")] sz)) (va_Qi (fun (r : Int32) (_u : Unit) => r = 0) (fun (_u : Unit) (t : State) => bW (dC, dI) [] [] (va_A [(h0, .inr (9, [.ref t0, .ref xm1, .ref a0, .ref w0, .ref k0, .ref e0, .ref xm2, .ref xm3, .ref xm4, .ref xm5, .ref j0, .ref j1, .ref j2, .int 0, .int 0, .int 0, .int (-1), .int 1])), (a0, .inl (ka, 4, .inr (.inr (.inr (.inr fa))))), (c0, .inr (1, [.int 1, .ref i0, .ref o0, .ref b0, .int 0, .int 0, .int 0, .int 0, .ref y0, .int 0, .ref z0, .int 0])), (o0, .inr (0, [.int 65536, .ref ro0, .int 0, .int 0]))] sz) t) (va_A [(h0, .inr (9, [.ref t0, .ref xm1, .ref a0, .ref w0, .ref k0, .ref e0, .ref xm2, .ref xm3, .ref xm4, .ref xm5, .ref j0, .ref j1, .ref j2, .int 0, .int 0, .int 0, .int (-1), .int 1])), (a0, .inl (ka, 4, .inr (.inr (.inr (.inr fa))))), (c0, .inr (1, [.int 1, .ref i0, .ref o0, .ref b0, .int 0, .int 0, .int 0, .int 0, .ref y0, .int 0, .ref z0, .int 0])), (o0, .inr (0, [.int 65536, .ref ro0, .int 0, .int 0]))] sz)) 0 0 (va_A [(h0, .inr (9, [.ref t0, .ref xm1, .ref a0, .ref w0, .ref k0, .ref e0, .ref xm2, .ref xm3, .ref xm4, .ref xm5, .ref j0, .ref j1, .ref j2, .int 0, .int 0, .int 0, .int (-1), .int 1])), (a0, .inl (ka, 4, .inr (.inr (.inr (.inr fa))))), (c0, .inr (1, [.int 1, .ref i0, .ref o0, .ref b0, .int 0, .int 0, .int 0, .int 0, .ref y0, .int 0, .ref z0, .int 0])), (o0, .inr (0, [.int 65536, .ref ro0, .int 0, .int 0]))] sz) := by
  refine Met.ofW (cc := cX12_out) (maxL := 3) (ret := (some .int)) (by decide) rfl ?_
  intro p e s m args below meth c s₁ B hml hv
  obtain ⟨rfl, hsz, hP, hK, hD0, hfx⟩ := hv
  have hx := B.exec
  have hb := B.bytes
  have hr := B.returns
  have hts := atoms_spec (ws := wX12_out) B.pre
  have hkw : ∀ w ∈ kw, w.before _ s = true := fun w h => hts w (List.mem_cons_of_mem _ h)
  have hown : s.vm.findClass RX12 = some m.cls := findClass_of_methodNamed B.named
  have hlocks := B.notSynchronized
  subst hsz
  have hD := hD0.self (sz := s.heap.size)
  generalize hAe : va_A [(h0, .inr (9, [.ref t0, .ref xm1, .ref a0, .ref w0, .ref k0, .ref e0, .ref xm2, .ref xm3, .ref xm4, .ref xm5, .ref j0, .ref j1, .ref j2, .int 0, .int 0, .int 0, .int (-1), .int 1])), (a0, .inl (ka, 4, .inr (.inr (.inr (.inr fa))))), (c0, .inr (1, [.int 1, .ref i0, .ref o0, .ref b0, .int 0, .int 0, .int 0, .int 0, .ref y0, .int 0, .ref z0, .int 0])), (o0, .inr (0, [.int 65536, .ref ro0, .int 0, .int 0]))] s.heap.size = A at hD ⊢
  have hA : ∀ q : Nat, s.heap.size ≤ q → A q := fun q h => by rw [← hAe]; exact Or.inr h
  have hS : va_S A s.heap s.heap [] := va_S.rf
  have hP : va_P (dC, dI) classes [(h0, .inr (9, [.ref t0, .ref xm1, .ref a0, .ref w0, .ref k0, .ref e0, .ref xm2, .ref xm3, .ref xm4, .ref xm5, .ref j0, .ref j1, .ref j2, .int 0, .int 0, .int 0, .int (-1), .int 1])), (a0, .inl (ka, 4, .inr (.inr (.inr (.inr fa))))), (c0, .inr (1, [.int 1, .ref i0, .ref o0, .ref b0, .int 0, .int 0, .int 0, .int 0, .ref y0, .int 0, .ref z0, .int 0])), (o0, .inr (0, [.int 65536, .ref ro0, .int 0, .int 0]))] s.heap := hP
  have hl := lv_entry ([.ref h0, .int 0]) (n := 3) (Nat.le_of_ble_eq_true rfl)
  rw [lg_entry_eq]
  generalize (lg_sl ([.ref h0, .int 0]) ++ List.replicate (3 - (lg_sl ([.ref h0, .int 0])).length) Slot.unset).toArray = ls at hl ⊢
  have hl : lv_has ls 3 [(0, .ref h0), (1, .int 0)] := hl
  refine lv_aload_n hx hb dX12_out_0 rfl (lv_at hl 0 rfl) ?_
  refine lv_iload_n hx hb dX12_out_1 rfl (lv_at hl 1 rfl) ?_
  have hPc := hP.sub (ws' := [(h0, .inr (9, [.ref t0, .ref xm1, .ref a0, .ref w0, .ref k0, .ref e0, .ref xm2, .ref xm3, .ref xm4, .ref xm5, .ref j0, .ref j1, .ref j2, .int 0, .int 0, .int 0, .int (-1), .int 1])), (a0, .inl (ka, 4, .inr (.inr (.inr (.inr fa)))))]) [0, 1] rfl
  have hDc := hD.sub (ws' := [(h0, .inr (9, [.ref t0, .ref xm1, .ref a0, .ref w0, .ref k0, .ref e0, .ref xm2, .ref xm3, .ref xm4, .ref xm5, .ref j0, .ref j1, .ref j2, .int 0, .int 0, .int 0, .int (-1), .int 1])), (a0, .inl (ka, 4, .inr (.inr (.inr (.inr fa)))))]) [0, 1] (by decide) rfl
  have hKc := hK.sub (tys' := [(ka, .object "KeySteward$Connection")]) [0] rfl
  have hFc := va_free (wc := [(h0, .inr (9, [.ref t0, .ref xm1, .ref a0, .ref w0, .ref k0, .ref e0, .ref xm2, .ref xm3, .ref xm4, .ref xm5, .ref j0, .ref j1, .ref j2, .int 0, .int 0, .int 0, .int (-1), .int 1])), (a0, .inl (ka, 4, .inr (.inr (.inr (.inr fa)))))]) hD hS hA [0, 1] rfl
  refine va_callq (va_runV (As := [.int 0]) (rest := []) ⟨hx, hb, hml, hown, hkw⟩ (c_KS_coOf_0 l dC dI s.heap.size h0 t0 xm1 a0 w0 k0 e0 xm2 xm3 xm4 xm5 j0 j1 j2 ka fa c0 hc0) (callVv 1 hkw (kwI m_121) rfl rfl rfl (hkw _ m_122) (hkw _ m_123) (hkw _ m_124) (hkw _ m_125) (by decide +kernel) ⟨Nat.le_of_ble_eq_true rfl, Nat.le_of_ble_eq_true rfl⟩) ⟨fbW, va_recv hK hP (ci := 9) (q0 := 0) rfl rfl, pW_in hPc hKc hDc hfx⟩ rfl rfl hl.1 rfl (lv_room (Nat.le_of_ble_eq_true rfl)) dX12_out_2 ⟨Nat.le_of_ble_eq_true rfl, Nat.le_of_ble_eq_true rfl⟩) hS (fun q _ h => hFc q h) hFc (fun r1 u t H1 locs ht hvm hw hB hz1 hk1 hS => ?_)
  obtain ⟨hP1, hK1, hD1⟩ := hB
  rw [ht] at hP1
  have hK1 := va_K.moved hvm.symm hK1
  obtain ⟨hP, hD⟩ := va_join (wr := [(c0, .inr (1, [.int 1, .ref i0, .ref o0, .ref b0, .int 0, .int 0, .int 0, .int 0, .ref y0, .int 0, .ref z0, .int 0])), (o0, .inr (0, [.int 65536, .ref ro0, .int 0, .int 0]))]) (w1 := [(h0, .inr (9, [.ref t0, .ref xm1, .ref a0, .ref w0, .ref k0, .ref e0, .ref xm2, .ref xm3, .ref xm4, .ref xm5, .ref j0, .ref j1, .ref j2, .int 0, .int 0, .int 0, .int (-1), .int 1])), (a0, .inl (ka, 4, .inr (.inr (.inr (.inr fa)))))]) hP hD [0, 1] [2, 3] rfl rfl (by decide) (by decide) hk1 hFc hP1 hD1
  have hK := (hK.sub (tys' := []) [] rfl).app hK1
  generalize H1 = H at hP hS ⊢
  have hP : va_P (dC, dI) classes [(c0, .inr (1, [.int 1, .ref i0, .ref o0, .ref b0, .int 0, .int 0, .int 0, .int 0, .ref y0, .int 0, .ref z0, .int 0])), (o0, .inr (0, [.int 65536, .ref ro0, .int 0, .int 0])), (h0, .inr (9, [.ref t0, .ref xm1, .ref a0, .ref w0, .ref k0, .ref e0, .ref xm2, .ref xm3, .ref xm4, .ref xm5, .ref j0, .ref j1, .ref j2, .int 0, .int 0, .int 0, .int (-1), .int 1])), (a0, .inl (ka, 4, .inr (.inr (.inr (.inr fa)))))] H := hP
  have hD : va_D A [(c0, .inr (1, [.int 1, .ref i0, .ref o0, .ref b0, .int 0, .int 0, .int 0, .int 0, .ref y0, .int 0, .ref z0, .int 0])), (o0, .inr (0, [.int 65536, .ref ro0, .int 0, .int 0])), (h0, .inr (9, [.ref t0, .ref xm1, .ref a0, .ref w0, .ref k0, .ref e0, .ref xm2, .ref xm3, .ref xm4, .ref xm5, .ref j0, .ref j1, .ref j2, .int 0, .int 0, .int 0, .int (-1), .int 1])), (a0, .inl (ka, 4, .inr (.inr (.inr (.inr fa)))))] := hD
  have hK : va_K (dC, dI) classes [(ka, .object "KeySteward$Connection")] s := hK
  have hw2 := hw
  try dsimp only at hw2
  subst hw2
  refine lv_astore_n (lv' := [(2, .ref c0), (0, .ref h0), (1, .int 0)]) hx hb dX12_out_5 rfl hl (by decide) rfl (fun ls hl => ?_)
  refine lv_aload_n hx hb dX12_out_6 rfl (lv_at hl 0 rfl) ?_
  refine lv_ifnonnull (tgt := 14) hx hb dX12_out_7 (by decide) ?_
  refine lv_aload_n hx hb dX12_out_14 rfl (lv_at hl 0 rfl) ?_
  refine va_get (D := (dC, dI)) (ci := 1) (v := .ref o0) (C := RX3) (T := TX3) (N := 12) hx hb hkw kin_X3 hown hK hP 0 rfl rfl 2 (by decide) (hkw _ m_126) (fun _ h9 => h9) rfl dX12_out_15 ?_
  refine va_get (D := (dC, dI)) (ci := 0) (v := .int 0) (C := RX1) (T := TX1) (N := 4) hx hb hkw kin_X1 hown hK hP 1 rfl rfl 2 (by decide) (hkw _ m_104) (fun _ h9 => h9) rfl dX12_out_18 ?_
  have hP9 := hP.sub (ws' := []) [] rfl
  have hD9 := hD.sub (ws' := []) [] (by decide) rfl
  have hK9 := hK.sub (tys' := []) [] rfl
  refine W.widen (k := 0) (n := 0) (Nat.le_of_ble_eq_true rfl) (Nat.le_of_ble_eq_true rfl) ?_
  exact W.iret (v := 0) hx hb hr (fun t ht hW => ⟨⟨0, (), rfl, rfl, by rw [ht]; exact hP9, va_K.moved hW.alike hK9, hD9⟩, hS.F ht⟩) hS.2.2 dX12_out_21

set_option maxHeartbeats 4000000 in
set_option maxRecDepth 100000 in
/-- take_0_0, fresh -/
theorem c_KS_take_0_0 (l : Launch) (dC : Nat → ClassId) (dI : Nat → Nat → Nat) (sz : Nat) (h0 : Nat) (t0 : Nat) (xm1 : Nat) (a0 : Nat) (w0 : Nat) (k0 : Nat) (e0 : Nat) (xm2 : Nat) (xm3 : Nat) (xm4 : Nat) (xm5 : Nat) (j0 : Nat) (j1 : Nat) (j2 : Nat) (ka : ClassId) (fa : Nat → Option Nat) (c0 : Nat) (i0 : Nat) (o0 : Nat) (b0 : Nat) (y0 : Nat) (z0 : Nat) (ro0 : Nat) (hc0 : fa 0 = some c0) : Met l yX12_take wX12_take ({ frames := 1, cells := 0, slots := 0, locals := 22 }) (va_Pc [.ref h0, .int 0, .int 0] (pW (dC, dI) [(h0, .inr (9, [.ref t0, .ref xm1, .ref a0, .ref w0, .ref k0, .ref e0, .ref xm2, .ref xm3, .ref xm4, .ref xm5, .ref j0, .ref j1, .ref j2, .int 0, .int 0, .int 0, .int (-1), .int 1])), (a0, .inl (ka, 4, .inr (.inr (.inr (.inr fa))))), (c0, .inr (1, [.int 1, .ref i0, .ref o0, .ref b0, .int 0, .int 0, .int 0, .int 0, .ref y0, .int 0, .ref z0, .int 0])), (o0, .inr (0, [.int 65536, .ref ro0, .int 0, .int 0]))] [(ka, .object "KeySteward$Connection")] sz)) (va_Qi (fun (r : Int32) (_u : Unit) => r = 1) (fun (_u : Unit) (t : State) => bW (dC, dI) [] [] (va_A [(h0, .inr (9, [.ref t0, .ref xm1, .ref a0, .ref w0, .ref k0, .ref e0, .ref xm2, .ref xm3, .ref xm4, .ref xm5, .ref j0, .ref j1, .ref j2, .int 0, .int 0, .int 0, .int (-1), .int 1])), (a0, .inl (ka, 4, .inr (.inr (.inr (.inr fa))))), (c0, .inr (1, [.int 1, .ref i0, .ref o0, .ref b0, .int 0, .int 0, .int 0, .int 0, .ref y0, .int 0, .ref z0, .int 0])), (o0, .inr (0, [.int 65536, .ref ro0, .int 0, .int 0]))] sz) t) (va_A [(h0, .inr (9, [.ref t0, .ref xm1, .ref a0, .ref w0, .ref k0, .ref e0, .ref xm2, .ref xm3, .ref xm4, .ref xm5, .ref j0, .ref j1, .ref j2, .int 0, .int 0, .int 0, .int (-1), .int 1])), (a0, .inl (ka, 4, .inr (.inr (.inr (.inr fa))))), (c0, .inr (1, [.int 1, .ref i0, .ref o0, .ref b0, .int 0, .int 0, .int 0, .int 0, .ref y0, .int 0, .ref z0, .int 0])), (o0, .inr (0, [.int 65536, .ref ro0, .int 0, .int 0]))] sz)) 0 0 (va_A [(h0, .inr (9, [.ref t0, .ref xm1, .ref a0, .ref w0, .ref k0, .ref e0, .ref xm2, .ref xm3, .ref xm4, .ref xm5, .ref j0, .ref j1, .ref j2, .int 0, .int 0, .int 0, .int (-1), .int 1])), (a0, .inl (ka, 4, .inr (.inr (.inr (.inr fa))))), (c0, .inr (1, [.int 1, .ref i0, .ref o0, .ref b0, .int 0, .int 0, .int 0, .int 0, .ref y0, .int 0, .ref z0, .int 0])), (o0, .inr (0, [.int 65536, .ref ro0, .int 0, .int 0]))] sz) := by
  refine Met.ofW (cc := cX12_take) (maxL := 4) (ret := (some .boolean)) (by decide) rfl ?_
  intro p e s m args below meth c s₁ B hml hv
  obtain ⟨rfl, hsz, hP, hK, hD0, hfx⟩ := hv
  have hx := B.exec
  have hb := B.bytes
  have hr := B.returns
  have hts := atoms_spec (ws := wX12_take) B.pre
  have hkw : ∀ w ∈ kw, w.before _ s = true := fun w h => hts w (List.mem_cons_of_mem _ h)
  have hown : s.vm.findClass RX12 = some m.cls := findClass_of_methodNamed B.named
  have hlocks := B.notSynchronized
  subst hsz
  have hD := hD0.self (sz := s.heap.size)
  generalize hAe : va_A [(h0, .inr (9, [.ref t0, .ref xm1, .ref a0, .ref w0, .ref k0, .ref e0, .ref xm2, .ref xm3, .ref xm4, .ref xm5, .ref j0, .ref j1, .ref j2, .int 0, .int 0, .int 0, .int (-1), .int 1])), (a0, .inl (ka, 4, .inr (.inr (.inr (.inr fa))))), (c0, .inr (1, [.int 1, .ref i0, .ref o0, .ref b0, .int 0, .int 0, .int 0, .int 0, .ref y0, .int 0, .ref z0, .int 0])), (o0, .inr (0, [.int 65536, .ref ro0, .int 0, .int 0]))] s.heap.size = A at hD ⊢
  have hA : ∀ q : Nat, s.heap.size ≤ q → A q := fun q h => by rw [← hAe]; exact Or.inr h
  have hS : va_S A s.heap s.heap [] := va_S.rf
  have hP : va_P (dC, dI) classes [(h0, .inr (9, [.ref t0, .ref xm1, .ref a0, .ref w0, .ref k0, .ref e0, .ref xm2, .ref xm3, .ref xm4, .ref xm5, .ref j0, .ref j1, .ref j2, .int 0, .int 0, .int 0, .int (-1), .int 1])), (a0, .inl (ka, 4, .inr (.inr (.inr (.inr fa))))), (c0, .inr (1, [.int 1, .ref i0, .ref o0, .ref b0, .int 0, .int 0, .int 0, .int 0, .ref y0, .int 0, .ref z0, .int 0])), (o0, .inr (0, [.int 65536, .ref ro0, .int 0, .int 0]))] s.heap := hP
  have hl := lv_entry ([.ref h0, .int 0, .int 0]) (n := 4) (Nat.le_of_ble_eq_true rfl)
  rw [lg_entry_eq]
  generalize (lg_sl ([.ref h0, .int 0, .int 0]) ++ List.replicate (4 - (lg_sl ([.ref h0, .int 0, .int 0])).length) Slot.unset).toArray = ls at hl ⊢
  have hl : lv_has ls 4 [(0, .ref h0), (1, .int 0), (2, .int 0)] := hl
  refine lv_aload_n hx hb dX12_take_0 rfl (lv_at hl 0 rfl) ?_
  refine lv_iload_n hx hb dX12_take_1 rfl (lv_at hl 1 rfl) ?_
  have hPc := hP.sub (ws' := [(h0, .inr (9, [.ref t0, .ref xm1, .ref a0, .ref w0, .ref k0, .ref e0, .ref xm2, .ref xm3, .ref xm4, .ref xm5, .ref j0, .ref j1, .ref j2, .int 0, .int 0, .int 0, .int (-1), .int 1])), (a0, .inl (ka, 4, .inr (.inr (.inr (.inr fa)))))]) [0, 1] rfl
  have hDc := hD.sub (ws' := [(h0, .inr (9, [.ref t0, .ref xm1, .ref a0, .ref w0, .ref k0, .ref e0, .ref xm2, .ref xm3, .ref xm4, .ref xm5, .ref j0, .ref j1, .ref j2, .int 0, .int 0, .int 0, .int (-1), .int 1])), (a0, .inl (ka, 4, .inr (.inr (.inr (.inr fa)))))]) [0, 1] (by decide) rfl
  have hKc := hK.sub (tys' := [(ka, .object "KeySteward$Connection")]) [0] rfl
  have hFc := va_free (wc := [(h0, .inr (9, [.ref t0, .ref xm1, .ref a0, .ref w0, .ref k0, .ref e0, .ref xm2, .ref xm3, .ref xm4, .ref xm5, .ref j0, .ref j1, .ref j2, .int 0, .int 0, .int 0, .int (-1), .int 1])), (a0, .inl (ka, 4, .inr (.inr (.inr (.inr fa)))))]) hD hS hA [0, 1] rfl
  refine va_callq (va_runV (As := [.int 0]) (rest := []) ⟨hx, hb, hml, hown, hkw⟩ (c_KS_coOf_0 l dC dI s.heap.size h0 t0 xm1 a0 w0 k0 e0 xm2 xm3 xm4 xm5 j0 j1 j2 ka fa c0 hc0) (callVv 1 hkw (kwI m_121) rfl rfl rfl (hkw _ m_122) (hkw _ m_123) (hkw _ m_124) (hkw _ m_125) (by decide +kernel) ⟨Nat.le_of_ble_eq_true rfl, Nat.le_of_ble_eq_true rfl⟩) ⟨fbW, va_recv hK hP (ci := 9) (q0 := 0) rfl rfl, pW_in hPc hKc hDc hfx⟩ rfl rfl hl.1 rfl (lv_room (Nat.le_of_ble_eq_true rfl)) dX12_take_2 ⟨Nat.le_of_ble_eq_true rfl, Nat.le_of_ble_eq_true rfl⟩) hS (fun q _ h => hFc q h) hFc (fun r1 u t H1 locs ht hvm hw hB hz1 hk1 hS => ?_)
  obtain ⟨hP1, hK1, hD1⟩ := hB
  rw [ht] at hP1
  have hK1 := va_K.moved hvm.symm hK1
  obtain ⟨hP, hD⟩ := va_join (wr := [(c0, .inr (1, [.int 1, .ref i0, .ref o0, .ref b0, .int 0, .int 0, .int 0, .int 0, .ref y0, .int 0, .ref z0, .int 0])), (o0, .inr (0, [.int 65536, .ref ro0, .int 0, .int 0]))]) (w1 := [(h0, .inr (9, [.ref t0, .ref xm1, .ref a0, .ref w0, .ref k0, .ref e0, .ref xm2, .ref xm3, .ref xm4, .ref xm5, .ref j0, .ref j1, .ref j2, .int 0, .int 0, .int 0, .int (-1), .int 1])), (a0, .inl (ka, 4, .inr (.inr (.inr (.inr fa)))))]) hP hD [0, 1] [2, 3] rfl rfl (by decide) (by decide) hk1 hFc hP1 hD1
  have hK := (hK.sub (tys' := []) [] rfl).app hK1
  generalize H1 = H at hP hS ⊢
  have hP : va_P (dC, dI) classes [(c0, .inr (1, [.int 1, .ref i0, .ref o0, .ref b0, .int 0, .int 0, .int 0, .int 0, .ref y0, .int 0, .ref z0, .int 0])), (o0, .inr (0, [.int 65536, .ref ro0, .int 0, .int 0])), (h0, .inr (9, [.ref t0, .ref xm1, .ref a0, .ref w0, .ref k0, .ref e0, .ref xm2, .ref xm3, .ref xm4, .ref xm5, .ref j0, .ref j1, .ref j2, .int 0, .int 0, .int 0, .int (-1), .int 1])), (a0, .inl (ka, 4, .inr (.inr (.inr (.inr fa)))))] H := hP
  have hD : va_D A [(c0, .inr (1, [.int 1, .ref i0, .ref o0, .ref b0, .int 0, .int 0, .int 0, .int 0, .ref y0, .int 0, .ref z0, .int 0])), (o0, .inr (0, [.int 65536, .ref ro0, .int 0, .int 0])), (h0, .inr (9, [.ref t0, .ref xm1, .ref a0, .ref w0, .ref k0, .ref e0, .ref xm2, .ref xm3, .ref xm4, .ref xm5, .ref j0, .ref j1, .ref j2, .int 0, .int 0, .int 0, .int (-1), .int 1])), (a0, .inl (ka, 4, .inr (.inr (.inr (.inr fa)))))] := hD
  have hK : va_K (dC, dI) classes [(ka, .object "KeySteward$Connection")] s := hK
  have hw2 := hw
  try dsimp only at hw2
  subst hw2
  refine lv_astore_n (lv' := [(3, .ref c0), (0, .ref h0), (1, .int 0), (2, .int 0)]) hx hb dX12_take_5 rfl hl (by decide) rfl (fun ls hl => ?_)
  refine lv_aload_n hx hb dX12_take_6 rfl (lv_at hl 0 rfl) ?_
  refine lv_ifnull hx hb dX12_take_7 ?_
  refine lv_iload_n hx hb dX12_take_10 rfl (lv_at hl 3 rfl) ?_
  refine lv_if_lt (tgt := 25) hx hb dX12_take_11 (by decide) (fun c_11_0 => absurd c_11_0 (by decide)) (fun c_11_0 => ?_)
  refine lv_iload_n hx hb dX12_take_14 rfl (lv_at hl 3 rfl) ?_
  refine lv_aload_n hx hb dX12_take_15 rfl (lv_at hl 0 rfl) ?_
  refine va_get (D := (dC, dI)) (ci := 1) (v := .ref o0) (C := RX3) (T := TX3) (N := 12) hx hb hkw kin_X3 hown hK hP 0 rfl rfl 2 (by decide) (hkw _ m_126) (fun _ h9 => h9) rfl dX12_take_16 ?_
  refine va_get (D := (dC, dI)) (ci := 0) (v := .int 0) (C := RX1) (T := TX1) (N := 4) hx hb hkw kin_X1 hown hK hP 1 rfl rfl 2 (by decide) (hkw _ m_104) (fun _ h9 => h9) rfl dX12_take_19 ?_
  refine lv_icmp_le (tgt := 27) hx hb dX12_take_22 (by decide) (fun c_22_0 => ?_) (fun c_22_0 => absurd c_22_0 (by decide))
  refine lv_aload_n hx hb dX12_take_27 rfl (lv_at hl 0 rfl) ?_
  refine va_get (D := (dC, dI)) (ci := 1) (v := .ref o0) (C := RX3) (T := TX3) (N := 12) hx hb hkw kin_X3 hown hK hP 0 rfl rfl 2 (by decide) (hkw _ m_126) (fun _ h9 => h9) rfl dX12_take_28 ?_
  refine lv_iload_n hx hb dX12_take_31 rfl (lv_at hl 3 rfl) ?_
  have hPc := hP.sub (ws' := [(o0, .inr (0, [.int 65536, .ref ro0, .int 0, .int 0]))]) [1] rfl
  have hDc := hD.sub (ws' := [(o0, .inr (0, [.int 65536, .ref ro0, .int 0, .int 0]))]) [1] (by decide) rfl
  have hKc := hK.sub (tys' := []) [] rfl
  have hFc := va_free (wc := [(o0, .inr (0, [.int 65536, .ref ro0, .int 0, .int 0]))]) hD hS hA [1] rfl
  refine va_callv (va_runV (As := [.int 0]) (rest := []) ⟨hx, hb, hml, hown, hkw⟩ (c_By_drop l dC dI H.size o0 ro0 65536 0 0) (callVv 1 hkw (kwI m_116) rfl rfl rfl (hkw _ m_9) (hkw _ m_117) (hkw _ m_118) (hkw _ m_119) (by decide +kernel) ⟨Nat.le_of_ble_eq_true rfl, Nat.le_of_ble_eq_true rfl⟩) ⟨fbW, va_recv hK hP (ci := 0) (q0 := 1) rfl rfl, pW_in hPc hKc hDc hfx⟩ rfl rfl hl.1 rfl (lv_room (Nat.le_of_ble_eq_true rfl)) dX12_take_32 ⟨Nat.le_of_ble_eq_true rfl, Nat.le_of_ble_eq_true rfl⟩) hS (fun q _ h => hFc q h) hFc (fun u t H1 locs ht hvm hw hB hz1 hk1 hS => ?_)
  obtain ⟨hP1, hK1, hD1⟩ := hB
  rw [ht] at hP1
  have hK1 := va_K.moved hvm.symm hK1
  obtain ⟨hP, hD⟩ := va_join (wr := [(c0, .inr (1, [.int 1, .ref i0, .ref o0, .ref b0, .int 0, .int 0, .int 0, .int 0, .ref y0, .int 0, .ref z0, .int 0])), (h0, .inr (9, [.ref t0, .ref xm1, .ref a0, .ref w0, .ref k0, .ref e0, .ref xm2, .ref xm3, .ref xm4, .ref xm5, .ref j0, .ref j1, .ref j2, .int 0, .int 0, .int 0, .int (-1), .int 1])), (a0, .inl (ka, 4, .inr (.inr (.inr (.inr fa)))))]) (w1 := [(o0, .inr (0, [.int 65536, .ref ro0, .int 0, .int 0]))]) hP hD [1] [0, 2, 3] rfl rfl (by decide) (by decide) hk1 hFc hP1 hD1
  have hK := (hK.sub (tys' := [(ka, .object "KeySteward$Connection")]) [0] rfl).app hK1
  generalize H1 = H at hP hS ⊢
  have hP : va_P (dC, dI) classes [(c0, .inr (1, [.int 1, .ref i0, .ref o0, .ref b0, .int 0, .int 0, .int 0, .int 0, .ref y0, .int 0, .ref z0, .int 0])), (h0, .inr (9, [.ref t0, .ref xm1, .ref a0, .ref w0, .ref k0, .ref e0, .ref xm2, .ref xm3, .ref xm4, .ref xm5, .ref j0, .ref j1, .ref j2, .int 0, .int 0, .int 0, .int (-1), .int 1])), (a0, .inl (ka, 4, .inr (.inr (.inr (.inr fa))))), (o0, .inr (0, [.int 65536, .ref ro0, .int 0, .int 0]))] H := hP
  have hD : va_D A [(c0, .inr (1, [.int 1, .ref i0, .ref o0, .ref b0, .int 0, .int 0, .int 0, .int 0, .ref y0, .int 0, .ref z0, .int 0])), (h0, .inr (9, [.ref t0, .ref xm1, .ref a0, .ref w0, .ref k0, .ref e0, .ref xm2, .ref xm3, .ref xm4, .ref xm5, .ref j0, .ref j1, .ref j2, .int 0, .int 0, .int 0, .int (-1), .int 1])), (a0, .inl (ka, 4, .inr (.inr (.inr (.inr fa))))), (o0, .inr (0, [.int 65536, .ref ro0, .int 0, .int 0]))] := hD
  have hK : va_K (dC, dI) classes [(ka, .object "KeySteward$Connection")] s := hK
  have hw3 := hw
  try dsimp only at hw3
  refine lv_iconst (v := 1) hx hb dX12_take_35 (by decide) ?_
  have hP9 := hP.sub (ws' := []) [] rfl
  have hD9 := hD.sub (ws' := []) [] (by decide) rfl
  have hK9 := hK.sub (tys' := []) [] rfl
  refine W.widen (k := 0) (n := 0) (Nat.le_of_ble_eq_true rfl) (Nat.le_of_ble_eq_true rfl) ?_
  exact W.zret (v := 1) (ty := .boolean) hx hb hr rfl (fun t ht hW => ⟨⟨1, (), rfl, rfl, by rw [ht]; exact hP9, va_K.moved hW.alike hK9, hD9⟩, hS.F ht⟩) hS.2.2 dX12_take_36

set_option maxHeartbeats 4000000 in
set_option maxRecDepth 100000 in
/-- take_0_out, fresh -/
theorem c_KS_take_0_out (l : Launch) (dC : Nat → ClassId) (dI : Nat → Nat → Nat) (sz : Nat) (h0 : Nat) (t0 : Nat) (xm1 : Nat) (a0 : Nat) (w0 : Nat) (k0 : Nat) (e0 : Nat) (xm2 : Nat) (xm3 : Nat) (xm4 : Nat) (xm5 : Nat) (j0 : Nat) (j1 : Nat) (j2 : Nat) (ka : ClassId) (fa : Nat → Option Nat) (c0 : Nat) (i0 : Nat) (o0 : Nat) (b0 : Nat) (y0 : Nat) (z0 : Nat) (ro0 : Nat) (p1 : Int32) (hc0 : fa 0 = some c0) (hn : p1 < 0 ∨ 0 < p1) : Met l yX12_take wX12_take ({ frames := 1, cells := 0, slots := 0, locals := 21 }) (va_Pc [.ref h0, .int 0, .int p1] (pW (dC, dI) [(h0, .inr (9, [.ref t0, .ref xm1, .ref a0, .ref w0, .ref k0, .ref e0, .ref xm2, .ref xm3, .ref xm4, .ref xm5, .ref j0, .ref j1, .ref j2, .int 0, .int 0, .int 0, .int (-1), .int 1])), (a0, .inl (ka, 4, .inr (.inr (.inr (.inr fa))))), (c0, .inr (1, [.int 1, .ref i0, .ref o0, .ref b0, .int 0, .int 0, .int 0, .int 0, .ref y0, .int 0, .ref z0, .int 0])), (o0, .inr (0, [.int 65536, .ref ro0, .int 0, .int 0]))] [(ka, .object "KeySteward$Connection")] sz)) (va_Qi (fun (r : Int32) (_u : Unit) => r = 0) (fun (_u : Unit) (t : State) => bW (dC, dI) [] [] (va_A [(h0, .inr (9, [.ref t0, .ref xm1, .ref a0, .ref w0, .ref k0, .ref e0, .ref xm2, .ref xm3, .ref xm4, .ref xm5, .ref j0, .ref j1, .ref j2, .int 0, .int 0, .int 0, .int (-1), .int 1])), (a0, .inl (ka, 4, .inr (.inr (.inr (.inr fa))))), (c0, .inr (1, [.int 1, .ref i0, .ref o0, .ref b0, .int 0, .int 0, .int 0, .int 0, .ref y0, .int 0, .ref z0, .int 0])), (o0, .inr (0, [.int 65536, .ref ro0, .int 0, .int 0]))] sz) t) (va_A [(h0, .inr (9, [.ref t0, .ref xm1, .ref a0, .ref w0, .ref k0, .ref e0, .ref xm2, .ref xm3, .ref xm4, .ref xm5, .ref j0, .ref j1, .ref j2, .int 0, .int 0, .int 0, .int (-1), .int 1])), (a0, .inl (ka, 4, .inr (.inr (.inr (.inr fa))))), (c0, .inr (1, [.int 1, .ref i0, .ref o0, .ref b0, .int 0, .int 0, .int 0, .int 0, .ref y0, .int 0, .ref z0, .int 0])), (o0, .inr (0, [.int 65536, .ref ro0, .int 0, .int 0]))] sz)) 0 0 (va_A [(h0, .inr (9, [.ref t0, .ref xm1, .ref a0, .ref w0, .ref k0, .ref e0, .ref xm2, .ref xm3, .ref xm4, .ref xm5, .ref j0, .ref j1, .ref j2, .int 0, .int 0, .int 0, .int (-1), .int 1])), (a0, .inl (ka, 4, .inr (.inr (.inr (.inr fa))))), (c0, .inr (1, [.int 1, .ref i0, .ref o0, .ref b0, .int 0, .int 0, .int 0, .int 0, .ref y0, .int 0, .ref z0, .int 0])), (o0, .inr (0, [.int 65536, .ref ro0, .int 0, .int 0]))] sz) := by
  refine Met.ofW (cc := cX12_take) (maxL := 4) (ret := (some .boolean)) (by decide) rfl ?_
  intro p e s m args below meth c s₁ B hml hv
  obtain ⟨rfl, hsz, hP, hK, hD0, hfx⟩ := hv
  have hx := B.exec
  have hb := B.bytes
  have hr := B.returns
  have hts := atoms_spec (ws := wX12_take) B.pre
  have hkw : ∀ w ∈ kw, w.before _ s = true := fun w h => hts w (List.mem_cons_of_mem _ h)
  have hown : s.vm.findClass RX12 = some m.cls := findClass_of_methodNamed B.named
  have hlocks := B.notSynchronized
  subst hsz
  have hD := hD0.self (sz := s.heap.size)
  generalize hAe : va_A [(h0, .inr (9, [.ref t0, .ref xm1, .ref a0, .ref w0, .ref k0, .ref e0, .ref xm2, .ref xm3, .ref xm4, .ref xm5, .ref j0, .ref j1, .ref j2, .int 0, .int 0, .int 0, .int (-1), .int 1])), (a0, .inl (ka, 4, .inr (.inr (.inr (.inr fa))))), (c0, .inr (1, [.int 1, .ref i0, .ref o0, .ref b0, .int 0, .int 0, .int 0, .int 0, .ref y0, .int 0, .ref z0, .int 0])), (o0, .inr (0, [.int 65536, .ref ro0, .int 0, .int 0]))] s.heap.size = A at hD ⊢
  have hA : ∀ q : Nat, s.heap.size ≤ q → A q := fun q h => by rw [← hAe]; exact Or.inr h
  have hS : va_S A s.heap s.heap [] := va_S.rf
  have hP : va_P (dC, dI) classes [(h0, .inr (9, [.ref t0, .ref xm1, .ref a0, .ref w0, .ref k0, .ref e0, .ref xm2, .ref xm3, .ref xm4, .ref xm5, .ref j0, .ref j1, .ref j2, .int 0, .int 0, .int 0, .int (-1), .int 1])), (a0, .inl (ka, 4, .inr (.inr (.inr (.inr fa))))), (c0, .inr (1, [.int 1, .ref i0, .ref o0, .ref b0, .int 0, .int 0, .int 0, .int 0, .ref y0, .int 0, .ref z0, .int 0])), (o0, .inr (0, [.int 65536, .ref ro0, .int 0, .int 0]))] s.heap := hP
  have hl := lv_entry ([.ref h0, .int 0, .int p1]) (n := 4) (Nat.le_of_ble_eq_true rfl)
  rw [lg_entry_eq]
  generalize (lg_sl ([.ref h0, .int 0, .int p1]) ++ List.replicate (4 - (lg_sl ([.ref h0, .int 0, .int p1])).length) Slot.unset).toArray = ls at hl ⊢
  have hl : lv_has ls 4 [(0, .ref h0), (1, .int 0), (2, .int p1)] := hl
  refine lv_aload_n hx hb dX12_take_0 rfl (lv_at hl 0 rfl) ?_
  refine lv_iload_n hx hb dX12_take_1 rfl (lv_at hl 1 rfl) ?_
  have hPc := hP.sub (ws' := [(h0, .inr (9, [.ref t0, .ref xm1, .ref a0, .ref w0, .ref k0, .ref e0, .ref xm2, .ref xm3, .ref xm4, .ref xm5, .ref j0, .ref j1, .ref j2, .int 0, .int 0, .int 0, .int (-1), .int 1])), (a0, .inl (ka, 4, .inr (.inr (.inr (.inr fa)))))]) [0, 1] rfl
  have hDc := hD.sub (ws' := [(h0, .inr (9, [.ref t0, .ref xm1, .ref a0, .ref w0, .ref k0, .ref e0, .ref xm2, .ref xm3, .ref xm4, .ref xm5, .ref j0, .ref j1, .ref j2, .int 0, .int 0, .int 0, .int (-1), .int 1])), (a0, .inl (ka, 4, .inr (.inr (.inr (.inr fa)))))]) [0, 1] (by decide) rfl
  have hKc := hK.sub (tys' := [(ka, .object "KeySteward$Connection")]) [0] rfl
  have hFc := va_free (wc := [(h0, .inr (9, [.ref t0, .ref xm1, .ref a0, .ref w0, .ref k0, .ref e0, .ref xm2, .ref xm3, .ref xm4, .ref xm5, .ref j0, .ref j1, .ref j2, .int 0, .int 0, .int 0, .int (-1), .int 1])), (a0, .inl (ka, 4, .inr (.inr (.inr (.inr fa)))))]) hD hS hA [0, 1] rfl
  refine va_callq (va_runV (As := [.int 0]) (rest := []) ⟨hx, hb, hml, hown, hkw⟩ (c_KS_coOf_0 l dC dI s.heap.size h0 t0 xm1 a0 w0 k0 e0 xm2 xm3 xm4 xm5 j0 j1 j2 ka fa c0 hc0) (callVv 1 hkw (kwI m_121) rfl rfl rfl (hkw _ m_122) (hkw _ m_123) (hkw _ m_124) (hkw _ m_125) (by decide +kernel) ⟨Nat.le_of_ble_eq_true rfl, Nat.le_of_ble_eq_true rfl⟩) ⟨fbW, va_recv hK hP (ci := 9) (q0 := 0) rfl rfl, pW_in hPc hKc hDc hfx⟩ rfl rfl hl.1 rfl (lv_room (Nat.le_of_ble_eq_true rfl)) dX12_take_2 ⟨Nat.le_of_ble_eq_true rfl, Nat.le_of_ble_eq_true rfl⟩) hS (fun q _ h => hFc q h) hFc (fun r1 u t H1 locs ht hvm hw hB hz1 hk1 hS => ?_)
  obtain ⟨hP1, hK1, hD1⟩ := hB
  rw [ht] at hP1
  have hK1 := va_K.moved hvm.symm hK1
  obtain ⟨hP, hD⟩ := va_join (wr := [(c0, .inr (1, [.int 1, .ref i0, .ref o0, .ref b0, .int 0, .int 0, .int 0, .int 0, .ref y0, .int 0, .ref z0, .int 0])), (o0, .inr (0, [.int 65536, .ref ro0, .int 0, .int 0]))]) (w1 := [(h0, .inr (9, [.ref t0, .ref xm1, .ref a0, .ref w0, .ref k0, .ref e0, .ref xm2, .ref xm3, .ref xm4, .ref xm5, .ref j0, .ref j1, .ref j2, .int 0, .int 0, .int 0, .int (-1), .int 1])), (a0, .inl (ka, 4, .inr (.inr (.inr (.inr fa)))))]) hP hD [0, 1] [2, 3] rfl rfl (by decide) (by decide) hk1 hFc hP1 hD1
  have hK := (hK.sub (tys' := []) [] rfl).app hK1
  generalize H1 = H at hP hS ⊢
  have hP : va_P (dC, dI) classes [(c0, .inr (1, [.int 1, .ref i0, .ref o0, .ref b0, .int 0, .int 0, .int 0, .int 0, .ref y0, .int 0, .ref z0, .int 0])), (o0, .inr (0, [.int 65536, .ref ro0, .int 0, .int 0])), (h0, .inr (9, [.ref t0, .ref xm1, .ref a0, .ref w0, .ref k0, .ref e0, .ref xm2, .ref xm3, .ref xm4, .ref xm5, .ref j0, .ref j1, .ref j2, .int 0, .int 0, .int 0, .int (-1), .int 1])), (a0, .inl (ka, 4, .inr (.inr (.inr (.inr fa)))))] H := hP
  have hD : va_D A [(c0, .inr (1, [.int 1, .ref i0, .ref o0, .ref b0, .int 0, .int 0, .int 0, .int 0, .ref y0, .int 0, .ref z0, .int 0])), (o0, .inr (0, [.int 65536, .ref ro0, .int 0, .int 0])), (h0, .inr (9, [.ref t0, .ref xm1, .ref a0, .ref w0, .ref k0, .ref e0, .ref xm2, .ref xm3, .ref xm4, .ref xm5, .ref j0, .ref j1, .ref j2, .int 0, .int 0, .int 0, .int (-1), .int 1])), (a0, .inl (ka, 4, .inr (.inr (.inr (.inr fa)))))] := hD
  have hK : va_K (dC, dI) classes [(ka, .object "KeySteward$Connection")] s := hK
  have hw2 := hw
  try dsimp only at hw2
  subst hw2
  refine lv_astore_n (lv' := [(3, .ref c0), (0, .ref h0), (1, .int 0), (2, .int p1)]) hx hb dX12_take_5 rfl hl (by decide) rfl (fun ls hl => ?_)
  refine lv_aload_n hx hb dX12_take_6 rfl (lv_at hl 0 rfl) ?_
  refine lv_ifnull hx hb dX12_take_7 ?_
  refine lv_iload_n hx hb dX12_take_10 rfl (lv_at hl 3 rfl) ?_
  refine lv_if_lt (tgt := 25) hx hb dX12_take_11 (by decide) (fun c_11_0 => ?_) (fun c_11_0 => ?_)
  · refine lv_iconst (v := 0) hx hb dX12_take_25 (by decide) ?_
    have hP9 := hP.sub (ws' := []) [] rfl
    have hD9 := hD.sub (ws' := []) [] (by decide) rfl
    have hK9 := hK.sub (tys' := []) [] rfl
    refine W.widen (k := 0) (n := 0) (Nat.le_of_ble_eq_true rfl) (Nat.le_of_ble_eq_true rfl) ?_
    exact W.zret (v := 0) (ty := .boolean) hx hb hr rfl (fun t ht hW => ⟨⟨0, (), rfl, rfl, by rw [ht]; exact hP9, va_K.moved hW.alike hK9, hD9⟩, hS.F ht⟩) hS.2.2 dX12_take_26
  · refine lv_iload_n hx hb dX12_take_14 rfl (lv_at hl 3 rfl) ?_
    refine lv_aload_n hx hb dX12_take_15 rfl (lv_at hl 0 rfl) ?_
    refine va_get (D := (dC, dI)) (ci := 1) (v := .ref o0) (C := RX3) (T := TX3) (N := 12) hx hb hkw kin_X3 hown hK hP 0 rfl rfl 2 (by decide) (hkw _ m_126) (fun _ h9 => h9) rfl dX12_take_16 ?_
    refine va_get (D := (dC, dI)) (ci := 0) (v := .int 0) (C := RX1) (T := TX1) (N := 4) hx hb hkw kin_X1 hown hK hP 1 rfl rfl 2 (by decide) (hkw _ m_104) (fun _ h9 => h9) rfl dX12_take_19 ?_
    refine lv_icmp_le (tgt := 27) hx hb dX12_take_22 (by decide) (fun c_22_0 => absurd c_22_0 (dead_le hn c_11_0)) (fun c_22_0 => ?_)
    refine lv_iconst (v := 0) hx hb dX12_take_25 (by decide) ?_
    have hP9 := hP.sub (ws' := []) [] rfl
    have hD9 := hD.sub (ws' := []) [] (by decide) rfl
    have hK9 := hK.sub (tys' := []) [] rfl
    refine W.widen (k := 0) (n := 0) (Nat.le_of_ble_eq_true rfl) (Nat.le_of_ble_eq_true rfl) ?_
    exact W.zret (v := 0) (ty := .boolean) hx hb hr rfl (fun t ht hW => ⟨⟨0, (), rfl, rfl, by rw [ht]; exact hP9, va_K.moved hW.alike hK9, hD9⟩, hS.F ht⟩) hS.2.2 dX12_take_26

set_option maxHeartbeats 4000000 in
set_option maxRecDepth 100000 in
/-- open_0, fresh -/
theorem c_KS_open_0 (l : Launch) (dC : Nat → ClassId) (dI : Nat → Nat → Nat) (sz : Nat) (h0 : Nat) (t0 : Nat) (xm1 : Nat) (a0 : Nat) (w0 : Nat) (k0 : Nat) (e0 : Nat) (xm2 : Nat) (xm3 : Nat) (xm4 : Nat) (xm5 : Nat) (j0 : Nat) (j1 : Nat) (j2 : Nat) (ka : ClassId) (fa : Nat → Option Nat) (c0 : Nat) (i0 : Nat) (o0 : Nat) (b0 : Nat) (y0 : Nat) (z0 : Nat) (ri0 : Nat) (ro0 : Nat) (rb0 : Nat) (hc0 : fa 0 = some c0) : Met l yX12_open wX12_open ({ frames := 3, cells := 0, slots := 0, locals := 60 }) (va_Pc [.ref h0, .int 0] (pW (dC, dI) [(h0, .inr (9, [.ref t0, .ref xm1, .ref a0, .ref w0, .ref k0, .ref e0, .ref xm2, .ref xm3, .ref xm4, .ref xm5, .ref j0, .ref j1, .ref j2, .int 0, .int 0, .int 0, .int (-1), .int 1])), (a0, .inl (ka, 4, .inr (.inr (.inr (.inr fa))))), (c0, .inr (1, [.int 1, .ref i0, .ref o0, .ref b0, .int 0, .int 0, .int 0, .int 0, .ref y0, .int 0, .ref z0, .int 0])), (i0, .inr (0, [.int 131076, .ref ri0, .int 0, .int 0])), (o0, .inr (0, [.int 65536, .ref ro0, .int 0, .int 0])), (b0, .inr (0, [.int 67108864, .ref rb0, .int 0, .int 0]))] [(ka, .object "KeySteward$Connection")] sz)) (va_Qi (fun (r : Int32) (_u : Unit) => r = 1) (fun (_u : Unit) (t : State) => bW (dC, dI) [] [] (va_A [(h0, .inr (9, [.ref t0, .ref xm1, .ref a0, .ref w0, .ref k0, .ref e0, .ref xm2, .ref xm3, .ref xm4, .ref xm5, .ref j0, .ref j1, .ref j2, .int 0, .int 0, .int 0, .int (-1), .int 1])), (a0, .inl (ka, 4, .inr (.inr (.inr (.inr fa))))), (c0, .inr (1, [.int 1, .ref i0, .ref o0, .ref b0, .int 0, .int 0, .int 0, .int 0, .ref y0, .int 0, .ref z0, .int 0])), (i0, .inr (0, [.int 131076, .ref ri0, .int 0, .int 0])), (o0, .inr (0, [.int 65536, .ref ro0, .int 0, .int 0])), (b0, .inr (0, [.int 67108864, .ref rb0, .int 0, .int 0]))] sz) t) (va_A [(h0, .inr (9, [.ref t0, .ref xm1, .ref a0, .ref w0, .ref k0, .ref e0, .ref xm2, .ref xm3, .ref xm4, .ref xm5, .ref j0, .ref j1, .ref j2, .int 0, .int 0, .int 0, .int (-1), .int 1])), (a0, .inl (ka, 4, .inr (.inr (.inr (.inr fa))))), (c0, .inr (1, [.int 1, .ref i0, .ref o0, .ref b0, .int 0, .int 0, .int 0, .int 0, .ref y0, .int 0, .ref z0, .int 0])), (i0, .inr (0, [.int 131076, .ref ri0, .int 0, .int 0])), (o0, .inr (0, [.int 65536, .ref ro0, .int 0, .int 0])), (b0, .inr (0, [.int 67108864, .ref rb0, .int 0, .int 0]))] sz)) 0 0 (va_A [(h0, .inr (9, [.ref t0, .ref xm1, .ref a0, .ref w0, .ref k0, .ref e0, .ref xm2, .ref xm3, .ref xm4, .ref xm5, .ref j0, .ref j1, .ref j2, .int 0, .int 0, .int 0, .int (-1), .int 1])), (a0, .inl (ka, 4, .inr (.inr (.inr (.inr fa))))), (c0, .inr (1, [.int 1, .ref i0, .ref o0, .ref b0, .int 0, .int 0, .int 0, .int 0, .ref y0, .int 0, .ref z0, .int 0])), (i0, .inr (0, [.int 131076, .ref ri0, .int 0, .int 0])), (o0, .inr (0, [.int 65536, .ref ro0, .int 0, .int 0])), (b0, .inr (0, [.int 67108864, .ref rb0, .int 0, .int 0]))] sz) := by
  refine Met.ofW (cc := cX12_open) (maxL := 3) (ret := (some .boolean)) (by decide) rfl ?_
  intro p e s m args below meth c s₁ B hml hv
  obtain ⟨rfl, hsz, hP, hK, hD0, hfx⟩ := hv
  have hx := B.exec
  have hb := B.bytes
  have hr := B.returns
  have hts := atoms_spec (ws := wX12_open) B.pre
  have hkw : ∀ w ∈ kw, w.before _ s = true := fun w h => hts w (List.mem_cons_of_mem _ h)
  have hown : s.vm.findClass RX12 = some m.cls := findClass_of_methodNamed B.named
  have hlocks := B.notSynchronized
  subst hsz
  have hD := hD0.self (sz := s.heap.size)
  generalize hAe : va_A [(h0, .inr (9, [.ref t0, .ref xm1, .ref a0, .ref w0, .ref k0, .ref e0, .ref xm2, .ref xm3, .ref xm4, .ref xm5, .ref j0, .ref j1, .ref j2, .int 0, .int 0, .int 0, .int (-1), .int 1])), (a0, .inl (ka, 4, .inr (.inr (.inr (.inr fa))))), (c0, .inr (1, [.int 1, .ref i0, .ref o0, .ref b0, .int 0, .int 0, .int 0, .int 0, .ref y0, .int 0, .ref z0, .int 0])), (i0, .inr (0, [.int 131076, .ref ri0, .int 0, .int 0])), (o0, .inr (0, [.int 65536, .ref ro0, .int 0, .int 0])), (b0, .inr (0, [.int 67108864, .ref rb0, .int 0, .int 0]))] s.heap.size = A at hD ⊢
  have hA : ∀ q : Nat, s.heap.size ≤ q → A q := fun q h => by rw [← hAe]; exact Or.inr h
  have hS : va_S A s.heap s.heap [] := va_S.rf
  have hP : va_P (dC, dI) classes [(h0, .inr (9, [.ref t0, .ref xm1, .ref a0, .ref w0, .ref k0, .ref e0, .ref xm2, .ref xm3, .ref xm4, .ref xm5, .ref j0, .ref j1, .ref j2, .int 0, .int 0, .int 0, .int (-1), .int 1])), (a0, .inl (ka, 4, .inr (.inr (.inr (.inr fa))))), (c0, .inr (1, [.int 1, .ref i0, .ref o0, .ref b0, .int 0, .int 0, .int 0, .int 0, .ref y0, .int 0, .ref z0, .int 0])), (i0, .inr (0, [.int 131076, .ref ri0, .int 0, .int 0])), (o0, .inr (0, [.int 65536, .ref ro0, .int 0, .int 0])), (b0, .inr (0, [.int 67108864, .ref rb0, .int 0, .int 0]))] s.heap := hP
  have hl := lv_entry ([.ref h0, .int 0]) (n := 3) (Nat.le_of_ble_eq_true rfl)
  rw [lg_entry_eq]
  generalize (lg_sl ([.ref h0, .int 0]) ++ List.replicate (3 - (lg_sl ([.ref h0, .int 0])).length) Slot.unset).toArray = ls at hl ⊢
  have hl : lv_has ls 3 [(0, .ref h0), (1, .int 0)] := hl
  refine lv_aload_n hx hb dX12_open_0 rfl (lv_at hl 0 rfl) ?_
  refine lv_iload_n hx hb dX12_open_1 rfl (lv_at hl 1 rfl) ?_
  have hPc := hP.sub (ws' := [(h0, .inr (9, [.ref t0, .ref xm1, .ref a0, .ref w0, .ref k0, .ref e0, .ref xm2, .ref xm3, .ref xm4, .ref xm5, .ref j0, .ref j1, .ref j2, .int 0, .int 0, .int 0, .int (-1), .int 1])), (a0, .inl (ka, 4, .inr (.inr (.inr (.inr fa)))))]) [0, 1] rfl
  have hDc := hD.sub (ws' := [(h0, .inr (9, [.ref t0, .ref xm1, .ref a0, .ref w0, .ref k0, .ref e0, .ref xm2, .ref xm3, .ref xm4, .ref xm5, .ref j0, .ref j1, .ref j2, .int 0, .int 0, .int 0, .int (-1), .int 1])), (a0, .inl (ka, 4, .inr (.inr (.inr (.inr fa)))))]) [0, 1] (by decide) rfl
  have hKc := hK.sub (tys' := [(ka, .object "KeySteward$Connection")]) [0] rfl
  have hFc := va_free (wc := [(h0, .inr (9, [.ref t0, .ref xm1, .ref a0, .ref w0, .ref k0, .ref e0, .ref xm2, .ref xm3, .ref xm4, .ref xm5, .ref j0, .ref j1, .ref j2, .int 0, .int 0, .int 0, .int (-1), .int 1])), (a0, .inl (ka, 4, .inr (.inr (.inr (.inr fa)))))]) hD hS hA [0, 1] rfl
  refine va_callq (va_runV (As := [.int 0]) (rest := []) ⟨hx, hb, hml, hown, hkw⟩ (c_KS_coOf_0 l dC dI s.heap.size h0 t0 xm1 a0 w0 k0 e0 xm2 xm3 xm4 xm5 j0 j1 j2 ka fa c0 hc0) (callVv 1 hkw (kwI m_121) rfl rfl rfl (hkw _ m_122) (hkw _ m_123) (hkw _ m_124) (hkw _ m_125) (by decide +kernel) ⟨Nat.le_of_ble_eq_true rfl, Nat.le_of_ble_eq_true rfl⟩) ⟨fbW, va_recv hK hP (ci := 9) (q0 := 0) rfl rfl, pW_in hPc hKc hDc hfx⟩ rfl rfl hl.1 rfl (lv_room (Nat.le_of_ble_eq_true rfl)) dX12_open_2 ⟨Nat.le_of_ble_eq_true rfl, Nat.le_of_ble_eq_true rfl⟩) hS (fun q _ h => hFc q h) hFc (fun r1 u t H1 locs ht hvm hw hB hz1 hk1 hS => ?_)
  obtain ⟨hP1, hK1, hD1⟩ := hB
  rw [ht] at hP1
  have hK1 := va_K.moved hvm.symm hK1
  obtain ⟨hP, hD⟩ := va_join (wr := [(c0, .inr (1, [.int 1, .ref i0, .ref o0, .ref b0, .int 0, .int 0, .int 0, .int 0, .ref y0, .int 0, .ref z0, .int 0])), (i0, .inr (0, [.int 131076, .ref ri0, .int 0, .int 0])), (o0, .inr (0, [.int 65536, .ref ro0, .int 0, .int 0])), (b0, .inr (0, [.int 67108864, .ref rb0, .int 0, .int 0]))]) (w1 := [(h0, .inr (9, [.ref t0, .ref xm1, .ref a0, .ref w0, .ref k0, .ref e0, .ref xm2, .ref xm3, .ref xm4, .ref xm5, .ref j0, .ref j1, .ref j2, .int 0, .int 0, .int 0, .int (-1), .int 1])), (a0, .inl (ka, 4, .inr (.inr (.inr (.inr fa)))))]) hP hD [0, 1] [2, 3, 4, 5] rfl rfl (by decide) (by decide) hk1 hFc hP1 hD1
  have hK := (hK.sub (tys' := []) [] rfl).app hK1
  generalize H1 = H at hP hS ⊢
  have hP : va_P (dC, dI) classes [(c0, .inr (1, [.int 1, .ref i0, .ref o0, .ref b0, .int 0, .int 0, .int 0, .int 0, .ref y0, .int 0, .ref z0, .int 0])), (i0, .inr (0, [.int 131076, .ref ri0, .int 0, .int 0])), (o0, .inr (0, [.int 65536, .ref ro0, .int 0, .int 0])), (b0, .inr (0, [.int 67108864, .ref rb0, .int 0, .int 0])), (h0, .inr (9, [.ref t0, .ref xm1, .ref a0, .ref w0, .ref k0, .ref e0, .ref xm2, .ref xm3, .ref xm4, .ref xm5, .ref j0, .ref j1, .ref j2, .int 0, .int 0, .int 0, .int (-1), .int 1])), (a0, .inl (ka, 4, .inr (.inr (.inr (.inr fa)))))] H := hP
  have hD : va_D A [(c0, .inr (1, [.int 1, .ref i0, .ref o0, .ref b0, .int 0, .int 0, .int 0, .int 0, .ref y0, .int 0, .ref z0, .int 0])), (i0, .inr (0, [.int 131076, .ref ri0, .int 0, .int 0])), (o0, .inr (0, [.int 65536, .ref ro0, .int 0, .int 0])), (b0, .inr (0, [.int 67108864, .ref rb0, .int 0, .int 0])), (h0, .inr (9, [.ref t0, .ref xm1, .ref a0, .ref w0, .ref k0, .ref e0, .ref xm2, .ref xm3, .ref xm4, .ref xm5, .ref j0, .ref j1, .ref j2, .int 0, .int 0, .int 0, .int (-1), .int 1])), (a0, .inl (ka, 4, .inr (.inr (.inr (.inr fa)))))] := hD
  have hK : va_K (dC, dI) classes [(ka, .object "KeySteward$Connection")] s := hK
  have hw2 := hw
  try dsimp only at hw2
  subst hw2
  refine lv_astore_n (lv' := [(2, .ref c0), (0, .ref h0), (1, .int 0)]) hx hb dX12_open_5 rfl hl (by decide) rfl (fun ls hl => ?_)
  refine lv_aload_n hx hb dX12_open_6 rfl (lv_at hl 0 rfl) ?_
  refine lv_ifnull hx hb dX12_open_7 ?_
  refine lv_aload_n hx hb dX12_open_10 rfl (lv_at hl 1 rfl) ?_
  refine va_get (D := (dC, dI)) (ci := 9) (v := .int 1) (C := RX12) (T := TX12) (N := 18) hx hb hkw kin_X12 hown hK hP 4 rfl rfl 17 (by decide) (hkw _ m_127) (fun _ h9 => h9) rfl dX12_open_11 ?_
  refine lv_if_ne (tgt := 19) hx hb dX12_open_14 (by decide) (fun c_14_0 => ?_) (fun c_14_0 => absurd c_14_0 (by decide))
  refine lv_aload_n hx hb dX12_open_19 rfl (lv_at hl 0 rfl) ?_
  have hPc := hP.sub (ws' := [(c0, .inr (1, [.int 1, .ref i0, .ref o0, .ref b0, .int 0, .int 0, .int 0, .int 0, .ref y0, .int 0, .ref z0, .int 0])), (i0, .inr (0, [.int 131076, .ref ri0, .int 0, .int 0])), (b0, .inr (0, [.int 67108864, .ref rb0, .int 0, .int 0]))]) [0, 1, 3] rfl
  have hDc := hD.sub (ws' := [(c0, .inr (1, [.int 1, .ref i0, .ref o0, .ref b0, .int 0, .int 0, .int 0, .int 0, .ref y0, .int 0, .ref z0, .int 0])), (i0, .inr (0, [.int 131076, .ref ri0, .int 0, .int 0])), (b0, .inr (0, [.int 67108864, .ref rb0, .int 0, .int 0]))]) [0, 1, 3] (by decide) rfl
  have hKc := hK.sub (tys' := []) [] rfl
  have hFc := va_free (wc := [(c0, .inr (1, [.int 1, .ref i0, .ref o0, .ref b0, .int 0, .int 0, .int 0, .int 0, .ref y0, .int 0, .ref z0, .int 0])), (i0, .inr (0, [.int 131076, .ref ri0, .int 0, .int 0])), (b0, .inr (0, [.int 67108864, .ref rb0, .int 0, .int 0]))]) hD hS hA [0, 1, 3] rfl
  refine va_callv (va_runV (As := []) (rest := []) ⟨hx, hb, hml, hown, hkw⟩ (c_Co_close l dC dI H.size c0 i0 o0 b0 y0 z0 1 0 0 0 0 0 0 131076 ri0 0 0 67108864 rb0 0 0) (callVv 0 hkw (kwI m_128) rfl rfl rfl (hkw _ m_43) (hkw _ m_129) (hkw _ m_130) (hkw _ m_131) (by decide +kernel) ⟨Nat.le_of_ble_eq_true rfl, Nat.le_of_ble_eq_true rfl⟩) ⟨fbW, va_recv hK hP (ci := 1) (q0 := 0) rfl rfl, pW_in hPc hKc hDc hfx⟩ rfl rfl hl.1 rfl (lv_room (Nat.le_of_ble_eq_true rfl)) dX12_open_20 ⟨Nat.le_of_ble_eq_true rfl, Nat.le_of_ble_eq_true rfl⟩) hS (fun q _ h => hFc q h) hFc (fun u t H1 locs ht hvm hw hB hz1 hk1 hS => ?_)
  obtain ⟨hP1, hK1, hD1⟩ := hB
  rw [ht] at hP1
  have hK1 := va_K.moved hvm.symm hK1
  obtain ⟨hP, hD⟩ := va_join (wr := [(o0, .inr (0, [.int 65536, .ref ro0, .int 0, .int 0])), (h0, .inr (9, [.ref t0, .ref xm1, .ref a0, .ref w0, .ref k0, .ref e0, .ref xm2, .ref xm3, .ref xm4, .ref xm5, .ref j0, .ref j1, .ref j2, .int 0, .int 0, .int 0, .int (-1), .int 1])), (a0, .inl (ka, 4, .inr (.inr (.inr (.inr fa)))))]) (w1 := [(c0, .inr (1, [.int 0, .ref i0, .ref o0, .ref b0, .int 0, .int 0, .int 0, .int 0, .ref y0, .int 0, .ref z0, .int 0])), (i0, .inr (0, [.int 131076, .ref ri0, .int 0, .int 0])), (b0, .inr (0, [.int 67108864, .ref rb0, .int 0, .int 0]))]) hP hD [0, 1, 3] [2, 4, 5] rfl rfl (by decide) (by decide) hk1 hFc hP1 hD1
  have hK := (hK.sub (tys' := [(ka, .object "KeySteward$Connection")]) [0] rfl).app hK1
  generalize H1 = H at hP hS ⊢
  have hP : va_P (dC, dI) classes [(o0, .inr (0, [.int 65536, .ref ro0, .int 0, .int 0])), (h0, .inr (9, [.ref t0, .ref xm1, .ref a0, .ref w0, .ref k0, .ref e0, .ref xm2, .ref xm3, .ref xm4, .ref xm5, .ref j0, .ref j1, .ref j2, .int 0, .int 0, .int 0, .int (-1), .int 1])), (a0, .inl (ka, 4, .inr (.inr (.inr (.inr fa))))), (c0, .inr (1, [.int 0, .ref i0, .ref o0, .ref b0, .int 0, .int 0, .int 0, .int 0, .ref y0, .int 0, .ref z0, .int 0])), (i0, .inr (0, [.int 131076, .ref ri0, .int 0, .int 0])), (b0, .inr (0, [.int 67108864, .ref rb0, .int 0, .int 0]))] H := hP
  have hD : va_D A [(o0, .inr (0, [.int 65536, .ref ro0, .int 0, .int 0])), (h0, .inr (9, [.ref t0, .ref xm1, .ref a0, .ref w0, .ref k0, .ref e0, .ref xm2, .ref xm3, .ref xm4, .ref xm5, .ref j0, .ref j1, .ref j2, .int 0, .int 0, .int 0, .int (-1), .int 1])), (a0, .inl (ka, 4, .inr (.inr (.inr (.inr fa))))), (c0, .inr (1, [.int 0, .ref i0, .ref o0, .ref b0, .int 0, .int 0, .int 0, .int 0, .ref y0, .int 0, .ref z0, .int 0])), (i0, .inr (0, [.int 131076, .ref ri0, .int 0, .int 0])), (b0, .inr (0, [.int 67108864, .ref rb0, .int 0, .int 0]))] := hD
  have hK : va_K (dC, dI) classes [(ka, .object "KeySteward$Connection")] s := hK
  have hw3 := hw
  try dsimp only at hw3
  refine lv_aload_n hx hb dX12_open_23 rfl (lv_at hl 0 rfl) ?_
  refine va_get (D := (dC, dI)) (ci := 1) (v := .ref o0) (C := RX3) (T := TX3) (N := 12) hx hb hkw kin_X3 hown hK hP 3 rfl rfl 2 (by decide) (hkw _ m_126) (fun _ h9 => h9) rfl dX12_open_24 ?_
  have hPc := hP.sub (ws' := [(o0, .inr (0, [.int 65536, .ref ro0, .int 0, .int 0]))]) [0] rfl
  have hDc := hD.sub (ws' := [(o0, .inr (0, [.int 65536, .ref ro0, .int 0, .int 0]))]) [0] (by decide) rfl
  have hKc := hK.sub (tys' := []) [] rfl
  have hFc := va_free (wc := [(o0, .inr (0, [.int 65536, .ref ro0, .int 0, .int 0]))]) hD hS hA [0] rfl
  refine va_callv (va_runV (As := []) (rest := []) ⟨hx, hb, hml, hown, hkw⟩ (c_By_empty l dC dI H.size o0 ro0 65536 0 0) (callVv 0 hkw (kwI m_38) rfl rfl rfl (hkw _ m_9) (hkw _ m_132) (hkw _ m_40) (hkw _ m_41) (by decide +kernel) ⟨Nat.le_of_ble_eq_true rfl, Nat.le_of_ble_eq_true rfl⟩) ⟨fbW, va_recv hK hP (ci := 0) (q0 := 0) rfl rfl, pW_in hPc hKc hDc hfx⟩ rfl rfl hl.1 rfl (lv_room (Nat.le_of_ble_eq_true rfl)) dX12_open_27 ⟨Nat.le_of_ble_eq_true rfl, Nat.le_of_ble_eq_true rfl⟩) hS (fun q _ h => hFc q h) hFc (fun u t H1 locs ht hvm hw hB hz1 hk1 hS => ?_)
  obtain ⟨hP1, hK1, hD1⟩ := hB
  rw [ht] at hP1
  have hK1 := va_K.moved hvm.symm hK1
  obtain ⟨hP, hD⟩ := va_join (wr := [(h0, .inr (9, [.ref t0, .ref xm1, .ref a0, .ref w0, .ref k0, .ref e0, .ref xm2, .ref xm3, .ref xm4, .ref xm5, .ref j0, .ref j1, .ref j2, .int 0, .int 0, .int 0, .int (-1), .int 1])), (a0, .inl (ka, 4, .inr (.inr (.inr (.inr fa))))), (c0, .inr (1, [.int 0, .ref i0, .ref o0, .ref b0, .int 0, .int 0, .int 0, .int 0, .ref y0, .int 0, .ref z0, .int 0])), (i0, .inr (0, [.int 131076, .ref ri0, .int 0, .int 0])), (b0, .inr (0, [.int 67108864, .ref rb0, .int 0, .int 0]))]) (w1 := [(o0, .inr (0, [.int 65536, .ref ro0, .int 0, .int 0]))]) hP hD [0] [1, 2, 3, 4, 5] rfl rfl (by decide) (by decide) hk1 hFc hP1 hD1
  have hK := (hK.sub (tys' := [(ka, .object "KeySteward$Connection")]) [0] rfl).app hK1
  generalize H1 = H at hP hS ⊢
  have hP : va_P (dC, dI) classes [(h0, .inr (9, [.ref t0, .ref xm1, .ref a0, .ref w0, .ref k0, .ref e0, .ref xm2, .ref xm3, .ref xm4, .ref xm5, .ref j0, .ref j1, .ref j2, .int 0, .int 0, .int 0, .int (-1), .int 1])), (a0, .inl (ka, 4, .inr (.inr (.inr (.inr fa))))), (c0, .inr (1, [.int 0, .ref i0, .ref o0, .ref b0, .int 0, .int 0, .int 0, .int 0, .ref y0, .int 0, .ref z0, .int 0])), (i0, .inr (0, [.int 131076, .ref ri0, .int 0, .int 0])), (b0, .inr (0, [.int 67108864, .ref rb0, .int 0, .int 0])), (o0, .inr (0, [.int 65536, .ref ro0, .int 0, .int 0]))] H := hP
  have hD : va_D A [(h0, .inr (9, [.ref t0, .ref xm1, .ref a0, .ref w0, .ref k0, .ref e0, .ref xm2, .ref xm3, .ref xm4, .ref xm5, .ref j0, .ref j1, .ref j2, .int 0, .int 0, .int 0, .int (-1), .int 1])), (a0, .inl (ka, 4, .inr (.inr (.inr (.inr fa))))), (c0, .inr (1, [.int 0, .ref i0, .ref o0, .ref b0, .int 0, .int 0, .int 0, .int 0, .ref y0, .int 0, .ref z0, .int 0])), (i0, .inr (0, [.int 131076, .ref ri0, .int 0, .int 0])), (b0, .inr (0, [.int 67108864, .ref rb0, .int 0, .int 0])), (o0, .inr (0, [.int 65536, .ref ro0, .int 0, .int 0]))] := hD
  have hK : va_K (dC, dI) classes [(ka, .object "KeySteward$Connection")] s := hK
  have hw4 := hw
  try dsimp only at hw4
  refine lv_aload_n hx hb dX12_open_30 rfl (lv_at hl 0 rfl) ?_
  refine lv_iconst (v := 1) hx hb dX12_open_31 (by decide) ?_
  refine va_put (D := (dC, dI)) (ci := 1) (v := .int 1) (ty := .boolean) (C := RX3) (T := TX3) (N := 12) hx hb hkw kin_X3 tyX3 tyX3_ok nmX3 hown hK hP hD hS 2 rfl rfl 0 (by decide) (hkw _ m_114) (fun _ h9 => h9) rfl (by decide +kernel) rfl rfl (Nat.le_of_ble_eq_true rfl) dX12_open_32 (fun H locs hP hD hS => ?_)
  have hP : va_P (dC, dI) classes [(h0, .inr (9, [.ref t0, .ref xm1, .ref a0, .ref w0, .ref k0, .ref e0, .ref xm2, .ref xm3, .ref xm4, .ref xm5, .ref j0, .ref j1, .ref j2, .int 0, .int 0, .int 0, .int (-1), .int 1])), (a0, .inl (ka, 4, .inr (.inr (.inr (.inr fa))))), (c0, .inr (1, [.int 1, .ref i0, .ref o0, .ref b0, .int 0, .int 0, .int 0, .int 0, .ref y0, .int 0, .ref z0, .int 0])), (i0, .inr (0, [.int 131076, .ref ri0, .int 0, .int 0])), (b0, .inr (0, [.int 67108864, .ref rb0, .int 0, .int 0])), (o0, .inr (0, [.int 65536, .ref ro0, .int 0, .int 0]))] H := hP
  have hD : va_D A [(h0, .inr (9, [.ref t0, .ref xm1, .ref a0, .ref w0, .ref k0, .ref e0, .ref xm2, .ref xm3, .ref xm4, .ref xm5, .ref j0, .ref j1, .ref j2, .int 0, .int 0, .int 0, .int (-1), .int 1])), (a0, .inl (ka, 4, .inr (.inr (.inr (.inr fa))))), (c0, .inr (1, [.int 1, .ref i0, .ref o0, .ref b0, .int 0, .int 0, .int 0, .int 0, .ref y0, .int 0, .ref z0, .int 0])), (i0, .inr (0, [.int 131076, .ref ri0, .int 0, .int 0])), (b0, .inr (0, [.int 67108864, .ref rb0, .int 0, .int 0])), (o0, .inr (0, [.int 65536, .ref ro0, .int 0, .int 0]))] := hD
  refine lv_iconst (v := 1) hx hb dX12_open_35 (by decide) ?_
  have hP9 := hP.sub (ws' := []) [] rfl
  have hD9 := hD.sub (ws' := []) [] (by decide) rfl
  have hK9 := hK.sub (tys' := []) [] rfl
  refine W.widen (k := 0) (n := 0) (Nat.le_of_ble_eq_true rfl) (Nat.le_of_ble_eq_true rfl) ?_
  exact W.zret (v := 1) (ty := .boolean) hx hb hr rfl (fun t ht hW => ⟨⟨1, (), rfl, rfl, by rw [ht]; exact hP9, va_K.moved hW.alike hK9, hD9⟩, hS.F ht⟩) hS.2.2 dX12_open_36

set_option maxHeartbeats 4000000 in
set_option maxRecDepth 100000 in
/-- send_0, fresh -/
theorem c_KS_send_0 (l : Launch) (dC : Nat → ClassId) (dI : Nat → Nat → Nat) (sz : Nat) (h0 : Nat) (t0 : Nat) (xm1 : Nat) (a0 : Nat) (w0 : Nat) (k0 : Nat) (e0 : Nat) (xm2 : Nat) (xm3 : Nat) (xm4 : Nat) (xm5 : Nat) (j0 : Nat) (j1 : Nat) (j2 : Nat) (ka : ClassId) (fa : Nat → Option Nat) (tr : Nat) (kt : ClassId) (gt : Nat → Int32) (c0 : Nat) (i0 : Nat) (o0 : Nat) (b0 : Nat) (y0 : Nat) (z0 : Nat) (ri0 : Nat) (ki : ClassId) (gi : Nat → Int32) (u0 : Nat) (u1 : Nat) (u2 : Nat) (u3 : Nat) (u4 : Nat) (hc0 : fa 0 = some c0) : Met l yX12_send wX12_send ({ frames := 2, cells := 0, slots := 0, locals := 63 }) (va_Pc [.ref h0, .int 0] (pW (dC, dI) [(h0, .inr (9, [.ref t0, .ref xm1, .ref a0, .ref w0, .ref k0, .ref e0, .ref xm2, .ref xm3, .ref xm4, .ref xm5, .ref j0, .ref j1, .ref j2, .int 0, .int 0, .int 0, .int (-1), .int 1])), (a0, .inl (ka, 4, .inr (.inr (.inr (.inr fa))))), (t0, .inr (0, [.int 65540, .ref tr, .int 0, .int 0])), (tr, .inl (kt, 64, .inl gt)), (c0, .inr (1, [.int 1, .ref i0, .ref o0, .ref b0, .int 0, .int 0, .int 0, .int 0, .ref y0, .int 0, .ref z0, .int 0])), (i0, .inr (0, [.int 131076, .ref ri0, .int 0, .int 0])), (ri0, .inl (ki, 64, .inl gi)), (k0, .inr (3, [.ref u0, .ref u1, .ref u2, .ref u3, .int 0, .int 0, .ref u4, .null, .null, .long 0, .long 0, .int 0, .int 0, .int 0, .int 0, .int 0, .long 0]))] [(ka, .object "KeySteward$Connection"), (kt, .byte), (ki, .byte)] sz)) (va_Qi (fun (r : Int32) (_u : Unit) => r = 0) (fun (_u : Unit) (t : State) => bW (dC, dI) [] [] (va_A [(h0, .inr (9, [.ref t0, .ref xm1, .ref a0, .ref w0, .ref k0, .ref e0, .ref xm2, .ref xm3, .ref xm4, .ref xm5, .ref j0, .ref j1, .ref j2, .int 0, .int 0, .int 0, .int (-1), .int 1])), (a0, .inl (ka, 4, .inr (.inr (.inr (.inr fa))))), (t0, .inr (0, [.int 65540, .ref tr, .int 0, .int 0])), (tr, .inl (kt, 64, .inl gt)), (c0, .inr (1, [.int 1, .ref i0, .ref o0, .ref b0, .int 0, .int 0, .int 0, .int 0, .ref y0, .int 0, .ref z0, .int 0])), (i0, .inr (0, [.int 131076, .ref ri0, .int 0, .int 0])), (ri0, .inl (ki, 64, .inl gi)), (k0, .inr (3, [.ref u0, .ref u1, .ref u2, .ref u3, .int 0, .int 0, .ref u4, .null, .null, .long 0, .long 0, .int 0, .int 0, .int 0, .int 0, .int 0, .long 0]))] sz) t) (va_A [(h0, .inr (9, [.ref t0, .ref xm1, .ref a0, .ref w0, .ref k0, .ref e0, .ref xm2, .ref xm3, .ref xm4, .ref xm5, .ref j0, .ref j1, .ref j2, .int 0, .int 0, .int 0, .int (-1), .int 1])), (a0, .inl (ka, 4, .inr (.inr (.inr (.inr fa))))), (t0, .inr (0, [.int 65540, .ref tr, .int 0, .int 0])), (tr, .inl (kt, 64, .inl gt)), (c0, .inr (1, [.int 1, .ref i0, .ref o0, .ref b0, .int 0, .int 0, .int 0, .int 0, .ref y0, .int 0, .ref z0, .int 0])), (i0, .inr (0, [.int 131076, .ref ri0, .int 0, .int 0])), (ri0, .inl (ki, 64, .inl gi)), (k0, .inr (3, [.ref u0, .ref u1, .ref u2, .ref u3, .int 0, .int 0, .ref u4, .null, .null, .long 0, .long 0, .int 0, .int 0, .int 0, .int 0, .int 0, .long 0]))] sz)) 0 0 (va_A [(h0, .inr (9, [.ref t0, .ref xm1, .ref a0, .ref w0, .ref k0, .ref e0, .ref xm2, .ref xm3, .ref xm4, .ref xm5, .ref j0, .ref j1, .ref j2, .int 0, .int 0, .int 0, .int (-1), .int 1])), (a0, .inl (ka, 4, .inr (.inr (.inr (.inr fa))))), (t0, .inr (0, [.int 65540, .ref tr, .int 0, .int 0])), (tr, .inl (kt, 64, .inl gt)), (c0, .inr (1, [.int 1, .ref i0, .ref o0, .ref b0, .int 0, .int 0, .int 0, .int 0, .ref y0, .int 0, .ref z0, .int 0])), (i0, .inr (0, [.int 131076, .ref ri0, .int 0, .int 0])), (ri0, .inl (ki, 64, .inl gi)), (k0, .inr (3, [.ref u0, .ref u1, .ref u2, .ref u3, .int 0, .int 0, .ref u4, .null, .null, .long 0, .long 0, .int 0, .int 0, .int 0, .int 0, .int 0, .long 0]))] sz) := by
  refine Met.ofW (cc := cX12_send) (maxL := 10) (ret := (some .int)) (by decide) rfl ?_
  intro p e s m args below meth c s₁ B hml hv
  obtain ⟨rfl, hsz, hP, hK, hD0, hfx⟩ := hv
  have hx := B.exec
  have hb := B.bytes
  have hr := B.returns
  have hts := atoms_spec (ws := wX12_send) B.pre
  have hkw : ∀ w ∈ kw, w.before _ s = true := fun w h => hts w (List.mem_cons_of_mem _ h)
  have hown : s.vm.findClass RX12 = some m.cls := findClass_of_methodNamed B.named
  have hlocks := B.notSynchronized
  subst hsz
  have hD := hD0.self (sz := s.heap.size)
  generalize hAe : va_A [(h0, .inr (9, [.ref t0, .ref xm1, .ref a0, .ref w0, .ref k0, .ref e0, .ref xm2, .ref xm3, .ref xm4, .ref xm5, .ref j0, .ref j1, .ref j2, .int 0, .int 0, .int 0, .int (-1), .int 1])), (a0, .inl (ka, 4, .inr (.inr (.inr (.inr fa))))), (t0, .inr (0, [.int 65540, .ref tr, .int 0, .int 0])), (tr, .inl (kt, 64, .inl gt)), (c0, .inr (1, [.int 1, .ref i0, .ref o0, .ref b0, .int 0, .int 0, .int 0, .int 0, .ref y0, .int 0, .ref z0, .int 0])), (i0, .inr (0, [.int 131076, .ref ri0, .int 0, .int 0])), (ri0, .inl (ki, 64, .inl gi)), (k0, .inr (3, [.ref u0, .ref u1, .ref u2, .ref u3, .int 0, .int 0, .ref u4, .null, .null, .long 0, .long 0, .int 0, .int 0, .int 0, .int 0, .int 0, .long 0]))] s.heap.size = A at hD ⊢
  have hA : ∀ q : Nat, s.heap.size ≤ q → A q := fun q h => by rw [← hAe]; exact Or.inr h
  have hS : va_S A s.heap s.heap [] := va_S.rf
  have hP : va_P (dC, dI) classes [(h0, .inr (9, [.ref t0, .ref xm1, .ref a0, .ref w0, .ref k0, .ref e0, .ref xm2, .ref xm3, .ref xm4, .ref xm5, .ref j0, .ref j1, .ref j2, .int 0, .int 0, .int 0, .int (-1), .int 1])), (a0, .inl (ka, 4, .inr (.inr (.inr (.inr fa))))), (t0, .inr (0, [.int 65540, .ref tr, .int 0, .int 0])), (tr, .inl (kt, 64, .inl gt)), (c0, .inr (1, [.int 1, .ref i0, .ref o0, .ref b0, .int 0, .int 0, .int 0, .int 0, .ref y0, .int 0, .ref z0, .int 0])), (i0, .inr (0, [.int 131076, .ref ri0, .int 0, .int 0])), (ri0, .inl (ki, 64, .inl gi)), (k0, .inr (3, [.ref u0, .ref u1, .ref u2, .ref u3, .int 0, .int 0, .ref u4, .null, .null, .long 0, .long 0, .int 0, .int 0, .int 0, .int 0, .int 0, .long 0]))] s.heap := hP
  have hl := lv_entry ([.ref h0, .int 0]) (n := 10) (Nat.le_of_ble_eq_true rfl)
  rw [lg_entry_eq]
  generalize (lg_sl ([.ref h0, .int 0]) ++ List.replicate (10 - (lg_sl ([.ref h0, .int 0])).length) Slot.unset).toArray = ls at hl ⊢
  have hl : lv_has ls 10 [(0, .ref h0), (1, .int 0)] := hl
  refine lv_aload_n hx hb dX12_send_0 rfl (lv_at hl 0 rfl) ?_
  refine lv_iload_n hx hb dX12_send_1 rfl (lv_at hl 1 rfl) ?_
  have hPc := hP.sub (ws' := [(h0, .inr (9, [.ref t0, .ref xm1, .ref a0, .ref w0, .ref k0, .ref e0, .ref xm2, .ref xm3, .ref xm4, .ref xm5, .ref j0, .ref j1, .ref j2, .int 0, .int 0, .int 0, .int (-1), .int 1])), (a0, .inl (ka, 4, .inr (.inr (.inr (.inr fa)))))]) [0, 1] rfl
  have hDc := hD.sub (ws' := [(h0, .inr (9, [.ref t0, .ref xm1, .ref a0, .ref w0, .ref k0, .ref e0, .ref xm2, .ref xm3, .ref xm4, .ref xm5, .ref j0, .ref j1, .ref j2, .int 0, .int 0, .int 0, .int (-1), .int 1])), (a0, .inl (ka, 4, .inr (.inr (.inr (.inr fa)))))]) [0, 1] (by decide) rfl
  have hKc := hK.sub (tys' := [(ka, .object "KeySteward$Connection")]) [0] rfl
  have hFc := va_free (wc := [(h0, .inr (9, [.ref t0, .ref xm1, .ref a0, .ref w0, .ref k0, .ref e0, .ref xm2, .ref xm3, .ref xm4, .ref xm5, .ref j0, .ref j1, .ref j2, .int 0, .int 0, .int 0, .int (-1), .int 1])), (a0, .inl (ka, 4, .inr (.inr (.inr (.inr fa)))))]) hD hS hA [0, 1] rfl
  refine va_callq (va_runV (As := [.int 0]) (rest := []) ⟨hx, hb, hml, hown, hkw⟩ (c_KS_coOf_0 l dC dI s.heap.size h0 t0 xm1 a0 w0 k0 e0 xm2 xm3 xm4 xm5 j0 j1 j2 ka fa c0 hc0) (callVv 1 hkw (kwI m_121) rfl rfl rfl (hkw _ m_122) (hkw _ m_123) (hkw _ m_124) (hkw _ m_125) (by decide +kernel) ⟨Nat.le_of_ble_eq_true rfl, Nat.le_of_ble_eq_true rfl⟩) ⟨fbW, va_recv hK hP (ci := 9) (q0 := 0) rfl rfl, pW_in hPc hKc hDc hfx⟩ rfl rfl hl.1 rfl (lv_room (Nat.le_of_ble_eq_true rfl)) dX12_send_2 ⟨Nat.le_of_ble_eq_true rfl, Nat.le_of_ble_eq_true rfl⟩) hS (fun q _ h => hFc q h) hFc (fun r1 u t H1 locs ht hvm hw hB hz1 hk1 hS => ?_)
  obtain ⟨hP1, hK1, hD1⟩ := hB
  rw [ht] at hP1
  have hK1 := va_K.moved hvm.symm hK1
  obtain ⟨hP, hD⟩ := va_join (wr := [(t0, .inr (0, [.int 65540, .ref tr, .int 0, .int 0])), (tr, .inl (kt, 64, .inl gt)), (c0, .inr (1, [.int 1, .ref i0, .ref o0, .ref b0, .int 0, .int 0, .int 0, .int 0, .ref y0, .int 0, .ref z0, .int 0])), (i0, .inr (0, [.int 131076, .ref ri0, .int 0, .int 0])), (ri0, .inl (ki, 64, .inl gi)), (k0, .inr (3, [.ref u0, .ref u1, .ref u2, .ref u3, .int 0, .int 0, .ref u4, .null, .null, .long 0, .long 0, .int 0, .int 0, .int 0, .int 0, .int 0, .long 0]))]) (w1 := [(h0, .inr (9, [.ref t0, .ref xm1, .ref a0, .ref w0, .ref k0, .ref e0, .ref xm2, .ref xm3, .ref xm4, .ref xm5, .ref j0, .ref j1, .ref j2, .int 0, .int 0, .int 0, .int (-1), .int 1])), (a0, .inl (ka, 4, .inr (.inr (.inr (.inr fa)))))]) hP hD [0, 1] [2, 3, 4, 5, 6, 7] rfl rfl (by decide) (by decide) hk1 hFc hP1 hD1
  have hK := (hK.sub (tys' := [(kt, .byte), (ki, .byte)]) [1, 2] rfl).app hK1
  generalize H1 = H at hP hS ⊢
  have hP : va_P (dC, dI) classes [(t0, .inr (0, [.int 65540, .ref tr, .int 0, .int 0])), (tr, .inl (kt, 64, .inl gt)), (c0, .inr (1, [.int 1, .ref i0, .ref o0, .ref b0, .int 0, .int 0, .int 0, .int 0, .ref y0, .int 0, .ref z0, .int 0])), (i0, .inr (0, [.int 131076, .ref ri0, .int 0, .int 0])), (ri0, .inl (ki, 64, .inl gi)), (k0, .inr (3, [.ref u0, .ref u1, .ref u2, .ref u3, .int 0, .int 0, .ref u4, .null, .null, .long 0, .long 0, .int 0, .int 0, .int 0, .int 0, .int 0, .long 0])), (h0, .inr (9, [.ref t0, .ref xm1, .ref a0, .ref w0, .ref k0, .ref e0, .ref xm2, .ref xm3, .ref xm4, .ref xm5, .ref j0, .ref j1, .ref j2, .int 0, .int 0, .int 0, .int (-1), .int 1])), (a0, .inl (ka, 4, .inr (.inr (.inr (.inr fa)))))] H := hP
  have hD : va_D A [(t0, .inr (0, [.int 65540, .ref tr, .int 0, .int 0])), (tr, .inl (kt, 64, .inl gt)), (c0, .inr (1, [.int 1, .ref i0, .ref o0, .ref b0, .int 0, .int 0, .int 0, .int 0, .ref y0, .int 0, .ref z0, .int 0])), (i0, .inr (0, [.int 131076, .ref ri0, .int 0, .int 0])), (ri0, .inl (ki, 64, .inl gi)), (k0, .inr (3, [.ref u0, .ref u1, .ref u2, .ref u3, .int 0, .int 0, .ref u4, .null, .null, .long 0, .long 0, .int 0, .int 0, .int 0, .int 0, .int 0, .long 0])), (h0, .inr (9, [.ref t0, .ref xm1, .ref a0, .ref w0, .ref k0, .ref e0, .ref xm2, .ref xm3, .ref xm4, .ref xm5, .ref j0, .ref j1, .ref j2, .int 0, .int 0, .int 0, .int (-1), .int 1])), (a0, .inl (ka, 4, .inr (.inr (.inr (.inr fa)))))] := hD
  have hK : va_K (dC, dI) classes [(kt, .byte), (ki, .byte), (ka, .object "KeySteward$Connection")] s := hK
  have hw2 := hw
  try dsimp only at hw2
  subst hw2
  refine lv_astore_n (lv' := [(2, .ref c0), (0, .ref h0), (1, .int 0)]) hx hb dX12_send_5 rfl hl (by decide) rfl (fun ls hl => ?_)
  refine lv_aload_n hx hb dX12_send_6 rfl (lv_at hl 0 rfl) ?_
  refine lv_ifnull hx hb dX12_send_7 ?_
  refine lv_aload_n hx hb dX12_send_10 rfl (lv_at hl 0 rfl) ?_
  refine va_get (D := (dC, dI)) (ci := 1) (v := .int 1) (C := RX3) (T := TX3) (N := 12) hx hb hkw kin_X3 hown hK hP 2 rfl rfl 0 (by decide) (hkw _ m_114) (fun _ h9 => h9) rfl dX12_send_11 ?_
  refine lv_if_eq (tgt := 24) hx hb dX12_send_14 (by decide) (fun c_14_0 => absurd c_14_0 (by decide)) (fun c_14_0 => ?_)
  refine lv_aload_n hx hb dX12_send_17 rfl (lv_at hl 1 rfl) ?_
  refine va_get (D := (dC, dI)) (ci := 9) (v := .int 1) (C := RX12) (T := TX12) (N := 18) hx hb hkw kin_X12 hown hK hP 6 rfl rfl 17 (by decide) (hkw _ m_127) (fun _ h9 => h9) rfl dX12_send_18 ?_
  refine lv_if_ne (tgt := 33) hx hb dX12_send_21 (by decide) (fun c_21_0 => ?_) (fun c_21_0 => absurd c_21_0 (by decide))
  refine lv_aload_n hx hb dX12_send_33 rfl (lv_at hl 0 rfl) ?_
  refine va_get (D := (dC, dI)) (ci := 1) (v := .ref i0) (C := RX3) (T := TX3) (N := 12) hx hb hkw kin_X3 hown hK hP 2 rfl rfl 1 (by decide) (hkw _ m_115) (fun _ h9 => h9) rfl dX12_send_34 ?_
  refine lv_aload_n hx hb dX12_send_37 rfl (lv_at hl 1 rfl) ?_
  refine va_get (D := (dC, dI)) (ci := 9) (v := .ref t0) (C := RX12) (T := TX12) (N := 18) hx hb hkw kin_X12 hown hK hP 6 rfl rfl 0 (by decide) (hkw _ m_103) (fun _ h9 => h9) rfl dX12_send_38 ?_
  refine va_get (D := (dC, dI)) (ci := 0) (v := .ref tr) (C := RX1) (T := TX1) (N := 4) hx hb hkw kin_X1 hown hK hP 0 rfl rfl 1 (by decide) (hkw _ m_133) (fun _ h9 => h9) rfl dX12_send_41 ?_
  refine lv_iconst (v := 0) hx hb dX12_send_44 (by decide) ?_
  refine lv_aload_n hx hb dX12_send_45 rfl (lv_at hl 1 rfl) ?_
  refine va_get (D := (dC, dI)) (ci := 9) (v := .ref t0) (C := RX12) (T := TX12) (N := 18) hx hb hkw kin_X12 hown hK hP 6 rfl rfl 0 (by decide) (hkw _ m_103) (fun _ h9 => h9) rfl dX12_send_46 ?_
  refine va_get (D := (dC, dI)) (ci := 0) (v := .int 0) (C := RX1) (T := TX1) (N := 4) hx hb hkw kin_X1 hown hK hP 0 rfl rfl 2 (by decide) (hkw _ m_104) (fun _ h9 => h9) rfl dX12_send_49 ?_
  have hPc := hP.sub (ws' := [(i0, .inr (0, [.int 131076, .ref ri0, .int 0, .int 0])), (ri0, .inl (ki, 64, .inl gi)), (tr, .inl (kt, 64, .inl gt))]) [3, 4, 1] rfl
  have hDc := hD.sub (ws' := [(i0, .inr (0, [.int 131076, .ref ri0, .int 0, .int 0])), (ri0, .inl (ki, 64, .inl gi)), (tr, .inl (kt, 64, .inl gt))]) [3, 4, 1] (by decide) rfl
  have hKc := hK.sub (tys' := [(ki, .byte), (kt, .byte)]) [1, 0] rfl
  have hFc := va_free (wc := [(i0, .inr (0, [.int 131076, .ref ri0, .int 0, .int 0])), (ri0, .inl (ki, 64, .inl gi)), (tr, .inl (kt, 64, .inl gt))]) hD hS hA [3, 4, 1] rfl
  refine va_callv (va_runV (As := [.ref tr, .int 0, .int 0]) (rest := []) ⟨hx, hb, hml, hown, hkw⟩ (c_By_append l dC dI H.size i0 ri0 tr ki kt gi gt) (callVv 3 hkw (kwI m_134) rfl rfl rfl (hkw _ m_9) (hkw _ m_135) (hkw _ m_136) (hkw _ m_137) (by decide +kernel) ⟨Nat.le_of_ble_eq_true rfl, Nat.le_of_ble_eq_true rfl⟩) ⟨fbW, va_recv hK hP (ci := 0) (q0 := 3) rfl rfl, pW_in hPc hKc hDc hfx⟩ rfl rfl hl.1 rfl (lv_room (Nat.le_of_ble_eq_true rfl)) dX12_send_52 ⟨Nat.le_of_ble_eq_true rfl, Nat.le_of_ble_eq_true rfl⟩) hS (fun q _ h => hFc q h) hFc (fun u t H1 locs ht hvm hw hB hz1 hk1 hS => ?_)
  obtain ⟨q3, rfl⟩ : ∃ z, z = u := ⟨_, rfl⟩
  obtain ⟨hP1, hK1, hD1⟩ := hB
  rw [ht] at hP1
  have hK1 := va_K.moved hvm.symm hK1
  obtain ⟨hP, hD⟩ := va_join (wr := [(t0, .inr (0, [.int 65540, .ref tr, .int 0, .int 0])), (c0, .inr (1, [.int 1, .ref i0, .ref o0, .ref b0, .int 0, .int 0, .int 0, .int 0, .ref y0, .int 0, .ref z0, .int 0])), (k0, .inr (3, [.ref u0, .ref u1, .ref u2, .ref u3, .int 0, .int 0, .ref u4, .null, .null, .long 0, .long 0, .int 0, .int 0, .int 0, .int 0, .int 0, .long 0])), (h0, .inr (9, [.ref t0, .ref xm1, .ref a0, .ref w0, .ref k0, .ref e0, .ref xm2, .ref xm3, .ref xm4, .ref xm5, .ref j0, .ref j1, .ref j2, .int 0, .int 0, .int 0, .int (-1), .int 1])), (a0, .inl (ka, 4, .inr (.inr (.inr (.inr fa)))))]) (w1 := [(i0, .inr (0, [.int 131076, .ref ri0, .int 0, .int 0])), (ri0, .inl (ki, 64, .inl q3)), (tr, .inl (kt, 64, .inl gt))]) hP hD [3, 4, 1] [0, 2, 5, 6, 7] rfl rfl (by decide) (by decide) hk1 hFc hP1 hD1
  have hK := (hK.sub (tys' := [(ka, .object "KeySteward$Connection")]) [2] rfl).app hK1
  generalize H1 = H at hP hS ⊢
  have hP : va_P (dC, dI) classes [(t0, .inr (0, [.int 65540, .ref tr, .int 0, .int 0])), (c0, .inr (1, [.int 1, .ref i0, .ref o0, .ref b0, .int 0, .int 0, .int 0, .int 0, .ref y0, .int 0, .ref z0, .int 0])), (k0, .inr (3, [.ref u0, .ref u1, .ref u2, .ref u3, .int 0, .int 0, .ref u4, .null, .null, .long 0, .long 0, .int 0, .int 0, .int 0, .int 0, .int 0, .long 0])), (h0, .inr (9, [.ref t0, .ref xm1, .ref a0, .ref w0, .ref k0, .ref e0, .ref xm2, .ref xm3, .ref xm4, .ref xm5, .ref j0, .ref j1, .ref j2, .int 0, .int 0, .int 0, .int (-1), .int 1])), (a0, .inl (ka, 4, .inr (.inr (.inr (.inr fa))))), (i0, .inr (0, [.int 131076, .ref ri0, .int 0, .int 0])), (ri0, .inl (ki, 64, .inl q3)), (tr, .inl (kt, 64, .inl gt))] H := hP
  have hD : va_D A [(t0, .inr (0, [.int 65540, .ref tr, .int 0, .int 0])), (c0, .inr (1, [.int 1, .ref i0, .ref o0, .ref b0, .int 0, .int 0, .int 0, .int 0, .ref y0, .int 0, .ref z0, .int 0])), (k0, .inr (3, [.ref u0, .ref u1, .ref u2, .ref u3, .int 0, .int 0, .ref u4, .null, .null, .long 0, .long 0, .int 0, .int 0, .int 0, .int 0, .int 0, .long 0])), (h0, .inr (9, [.ref t0, .ref xm1, .ref a0, .ref w0, .ref k0, .ref e0, .ref xm2, .ref xm3, .ref xm4, .ref xm5, .ref j0, .ref j1, .ref j2, .int 0, .int 0, .int 0, .int (-1), .int 1])), (a0, .inl (ka, 4, .inr (.inr (.inr (.inr fa))))), (i0, .inr (0, [.int 131076, .ref ri0, .int 0, .int 0])), (ri0, .inl (ki, 64, .inl q3)), (tr, .inl (kt, 64, .inl gt))] := hD
  have hK : va_K (dC, dI) classes [(ka, .object "KeySteward$Connection"), (ki, .byte), (kt, .byte)] s := hK
  have hw4 := hw
  try dsimp only at hw4
  refine lv_aload_n hx hb dX12_send_55 rfl (lv_at hl 1 rfl) ?_
  refine va_get (D := (dC, dI)) (ci := 9) (v := .ref t0) (C := RX12) (T := TX12) (N := 18) hx hb hkw kin_X12 hown hK hP 3 rfl rfl 0 (by decide) (hkw _ m_103) (fun _ h9 => h9) rfl dX12_send_56 ?_
  have hPc := hP.sub (ws' := [(t0, .inr (0, [.int 65540, .ref tr, .int 0, .int 0]))]) [0] rfl
  have hDc := hD.sub (ws' := [(t0, .inr (0, [.int 65540, .ref tr, .int 0, .int 0]))]) [0] (by decide) rfl
  have hKc := hK.sub (tys' := []) [] rfl
  have hFc := va_free (wc := [(t0, .inr (0, [.int 65540, .ref tr, .int 0, .int 0]))]) hD hS hA [0] rfl
  refine va_callv (va_runV (As := []) (rest := []) ⟨hx, hb, hml, hown, hkw⟩ (c_By_empty l dC dI H.size t0 tr 65540 0 0) (callVv 0 hkw (kwI m_38) rfl rfl rfl (hkw _ m_9) (hkw _ m_132) (hkw _ m_40) (hkw _ m_41) (by decide +kernel) ⟨Nat.le_of_ble_eq_true rfl, Nat.le_of_ble_eq_true rfl⟩) ⟨fbW, va_recv hK hP (ci := 0) (q0 := 0) rfl rfl, pW_in hPc hKc hDc hfx⟩ rfl rfl hl.1 rfl (lv_room (Nat.le_of_ble_eq_true rfl)) dX12_send_59 ⟨Nat.le_of_ble_eq_true rfl, Nat.le_of_ble_eq_true rfl⟩) hS (fun q _ h => hFc q h) hFc (fun u t H1 locs ht hvm hw hB hz1 hk1 hS => ?_)
  obtain ⟨hP1, hK1, hD1⟩ := hB
  rw [ht] at hP1
  have hK1 := va_K.moved hvm.symm hK1
  obtain ⟨hP, hD⟩ := va_join (wr := [(c0, .inr (1, [.int 1, .ref i0, .ref o0, .ref b0, .int 0, .int 0, .int 0, .int 0, .ref y0, .int 0, .ref z0, .int 0])), (k0, .inr (3, [.ref u0, .ref u1, .ref u2, .ref u3, .int 0, .int 0, .ref u4, .null, .null, .long 0, .long 0, .int 0, .int 0, .int 0, .int 0, .int 0, .long 0])), (h0, .inr (9, [.ref t0, .ref xm1, .ref a0, .ref w0, .ref k0, .ref e0, .ref xm2, .ref xm3, .ref xm4, .ref xm5, .ref j0, .ref j1, .ref j2, .int 0, .int 0, .int 0, .int (-1), .int 1])), (a0, .inl (ka, 4, .inr (.inr (.inr (.inr fa))))), (i0, .inr (0, [.int 131076, .ref ri0, .int 0, .int 0])), (ri0, .inl (ki, 64, .inl q3)), (tr, .inl (kt, 64, .inl gt))]) (w1 := [(t0, .inr (0, [.int 65540, .ref tr, .int 0, .int 0]))]) hP hD [0] [1, 2, 3, 4, 5, 6, 7] rfl rfl (by decide) (by decide) hk1 hFc hP1 hD1
  have hK := (hK.sub (tys' := [(ka, .object "KeySteward$Connection"), (ki, .byte), (kt, .byte)]) [0, 1, 2] rfl).app hK1
  generalize H1 = H at hP hS ⊢
  have hP : va_P (dC, dI) classes [(c0, .inr (1, [.int 1, .ref i0, .ref o0, .ref b0, .int 0, .int 0, .int 0, .int 0, .ref y0, .int 0, .ref z0, .int 0])), (k0, .inr (3, [.ref u0, .ref u1, .ref u2, .ref u3, .int 0, .int 0, .ref u4, .null, .null, .long 0, .long 0, .int 0, .int 0, .int 0, .int 0, .int 0, .long 0])), (h0, .inr (9, [.ref t0, .ref xm1, .ref a0, .ref w0, .ref k0, .ref e0, .ref xm2, .ref xm3, .ref xm4, .ref xm5, .ref j0, .ref j1, .ref j2, .int 0, .int 0, .int 0, .int (-1), .int 1])), (a0, .inl (ka, 4, .inr (.inr (.inr (.inr fa))))), (i0, .inr (0, [.int 131076, .ref ri0, .int 0, .int 0])), (ri0, .inl (ki, 64, .inl q3)), (tr, .inl (kt, 64, .inl gt)), (t0, .inr (0, [.int 65540, .ref tr, .int 0, .int 0]))] H := hP
  have hD : va_D A [(c0, .inr (1, [.int 1, .ref i0, .ref o0, .ref b0, .int 0, .int 0, .int 0, .int 0, .ref y0, .int 0, .ref z0, .int 0])), (k0, .inr (3, [.ref u0, .ref u1, .ref u2, .ref u3, .int 0, .int 0, .ref u4, .null, .null, .long 0, .long 0, .int 0, .int 0, .int 0, .int 0, .int 0, .long 0])), (h0, .inr (9, [.ref t0, .ref xm1, .ref a0, .ref w0, .ref k0, .ref e0, .ref xm2, .ref xm3, .ref xm4, .ref xm5, .ref j0, .ref j1, .ref j2, .int 0, .int 0, .int 0, .int (-1), .int 1])), (a0, .inl (ka, 4, .inr (.inr (.inr (.inr fa))))), (i0, .inr (0, [.int 131076, .ref ri0, .int 0, .int 0])), (ri0, .inl (ki, 64, .inl q3)), (tr, .inl (kt, 64, .inl gt)), (t0, .inr (0, [.int 65540, .ref tr, .int 0, .int 0]))] := hD
  have hK : va_K (dC, dI) classes [(ka, .object "KeySteward$Connection"), (ki, .byte), (kt, .byte)] s := hK
  have hw5 := hw
  try dsimp only at hw5
  refine lv_iconst (v := 0) hx hb dX12_send_62 (by decide) ?_
  refine lv_istore_n (lv' := [(3, .int 0), (2, .ref c0), (0, .ref h0), (1, .int 0)]) hx hb dX12_send_63 rfl hl (by decide) rfl (fun ls hl => ?_)
  refine lv_iconst (v := 0) hx hb dX12_send_64 (by decide) ?_
  refine lv_istore (lv' := [(4, .int 0), (3, .int 0), (2, .ref c0), (0, .ref h0), (1, .int 0)]) hx hb dX12_send_65 hl (by decide) rfl (fun ls hl => ?_)
  refine lv_iconst (v := 0) hx hb dX12_send_67 (by decide) ?_
  refine lv_istore (lv' := [(5, .int 0), (4, .int 0), (3, .int 0), (2, .ref c0), (0, .ref h0), (1, .int 0)]) hx hb dX12_send_68 hl (by decide) rfl (fun ls hl => ?_)
  refine lv_iload hx hb dX12_send_70 (lv_at hl 0 rfl) ?_
  refine lv_ldc (v := 1048576) hx hb hown (hkw _ m_138) dX12_send_72 ?_
  refine lv_icmp_ge (tgt := 215) hx hb dX12_send_74 (by decide) (fun c_74_0 => absurd c_74_0 (by decide)) (fun c_74_0 => ?_)
  refine lv_aload_n hx hb dX12_send_77 rfl (lv_at hl 4 rfl) ?_
  refine va_get (D := (dC, dI)) (ci := 9) (v := .int 1) (C := RX12) (T := TX12) (N := 18) hx hb hkw kin_X12 hown hK hP 2 rfl rfl 17 (by decide) (hkw _ m_127) (fun _ h9 => h9) rfl dX12_send_78 ?_
  refine lv_if_eq (tgt := 215) hx hb dX12_send_81 (by decide) (fun c_81_0 => absurd c_81_0 (by decide)) (fun c_81_0 => ?_)
  refine lv_aload_n hx hb dX12_send_84 rfl (lv_at hl 3 rfl) ?_
  refine va_get (D := (dC, dI)) (ci := 1) (v := .int 1) (C := RX3) (T := TX3) (N := 12) hx hb hkw kin_X3 hown hK hP 0 rfl rfl 0 (by decide) (hkw _ m_114) (fun _ h9 => h9) rfl dX12_send_85 ?_
  refine lv_if_eq (tgt := 215) hx hb dX12_send_88 (by decide) (fun c_88_0 => absurd c_88_0 (by decide)) (fun c_88_0 => ?_)
  refine lv_aload_n hx hb dX12_send_91 rfl (lv_at hl 4 rfl) ?_
  refine va_get (D := (dC, dI)) (ci := 9) (v := .ref k0) (C := RX12) (T := TX12) (N := 18) hx hb hkw kin_X12 hown hK hP 2 rfl rfl 4 (by decide) (hkw _ m_139) (fun _ h9 => h9) rfl dX12_send_92 ?_
  refine lv_aload_n hx hb dX12_send_95 rfl (lv_at hl 3 rfl) ?_
  refine va_get (D := (dC, dI)) (ci := 1) (v := .ref i0) (C := RX3) (T := TX3) (N := 12) hx hb hkw kin_X3 hown hK hP 0 rfl rfl 1 (by decide) (hkw _ m_115) (fun _ h9 => h9) rfl dX12_send_96 ?_
  refine va_get (D := (dC, dI)) (ci := 0) (v := .ref ri0) (C := RX1) (T := TX1) (N := 4) hx hb hkw kin_X1 hown hK hP 4 rfl rfl 1 (by decide) (hkw _ m_133) (fun _ h9 => h9) rfl dX12_send_99 ?_
  refine lv_iload hx hb dX12_send_102 (lv_at hl 1 rfl) ?_
  refine lv_aload_n hx hb dX12_send_104 rfl (lv_at hl 3 rfl) ?_
  refine va_get (D := (dC, dI)) (ci := 1) (v := .ref i0) (C := RX3) (T := TX3) (N := 12) hx hb hkw kin_X3 hown hK hP 0 rfl rfl 1 (by decide) (hkw _ m_115) (fun _ h9 => h9) rfl dX12_send_105 ?_
  refine va_get (D := (dC, dI)) (ci := 0) (v := .int 0) (C := RX1) (T := TX1) (N := 4) hx hb hkw kin_X1 hown hK hP 4 rfl rfl 2 (by decide) (hkw _ m_104) (fun _ h9 => h9) rfl dX12_send_108 ?_
  have hPc := hP.sub (ws' := [(k0, .inr (3, [.ref u0, .ref u1, .ref u2, .ref u3, .int 0, .int 0, .ref u4, .null, .null, .long 0, .long 0, .int 0, .int 0, .int 0, .int 0, .int 0, .long 0]))]) [1] rfl
  have hDc := hD.sub (ws' := [(k0, .inr (3, [.ref u0, .ref u1, .ref u2, .ref u3, .int 0, .int 0, .ref u4, .null, .null, .long 0, .long 0, .int 0, .int 0, .int 0, .int 0, .int 0, .long 0]))]) [1] (by decide) rfl
  have hKc := hK.sub (tys' := []) [] rfl
  have hFc := va_free (wc := [(k0, .inr (3, [.ref u0, .ref u1, .ref u2, .ref u3, .int 0, .int 0, .ref u4, .null, .null, .long 0, .long 0, .int 0, .int 0, .int 0, .int 0, .int 0, .long 0]))]) hD hS hA [1] rfl
  refine va_calli (va_runV (As := [.ref ri0, .int 0, .int 0]) (rest := []) ⟨hx, hb, hml, hown, hkw⟩ (c_Re_read l dC dI H.size k0 ri0 u0 u1 u2 u3 u4) (callVv 3 hkw (kwI m_140) rfl rfl rfl (hkw _ m_141) (hkw _ m_142) (hkw _ m_143) (hkw _ m_144) (by decide +kernel) ⟨Nat.le_of_ble_eq_true rfl, Nat.le_of_ble_eq_true rfl⟩) ⟨fbW, va_recv hK hP (ci := 3) (q0 := 1) rfl rfl, pW_in hPc hKc hDc hfx⟩ rfl rfl hl.1 rfl (lv_room (Nat.le_of_ble_eq_true rfl)) dX12_send_111 ⟨Nat.le_of_ble_eq_true rfl, Nat.le_of_ble_eq_true rfl⟩) hS (fun q _ h => hFc q h) hFc (fun r6 u t H1 locs ht hvm hw hB hz1 hk1 hS => ?_)
  obtain ⟨hP1, hK1, hD1⟩ := hB
  rw [ht] at hP1
  have hK1 := va_K.moved hvm.symm hK1
  obtain ⟨hP, hD⟩ := va_join (wr := [(c0, .inr (1, [.int 1, .ref i0, .ref o0, .ref b0, .int 0, .int 0, .int 0, .int 0, .ref y0, .int 0, .ref z0, .int 0])), (h0, .inr (9, [.ref t0, .ref xm1, .ref a0, .ref w0, .ref k0, .ref e0, .ref xm2, .ref xm3, .ref xm4, .ref xm5, .ref j0, .ref j1, .ref j2, .int 0, .int 0, .int 0, .int (-1), .int 1])), (a0, .inl (ka, 4, .inr (.inr (.inr (.inr fa))))), (i0, .inr (0, [.int 131076, .ref ri0, .int 0, .int 0])), (ri0, .inl (ki, 64, .inl q3)), (tr, .inl (kt, 64, .inl gt)), (t0, .inr (0, [.int 65540, .ref tr, .int 0, .int 0]))]) (w1 := []) hP hD [1] [0, 2, 3, 4, 5, 6, 7] rfl rfl (by decide) (by decide) hk1 hFc hP1 hD1
  have hK := (hK.sub (tys' := [(ka, .object "KeySteward$Connection"), (ki, .byte), (kt, .byte)]) [0, 1, 2] rfl).app hK1
  generalize H1 = H at hP hS ⊢
  have hP : va_P (dC, dI) classes [(c0, .inr (1, [.int 1, .ref i0, .ref o0, .ref b0, .int 0, .int 0, .int 0, .int 0, .ref y0, .int 0, .ref z0, .int 0])), (h0, .inr (9, [.ref t0, .ref xm1, .ref a0, .ref w0, .ref k0, .ref e0, .ref xm2, .ref xm3, .ref xm4, .ref xm5, .ref j0, .ref j1, .ref j2, .int 0, .int 0, .int 0, .int (-1), .int 1])), (a0, .inl (ka, 4, .inr (.inr (.inr (.inr fa))))), (i0, .inr (0, [.int 131076, .ref ri0, .int 0, .int 0])), (ri0, .inl (ki, 64, .inl q3)), (tr, .inl (kt, 64, .inl gt)), (t0, .inr (0, [.int 65540, .ref tr, .int 0, .int 0]))] H := hP
  have hD : va_D A [(c0, .inr (1, [.int 1, .ref i0, .ref o0, .ref b0, .int 0, .int 0, .int 0, .int 0, .ref y0, .int 0, .ref z0, .int 0])), (h0, .inr (9, [.ref t0, .ref xm1, .ref a0, .ref w0, .ref k0, .ref e0, .ref xm2, .ref xm3, .ref xm4, .ref xm5, .ref j0, .ref j1, .ref j2, .int 0, .int 0, .int 0, .int (-1), .int 1])), (a0, .inl (ka, 4, .inr (.inr (.inr (.inr fa))))), (i0, .inr (0, [.int 131076, .ref ri0, .int 0, .int 0])), (ri0, .inl (ki, 64, .inl q3)), (tr, .inl (kt, 64, .inl gt)), (t0, .inr (0, [.int 65540, .ref tr, .int 0, .int 0]))] := hD
  have hK : va_K (dC, dI) classes [(ka, .object "KeySteward$Connection"), (ki, .byte), (kt, .byte)] s := hK
  have hw7 := hw
  try dsimp only at hw7
  subst hw7
  refine lv_istore (lv' := [(6, .int 1), (5, .int 0), (4, .int 0), (3, .int 0), (2, .ref c0), (0, .ref h0), (1, .int 0)]) hx hb dX12_send_114 hl (by decide) rfl (fun ls hl => ?_)
  refine lv_iload hx hb dX12_send_116 (lv_at hl 0 rfl) ?_
  refine lv_iconst (v := 1) hx hb dX12_send_118 (by decide) ?_
  refine lv_icmp_ne (tgt := 125) hx hb dX12_send_119 (by decide) (fun c_119_0 => absurd c_119_0 (by decide)) (fun c_119_0 => ?_)
  refine lv_goto (tgt := 215) hx hb dX12_send_122 (by decide) ?_
  refine lv_aload_n hx hb dX12_send_215 rfl (lv_at hl 5 rfl) ?_
  refine lv_aload_n hx hb dX12_send_216 rfl (lv_at hl 4 rfl) ?_
  refine lv_iload hx hb dX12_send_217 (lv_at hl 2 rfl) ?_
  have hPc := hP.sub (ws' := [(c0, .inr (1, [.int 1, .ref i0, .ref o0, .ref b0, .int 0, .int 0, .int 0, .int 0, .ref y0, .int 0, .ref z0, .int 0])), (i0, .inr (0, [.int 131076, .ref ri0, .int 0, .int 0]))]) [0, 3] rfl
  have hDc := hD.sub (ws' := [(c0, .inr (1, [.int 1, .ref i0, .ref o0, .ref b0, .int 0, .int 0, .int 0, .int 0, .ref y0, .int 0, .ref z0, .int 0])), (i0, .inr (0, [.int 131076, .ref ri0, .int 0, .int 0]))]) [0, 3] (by decide) rfl
  have hKc := hK.sub (tys' := []) [] rfl
  have hFc := va_free (wc := [(c0, .inr (1, [.int 1, .ref i0, .ref o0, .ref b0, .int 0, .int 0, .int 0, .int 0, .ref y0, .int 0, .ref z0, .int 0])), (i0, .inr (0, [.int 131076, .ref ri0, .int 0, .int 0]))]) hD hS hA [0, 3] rfl
  refine va_callv (va_runV (As := [.ref c0, .int 0]) (rest := []) ⟨hx, hb, hml, hown, hkw⟩ (c_KS_keepRest_0 l dC dI H.size h0 c0 i0 o0 b0 y0 z0 ri0) (callVv 2 hkw (kwI m_145) rfl rfl rfl (hkw _ m_122) (hkw _ m_146) (hkw _ m_147) (hkw _ m_148) (by decide +kernel) ⟨Nat.le_of_ble_eq_true rfl, Nat.le_of_ble_eq_true rfl⟩) ⟨fbW, va_recv hK hP (ci := 9) (q0 := 1) rfl rfl, pW_in hPc hKc hDc hfx⟩ rfl rfl hl.1 rfl (lv_room (Nat.le_of_ble_eq_true rfl)) dX12_send_219 ⟨Nat.le_of_ble_eq_true rfl, Nat.le_of_ble_eq_true rfl⟩) hS (fun q _ h => hFc q h) hFc (fun u t H1 locs ht hvm hw hB hz1 hk1 hS => ?_)
  obtain ⟨hP1, hK1, hD1⟩ := hB
  rw [ht] at hP1
  have hK1 := va_K.moved hvm.symm hK1
  obtain ⟨hP, hD⟩ := va_join (wr := [(h0, .inr (9, [.ref t0, .ref xm1, .ref a0, .ref w0, .ref k0, .ref e0, .ref xm2, .ref xm3, .ref xm4, .ref xm5, .ref j0, .ref j1, .ref j2, .int 0, .int 0, .int 0, .int (-1), .int 1])), (a0, .inl (ka, 4, .inr (.inr (.inr (.inr fa))))), (ri0, .inl (ki, 64, .inl q3)), (tr, .inl (kt, 64, .inl gt)), (t0, .inr (0, [.int 65540, .ref tr, .int 0, .int 0]))]) (w1 := []) hP hD [0, 3] [1, 2, 4, 5, 6] rfl rfl (by decide) (by decide) hk1 hFc hP1 hD1
  have hK := (hK.sub (tys' := [(ka, .object "KeySteward$Connection"), (ki, .byte), (kt, .byte)]) [0, 1, 2] rfl).app hK1
  generalize H1 = H at hP hS ⊢
  have hP : va_P (dC, dI) classes [(h0, .inr (9, [.ref t0, .ref xm1, .ref a0, .ref w0, .ref k0, .ref e0, .ref xm2, .ref xm3, .ref xm4, .ref xm5, .ref j0, .ref j1, .ref j2, .int 0, .int 0, .int 0, .int (-1), .int 1])), (a0, .inl (ka, 4, .inr (.inr (.inr (.inr fa))))), (ri0, .inl (ki, 64, .inl q3)), (tr, .inl (kt, 64, .inl gt)), (t0, .inr (0, [.int 65540, .ref tr, .int 0, .int 0]))] H := hP
  have hD : va_D A [(h0, .inr (9, [.ref t0, .ref xm1, .ref a0, .ref w0, .ref k0, .ref e0, .ref xm2, .ref xm3, .ref xm4, .ref xm5, .ref j0, .ref j1, .ref j2, .int 0, .int 0, .int 0, .int (-1), .int 1])), (a0, .inl (ka, 4, .inr (.inr (.inr (.inr fa))))), (ri0, .inl (ki, 64, .inl q3)), (tr, .inl (kt, 64, .inl gt)), (t0, .inr (0, [.int 65540, .ref tr, .int 0, .int 0]))] := hD
  have hK : va_K (dC, dI) classes [(ka, .object "KeySteward$Connection"), (ki, .byte), (kt, .byte)] s := hK
  have hw8 := hw
  try dsimp only at hw8
  refine lv_aload_n hx hb dX12_send_222 rfl (lv_at hl 5 rfl) ?_
  refine va_get (D := (dC, dI)) (ci := 9) (v := .int 1) (C := RX12) (T := TX12) (N := 18) hx hb hkw kin_X12 hown hK hP 0 rfl rfl 17 (by decide) (hkw _ m_127) (fun _ h9 => h9) rfl dX12_send_223 ?_
  refine lv_if_eq (tgt := 233) hx hb dX12_send_226 (by decide) (fun c_226_0 => absurd c_226_0 (by decide)) (fun c_226_0 => ?_)
  refine lv_iload_n hx hb dX12_send_229 rfl (lv_at hl 3 rfl) ?_
  refine lv_goto (tgt := 234) hx hb dX12_send_230 (by decide) ?_
  have hP9 := hP.sub (ws' := []) [] rfl
  have hD9 := hD.sub (ws' := []) [] (by decide) rfl
  have hK9 := hK.sub (tys' := []) [] rfl
  refine W.widen (k := 0) (n := 0) (Nat.le_of_ble_eq_true rfl) (Nat.le_of_ble_eq_true rfl) ?_
  exact W.iret (v := 0) hx hb hr (fun t ht hW => ⟨⟨0, (), rfl, rfl, by rw [ht]; exact hP9, va_K.moved hW.alike hK9, hD9⟩, hS.F ht⟩) hS.2.2 dX12_send_234

set_option maxHeartbeats 4000000 in
set_option maxRecDepth 100000 in
/-- isOpen_1, fresh -/
theorem c_KS_isOpen_1 (l : Launch) (dC : Nat → ClassId) (dI : Nat → Nat → Nat) (sz : Nat) (h0 : Nat) (t0 : Nat) (xm1 : Nat) (a0 : Nat) (w0 : Nat) (k0 : Nat) (e0 : Nat) (xm2 : Nat) (xm3 : Nat) (xm4 : Nat) (xm5 : Nat) (j0 : Nat) (j1 : Nat) (j2 : Nat) (ka : ClassId) (fa : Nat → Option Nat) (c1 : Nat) (i1 : Nat) (o1 : Nat) (b1 : Nat) (y1 : Nat) (z1 : Nat) (hc1 : fa 1 = some c1) : Met l yX12_isOpen wX12_isOpen ({ frames := 1, cells := 0, slots := 0, locals := 21 }) (va_Pc [.ref h0, .int 1] (pW (dC, dI) [(h0, .inr (9, [.ref t0, .ref xm1, .ref a0, .ref w0, .ref k0, .ref e0, .ref xm2, .ref xm3, .ref xm4, .ref xm5, .ref j0, .ref j1, .ref j2, .int 0, .int 0, .int 0, .int (-1), .int 1])), (a0, .inl (ka, 4, .inr (.inr (.inr (.inr fa))))), (c1, .inr (1, [.int 1, .ref i1, .ref o1, .ref b1, .int 0, .int 0, .int 0, .int 0, .ref y1, .int 0, .ref z1, .int 0]))] [(ka, .object "KeySteward$Connection")] sz)) (va_Qi (fun (r : Int32) (_u : Unit) => r = 1) (fun (_u : Unit) (t : State) => bW (dC, dI) [] [] (va_A [(h0, .inr (9, [.ref t0, .ref xm1, .ref a0, .ref w0, .ref k0, .ref e0, .ref xm2, .ref xm3, .ref xm4, .ref xm5, .ref j0, .ref j1, .ref j2, .int 0, .int 0, .int 0, .int (-1), .int 1])), (a0, .inl (ka, 4, .inr (.inr (.inr (.inr fa))))), (c1, .inr (1, [.int 1, .ref i1, .ref o1, .ref b1, .int 0, .int 0, .int 0, .int 0, .ref y1, .int 0, .ref z1, .int 0]))] sz) t) (va_A [(h0, .inr (9, [.ref t0, .ref xm1, .ref a0, .ref w0, .ref k0, .ref e0, .ref xm2, .ref xm3, .ref xm4, .ref xm5, .ref j0, .ref j1, .ref j2, .int 0, .int 0, .int 0, .int (-1), .int 1])), (a0, .inl (ka, 4, .inr (.inr (.inr (.inr fa))))), (c1, .inr (1, [.int 1, .ref i1, .ref o1, .ref b1, .int 0, .int 0, .int 0, .int 0, .ref y1, .int 0, .ref z1, .int 0]))] sz)) 0 0 (va_A [(h0, .inr (9, [.ref t0, .ref xm1, .ref a0, .ref w0, .ref k0, .ref e0, .ref xm2, .ref xm3, .ref xm4, .ref xm5, .ref j0, .ref j1, .ref j2, .int 0, .int 0, .int 0, .int (-1), .int 1])), (a0, .inl (ka, 4, .inr (.inr (.inr (.inr fa))))), (c1, .inr (1, [.int 1, .ref i1, .ref o1, .ref b1, .int 0, .int 0, .int 0, .int 0, .ref y1, .int 0, .ref z1, .int 0]))] sz) := by
  refine Met.ofW (cc := cX12_isOpen) (maxL := 3) (ret := (some .boolean)) (by decide) rfl ?_
  intro p e s m args below meth c s₁ B hml hv
  obtain ⟨rfl, hsz, hP, hK, hD0, hfx⟩ := hv
  have hx := B.exec
  have hb := B.bytes
  have hr := B.returns
  have hts := atoms_spec (ws := wX12_isOpen) B.pre
  have hkw : ∀ w ∈ kw, w.before _ s = true := fun w h => hts w (List.mem_cons_of_mem _ h)
  have hown : s.vm.findClass RX12 = some m.cls := findClass_of_methodNamed B.named
  have hlocks := B.notSynchronized
  subst hsz
  have hD := hD0.self (sz := s.heap.size)
  generalize hAe : va_A [(h0, .inr (9, [.ref t0, .ref xm1, .ref a0, .ref w0, .ref k0, .ref e0, .ref xm2, .ref xm3, .ref xm4, .ref xm5, .ref j0, .ref j1, .ref j2, .int 0, .int 0, .int 0, .int (-1), .int 1])), (a0, .inl (ka, 4, .inr (.inr (.inr (.inr fa))))), (c1, .inr (1, [.int 1, .ref i1, .ref o1, .ref b1, .int 0, .int 0, .int 0, .int 0, .ref y1, .int 0, .ref z1, .int 0]))] s.heap.size = A at hD ⊢
  have hA : ∀ q : Nat, s.heap.size ≤ q → A q := fun q h => by rw [← hAe]; exact Or.inr h
  have hS : va_S A s.heap s.heap [] := va_S.rf
  have hP : va_P (dC, dI) classes [(h0, .inr (9, [.ref t0, .ref xm1, .ref a0, .ref w0, .ref k0, .ref e0, .ref xm2, .ref xm3, .ref xm4, .ref xm5, .ref j0, .ref j1, .ref j2, .int 0, .int 0, .int 0, .int (-1), .int 1])), (a0, .inl (ka, 4, .inr (.inr (.inr (.inr fa))))), (c1, .inr (1, [.int 1, .ref i1, .ref o1, .ref b1, .int 0, .int 0, .int 0, .int 0, .ref y1, .int 0, .ref z1, .int 0]))] s.heap := hP
  have hl := lv_entry ([.ref h0, .int 1]) (n := 3) (Nat.le_of_ble_eq_true rfl)
  rw [lg_entry_eq]
  generalize (lg_sl ([.ref h0, .int 1]) ++ List.replicate (3 - (lg_sl ([.ref h0, .int 1])).length) Slot.unset).toArray = ls at hl ⊢
  have hl : lv_has ls 3 [(0, .ref h0), (1, .int 1)] := hl
  refine lv_aload_n hx hb dX12_isOpen_0 rfl (lv_at hl 0 rfl) ?_
  refine lv_iload_n hx hb dX12_isOpen_1 rfl (lv_at hl 1 rfl) ?_
  have hPc := hP.sub (ws' := [(h0, .inr (9, [.ref t0, .ref xm1, .ref a0, .ref w0, .ref k0, .ref e0, .ref xm2, .ref xm3, .ref xm4, .ref xm5, .ref j0, .ref j1, .ref j2, .int 0, .int 0, .int 0, .int (-1), .int 1])), (a0, .inl (ka, 4, .inr (.inr (.inr (.inr fa)))))]) [0, 1] rfl
  have hDc := hD.sub (ws' := [(h0, .inr (9, [.ref t0, .ref xm1, .ref a0, .ref w0, .ref k0, .ref e0, .ref xm2, .ref xm3, .ref xm4, .ref xm5, .ref j0, .ref j1, .ref j2, .int 0, .int 0, .int 0, .int (-1), .int 1])), (a0, .inl (ka, 4, .inr (.inr (.inr (.inr fa)))))]) [0, 1] (by decide) rfl
  have hKc := hK.sub (tys' := [(ka, .object "KeySteward$Connection")]) [0] rfl
  have hFc := va_free (wc := [(h0, .inr (9, [.ref t0, .ref xm1, .ref a0, .ref w0, .ref k0, .ref e0, .ref xm2, .ref xm3, .ref xm4, .ref xm5, .ref j0, .ref j1, .ref j2, .int 0, .int 0, .int 0, .int (-1), .int 1])), (a0, .inl (ka, 4, .inr (.inr (.inr (.inr fa)))))]) hD hS hA [0, 1] rfl
  refine va_callq (va_runV (As := [.int 1]) (rest := []) ⟨hx, hb, hml, hown, hkw⟩ (c_KS_coOf_1 l dC dI s.heap.size h0 t0 xm1 a0 w0 k0 e0 xm2 xm3 xm4 xm5 j0 j1 j2 ka fa c1 hc1) (callVv 1 hkw (kwI m_121) rfl rfl rfl (hkw _ m_122) (hkw _ m_123) (hkw _ m_124) (hkw _ m_125) (by decide +kernel) ⟨Nat.le_of_ble_eq_true rfl, Nat.le_of_ble_eq_true rfl⟩) ⟨fbW, va_recv hK hP (ci := 9) (q0 := 0) rfl rfl, pW_in hPc hKc hDc hfx⟩ rfl rfl hl.1 rfl (lv_room (Nat.le_of_ble_eq_true rfl)) dX12_isOpen_2 ⟨Nat.le_of_ble_eq_true rfl, Nat.le_of_ble_eq_true rfl⟩) hS (fun q _ h => hFc q h) hFc (fun r1 u t H1 locs ht hvm hw hB hz1 hk1 hS => ?_)
  obtain ⟨hP1, hK1, hD1⟩ := hB
  rw [ht] at hP1
  have hK1 := va_K.moved hvm.symm hK1
  obtain ⟨hP, hD⟩ := va_join (wr := [(c1, .inr (1, [.int 1, .ref i1, .ref o1, .ref b1, .int 0, .int 0, .int 0, .int 0, .ref y1, .int 0, .ref z1, .int 0]))]) (w1 := [(h0, .inr (9, [.ref t0, .ref xm1, .ref a0, .ref w0, .ref k0, .ref e0, .ref xm2, .ref xm3, .ref xm4, .ref xm5, .ref j0, .ref j1, .ref j2, .int 0, .int 0, .int 0, .int (-1), .int 1])), (a0, .inl (ka, 4, .inr (.inr (.inr (.inr fa)))))]) hP hD [0, 1] [2] rfl rfl (by decide) (by decide) hk1 hFc hP1 hD1
  have hK := (hK.sub (tys' := []) [] rfl).app hK1
  generalize H1 = H at hP hS ⊢
  have hP : va_P (dC, dI) classes [(c1, .inr (1, [.int 1, .ref i1, .ref o1, .ref b1, .int 0, .int 0, .int 0, .int 0, .ref y1, .int 0, .ref z1, .int 0])), (h0, .inr (9, [.ref t0, .ref xm1, .ref a0, .ref w0, .ref k0, .ref e0, .ref xm2, .ref xm3, .ref xm4, .ref xm5, .ref j0, .ref j1, .ref j2, .int 0, .int 0, .int 0, .int (-1), .int 1])), (a0, .inl (ka, 4, .inr (.inr (.inr (.inr fa)))))] H := hP
  have hD : va_D A [(c1, .inr (1, [.int 1, .ref i1, .ref o1, .ref b1, .int 0, .int 0, .int 0, .int 0, .ref y1, .int 0, .ref z1, .int 0])), (h0, .inr (9, [.ref t0, .ref xm1, .ref a0, .ref w0, .ref k0, .ref e0, .ref xm2, .ref xm3, .ref xm4, .ref xm5, .ref j0, .ref j1, .ref j2, .int 0, .int 0, .int 0, .int (-1), .int 1])), (a0, .inl (ka, 4, .inr (.inr (.inr (.inr fa)))))] := hD
  have hK : va_K (dC, dI) classes [(ka, .object "KeySteward$Connection")] s := hK
  have hw2 := hw
  try dsimp only at hw2
  subst hw2
  refine lv_astore_n (lv' := [(2, .ref c1), (0, .ref h0), (1, .int 1)]) hx hb dX12_isOpen_5 rfl hl (by decide) rfl (fun ls hl => ?_)
  refine lv_aload_n hx hb dX12_isOpen_6 rfl (lv_at hl 0 rfl) ?_
  refine lv_ifnull hx hb dX12_isOpen_7 ?_
  refine lv_aload_n hx hb dX12_isOpen_10 rfl (lv_at hl 0 rfl) ?_
  refine va_get (D := (dC, dI)) (ci := 1) (v := .int 1) (C := RX3) (T := TX3) (N := 12) hx hb hkw kin_X3 hown hK hP 0 rfl rfl 0 (by decide) (hkw _ m_114) (fun _ h9 => h9) rfl dX12_isOpen_11 ?_
  refine lv_if_eq (tgt := 21) hx hb dX12_isOpen_14 (by decide) (fun c_14_0 => absurd c_14_0 (by decide)) (fun c_14_0 => ?_)
  refine lv_iconst (v := 1) hx hb dX12_isOpen_17 (by decide) ?_
  refine lv_goto (tgt := 22) hx hb dX12_isOpen_18 (by decide) ?_
  have hP9 := hP.sub (ws' := []) [] rfl
  have hD9 := hD.sub (ws' := []) [] (by decide) rfl
  have hK9 := hK.sub (tys' := []) [] rfl
  refine W.widen (k := 0) (n := 0) (Nat.le_of_ble_eq_true rfl) (Nat.le_of_ble_eq_true rfl) ?_
  exact W.zret (v := 1) (ty := .boolean) hx hb hr rfl (fun t ht hW => ⟨⟨1, (), rfl, rfl, by rw [ht]; exact hP9, va_K.moved hW.alike hK9, hD9⟩, hS.F ht⟩) hS.2.2 dX12_isOpen_22

set_option maxHeartbeats 4000000 in
set_option maxRecDepth 100000 in
/-- out_1, fresh -/
theorem c_KS_out_1 (l : Launch) (dC : Nat → ClassId) (dI : Nat → Nat → Nat) (sz : Nat) (h0 : Nat) (t0 : Nat) (xm1 : Nat) (a0 : Nat) (w0 : Nat) (k0 : Nat) (e0 : Nat) (xm2 : Nat) (xm3 : Nat) (xm4 : Nat) (xm5 : Nat) (j0 : Nat) (j1 : Nat) (j2 : Nat) (ka : ClassId) (fa : Nat → Option Nat) (c1 : Nat) (i1 : Nat) (o1 : Nat) (b1 : Nat) (y1 : Nat) (z1 : Nat) (ro1 : Nat) (hc1 : fa 1 = some c1) : Met l yX12_out wX12_out ({ frames := 1, cells := 0, slots := 0, locals := 21 }) (va_Pc [.ref h0, .int 1] (pW (dC, dI) [(h0, .inr (9, [.ref t0, .ref xm1, .ref a0, .ref w0, .ref k0, .ref e0, .ref xm2, .ref xm3, .ref xm4, .ref xm5, .ref j0, .ref j1, .ref j2, .int 0, .int 0, .int 0, .int (-1), .int 1])), (a0, .inl (ka, 4, .inr (.inr (.inr (.inr fa))))), (c1, .inr (1, [.int 1, .ref i1, .ref o1, .ref b1, .int 0, .int 0, .int 0, .int 0, .ref y1, .int 0, .ref z1, .int 0])), (o1, .inr (0, [.int 65536, .ref ro1, .int 0, .int 0]))] [(ka, .object "KeySteward$Connection")] sz)) (va_Qi (fun (r : Int32) (_u : Unit) => r = 0) (fun (_u : Unit) (t : State) => bW (dC, dI) [] [] (va_A [(h0, .inr (9, [.ref t0, .ref xm1, .ref a0, .ref w0, .ref k0, .ref e0, .ref xm2, .ref xm3, .ref xm4, .ref xm5, .ref j0, .ref j1, .ref j2, .int 0, .int 0, .int 0, .int (-1), .int 1])), (a0, .inl (ka, 4, .inr (.inr (.inr (.inr fa))))), (c1, .inr (1, [.int 1, .ref i1, .ref o1, .ref b1, .int 0, .int 0, .int 0, .int 0, .ref y1, .int 0, .ref z1, .int 0])), (o1, .inr (0, [.int 65536, .ref ro1, .int 0, .int 0]))] sz) t) (va_A [(h0, .inr (9, [.ref t0, .ref xm1, .ref a0, .ref w0, .ref k0, .ref e0, .ref xm2, .ref xm3, .ref xm4, .ref xm5, .ref j0, .ref j1, .ref j2, .int 0, .int 0, .int 0, .int (-1), .int 1])), (a0, .inl (ka, 4, .inr (.inr (.inr (.inr fa))))), (c1, .inr (1, [.int 1, .ref i1, .ref o1, .ref b1, .int 0, .int 0, .int 0, .int 0, .ref y1, .int 0, .ref z1, .int 0])), (o1, .inr (0, [.int 65536, .ref ro1, .int 0, .int 0]))] sz)) 0 0 (va_A [(h0, .inr (9, [.ref t0, .ref xm1, .ref a0, .ref w0, .ref k0, .ref e0, .ref xm2, .ref xm3, .ref xm4, .ref xm5, .ref j0, .ref j1, .ref j2, .int 0, .int 0, .int 0, .int (-1), .int 1])), (a0, .inl (ka, 4, .inr (.inr (.inr (.inr fa))))), (c1, .inr (1, [.int 1, .ref i1, .ref o1, .ref b1, .int 0, .int 0, .int 0, .int 0, .ref y1, .int 0, .ref z1, .int 0])), (o1, .inr (0, [.int 65536, .ref ro1, .int 0, .int 0]))] sz) := by
  refine Met.ofW (cc := cX12_out) (maxL := 3) (ret := (some .int)) (by decide) rfl ?_
  intro p e s m args below meth c s₁ B hml hv
  obtain ⟨rfl, hsz, hP, hK, hD0, hfx⟩ := hv
  have hx := B.exec
  have hb := B.bytes
  have hr := B.returns
  have hts := atoms_spec (ws := wX12_out) B.pre
  have hkw : ∀ w ∈ kw, w.before _ s = true := fun w h => hts w (List.mem_cons_of_mem _ h)
  have hown : s.vm.findClass RX12 = some m.cls := findClass_of_methodNamed B.named
  have hlocks := B.notSynchronized
  subst hsz
  have hD := hD0.self (sz := s.heap.size)
  generalize hAe : va_A [(h0, .inr (9, [.ref t0, .ref xm1, .ref a0, .ref w0, .ref k0, .ref e0, .ref xm2, .ref xm3, .ref xm4, .ref xm5, .ref j0, .ref j1, .ref j2, .int 0, .int 0, .int 0, .int (-1), .int 1])), (a0, .inl (ka, 4, .inr (.inr (.inr (.inr fa))))), (c1, .inr (1, [.int 1, .ref i1, .ref o1, .ref b1, .int 0, .int 0, .int 0, .int 0, .ref y1, .int 0, .ref z1, .int 0])), (o1, .inr (0, [.int 65536, .ref ro1, .int 0, .int 0]))] s.heap.size = A at hD ⊢
  have hA : ∀ q : Nat, s.heap.size ≤ q → A q := fun q h => by rw [← hAe]; exact Or.inr h
  have hS : va_S A s.heap s.heap [] := va_S.rf
  have hP : va_P (dC, dI) classes [(h0, .inr (9, [.ref t0, .ref xm1, .ref a0, .ref w0, .ref k0, .ref e0, .ref xm2, .ref xm3, .ref xm4, .ref xm5, .ref j0, .ref j1, .ref j2, .int 0, .int 0, .int 0, .int (-1), .int 1])), (a0, .inl (ka, 4, .inr (.inr (.inr (.inr fa))))), (c1, .inr (1, [.int 1, .ref i1, .ref o1, .ref b1, .int 0, .int 0, .int 0, .int 0, .ref y1, .int 0, .ref z1, .int 0])), (o1, .inr (0, [.int 65536, .ref ro1, .int 0, .int 0]))] s.heap := hP
  have hl := lv_entry ([.ref h0, .int 1]) (n := 3) (Nat.le_of_ble_eq_true rfl)
  rw [lg_entry_eq]
  generalize (lg_sl ([.ref h0, .int 1]) ++ List.replicate (3 - (lg_sl ([.ref h0, .int 1])).length) Slot.unset).toArray = ls at hl ⊢
  have hl : lv_has ls 3 [(0, .ref h0), (1, .int 1)] := hl
  refine lv_aload_n hx hb dX12_out_0 rfl (lv_at hl 0 rfl) ?_
  refine lv_iload_n hx hb dX12_out_1 rfl (lv_at hl 1 rfl) ?_
  have hPc := hP.sub (ws' := [(h0, .inr (9, [.ref t0, .ref xm1, .ref a0, .ref w0, .ref k0, .ref e0, .ref xm2, .ref xm3, .ref xm4, .ref xm5, .ref j0, .ref j1, .ref j2, .int 0, .int 0, .int 0, .int (-1), .int 1])), (a0, .inl (ka, 4, .inr (.inr (.inr (.inr fa)))))]) [0, 1] rfl
  have hDc := hD.sub (ws' := [(h0, .inr (9, [.ref t0, .ref xm1, .ref a0, .ref w0, .ref k0, .ref e0, .ref xm2, .ref xm3, .ref xm4, .ref xm5, .ref j0, .ref j1, .ref j2, .int 0, .int 0, .int 0, .int (-1), .int 1])), (a0, .inl (ka, 4, .inr (.inr (.inr (.inr fa)))))]) [0, 1] (by decide) rfl
  have hKc := hK.sub (tys' := [(ka, .object "KeySteward$Connection")]) [0] rfl
  have hFc := va_free (wc := [(h0, .inr (9, [.ref t0, .ref xm1, .ref a0, .ref w0, .ref k0, .ref e0, .ref xm2, .ref xm3, .ref xm4, .ref xm5, .ref j0, .ref j1, .ref j2, .int 0, .int 0, .int 0, .int (-1), .int 1])), (a0, .inl (ka, 4, .inr (.inr (.inr (.inr fa)))))]) hD hS hA [0, 1] rfl
  refine va_callq (va_runV (As := [.int 1]) (rest := []) ⟨hx, hb, hml, hown, hkw⟩ (c_KS_coOf_1 l dC dI s.heap.size h0 t0 xm1 a0 w0 k0 e0 xm2 xm3 xm4 xm5 j0 j1 j2 ka fa c1 hc1) (callVv 1 hkw (kwI m_121) rfl rfl rfl (hkw _ m_122) (hkw _ m_123) (hkw _ m_124) (hkw _ m_125) (by decide +kernel) ⟨Nat.le_of_ble_eq_true rfl, Nat.le_of_ble_eq_true rfl⟩) ⟨fbW, va_recv hK hP (ci := 9) (q0 := 0) rfl rfl, pW_in hPc hKc hDc hfx⟩ rfl rfl hl.1 rfl (lv_room (Nat.le_of_ble_eq_true rfl)) dX12_out_2 ⟨Nat.le_of_ble_eq_true rfl, Nat.le_of_ble_eq_true rfl⟩) hS (fun q _ h => hFc q h) hFc (fun r1 u t H1 locs ht hvm hw hB hz1 hk1 hS => ?_)
  obtain ⟨hP1, hK1, hD1⟩ := hB
  rw [ht] at hP1
  have hK1 := va_K.moved hvm.symm hK1
  obtain ⟨hP, hD⟩ := va_join (wr := [(c1, .inr (1, [.int 1, .ref i1, .ref o1, .ref b1, .int 0, .int 0, .int 0, .int 0, .ref y1, .int 0, .ref z1, .int 0])), (o1, .inr (0, [.int 65536, .ref ro1, .int 0, .int 0]))]) (w1 := [(h0, .inr (9, [.ref t0, .ref xm1, .ref a0, .ref w0, .ref k0, .ref e0, .ref xm2, .ref xm3, .ref xm4, .ref xm5, .ref j0, .ref j1, .ref j2, .int 0, .int 0, .int 0, .int (-1), .int 1])), (a0, .inl (ka, 4, .inr (.inr (.inr (.inr fa)))))]) hP hD [0, 1] [2, 3] rfl rfl (by decide) (by decide) hk1 hFc hP1 hD1
  have hK := (hK.sub (tys' := []) [] rfl).app hK1
  generalize H1 = H at hP hS ⊢
  have hP : va_P (dC, dI) classes [(c1, .inr (1, [.int 1, .ref i1, .ref o1, .ref b1, .int 0, .int 0, .int 0, .int 0, .ref y1, .int 0, .ref z1, .int 0])), (o1, .inr (0, [.int 65536, .ref ro1, .int 0, .int 0])), (h0, .inr (9, [.ref t0, .ref xm1, .ref a0, .ref w0, .ref k0, .ref e0, .ref xm2, .ref xm3, .ref xm4, .ref xm5, .ref j0, .ref j1, .ref j2, .int 0, .int 0, .int 0, .int (-1), .int 1])), (a0, .inl (ka, 4, .inr (.inr (.inr (.inr fa)))))] H := hP
  have hD : va_D A [(c1, .inr (1, [.int 1, .ref i1, .ref o1, .ref b1, .int 0, .int 0, .int 0, .int 0, .ref y1, .int 0, .ref z1, .int 0])), (o1, .inr (0, [.int 65536, .ref ro1, .int 0, .int 0])), (h0, .inr (9, [.ref t0, .ref xm1, .ref a0, .ref w0, .ref k0, .ref e0, .ref xm2, .ref xm3, .ref xm4, .ref xm5, .ref j0, .ref j1, .ref j2, .int 0, .int 0, .int 0, .int (-1), .int 1])), (a0, .inl (ka, 4, .inr (.inr (.inr (.inr fa)))))] := hD
  have hK : va_K (dC, dI) classes [(ka, .object "KeySteward$Connection")] s := hK
  have hw2 := hw
  try dsimp only at hw2
  subst hw2
  refine lv_astore_n (lv' := [(2, .ref c1), (0, .ref h0), (1, .int 1)]) hx hb dX12_out_5 rfl hl (by decide) rfl (fun ls hl => ?_)
  refine lv_aload_n hx hb dX12_out_6 rfl (lv_at hl 0 rfl) ?_
  refine lv_ifnonnull (tgt := 14) hx hb dX12_out_7 (by decide) ?_
  refine lv_aload_n hx hb dX12_out_14 rfl (lv_at hl 0 rfl) ?_
  refine va_get (D := (dC, dI)) (ci := 1) (v := .ref o1) (C := RX3) (T := TX3) (N := 12) hx hb hkw kin_X3 hown hK hP 0 rfl rfl 2 (by decide) (hkw _ m_126) (fun _ h9 => h9) rfl dX12_out_15 ?_
  refine va_get (D := (dC, dI)) (ci := 0) (v := .int 0) (C := RX1) (T := TX1) (N := 4) hx hb hkw kin_X1 hown hK hP 1 rfl rfl 2 (by decide) (hkw _ m_104) (fun _ h9 => h9) rfl dX12_out_18 ?_
  have hP9 := hP.sub (ws' := []) [] rfl
  have hD9 := hD.sub (ws' := []) [] (by decide) rfl
  have hK9 := hK.sub (tys' := []) [] rfl
  refine W.widen (k := 0) (n := 0) (Nat.le_of_ble_eq_true rfl) (Nat.le_of_ble_eq_true rfl) ?_
  exact W.iret (v := 0) hx hb hr (fun t ht hW => ⟨⟨0, (), rfl, rfl, by rw [ht]; exact hP9, va_K.moved hW.alike hK9, hD9⟩, hS.F ht⟩) hS.2.2 dX12_out_21

set_option maxHeartbeats 4000000 in
set_option maxRecDepth 100000 in
/-- take_1_0, fresh -/
theorem c_KS_take_1_0 (l : Launch) (dC : Nat → ClassId) (dI : Nat → Nat → Nat) (sz : Nat) (h0 : Nat) (t0 : Nat) (xm1 : Nat) (a0 : Nat) (w0 : Nat) (k0 : Nat) (e0 : Nat) (xm2 : Nat) (xm3 : Nat) (xm4 : Nat) (xm5 : Nat) (j0 : Nat) (j1 : Nat) (j2 : Nat) (ka : ClassId) (fa : Nat → Option Nat) (c1 : Nat) (i1 : Nat) (o1 : Nat) (b1 : Nat) (y1 : Nat) (z1 : Nat) (ro1 : Nat) (hc1 : fa 1 = some c1) : Met l yX12_take wX12_take ({ frames := 1, cells := 0, slots := 0, locals := 22 }) (va_Pc [.ref h0, .int 1, .int 0] (pW (dC, dI) [(h0, .inr (9, [.ref t0, .ref xm1, .ref a0, .ref w0, .ref k0, .ref e0, .ref xm2, .ref xm3, .ref xm4, .ref xm5, .ref j0, .ref j1, .ref j2, .int 0, .int 0, .int 0, .int (-1), .int 1])), (a0, .inl (ka, 4, .inr (.inr (.inr (.inr fa))))), (c1, .inr (1, [.int 1, .ref i1, .ref o1, .ref b1, .int 0, .int 0, .int 0, .int 0, .ref y1, .int 0, .ref z1, .int 0])), (o1, .inr (0, [.int 65536, .ref ro1, .int 0, .int 0]))] [(ka, .object "KeySteward$Connection")] sz)) (va_Qi (fun (r : Int32) (_u : Unit) => r = 1) (fun (_u : Unit) (t : State) => bW (dC, dI) [] [] (va_A [(h0, .inr (9, [.ref t0, .ref xm1, .ref a0, .ref w0, .ref k0, .ref e0, .ref xm2, .ref xm3, .ref xm4, .ref xm5, .ref j0, .ref j1, .ref j2, .int 0, .int 0, .int 0, .int (-1), .int 1])), (a0, .inl (ka, 4, .inr (.inr (.inr (.inr fa))))), (c1, .inr (1, [.int 1, .ref i1, .ref o1, .ref b1, .int 0, .int 0, .int 0, .int 0, .ref y1, .int 0, .ref z1, .int 0])), (o1, .inr (0, [.int 65536, .ref ro1, .int 0, .int 0]))] sz) t) (va_A [(h0, .inr (9, [.ref t0, .ref xm1, .ref a0, .ref w0, .ref k0, .ref e0, .ref xm2, .ref xm3, .ref xm4, .ref xm5, .ref j0, .ref j1, .ref j2, .int 0, .int 0, .int 0, .int (-1), .int 1])), (a0, .inl (ka, 4, .inr (.inr (.inr (.inr fa))))), (c1, .inr (1, [.int 1, .ref i1, .ref o1, .ref b1, .int 0, .int 0, .int 0, .int 0, .ref y1, .int 0, .ref z1, .int 0])), (o1, .inr (0, [.int 65536, .ref ro1, .int 0, .int 0]))] sz)) 0 0 (va_A [(h0, .inr (9, [.ref t0, .ref xm1, .ref a0, .ref w0, .ref k0, .ref e0, .ref xm2, .ref xm3, .ref xm4, .ref xm5, .ref j0, .ref j1, .ref j2, .int 0, .int 0, .int 0, .int (-1), .int 1])), (a0, .inl (ka, 4, .inr (.inr (.inr (.inr fa))))), (c1, .inr (1, [.int 1, .ref i1, .ref o1, .ref b1, .int 0, .int 0, .int 0, .int 0, .ref y1, .int 0, .ref z1, .int 0])), (o1, .inr (0, [.int 65536, .ref ro1, .int 0, .int 0]))] sz) := by
  refine Met.ofW (cc := cX12_take) (maxL := 4) (ret := (some .boolean)) (by decide) rfl ?_
  intro p e s m args below meth c s₁ B hml hv
  obtain ⟨rfl, hsz, hP, hK, hD0, hfx⟩ := hv
  have hx := B.exec
  have hb := B.bytes
  have hr := B.returns
  have hts := atoms_spec (ws := wX12_take) B.pre
  have hkw : ∀ w ∈ kw, w.before _ s = true := fun w h => hts w (List.mem_cons_of_mem _ h)
  have hown : s.vm.findClass RX12 = some m.cls := findClass_of_methodNamed B.named
  have hlocks := B.notSynchronized
  subst hsz
  have hD := hD0.self (sz := s.heap.size)
  generalize hAe : va_A [(h0, .inr (9, [.ref t0, .ref xm1, .ref a0, .ref w0, .ref k0, .ref e0, .ref xm2, .ref xm3, .ref xm4, .ref xm5, .ref j0, .ref j1, .ref j2, .int 0, .int 0, .int 0, .int (-1), .int 1])), (a0, .inl (ka, 4, .inr (.inr (.inr (.inr fa))))), (c1, .inr (1, [.int 1, .ref i1, .ref o1, .ref b1, .int 0, .int 0, .int 0, .int 0, .ref y1, .int 0, .ref z1, .int 0])), (o1, .inr (0, [.int 65536, .ref ro1, .int 0, .int 0]))] s.heap.size = A at hD ⊢
  have hA : ∀ q : Nat, s.heap.size ≤ q → A q := fun q h => by rw [← hAe]; exact Or.inr h
  have hS : va_S A s.heap s.heap [] := va_S.rf
  have hP : va_P (dC, dI) classes [(h0, .inr (9, [.ref t0, .ref xm1, .ref a0, .ref w0, .ref k0, .ref e0, .ref xm2, .ref xm3, .ref xm4, .ref xm5, .ref j0, .ref j1, .ref j2, .int 0, .int 0, .int 0, .int (-1), .int 1])), (a0, .inl (ka, 4, .inr (.inr (.inr (.inr fa))))), (c1, .inr (1, [.int 1, .ref i1, .ref o1, .ref b1, .int 0, .int 0, .int 0, .int 0, .ref y1, .int 0, .ref z1, .int 0])), (o1, .inr (0, [.int 65536, .ref ro1, .int 0, .int 0]))] s.heap := hP
  have hl := lv_entry ([.ref h0, .int 1, .int 0]) (n := 4) (Nat.le_of_ble_eq_true rfl)
  rw [lg_entry_eq]
  generalize (lg_sl ([.ref h0, .int 1, .int 0]) ++ List.replicate (4 - (lg_sl ([.ref h0, .int 1, .int 0])).length) Slot.unset).toArray = ls at hl ⊢
  have hl : lv_has ls 4 [(0, .ref h0), (1, .int 1), (2, .int 0)] := hl
  refine lv_aload_n hx hb dX12_take_0 rfl (lv_at hl 0 rfl) ?_
  refine lv_iload_n hx hb dX12_take_1 rfl (lv_at hl 1 rfl) ?_
  have hPc := hP.sub (ws' := [(h0, .inr (9, [.ref t0, .ref xm1, .ref a0, .ref w0, .ref k0, .ref e0, .ref xm2, .ref xm3, .ref xm4, .ref xm5, .ref j0, .ref j1, .ref j2, .int 0, .int 0, .int 0, .int (-1), .int 1])), (a0, .inl (ka, 4, .inr (.inr (.inr (.inr fa)))))]) [0, 1] rfl
  have hDc := hD.sub (ws' := [(h0, .inr (9, [.ref t0, .ref xm1, .ref a0, .ref w0, .ref k0, .ref e0, .ref xm2, .ref xm3, .ref xm4, .ref xm5, .ref j0, .ref j1, .ref j2, .int 0, .int 0, .int 0, .int (-1), .int 1])), (a0, .inl (ka, 4, .inr (.inr (.inr (.inr fa)))))]) [0, 1] (by decide) rfl
  have hKc := hK.sub (tys' := [(ka, .object "KeySteward$Connection")]) [0] rfl
  have hFc := va_free (wc := [(h0, .inr (9, [.ref t0, .ref xm1, .ref a0, .ref w0, .ref k0, .ref e0, .ref xm2, .ref xm3, .ref xm4, .ref xm5, .ref j0, .ref j1, .ref j2, .int 0, .int 0, .int 0, .int (-1), .int 1])), (a0, .inl (ka, 4, .inr (.inr (.inr (.inr fa)))))]) hD hS hA [0, 1] rfl
  refine va_callq (va_runV (As := [.int 1]) (rest := []) ⟨hx, hb, hml, hown, hkw⟩ (c_KS_coOf_1 l dC dI s.heap.size h0 t0 xm1 a0 w0 k0 e0 xm2 xm3 xm4 xm5 j0 j1 j2 ka fa c1 hc1) (callVv 1 hkw (kwI m_121) rfl rfl rfl (hkw _ m_122) (hkw _ m_123) (hkw _ m_124) (hkw _ m_125) (by decide +kernel) ⟨Nat.le_of_ble_eq_true rfl, Nat.le_of_ble_eq_true rfl⟩) ⟨fbW, va_recv hK hP (ci := 9) (q0 := 0) rfl rfl, pW_in hPc hKc hDc hfx⟩ rfl rfl hl.1 rfl (lv_room (Nat.le_of_ble_eq_true rfl)) dX12_take_2 ⟨Nat.le_of_ble_eq_true rfl, Nat.le_of_ble_eq_true rfl⟩) hS (fun q _ h => hFc q h) hFc (fun r1 u t H1 locs ht hvm hw hB hz1 hk1 hS => ?_)
  obtain ⟨hP1, hK1, hD1⟩ := hB
  rw [ht] at hP1
  have hK1 := va_K.moved hvm.symm hK1
  obtain ⟨hP, hD⟩ := va_join (wr := [(c1, .inr (1, [.int 1, .ref i1, .ref o1, .ref b1, .int 0, .int 0, .int 0, .int 0, .ref y1, .int 0, .ref z1, .int 0])), (o1, .inr (0, [.int 65536, .ref ro1, .int 0, .int 0]))]) (w1 := [(h0, .inr (9, [.ref t0, .ref xm1, .ref a0, .ref w0, .ref k0, .ref e0, .ref xm2, .ref xm3, .ref xm4, .ref xm5, .ref j0, .ref j1, .ref j2, .int 0, .int 0, .int 0, .int (-1), .int 1])), (a0, .inl (ka, 4, .inr (.inr (.inr (.inr fa)))))]) hP hD [0, 1] [2, 3] rfl rfl (by decide) (by decide) hk1 hFc hP1 hD1
  have hK := (hK.sub (tys' := []) [] rfl).app hK1
  generalize H1 = H at hP hS ⊢
  have hP : va_P (dC, dI) classes [(c1, .inr (1, [.int 1, .ref i1, .ref o1, .ref b1, .int 0, .int 0, .int 0, .int 0, .ref y1, .int 0, .ref z1, .int 0])), (o1, .inr (0, [.int 65536, .ref ro1, .int 0, .int 0])), (h0, .inr (9, [.ref t0, .ref xm1, .ref a0, .ref w0, .ref k0, .ref e0, .ref xm2, .ref xm3, .ref xm4, .ref xm5, .ref j0, .ref j1, .ref j2, .int 0, .int 0, .int 0, .int (-1), .int 1])), (a0, .inl (ka, 4, .inr (.inr (.inr (.inr fa)))))] H := hP
  have hD : va_D A [(c1, .inr (1, [.int 1, .ref i1, .ref o1, .ref b1, .int 0, .int 0, .int 0, .int 0, .ref y1, .int 0, .ref z1, .int 0])), (o1, .inr (0, [.int 65536, .ref ro1, .int 0, .int 0])), (h0, .inr (9, [.ref t0, .ref xm1, .ref a0, .ref w0, .ref k0, .ref e0, .ref xm2, .ref xm3, .ref xm4, .ref xm5, .ref j0, .ref j1, .ref j2, .int 0, .int 0, .int 0, .int (-1), .int 1])), (a0, .inl (ka, 4, .inr (.inr (.inr (.inr fa)))))] := hD
  have hK : va_K (dC, dI) classes [(ka, .object "KeySteward$Connection")] s := hK
  have hw2 := hw
  try dsimp only at hw2
  subst hw2
  refine lv_astore_n (lv' := [(3, .ref c1), (0, .ref h0), (1, .int 1), (2, .int 0)]) hx hb dX12_take_5 rfl hl (by decide) rfl (fun ls hl => ?_)
  refine lv_aload_n hx hb dX12_take_6 rfl (lv_at hl 0 rfl) ?_
  refine lv_ifnull hx hb dX12_take_7 ?_
  refine lv_iload_n hx hb dX12_take_10 rfl (lv_at hl 3 rfl) ?_
  refine lv_if_lt (tgt := 25) hx hb dX12_take_11 (by decide) (fun c_11_0 => absurd c_11_0 (by decide)) (fun c_11_0 => ?_)
  refine lv_iload_n hx hb dX12_take_14 rfl (lv_at hl 3 rfl) ?_
  refine lv_aload_n hx hb dX12_take_15 rfl (lv_at hl 0 rfl) ?_
  refine va_get (D := (dC, dI)) (ci := 1) (v := .ref o1) (C := RX3) (T := TX3) (N := 12) hx hb hkw kin_X3 hown hK hP 0 rfl rfl 2 (by decide) (hkw _ m_126) (fun _ h9 => h9) rfl dX12_take_16 ?_
  refine va_get (D := (dC, dI)) (ci := 0) (v := .int 0) (C := RX1) (T := TX1) (N := 4) hx hb hkw kin_X1 hown hK hP 1 rfl rfl 2 (by decide) (hkw _ m_104) (fun _ h9 => h9) rfl dX12_take_19 ?_
  refine lv_icmp_le (tgt := 27) hx hb dX12_take_22 (by decide) (fun c_22_0 => ?_) (fun c_22_0 => absurd c_22_0 (by decide))
  refine lv_aload_n hx hb dX12_take_27 rfl (lv_at hl 0 rfl) ?_
  refine va_get (D := (dC, dI)) (ci := 1) (v := .ref o1) (C := RX3) (T := TX3) (N := 12) hx hb hkw kin_X3 hown hK hP 0 rfl rfl 2 (by decide) (hkw _ m_126) (fun _ h9 => h9) rfl dX12_take_28 ?_
  refine lv_iload_n hx hb dX12_take_31 rfl (lv_at hl 3 rfl) ?_
  have hPc := hP.sub (ws' := [(o1, .inr (0, [.int 65536, .ref ro1, .int 0, .int 0]))]) [1] rfl
  have hDc := hD.sub (ws' := [(o1, .inr (0, [.int 65536, .ref ro1, .int 0, .int 0]))]) [1] (by decide) rfl
  have hKc := hK.sub (tys' := []) [] rfl
  have hFc := va_free (wc := [(o1, .inr (0, [.int 65536, .ref ro1, .int 0, .int 0]))]) hD hS hA [1] rfl
  refine va_callv (va_runV (As := [.int 0]) (rest := []) ⟨hx, hb, hml, hown, hkw⟩ (c_By_drop l dC dI H.size o1 ro1 65536 0 0) (callVv 1 hkw (kwI m_116) rfl rfl rfl (hkw _ m_9) (hkw _ m_117) (hkw _ m_118) (hkw _ m_119) (by decide +kernel) ⟨Nat.le_of_ble_eq_true rfl, Nat.le_of_ble_eq_true rfl⟩) ⟨fbW, va_recv hK hP (ci := 0) (q0 := 1) rfl rfl, pW_in hPc hKc hDc hfx⟩ rfl rfl hl.1 rfl (lv_room (Nat.le_of_ble_eq_true rfl)) dX12_take_32 ⟨Nat.le_of_ble_eq_true rfl, Nat.le_of_ble_eq_true rfl⟩) hS (fun q _ h => hFc q h) hFc (fun u t H1 locs ht hvm hw hB hz1 hk1 hS => ?_)
  obtain ⟨hP1, hK1, hD1⟩ := hB
  rw [ht] at hP1
  have hK1 := va_K.moved hvm.symm hK1
  obtain ⟨hP, hD⟩ := va_join (wr := [(c1, .inr (1, [.int 1, .ref i1, .ref o1, .ref b1, .int 0, .int 0, .int 0, .int 0, .ref y1, .int 0, .ref z1, .int 0])), (h0, .inr (9, [.ref t0, .ref xm1, .ref a0, .ref w0, .ref k0, .ref e0, .ref xm2, .ref xm3, .ref xm4, .ref xm5, .ref j0, .ref j1, .ref j2, .int 0, .int 0, .int 0, .int (-1), .int 1])), (a0, .inl (ka, 4, .inr (.inr (.inr (.inr fa)))))]) (w1 := [(o1, .inr (0, [.int 65536, .ref ro1, .int 0, .int 0]))]) hP hD [1] [0, 2, 3] rfl rfl (by decide) (by decide) hk1 hFc hP1 hD1
  have hK := (hK.sub (tys' := [(ka, .object "KeySteward$Connection")]) [0] rfl).app hK1
  generalize H1 = H at hP hS ⊢
  have hP : va_P (dC, dI) classes [(c1, .inr (1, [.int 1, .ref i1, .ref o1, .ref b1, .int 0, .int 0, .int 0, .int 0, .ref y1, .int 0, .ref z1, .int 0])), (h0, .inr (9, [.ref t0, .ref xm1, .ref a0, .ref w0, .ref k0, .ref e0, .ref xm2, .ref xm3, .ref xm4, .ref xm5, .ref j0, .ref j1, .ref j2, .int 0, .int 0, .int 0, .int (-1), .int 1])), (a0, .inl (ka, 4, .inr (.inr (.inr (.inr fa))))), (o1, .inr (0, [.int 65536, .ref ro1, .int 0, .int 0]))] H := hP
  have hD : va_D A [(c1, .inr (1, [.int 1, .ref i1, .ref o1, .ref b1, .int 0, .int 0, .int 0, .int 0, .ref y1, .int 0, .ref z1, .int 0])), (h0, .inr (9, [.ref t0, .ref xm1, .ref a0, .ref w0, .ref k0, .ref e0, .ref xm2, .ref xm3, .ref xm4, .ref xm5, .ref j0, .ref j1, .ref j2, .int 0, .int 0, .int 0, .int (-1), .int 1])), (a0, .inl (ka, 4, .inr (.inr (.inr (.inr fa))))), (o1, .inr (0, [.int 65536, .ref ro1, .int 0, .int 0]))] := hD
  have hK : va_K (dC, dI) classes [(ka, .object "KeySteward$Connection")] s := hK
  have hw3 := hw
  try dsimp only at hw3
  refine lv_iconst (v := 1) hx hb dX12_take_35 (by decide) ?_
  have hP9 := hP.sub (ws' := []) [] rfl
  have hD9 := hD.sub (ws' := []) [] (by decide) rfl
  have hK9 := hK.sub (tys' := []) [] rfl
  refine W.widen (k := 0) (n := 0) (Nat.le_of_ble_eq_true rfl) (Nat.le_of_ble_eq_true rfl) ?_
  exact W.zret (v := 1) (ty := .boolean) hx hb hr rfl (fun t ht hW => ⟨⟨1, (), rfl, rfl, by rw [ht]; exact hP9, va_K.moved hW.alike hK9, hD9⟩, hS.F ht⟩) hS.2.2 dX12_take_36

set_option maxHeartbeats 4000000 in
set_option maxRecDepth 100000 in
/-- take_1_out, fresh -/
theorem c_KS_take_1_out (l : Launch) (dC : Nat → ClassId) (dI : Nat → Nat → Nat) (sz : Nat) (h0 : Nat) (t0 : Nat) (xm1 : Nat) (a0 : Nat) (w0 : Nat) (k0 : Nat) (e0 : Nat) (xm2 : Nat) (xm3 : Nat) (xm4 : Nat) (xm5 : Nat) (j0 : Nat) (j1 : Nat) (j2 : Nat) (ka : ClassId) (fa : Nat → Option Nat) (c1 : Nat) (i1 : Nat) (o1 : Nat) (b1 : Nat) (y1 : Nat) (z1 : Nat) (ro1 : Nat) (p1 : Int32) (hc1 : fa 1 = some c1) (hn : p1 < 0 ∨ 0 < p1) : Met l yX12_take wX12_take ({ frames := 1, cells := 0, slots := 0, locals := 21 }) (va_Pc [.ref h0, .int 1, .int p1] (pW (dC, dI) [(h0, .inr (9, [.ref t0, .ref xm1, .ref a0, .ref w0, .ref k0, .ref e0, .ref xm2, .ref xm3, .ref xm4, .ref xm5, .ref j0, .ref j1, .ref j2, .int 0, .int 0, .int 0, .int (-1), .int 1])), (a0, .inl (ka, 4, .inr (.inr (.inr (.inr fa))))), (c1, .inr (1, [.int 1, .ref i1, .ref o1, .ref b1, .int 0, .int 0, .int 0, .int 0, .ref y1, .int 0, .ref z1, .int 0])), (o1, .inr (0, [.int 65536, .ref ro1, .int 0, .int 0]))] [(ka, .object "KeySteward$Connection")] sz)) (va_Qi (fun (r : Int32) (_u : Unit) => r = 0) (fun (_u : Unit) (t : State) => bW (dC, dI) [] [] (va_A [(h0, .inr (9, [.ref t0, .ref xm1, .ref a0, .ref w0, .ref k0, .ref e0, .ref xm2, .ref xm3, .ref xm4, .ref xm5, .ref j0, .ref j1, .ref j2, .int 0, .int 0, .int 0, .int (-1), .int 1])), (a0, .inl (ka, 4, .inr (.inr (.inr (.inr fa))))), (c1, .inr (1, [.int 1, .ref i1, .ref o1, .ref b1, .int 0, .int 0, .int 0, .int 0, .ref y1, .int 0, .ref z1, .int 0])), (o1, .inr (0, [.int 65536, .ref ro1, .int 0, .int 0]))] sz) t) (va_A [(h0, .inr (9, [.ref t0, .ref xm1, .ref a0, .ref w0, .ref k0, .ref e0, .ref xm2, .ref xm3, .ref xm4, .ref xm5, .ref j0, .ref j1, .ref j2, .int 0, .int 0, .int 0, .int (-1), .int 1])), (a0, .inl (ka, 4, .inr (.inr (.inr (.inr fa))))), (c1, .inr (1, [.int 1, .ref i1, .ref o1, .ref b1, .int 0, .int 0, .int 0, .int 0, .ref y1, .int 0, .ref z1, .int 0])), (o1, .inr (0, [.int 65536, .ref ro1, .int 0, .int 0]))] sz)) 0 0 (va_A [(h0, .inr (9, [.ref t0, .ref xm1, .ref a0, .ref w0, .ref k0, .ref e0, .ref xm2, .ref xm3, .ref xm4, .ref xm5, .ref j0, .ref j1, .ref j2, .int 0, .int 0, .int 0, .int (-1), .int 1])), (a0, .inl (ka, 4, .inr (.inr (.inr (.inr fa))))), (c1, .inr (1, [.int 1, .ref i1, .ref o1, .ref b1, .int 0, .int 0, .int 0, .int 0, .ref y1, .int 0, .ref z1, .int 0])), (o1, .inr (0, [.int 65536, .ref ro1, .int 0, .int 0]))] sz) := by
  refine Met.ofW (cc := cX12_take) (maxL := 4) (ret := (some .boolean)) (by decide) rfl ?_
  intro p e s m args below meth c s₁ B hml hv
  obtain ⟨rfl, hsz, hP, hK, hD0, hfx⟩ := hv
  have hx := B.exec
  have hb := B.bytes
  have hr := B.returns
  have hts := atoms_spec (ws := wX12_take) B.pre
  have hkw : ∀ w ∈ kw, w.before _ s = true := fun w h => hts w (List.mem_cons_of_mem _ h)
  have hown : s.vm.findClass RX12 = some m.cls := findClass_of_methodNamed B.named
  have hlocks := B.notSynchronized
  subst hsz
  have hD := hD0.self (sz := s.heap.size)
  generalize hAe : va_A [(h0, .inr (9, [.ref t0, .ref xm1, .ref a0, .ref w0, .ref k0, .ref e0, .ref xm2, .ref xm3, .ref xm4, .ref xm5, .ref j0, .ref j1, .ref j2, .int 0, .int 0, .int 0, .int (-1), .int 1])), (a0, .inl (ka, 4, .inr (.inr (.inr (.inr fa))))), (c1, .inr (1, [.int 1, .ref i1, .ref o1, .ref b1, .int 0, .int 0, .int 0, .int 0, .ref y1, .int 0, .ref z1, .int 0])), (o1, .inr (0, [.int 65536, .ref ro1, .int 0, .int 0]))] s.heap.size = A at hD ⊢
  have hA : ∀ q : Nat, s.heap.size ≤ q → A q := fun q h => by rw [← hAe]; exact Or.inr h
  have hS : va_S A s.heap s.heap [] := va_S.rf
  have hP : va_P (dC, dI) classes [(h0, .inr (9, [.ref t0, .ref xm1, .ref a0, .ref w0, .ref k0, .ref e0, .ref xm2, .ref xm3, .ref xm4, .ref xm5, .ref j0, .ref j1, .ref j2, .int 0, .int 0, .int 0, .int (-1), .int 1])), (a0, .inl (ka, 4, .inr (.inr (.inr (.inr fa))))), (c1, .inr (1, [.int 1, .ref i1, .ref o1, .ref b1, .int 0, .int 0, .int 0, .int 0, .ref y1, .int 0, .ref z1, .int 0])), (o1, .inr (0, [.int 65536, .ref ro1, .int 0, .int 0]))] s.heap := hP
  have hl := lv_entry ([.ref h0, .int 1, .int p1]) (n := 4) (Nat.le_of_ble_eq_true rfl)
  rw [lg_entry_eq]
  generalize (lg_sl ([.ref h0, .int 1, .int p1]) ++ List.replicate (4 - (lg_sl ([.ref h0, .int 1, .int p1])).length) Slot.unset).toArray = ls at hl ⊢
  have hl : lv_has ls 4 [(0, .ref h0), (1, .int 1), (2, .int p1)] := hl
  refine lv_aload_n hx hb dX12_take_0 rfl (lv_at hl 0 rfl) ?_
  refine lv_iload_n hx hb dX12_take_1 rfl (lv_at hl 1 rfl) ?_
  have hPc := hP.sub (ws' := [(h0, .inr (9, [.ref t0, .ref xm1, .ref a0, .ref w0, .ref k0, .ref e0, .ref xm2, .ref xm3, .ref xm4, .ref xm5, .ref j0, .ref j1, .ref j2, .int 0, .int 0, .int 0, .int (-1), .int 1])), (a0, .inl (ka, 4, .inr (.inr (.inr (.inr fa)))))]) [0, 1] rfl
  have hDc := hD.sub (ws' := [(h0, .inr (9, [.ref t0, .ref xm1, .ref a0, .ref w0, .ref k0, .ref e0, .ref xm2, .ref xm3, .ref xm4, .ref xm5, .ref j0, .ref j1, .ref j2, .int 0, .int 0, .int 0, .int (-1), .int 1])), (a0, .inl (ka, 4, .inr (.inr (.inr (.inr fa)))))]) [0, 1] (by decide) rfl
  have hKc := hK.sub (tys' := [(ka, .object "KeySteward$Connection")]) [0] rfl
  have hFc := va_free (wc := [(h0, .inr (9, [.ref t0, .ref xm1, .ref a0, .ref w0, .ref k0, .ref e0, .ref xm2, .ref xm3, .ref xm4, .ref xm5, .ref j0, .ref j1, .ref j2, .int 0, .int 0, .int 0, .int (-1), .int 1])), (a0, .inl (ka, 4, .inr (.inr (.inr (.inr fa)))))]) hD hS hA [0, 1] rfl
  refine va_callq (va_runV (As := [.int 1]) (rest := []) ⟨hx, hb, hml, hown, hkw⟩ (c_KS_coOf_1 l dC dI s.heap.size h0 t0 xm1 a0 w0 k0 e0 xm2 xm3 xm4 xm5 j0 j1 j2 ka fa c1 hc1) (callVv 1 hkw (kwI m_121) rfl rfl rfl (hkw _ m_122) (hkw _ m_123) (hkw _ m_124) (hkw _ m_125) (by decide +kernel) ⟨Nat.le_of_ble_eq_true rfl, Nat.le_of_ble_eq_true rfl⟩) ⟨fbW, va_recv hK hP (ci := 9) (q0 := 0) rfl rfl, pW_in hPc hKc hDc hfx⟩ rfl rfl hl.1 rfl (lv_room (Nat.le_of_ble_eq_true rfl)) dX12_take_2 ⟨Nat.le_of_ble_eq_true rfl, Nat.le_of_ble_eq_true rfl⟩) hS (fun q _ h => hFc q h) hFc (fun r1 u t H1 locs ht hvm hw hB hz1 hk1 hS => ?_)
  obtain ⟨hP1, hK1, hD1⟩ := hB
  rw [ht] at hP1
  have hK1 := va_K.moved hvm.symm hK1
  obtain ⟨hP, hD⟩ := va_join (wr := [(c1, .inr (1, [.int 1, .ref i1, .ref o1, .ref b1, .int 0, .int 0, .int 0, .int 0, .ref y1, .int 0, .ref z1, .int 0])), (o1, .inr (0, [.int 65536, .ref ro1, .int 0, .int 0]))]) (w1 := [(h0, .inr (9, [.ref t0, .ref xm1, .ref a0, .ref w0, .ref k0, .ref e0, .ref xm2, .ref xm3, .ref xm4, .ref xm5, .ref j0, .ref j1, .ref j2, .int 0, .int 0, .int 0, .int (-1), .int 1])), (a0, .inl (ka, 4, .inr (.inr (.inr (.inr fa)))))]) hP hD [0, 1] [2, 3] rfl rfl (by decide) (by decide) hk1 hFc hP1 hD1
  have hK := (hK.sub (tys' := []) [] rfl).app hK1
  generalize H1 = H at hP hS ⊢
  have hP : va_P (dC, dI) classes [(c1, .inr (1, [.int 1, .ref i1, .ref o1, .ref b1, .int 0, .int 0, .int 0, .int 0, .ref y1, .int 0, .ref z1, .int 0])), (o1, .inr (0, [.int 65536, .ref ro1, .int 0, .int 0])), (h0, .inr (9, [.ref t0, .ref xm1, .ref a0, .ref w0, .ref k0, .ref e0, .ref xm2, .ref xm3, .ref xm4, .ref xm5, .ref j0, .ref j1, .ref j2, .int 0, .int 0, .int 0, .int (-1), .int 1])), (a0, .inl (ka, 4, .inr (.inr (.inr (.inr fa)))))] H := hP
  have hD : va_D A [(c1, .inr (1, [.int 1, .ref i1, .ref o1, .ref b1, .int 0, .int 0, .int 0, .int 0, .ref y1, .int 0, .ref z1, .int 0])), (o1, .inr (0, [.int 65536, .ref ro1, .int 0, .int 0])), (h0, .inr (9, [.ref t0, .ref xm1, .ref a0, .ref w0, .ref k0, .ref e0, .ref xm2, .ref xm3, .ref xm4, .ref xm5, .ref j0, .ref j1, .ref j2, .int 0, .int 0, .int 0, .int (-1), .int 1])), (a0, .inl (ka, 4, .inr (.inr (.inr (.inr fa)))))] := hD
  have hK : va_K (dC, dI) classes [(ka, .object "KeySteward$Connection")] s := hK
  have hw2 := hw
  try dsimp only at hw2
  subst hw2
  refine lv_astore_n (lv' := [(3, .ref c1), (0, .ref h0), (1, .int 1), (2, .int p1)]) hx hb dX12_take_5 rfl hl (by decide) rfl (fun ls hl => ?_)
  refine lv_aload_n hx hb dX12_take_6 rfl (lv_at hl 0 rfl) ?_
  refine lv_ifnull hx hb dX12_take_7 ?_
  refine lv_iload_n hx hb dX12_take_10 rfl (lv_at hl 3 rfl) ?_
  refine lv_if_lt (tgt := 25) hx hb dX12_take_11 (by decide) (fun c_11_0 => ?_) (fun c_11_0 => ?_)
  · refine lv_iconst (v := 0) hx hb dX12_take_25 (by decide) ?_
    have hP9 := hP.sub (ws' := []) [] rfl
    have hD9 := hD.sub (ws' := []) [] (by decide) rfl
    have hK9 := hK.sub (tys' := []) [] rfl
    refine W.widen (k := 0) (n := 0) (Nat.le_of_ble_eq_true rfl) (Nat.le_of_ble_eq_true rfl) ?_
    exact W.zret (v := 0) (ty := .boolean) hx hb hr rfl (fun t ht hW => ⟨⟨0, (), rfl, rfl, by rw [ht]; exact hP9, va_K.moved hW.alike hK9, hD9⟩, hS.F ht⟩) hS.2.2 dX12_take_26
  · refine lv_iload_n hx hb dX12_take_14 rfl (lv_at hl 3 rfl) ?_
    refine lv_aload_n hx hb dX12_take_15 rfl (lv_at hl 0 rfl) ?_
    refine va_get (D := (dC, dI)) (ci := 1) (v := .ref o1) (C := RX3) (T := TX3) (N := 12) hx hb hkw kin_X3 hown hK hP 0 rfl rfl 2 (by decide) (hkw _ m_126) (fun _ h9 => h9) rfl dX12_take_16 ?_
    refine va_get (D := (dC, dI)) (ci := 0) (v := .int 0) (C := RX1) (T := TX1) (N := 4) hx hb hkw kin_X1 hown hK hP 1 rfl rfl 2 (by decide) (hkw _ m_104) (fun _ h9 => h9) rfl dX12_take_19 ?_
    refine lv_icmp_le (tgt := 27) hx hb dX12_take_22 (by decide) (fun c_22_0 => absurd c_22_0 (dead_le hn c_11_0)) (fun c_22_0 => ?_)
    refine lv_iconst (v := 0) hx hb dX12_take_25 (by decide) ?_
    have hP9 := hP.sub (ws' := []) [] rfl
    have hD9 := hD.sub (ws' := []) [] (by decide) rfl
    have hK9 := hK.sub (tys' := []) [] rfl
    refine W.widen (k := 0) (n := 0) (Nat.le_of_ble_eq_true rfl) (Nat.le_of_ble_eq_true rfl) ?_
    exact W.zret (v := 0) (ty := .boolean) hx hb hr rfl (fun t ht hW => ⟨⟨0, (), rfl, rfl, by rw [ht]; exact hP9, va_K.moved hW.alike hK9, hD9⟩, hS.F ht⟩) hS.2.2 dX12_take_26

set_option maxHeartbeats 4000000 in
set_option maxRecDepth 100000 in
/-- open_1, fresh -/
theorem c_KS_open_1 (l : Launch) (dC : Nat → ClassId) (dI : Nat → Nat → Nat) (sz : Nat) (h0 : Nat) (t0 : Nat) (xm1 : Nat) (a0 : Nat) (w0 : Nat) (k0 : Nat) (e0 : Nat) (xm2 : Nat) (xm3 : Nat) (xm4 : Nat) (xm5 : Nat) (j0 : Nat) (j1 : Nat) (j2 : Nat) (ka : ClassId) (fa : Nat → Option Nat) (c1 : Nat) (i1 : Nat) (o1 : Nat) (b1 : Nat) (y1 : Nat) (z1 : Nat) (ri1 : Nat) (ro1 : Nat) (rb1 : Nat) (hc1 : fa 1 = some c1) : Met l yX12_open wX12_open ({ frames := 3, cells := 0, slots := 0, locals := 60 }) (va_Pc [.ref h0, .int 1] (pW (dC, dI) [(h0, .inr (9, [.ref t0, .ref xm1, .ref a0, .ref w0, .ref k0, .ref e0, .ref xm2, .ref xm3, .ref xm4, .ref xm5, .ref j0, .ref j1, .ref j2, .int 0, .int 0, .int 0, .int (-1), .int 1])), (a0, .inl (ka, 4, .inr (.inr (.inr (.inr fa))))), (c1, .inr (1, [.int 1, .ref i1, .ref o1, .ref b1, .int 0, .int 0, .int 0, .int 0, .ref y1, .int 0, .ref z1, .int 0])), (i1, .inr (0, [.int 131076, .ref ri1, .int 0, .int 0])), (o1, .inr (0, [.int 65536, .ref ro1, .int 0, .int 0])), (b1, .inr (0, [.int 67108864, .ref rb1, .int 0, .int 0]))] [(ka, .object "KeySteward$Connection")] sz)) (va_Qi (fun (r : Int32) (_u : Unit) => r = 1) (fun (_u : Unit) (t : State) => bW (dC, dI) [] [] (va_A [(h0, .inr (9, [.ref t0, .ref xm1, .ref a0, .ref w0, .ref k0, .ref e0, .ref xm2, .ref xm3, .ref xm4, .ref xm5, .ref j0, .ref j1, .ref j2, .int 0, .int 0, .int 0, .int (-1), .int 1])), (a0, .inl (ka, 4, .inr (.inr (.inr (.inr fa))))), (c1, .inr (1, [.int 1, .ref i1, .ref o1, .ref b1, .int 0, .int 0, .int 0, .int 0, .ref y1, .int 0, .ref z1, .int 0])), (i1, .inr (0, [.int 131076, .ref ri1, .int 0, .int 0])), (o1, .inr (0, [.int 65536, .ref ro1, .int 0, .int 0])), (b1, .inr (0, [.int 67108864, .ref rb1, .int 0, .int 0]))] sz) t) (va_A [(h0, .inr (9, [.ref t0, .ref xm1, .ref a0, .ref w0, .ref k0, .ref e0, .ref xm2, .ref xm3, .ref xm4, .ref xm5, .ref j0, .ref j1, .ref j2, .int 0, .int 0, .int 0, .int (-1), .int 1])), (a0, .inl (ka, 4, .inr (.inr (.inr (.inr fa))))), (c1, .inr (1, [.int 1, .ref i1, .ref o1, .ref b1, .int 0, .int 0, .int 0, .int 0, .ref y1, .int 0, .ref z1, .int 0])), (i1, .inr (0, [.int 131076, .ref ri1, .int 0, .int 0])), (o1, .inr (0, [.int 65536, .ref ro1, .int 0, .int 0])), (b1, .inr (0, [.int 67108864, .ref rb1, .int 0, .int 0]))] sz)) 0 0 (va_A [(h0, .inr (9, [.ref t0, .ref xm1, .ref a0, .ref w0, .ref k0, .ref e0, .ref xm2, .ref xm3, .ref xm4, .ref xm5, .ref j0, .ref j1, .ref j2, .int 0, .int 0, .int 0, .int (-1), .int 1])), (a0, .inl (ka, 4, .inr (.inr (.inr (.inr fa))))), (c1, .inr (1, [.int 1, .ref i1, .ref o1, .ref b1, .int 0, .int 0, .int 0, .int 0, .ref y1, .int 0, .ref z1, .int 0])), (i1, .inr (0, [.int 131076, .ref ri1, .int 0, .int 0])), (o1, .inr (0, [.int 65536, .ref ro1, .int 0, .int 0])), (b1, .inr (0, [.int 67108864, .ref rb1, .int 0, .int 0]))] sz) := by
  refine Met.ofW (cc := cX12_open) (maxL := 3) (ret := (some .boolean)) (by decide) rfl ?_
  intro p e s m args below meth c s₁ B hml hv
  obtain ⟨rfl, hsz, hP, hK, hD0, hfx⟩ := hv
  have hx := B.exec
  have hb := B.bytes
  have hr := B.returns
  have hts := atoms_spec (ws := wX12_open) B.pre
  have hkw : ∀ w ∈ kw, w.before _ s = true := fun w h => hts w (List.mem_cons_of_mem _ h)
  have hown : s.vm.findClass RX12 = some m.cls := findClass_of_methodNamed B.named
  have hlocks := B.notSynchronized
  subst hsz
  have hD := hD0.self (sz := s.heap.size)
  generalize hAe : va_A [(h0, .inr (9, [.ref t0, .ref xm1, .ref a0, .ref w0, .ref k0, .ref e0, .ref xm2, .ref xm3, .ref xm4, .ref xm5, .ref j0, .ref j1, .ref j2, .int 0, .int 0, .int 0, .int (-1), .int 1])), (a0, .inl (ka, 4, .inr (.inr (.inr (.inr fa))))), (c1, .inr (1, [.int 1, .ref i1, .ref o1, .ref b1, .int 0, .int 0, .int 0, .int 0, .ref y1, .int 0, .ref z1, .int 0])), (i1, .inr (0, [.int 131076, .ref ri1, .int 0, .int 0])), (o1, .inr (0, [.int 65536, .ref ro1, .int 0, .int 0])), (b1, .inr (0, [.int 67108864, .ref rb1, .int 0, .int 0]))] s.heap.size = A at hD ⊢
  have hA : ∀ q : Nat, s.heap.size ≤ q → A q := fun q h => by rw [← hAe]; exact Or.inr h
  have hS : va_S A s.heap s.heap [] := va_S.rf
  have hP : va_P (dC, dI) classes [(h0, .inr (9, [.ref t0, .ref xm1, .ref a0, .ref w0, .ref k0, .ref e0, .ref xm2, .ref xm3, .ref xm4, .ref xm5, .ref j0, .ref j1, .ref j2, .int 0, .int 0, .int 0, .int (-1), .int 1])), (a0, .inl (ka, 4, .inr (.inr (.inr (.inr fa))))), (c1, .inr (1, [.int 1, .ref i1, .ref o1, .ref b1, .int 0, .int 0, .int 0, .int 0, .ref y1, .int 0, .ref z1, .int 0])), (i1, .inr (0, [.int 131076, .ref ri1, .int 0, .int 0])), (o1, .inr (0, [.int 65536, .ref ro1, .int 0, .int 0])), (b1, .inr (0, [.int 67108864, .ref rb1, .int 0, .int 0]))] s.heap := hP
  have hl := lv_entry ([.ref h0, .int 1]) (n := 3) (Nat.le_of_ble_eq_true rfl)
  rw [lg_entry_eq]
  generalize (lg_sl ([.ref h0, .int 1]) ++ List.replicate (3 - (lg_sl ([.ref h0, .int 1])).length) Slot.unset).toArray = ls at hl ⊢
  have hl : lv_has ls 3 [(0, .ref h0), (1, .int 1)] := hl
  refine lv_aload_n hx hb dX12_open_0 rfl (lv_at hl 0 rfl) ?_
  refine lv_iload_n hx hb dX12_open_1 rfl (lv_at hl 1 rfl) ?_
  have hPc := hP.sub (ws' := [(h0, .inr (9, [.ref t0, .ref xm1, .ref a0, .ref w0, .ref k0, .ref e0, .ref xm2, .ref xm3, .ref xm4, .ref xm5, .ref j0, .ref j1, .ref j2, .int 0, .int 0, .int 0, .int (-1), .int 1])), (a0, .inl (ka, 4, .inr (.inr (.inr (.inr fa)))))]) [0, 1] rfl
  have hDc := hD.sub (ws' := [(h0, .inr (9, [.ref t0, .ref xm1, .ref a0, .ref w0, .ref k0, .ref e0, .ref xm2, .ref xm3, .ref xm4, .ref xm5, .ref j0, .ref j1, .ref j2, .int 0, .int 0, .int 0, .int (-1), .int 1])), (a0, .inl (ka, 4, .inr (.inr (.inr (.inr fa)))))]) [0, 1] (by decide) rfl
  have hKc := hK.sub (tys' := [(ka, .object "KeySteward$Connection")]) [0] rfl
  have hFc := va_free (wc := [(h0, .inr (9, [.ref t0, .ref xm1, .ref a0, .ref w0, .ref k0, .ref e0, .ref xm2, .ref xm3, .ref xm4, .ref xm5, .ref j0, .ref j1, .ref j2, .int 0, .int 0, .int 0, .int (-1), .int 1])), (a0, .inl (ka, 4, .inr (.inr (.inr (.inr fa)))))]) hD hS hA [0, 1] rfl
  refine va_callq (va_runV (As := [.int 1]) (rest := []) ⟨hx, hb, hml, hown, hkw⟩ (c_KS_coOf_1 l dC dI s.heap.size h0 t0 xm1 a0 w0 k0 e0 xm2 xm3 xm4 xm5 j0 j1 j2 ka fa c1 hc1) (callVv 1 hkw (kwI m_121) rfl rfl rfl (hkw _ m_122) (hkw _ m_123) (hkw _ m_124) (hkw _ m_125) (by decide +kernel) ⟨Nat.le_of_ble_eq_true rfl, Nat.le_of_ble_eq_true rfl⟩) ⟨fbW, va_recv hK hP (ci := 9) (q0 := 0) rfl rfl, pW_in hPc hKc hDc hfx⟩ rfl rfl hl.1 rfl (lv_room (Nat.le_of_ble_eq_true rfl)) dX12_open_2 ⟨Nat.le_of_ble_eq_true rfl, Nat.le_of_ble_eq_true rfl⟩) hS (fun q _ h => hFc q h) hFc (fun r1 u t H1 locs ht hvm hw hB hz1 hk1 hS => ?_)
  obtain ⟨hP1, hK1, hD1⟩ := hB
  rw [ht] at hP1
  have hK1 := va_K.moved hvm.symm hK1
  obtain ⟨hP, hD⟩ := va_join (wr := [(c1, .inr (1, [.int 1, .ref i1, .ref o1, .ref b1, .int 0, .int 0, .int 0, .int 0, .ref y1, .int 0, .ref z1, .int 0])), (i1, .inr (0, [.int 131076, .ref ri1, .int 0, .int 0])), (o1, .inr (0, [.int 65536, .ref ro1, .int 0, .int 0])), (b1, .inr (0, [.int 67108864, .ref rb1, .int 0, .int 0]))]) (w1 := [(h0, .inr (9, [.ref t0, .ref xm1, .ref a0, .ref w0, .ref k0, .ref e0, .ref xm2, .ref xm3, .ref xm4, .ref xm5, .ref j0, .ref j1, .ref j2, .int 0, .int 0, .int 0, .int (-1), .int 1])), (a0, .inl (ka, 4, .inr (.inr (.inr (.inr fa)))))]) hP hD [0, 1] [2, 3, 4, 5] rfl rfl (by decide) (by decide) hk1 hFc hP1 hD1
  have hK := (hK.sub (tys' := []) [] rfl).app hK1
  generalize H1 = H at hP hS ⊢
  have hP : va_P (dC, dI) classes [(c1, .inr (1, [.int 1, .ref i1, .ref o1, .ref b1, .int 0, .int 0, .int 0, .int 0, .ref y1, .int 0, .ref z1, .int 0])), (i1, .inr (0, [.int 131076, .ref ri1, .int 0, .int 0])), (o1, .inr (0, [.int 65536, .ref ro1, .int 0, .int 0])), (b1, .inr (0, [.int 67108864, .ref rb1, .int 0, .int 0])), (h0, .inr (9, [.ref t0, .ref xm1, .ref a0, .ref w0, .ref k0, .ref e0, .ref xm2, .ref xm3, .ref xm4, .ref xm5, .ref j0, .ref j1, .ref j2, .int 0, .int 0, .int 0, .int (-1), .int 1])), (a0, .inl (ka, 4, .inr (.inr (.inr (.inr fa)))))] H := hP
  have hD : va_D A [(c1, .inr (1, [.int 1, .ref i1, .ref o1, .ref b1, .int 0, .int 0, .int 0, .int 0, .ref y1, .int 0, .ref z1, .int 0])), (i1, .inr (0, [.int 131076, .ref ri1, .int 0, .int 0])), (o1, .inr (0, [.int 65536, .ref ro1, .int 0, .int 0])), (b1, .inr (0, [.int 67108864, .ref rb1, .int 0, .int 0])), (h0, .inr (9, [.ref t0, .ref xm1, .ref a0, .ref w0, .ref k0, .ref e0, .ref xm2, .ref xm3, .ref xm4, .ref xm5, .ref j0, .ref j1, .ref j2, .int 0, .int 0, .int 0, .int (-1), .int 1])), (a0, .inl (ka, 4, .inr (.inr (.inr (.inr fa)))))] := hD
  have hK : va_K (dC, dI) classes [(ka, .object "KeySteward$Connection")] s := hK
  have hw2 := hw
  try dsimp only at hw2
  subst hw2
  refine lv_astore_n (lv' := [(2, .ref c1), (0, .ref h0), (1, .int 1)]) hx hb dX12_open_5 rfl hl (by decide) rfl (fun ls hl => ?_)
  refine lv_aload_n hx hb dX12_open_6 rfl (lv_at hl 0 rfl) ?_
  refine lv_ifnull hx hb dX12_open_7 ?_
  refine lv_aload_n hx hb dX12_open_10 rfl (lv_at hl 1 rfl) ?_
  refine va_get (D := (dC, dI)) (ci := 9) (v := .int 1) (C := RX12) (T := TX12) (N := 18) hx hb hkw kin_X12 hown hK hP 4 rfl rfl 17 (by decide) (hkw _ m_127) (fun _ h9 => h9) rfl dX12_open_11 ?_
  refine lv_if_ne (tgt := 19) hx hb dX12_open_14 (by decide) (fun c_14_0 => ?_) (fun c_14_0 => absurd c_14_0 (by decide))
  refine lv_aload_n hx hb dX12_open_19 rfl (lv_at hl 0 rfl) ?_
  have hPc := hP.sub (ws' := [(c1, .inr (1, [.int 1, .ref i1, .ref o1, .ref b1, .int 0, .int 0, .int 0, .int 0, .ref y1, .int 0, .ref z1, .int 0])), (i1, .inr (0, [.int 131076, .ref ri1, .int 0, .int 0])), (b1, .inr (0, [.int 67108864, .ref rb1, .int 0, .int 0]))]) [0, 1, 3] rfl
  have hDc := hD.sub (ws' := [(c1, .inr (1, [.int 1, .ref i1, .ref o1, .ref b1, .int 0, .int 0, .int 0, .int 0, .ref y1, .int 0, .ref z1, .int 0])), (i1, .inr (0, [.int 131076, .ref ri1, .int 0, .int 0])), (b1, .inr (0, [.int 67108864, .ref rb1, .int 0, .int 0]))]) [0, 1, 3] (by decide) rfl
  have hKc := hK.sub (tys' := []) [] rfl
  have hFc := va_free (wc := [(c1, .inr (1, [.int 1, .ref i1, .ref o1, .ref b1, .int 0, .int 0, .int 0, .int 0, .ref y1, .int 0, .ref z1, .int 0])), (i1, .inr (0, [.int 131076, .ref ri1, .int 0, .int 0])), (b1, .inr (0, [.int 67108864, .ref rb1, .int 0, .int 0]))]) hD hS hA [0, 1, 3] rfl
  refine va_callv (va_runV (As := []) (rest := []) ⟨hx, hb, hml, hown, hkw⟩ (c_Co_close l dC dI H.size c1 i1 o1 b1 y1 z1 1 0 0 0 0 0 0 131076 ri1 0 0 67108864 rb1 0 0) (callVv 0 hkw (kwI m_128) rfl rfl rfl (hkw _ m_43) (hkw _ m_129) (hkw _ m_130) (hkw _ m_131) (by decide +kernel) ⟨Nat.le_of_ble_eq_true rfl, Nat.le_of_ble_eq_true rfl⟩) ⟨fbW, va_recv hK hP (ci := 1) (q0 := 0) rfl rfl, pW_in hPc hKc hDc hfx⟩ rfl rfl hl.1 rfl (lv_room (Nat.le_of_ble_eq_true rfl)) dX12_open_20 ⟨Nat.le_of_ble_eq_true rfl, Nat.le_of_ble_eq_true rfl⟩) hS (fun q _ h => hFc q h) hFc (fun u t H1 locs ht hvm hw hB hz1 hk1 hS => ?_)
  obtain ⟨hP1, hK1, hD1⟩ := hB
  rw [ht] at hP1
  have hK1 := va_K.moved hvm.symm hK1
  obtain ⟨hP, hD⟩ := va_join (wr := [(o1, .inr (0, [.int 65536, .ref ro1, .int 0, .int 0])), (h0, .inr (9, [.ref t0, .ref xm1, .ref a0, .ref w0, .ref k0, .ref e0, .ref xm2, .ref xm3, .ref xm4, .ref xm5, .ref j0, .ref j1, .ref j2, .int 0, .int 0, .int 0, .int (-1), .int 1])), (a0, .inl (ka, 4, .inr (.inr (.inr (.inr fa)))))]) (w1 := [(c1, .inr (1, [.int 0, .ref i1, .ref o1, .ref b1, .int 0, .int 0, .int 0, .int 0, .ref y1, .int 0, .ref z1, .int 0])), (i1, .inr (0, [.int 131076, .ref ri1, .int 0, .int 0])), (b1, .inr (0, [.int 67108864, .ref rb1, .int 0, .int 0]))]) hP hD [0, 1, 3] [2, 4, 5] rfl rfl (by decide) (by decide) hk1 hFc hP1 hD1
  have hK := (hK.sub (tys' := [(ka, .object "KeySteward$Connection")]) [0] rfl).app hK1
  generalize H1 = H at hP hS ⊢
  have hP : va_P (dC, dI) classes [(o1, .inr (0, [.int 65536, .ref ro1, .int 0, .int 0])), (h0, .inr (9, [.ref t0, .ref xm1, .ref a0, .ref w0, .ref k0, .ref e0, .ref xm2, .ref xm3, .ref xm4, .ref xm5, .ref j0, .ref j1, .ref j2, .int 0, .int 0, .int 0, .int (-1), .int 1])), (a0, .inl (ka, 4, .inr (.inr (.inr (.inr fa))))), (c1, .inr (1, [.int 0, .ref i1, .ref o1, .ref b1, .int 0, .int 0, .int 0, .int 0, .ref y1, .int 0, .ref z1, .int 0])), (i1, .inr (0, [.int 131076, .ref ri1, .int 0, .int 0])), (b1, .inr (0, [.int 67108864, .ref rb1, .int 0, .int 0]))] H := hP
  have hD : va_D A [(o1, .inr (0, [.int 65536, .ref ro1, .int 0, .int 0])), (h0, .inr (9, [.ref t0, .ref xm1, .ref a0, .ref w0, .ref k0, .ref e0, .ref xm2, .ref xm3, .ref xm4, .ref xm5, .ref j0, .ref j1, .ref j2, .int 0, .int 0, .int 0, .int (-1), .int 1])), (a0, .inl (ka, 4, .inr (.inr (.inr (.inr fa))))), (c1, .inr (1, [.int 0, .ref i1, .ref o1, .ref b1, .int 0, .int 0, .int 0, .int 0, .ref y1, .int 0, .ref z1, .int 0])), (i1, .inr (0, [.int 131076, .ref ri1, .int 0, .int 0])), (b1, .inr (0, [.int 67108864, .ref rb1, .int 0, .int 0]))] := hD
  have hK : va_K (dC, dI) classes [(ka, .object "KeySteward$Connection")] s := hK
  have hw3 := hw
  try dsimp only at hw3
  refine lv_aload_n hx hb dX12_open_23 rfl (lv_at hl 0 rfl) ?_
  refine va_get (D := (dC, dI)) (ci := 1) (v := .ref o1) (C := RX3) (T := TX3) (N := 12) hx hb hkw kin_X3 hown hK hP 3 rfl rfl 2 (by decide) (hkw _ m_126) (fun _ h9 => h9) rfl dX12_open_24 ?_
  have hPc := hP.sub (ws' := [(o1, .inr (0, [.int 65536, .ref ro1, .int 0, .int 0]))]) [0] rfl
  have hDc := hD.sub (ws' := [(o1, .inr (0, [.int 65536, .ref ro1, .int 0, .int 0]))]) [0] (by decide) rfl
  have hKc := hK.sub (tys' := []) [] rfl
  have hFc := va_free (wc := [(o1, .inr (0, [.int 65536, .ref ro1, .int 0, .int 0]))]) hD hS hA [0] rfl
  refine va_callv (va_runV (As := []) (rest := []) ⟨hx, hb, hml, hown, hkw⟩ (c_By_empty l dC dI H.size o1 ro1 65536 0 0) (callVv 0 hkw (kwI m_38) rfl rfl rfl (hkw _ m_9) (hkw _ m_132) (hkw _ m_40) (hkw _ m_41) (by decide +kernel) ⟨Nat.le_of_ble_eq_true rfl, Nat.le_of_ble_eq_true rfl⟩) ⟨fbW, va_recv hK hP (ci := 0) (q0 := 0) rfl rfl, pW_in hPc hKc hDc hfx⟩ rfl rfl hl.1 rfl (lv_room (Nat.le_of_ble_eq_true rfl)) dX12_open_27 ⟨Nat.le_of_ble_eq_true rfl, Nat.le_of_ble_eq_true rfl⟩) hS (fun q _ h => hFc q h) hFc (fun u t H1 locs ht hvm hw hB hz1 hk1 hS => ?_)
  obtain ⟨hP1, hK1, hD1⟩ := hB
  rw [ht] at hP1
  have hK1 := va_K.moved hvm.symm hK1
  obtain ⟨hP, hD⟩ := va_join (wr := [(h0, .inr (9, [.ref t0, .ref xm1, .ref a0, .ref w0, .ref k0, .ref e0, .ref xm2, .ref xm3, .ref xm4, .ref xm5, .ref j0, .ref j1, .ref j2, .int 0, .int 0, .int 0, .int (-1), .int 1])), (a0, .inl (ka, 4, .inr (.inr (.inr (.inr fa))))), (c1, .inr (1, [.int 0, .ref i1, .ref o1, .ref b1, .int 0, .int 0, .int 0, .int 0, .ref y1, .int 0, .ref z1, .int 0])), (i1, .inr (0, [.int 131076, .ref ri1, .int 0, .int 0])), (b1, .inr (0, [.int 67108864, .ref rb1, .int 0, .int 0]))]) (w1 := [(o1, .inr (0, [.int 65536, .ref ro1, .int 0, .int 0]))]) hP hD [0] [1, 2, 3, 4, 5] rfl rfl (by decide) (by decide) hk1 hFc hP1 hD1
  have hK := (hK.sub (tys' := [(ka, .object "KeySteward$Connection")]) [0] rfl).app hK1
  generalize H1 = H at hP hS ⊢
  have hP : va_P (dC, dI) classes [(h0, .inr (9, [.ref t0, .ref xm1, .ref a0, .ref w0, .ref k0, .ref e0, .ref xm2, .ref xm3, .ref xm4, .ref xm5, .ref j0, .ref j1, .ref j2, .int 0, .int 0, .int 0, .int (-1), .int 1])), (a0, .inl (ka, 4, .inr (.inr (.inr (.inr fa))))), (c1, .inr (1, [.int 0, .ref i1, .ref o1, .ref b1, .int 0, .int 0, .int 0, .int 0, .ref y1, .int 0, .ref z1, .int 0])), (i1, .inr (0, [.int 131076, .ref ri1, .int 0, .int 0])), (b1, .inr (0, [.int 67108864, .ref rb1, .int 0, .int 0])), (o1, .inr (0, [.int 65536, .ref ro1, .int 0, .int 0]))] H := hP
  have hD : va_D A [(h0, .inr (9, [.ref t0, .ref xm1, .ref a0, .ref w0, .ref k0, .ref e0, .ref xm2, .ref xm3, .ref xm4, .ref xm5, .ref j0, .ref j1, .ref j2, .int 0, .int 0, .int 0, .int (-1), .int 1])), (a0, .inl (ka, 4, .inr (.inr (.inr (.inr fa))))), (c1, .inr (1, [.int 0, .ref i1, .ref o1, .ref b1, .int 0, .int 0, .int 0, .int 0, .ref y1, .int 0, .ref z1, .int 0])), (i1, .inr (0, [.int 131076, .ref ri1, .int 0, .int 0])), (b1, .inr (0, [.int 67108864, .ref rb1, .int 0, .int 0])), (o1, .inr (0, [.int 65536, .ref ro1, .int 0, .int 0]))] := hD
  have hK : va_K (dC, dI) classes [(ka, .object "KeySteward$Connection")] s := hK
  have hw4 := hw
  try dsimp only at hw4
  refine lv_aload_n hx hb dX12_open_30 rfl (lv_at hl 0 rfl) ?_
  refine lv_iconst (v := 1) hx hb dX12_open_31 (by decide) ?_
  refine va_put (D := (dC, dI)) (ci := 1) (v := .int 1) (ty := .boolean) (C := RX3) (T := TX3) (N := 12) hx hb hkw kin_X3 tyX3 tyX3_ok nmX3 hown hK hP hD hS 2 rfl rfl 0 (by decide) (hkw _ m_114) (fun _ h9 => h9) rfl (by decide +kernel) rfl rfl (Nat.le_of_ble_eq_true rfl) dX12_open_32 (fun H locs hP hD hS => ?_)
  have hP : va_P (dC, dI) classes [(h0, .inr (9, [.ref t0, .ref xm1, .ref a0, .ref w0, .ref k0, .ref e0, .ref xm2, .ref xm3, .ref xm4, .ref xm5, .ref j0, .ref j1, .ref j2, .int 0, .int 0, .int 0, .int (-1), .int 1])), (a0, .inl (ka, 4, .inr (.inr (.inr (.inr fa))))), (c1, .inr (1, [.int 1, .ref i1, .ref o1, .ref b1, .int 0, .int 0, .int 0, .int 0, .ref y1, .int 0, .ref z1, .int 0])), (i1, .inr (0, [.int 131076, .ref ri1, .int 0, .int 0])), (b1, .inr (0, [.int 67108864, .ref rb1, .int 0, .int 0])), (o1, .inr (0, [.int 65536, .ref ro1, .int 0, .int 0]))] H := hP
  have hD : va_D A [(h0, .inr (9, [.ref t0, .ref xm1, .ref a0, .ref w0, .ref k0, .ref e0, .ref xm2, .ref xm3, .ref xm4, .ref xm5, .ref j0, .ref j1, .ref j2, .int 0, .int 0, .int 0, .int (-1), .int 1])), (a0, .inl (ka, 4, .inr (.inr (.inr (.inr fa))))), (c1, .inr (1, [.int 1, .ref i1, .ref o1, .ref b1, .int 0, .int 0, .int 0, .int 0, .ref y1, .int 0, .ref z1, .int 0])), (i1, .inr (0, [.int 131076, .ref ri1, .int 0, .int 0])), (b1, .inr (0, [.int 67108864, .ref rb1, .int 0, .int 0])), (o1, .inr (0, [.int 65536, .ref ro1, .int 0, .int 0]))] := hD
  refine lv_iconst (v := 1) hx hb dX12_open_35 (by decide) ?_
  have hP9 := hP.sub (ws' := []) [] rfl
  have hD9 := hD.sub (ws' := []) [] (by decide) rfl
  have hK9 := hK.sub (tys' := []) [] rfl
  refine W.widen (k := 0) (n := 0) (Nat.le_of_ble_eq_true rfl) (Nat.le_of_ble_eq_true rfl) ?_
  exact W.zret (v := 1) (ty := .boolean) hx hb hr rfl (fun t ht hW => ⟨⟨1, (), rfl, rfl, by rw [ht]; exact hP9, va_K.moved hW.alike hK9, hD9⟩, hS.F ht⟩) hS.2.2 dX12_open_36

set_option maxHeartbeats 4000000 in
set_option maxRecDepth 100000 in
/-- send_1, fresh -/
theorem c_KS_send_1 (l : Launch) (dC : Nat → ClassId) (dI : Nat → Nat → Nat) (sz : Nat) (h0 : Nat) (t0 : Nat) (xm1 : Nat) (a0 : Nat) (w0 : Nat) (k0 : Nat) (e0 : Nat) (xm2 : Nat) (xm3 : Nat) (xm4 : Nat) (xm5 : Nat) (j0 : Nat) (j1 : Nat) (j2 : Nat) (ka : ClassId) (fa : Nat → Option Nat) (tr : Nat) (kt : ClassId) (gt : Nat → Int32) (c1 : Nat) (i1 : Nat) (o1 : Nat) (b1 : Nat) (y1 : Nat) (z1 : Nat) (ri1 : Nat) (ki : ClassId) (gi : Nat → Int32) (u0 : Nat) (u1 : Nat) (u2 : Nat) (u3 : Nat) (u4 : Nat) (hc1 : fa 1 = some c1) : Met l yX12_send wX12_send ({ frames := 2, cells := 0, slots := 0, locals := 63 }) (va_Pc [.ref h0, .int 1] (pW (dC, dI) [(h0, .inr (9, [.ref t0, .ref xm1, .ref a0, .ref w0, .ref k0, .ref e0, .ref xm2, .ref xm3, .ref xm4, .ref xm5, .ref j0, .ref j1, .ref j2, .int 0, .int 0, .int 0, .int (-1), .int 1])), (a0, .inl (ka, 4, .inr (.inr (.inr (.inr fa))))), (t0, .inr (0, [.int 65540, .ref tr, .int 0, .int 0])), (tr, .inl (kt, 64, .inl gt)), (c1, .inr (1, [.int 1, .ref i1, .ref o1, .ref b1, .int 0, .int 0, .int 0, .int 0, .ref y1, .int 0, .ref z1, .int 0])), (i1, .inr (0, [.int 131076, .ref ri1, .int 0, .int 0])), (ri1, .inl (ki, 64, .inl gi)), (k0, .inr (3, [.ref u0, .ref u1, .ref u2, .ref u3, .int 0, .int 0, .ref u4, .null, .null, .long 0, .long 0, .int 0, .int 0, .int 0, .int 0, .int 0, .long 0]))] [(ka, .object "KeySteward$Connection"), (kt, .byte), (ki, .byte)] sz)) (va_Qi (fun (r : Int32) (_u : Unit) => r = 0) (fun (_u : Unit) (t : State) => bW (dC, dI) [] [] (va_A [(h0, .inr (9, [.ref t0, .ref xm1, .ref a0, .ref w0, .ref k0, .ref e0, .ref xm2, .ref xm3, .ref xm4, .ref xm5, .ref j0, .ref j1, .ref j2, .int 0, .int 0, .int 0, .int (-1), .int 1])), (a0, .inl (ka, 4, .inr (.inr (.inr (.inr fa))))), (t0, .inr (0, [.int 65540, .ref tr, .int 0, .int 0])), (tr, .inl (kt, 64, .inl gt)), (c1, .inr (1, [.int 1, .ref i1, .ref o1, .ref b1, .int 0, .int 0, .int 0, .int 0, .ref y1, .int 0, .ref z1, .int 0])), (i1, .inr (0, [.int 131076, .ref ri1, .int 0, .int 0])), (ri1, .inl (ki, 64, .inl gi)), (k0, .inr (3, [.ref u0, .ref u1, .ref u2, .ref u3, .int 0, .int 0, .ref u4, .null, .null, .long 0, .long 0, .int 0, .int 0, .int 0, .int 0, .int 0, .long 0]))] sz) t) (va_A [(h0, .inr (9, [.ref t0, .ref xm1, .ref a0, .ref w0, .ref k0, .ref e0, .ref xm2, .ref xm3, .ref xm4, .ref xm5, .ref j0, .ref j1, .ref j2, .int 0, .int 0, .int 0, .int (-1), .int 1])), (a0, .inl (ka, 4, .inr (.inr (.inr (.inr fa))))), (t0, .inr (0, [.int 65540, .ref tr, .int 0, .int 0])), (tr, .inl (kt, 64, .inl gt)), (c1, .inr (1, [.int 1, .ref i1, .ref o1, .ref b1, .int 0, .int 0, .int 0, .int 0, .ref y1, .int 0, .ref z1, .int 0])), (i1, .inr (0, [.int 131076, .ref ri1, .int 0, .int 0])), (ri1, .inl (ki, 64, .inl gi)), (k0, .inr (3, [.ref u0, .ref u1, .ref u2, .ref u3, .int 0, .int 0, .ref u4, .null, .null, .long 0, .long 0, .int 0, .int 0, .int 0, .int 0, .int 0, .long 0]))] sz)) 0 0 (va_A [(h0, .inr (9, [.ref t0, .ref xm1, .ref a0, .ref w0, .ref k0, .ref e0, .ref xm2, .ref xm3, .ref xm4, .ref xm5, .ref j0, .ref j1, .ref j2, .int 0, .int 0, .int 0, .int (-1), .int 1])), (a0, .inl (ka, 4, .inr (.inr (.inr (.inr fa))))), (t0, .inr (0, [.int 65540, .ref tr, .int 0, .int 0])), (tr, .inl (kt, 64, .inl gt)), (c1, .inr (1, [.int 1, .ref i1, .ref o1, .ref b1, .int 0, .int 0, .int 0, .int 0, .ref y1, .int 0, .ref z1, .int 0])), (i1, .inr (0, [.int 131076, .ref ri1, .int 0, .int 0])), (ri1, .inl (ki, 64, .inl gi)), (k0, .inr (3, [.ref u0, .ref u1, .ref u2, .ref u3, .int 0, .int 0, .ref u4, .null, .null, .long 0, .long 0, .int 0, .int 0, .int 0, .int 0, .int 0, .long 0]))] sz) := by
  refine Met.ofW (cc := cX12_send) (maxL := 10) (ret := (some .int)) (by decide) rfl ?_
  intro p e s m args below meth c s₁ B hml hv
  obtain ⟨rfl, hsz, hP, hK, hD0, hfx⟩ := hv
  have hx := B.exec
  have hb := B.bytes
  have hr := B.returns
  have hts := atoms_spec (ws := wX12_send) B.pre
  have hkw : ∀ w ∈ kw, w.before _ s = true := fun w h => hts w (List.mem_cons_of_mem _ h)
  have hown : s.vm.findClass RX12 = some m.cls := findClass_of_methodNamed B.named
  have hlocks := B.notSynchronized
  subst hsz
  have hD := hD0.self (sz := s.heap.size)
  generalize hAe : va_A [(h0, .inr (9, [.ref t0, .ref xm1, .ref a0, .ref w0, .ref k0, .ref e0, .ref xm2, .ref xm3, .ref xm4, .ref xm5, .ref j0, .ref j1, .ref j2, .int 0, .int 0, .int 0, .int (-1), .int 1])), (a0, .inl (ka, 4, .inr (.inr (.inr (.inr fa))))), (t0, .inr (0, [.int 65540, .ref tr, .int 0, .int 0])), (tr, .inl (kt, 64, .inl gt)), (c1, .inr (1, [.int 1, .ref i1, .ref o1, .ref b1, .int 0, .int 0, .int 0, .int 0, .ref y1, .int 0, .ref z1, .int 0])), (i1, .inr (0, [.int 131076, .ref ri1, .int 0, .int 0])), (ri1, .inl (ki, 64, .inl gi)), (k0, .inr (3, [.ref u0, .ref u1, .ref u2, .ref u3, .int 0, .int 0, .ref u4, .null, .null, .long 0, .long 0, .int 0, .int 0, .int 0, .int 0, .int 0, .long 0]))] s.heap.size = A at hD ⊢
  have hA : ∀ q : Nat, s.heap.size ≤ q → A q := fun q h => by rw [← hAe]; exact Or.inr h
  have hS : va_S A s.heap s.heap [] := va_S.rf
  have hP : va_P (dC, dI) classes [(h0, .inr (9, [.ref t0, .ref xm1, .ref a0, .ref w0, .ref k0, .ref e0, .ref xm2, .ref xm3, .ref xm4, .ref xm5, .ref j0, .ref j1, .ref j2, .int 0, .int 0, .int 0, .int (-1), .int 1])), (a0, .inl (ka, 4, .inr (.inr (.inr (.inr fa))))), (t0, .inr (0, [.int 65540, .ref tr, .int 0, .int 0])), (tr, .inl (kt, 64, .inl gt)), (c1, .inr (1, [.int 1, .ref i1, .ref o1, .ref b1, .int 0, .int 0, .int 0, .int 0, .ref y1, .int 0, .ref z1, .int 0])), (i1, .inr (0, [.int 131076, .ref ri1, .int 0, .int 0])), (ri1, .inl (ki, 64, .inl gi)), (k0, .inr (3, [.ref u0, .ref u1, .ref u2, .ref u3, .int 0, .int 0, .ref u4, .null, .null, .long 0, .long 0, .int 0, .int 0, .int 0, .int 0, .int 0, .long 0]))] s.heap := hP
  have hl := lv_entry ([.ref h0, .int 1]) (n := 10) (Nat.le_of_ble_eq_true rfl)
  rw [lg_entry_eq]
  generalize (lg_sl ([.ref h0, .int 1]) ++ List.replicate (10 - (lg_sl ([.ref h0, .int 1])).length) Slot.unset).toArray = ls at hl ⊢
  have hl : lv_has ls 10 [(0, .ref h0), (1, .int 1)] := hl
  refine lv_aload_n hx hb dX12_send_0 rfl (lv_at hl 0 rfl) ?_
  refine lv_iload_n hx hb dX12_send_1 rfl (lv_at hl 1 rfl) ?_
  have hPc := hP.sub (ws' := [(h0, .inr (9, [.ref t0, .ref xm1, .ref a0, .ref w0, .ref k0, .ref e0, .ref xm2, .ref xm3, .ref xm4, .ref xm5, .ref j0, .ref j1, .ref j2, .int 0, .int 0, .int 0, .int (-1), .int 1])), (a0, .inl (ka, 4, .inr (.inr (.inr (.inr fa)))))]) [0, 1] rfl
  have hDc := hD.sub (ws' := [(h0, .inr (9, [.ref t0, .ref xm1, .ref a0, .ref w0, .ref k0, .ref e0, .ref xm2, .ref xm3, .ref xm4, .ref xm5, .ref j0, .ref j1, .ref j2, .int 0, .int 0, .int 0, .int (-1), .int 1])), (a0, .inl (ka, 4, .inr (.inr (.inr (.inr fa)))))]) [0, 1] (by decide) rfl
  have hKc := hK.sub (tys' := [(ka, .object "KeySteward$Connection")]) [0] rfl
  have hFc := va_free (wc := [(h0, .inr (9, [.ref t0, .ref xm1, .ref a0, .ref w0, .ref k0, .ref e0, .ref xm2, .ref xm3, .ref xm4, .ref xm5, .ref j0, .ref j1, .ref j2, .int 0, .int 0, .int 0, .int (-1), .int 1])), (a0, .inl (ka, 4, .inr (.inr (.inr (.inr fa)))))]) hD hS hA [0, 1] rfl
  refine va_callq (va_runV (As := [.int 1]) (rest := []) ⟨hx, hb, hml, hown, hkw⟩ (c_KS_coOf_1 l dC dI s.heap.size h0 t0 xm1 a0 w0 k0 e0 xm2 xm3 xm4 xm5 j0 j1 j2 ka fa c1 hc1) (callVv 1 hkw (kwI m_121) rfl rfl rfl (hkw _ m_122) (hkw _ m_123) (hkw _ m_124) (hkw _ m_125) (by decide +kernel) ⟨Nat.le_of_ble_eq_true rfl, Nat.le_of_ble_eq_true rfl⟩) ⟨fbW, va_recv hK hP (ci := 9) (q0 := 0) rfl rfl, pW_in hPc hKc hDc hfx⟩ rfl rfl hl.1 rfl (lv_room (Nat.le_of_ble_eq_true rfl)) dX12_send_2 ⟨Nat.le_of_ble_eq_true rfl, Nat.le_of_ble_eq_true rfl⟩) hS (fun q _ h => hFc q h) hFc (fun r1 u t H1 locs ht hvm hw hB hz1 hk1 hS => ?_)
  obtain ⟨hP1, hK1, hD1⟩ := hB
  rw [ht] at hP1
  have hK1 := va_K.moved hvm.symm hK1
  obtain ⟨hP, hD⟩ := va_join (wr := [(t0, .inr (0, [.int 65540, .ref tr, .int 0, .int 0])), (tr, .inl (kt, 64, .inl gt)), (c1, .inr (1, [.int 1, .ref i1, .ref o1, .ref b1, .int 0, .int 0, .int 0, .int 0, .ref y1, .int 0, .ref z1, .int 0])), (i1, .inr (0, [.int 131076, .ref ri1, .int 0, .int 0])), (ri1, .inl (ki, 64, .inl gi)), (k0, .inr (3, [.ref u0, .ref u1, .ref u2, .ref u3, .int 0, .int 0, .ref u4, .null, .null, .long 0, .long 0, .int 0, .int 0, .int 0, .int 0, .int 0, .long 0]))]) (w1 := [(h0, .inr (9, [.ref t0, .ref xm1, .ref a0, .ref w0, .ref k0, .ref e0, .ref xm2, .ref xm3, .ref xm4, .ref xm5, .ref j0, .ref j1, .ref j2, .int 0, .int 0, .int 0, .int (-1), .int 1])), (a0, .inl (ka, 4, .inr (.inr (.inr (.inr fa)))))]) hP hD [0, 1] [2, 3, 4, 5, 6, 7] rfl rfl (by decide) (by decide) hk1 hFc hP1 hD1
  have hK := (hK.sub (tys' := [(kt, .byte), (ki, .byte)]) [1, 2] rfl).app hK1
  generalize H1 = H at hP hS ⊢
  have hP : va_P (dC, dI) classes [(t0, .inr (0, [.int 65540, .ref tr, .int 0, .int 0])), (tr, .inl (kt, 64, .inl gt)), (c1, .inr (1, [.int 1, .ref i1, .ref o1, .ref b1, .int 0, .int 0, .int 0, .int 0, .ref y1, .int 0, .ref z1, .int 0])), (i1, .inr (0, [.int 131076, .ref ri1, .int 0, .int 0])), (ri1, .inl (ki, 64, .inl gi)), (k0, .inr (3, [.ref u0, .ref u1, .ref u2, .ref u3, .int 0, .int 0, .ref u4, .null, .null, .long 0, .long 0, .int 0, .int 0, .int 0, .int 0, .int 0, .long 0])), (h0, .inr (9, [.ref t0, .ref xm1, .ref a0, .ref w0, .ref k0, .ref e0, .ref xm2, .ref xm3, .ref xm4, .ref xm5, .ref j0, .ref j1, .ref j2, .int 0, .int 0, .int 0, .int (-1), .int 1])), (a0, .inl (ka, 4, .inr (.inr (.inr (.inr fa)))))] H := hP
  have hD : va_D A [(t0, .inr (0, [.int 65540, .ref tr, .int 0, .int 0])), (tr, .inl (kt, 64, .inl gt)), (c1, .inr (1, [.int 1, .ref i1, .ref o1, .ref b1, .int 0, .int 0, .int 0, .int 0, .ref y1, .int 0, .ref z1, .int 0])), (i1, .inr (0, [.int 131076, .ref ri1, .int 0, .int 0])), (ri1, .inl (ki, 64, .inl gi)), (k0, .inr (3, [.ref u0, .ref u1, .ref u2, .ref u3, .int 0, .int 0, .ref u4, .null, .null, .long 0, .long 0, .int 0, .int 0, .int 0, .int 0, .int 0, .long 0])), (h0, .inr (9, [.ref t0, .ref xm1, .ref a0, .ref w0, .ref k0, .ref e0, .ref xm2, .ref xm3, .ref xm4, .ref xm5, .ref j0, .ref j1, .ref j2, .int 0, .int 0, .int 0, .int (-1), .int 1])), (a0, .inl (ka, 4, .inr (.inr (.inr (.inr fa)))))] := hD
  have hK : va_K (dC, dI) classes [(kt, .byte), (ki, .byte), (ka, .object "KeySteward$Connection")] s := hK
  have hw2 := hw
  try dsimp only at hw2
  subst hw2
  refine lv_astore_n (lv' := [(2, .ref c1), (0, .ref h0), (1, .int 1)]) hx hb dX12_send_5 rfl hl (by decide) rfl (fun ls hl => ?_)
  refine lv_aload_n hx hb dX12_send_6 rfl (lv_at hl 0 rfl) ?_
  refine lv_ifnull hx hb dX12_send_7 ?_
  refine lv_aload_n hx hb dX12_send_10 rfl (lv_at hl 0 rfl) ?_
  refine va_get (D := (dC, dI)) (ci := 1) (v := .int 1) (C := RX3) (T := TX3) (N := 12) hx hb hkw kin_X3 hown hK hP 2 rfl rfl 0 (by decide) (hkw _ m_114) (fun _ h9 => h9) rfl dX12_send_11 ?_
  refine lv_if_eq (tgt := 24) hx hb dX12_send_14 (by decide) (fun c_14_0 => absurd c_14_0 (by decide)) (fun c_14_0 => ?_)
  refine lv_aload_n hx hb dX12_send_17 rfl (lv_at hl 1 rfl) ?_
  refine va_get (D := (dC, dI)) (ci := 9) (v := .int 1) (C := RX12) (T := TX12) (N := 18) hx hb hkw kin_X12 hown hK hP 6 rfl rfl 17 (by decide) (hkw _ m_127) (fun _ h9 => h9) rfl dX12_send_18 ?_
  refine lv_if_ne (tgt := 33) hx hb dX12_send_21 (by decide) (fun c_21_0 => ?_) (fun c_21_0 => absurd c_21_0 (by decide))
  refine lv_aload_n hx hb dX12_send_33 rfl (lv_at hl 0 rfl) ?_
  refine va_get (D := (dC, dI)) (ci := 1) (v := .ref i1) (C := RX3) (T := TX3) (N := 12) hx hb hkw kin_X3 hown hK hP 2 rfl rfl 1 (by decide) (hkw _ m_115) (fun _ h9 => h9) rfl dX12_send_34 ?_
  refine lv_aload_n hx hb dX12_send_37 rfl (lv_at hl 1 rfl) ?_
  refine va_get (D := (dC, dI)) (ci := 9) (v := .ref t0) (C := RX12) (T := TX12) (N := 18) hx hb hkw kin_X12 hown hK hP 6 rfl rfl 0 (by decide) (hkw _ m_103) (fun _ h9 => h9) rfl dX12_send_38 ?_
  refine va_get (D := (dC, dI)) (ci := 0) (v := .ref tr) (C := RX1) (T := TX1) (N := 4) hx hb hkw kin_X1 hown hK hP 0 rfl rfl 1 (by decide) (hkw _ m_133) (fun _ h9 => h9) rfl dX12_send_41 ?_
  refine lv_iconst (v := 0) hx hb dX12_send_44 (by decide) ?_
  refine lv_aload_n hx hb dX12_send_45 rfl (lv_at hl 1 rfl) ?_
  refine va_get (D := (dC, dI)) (ci := 9) (v := .ref t0) (C := RX12) (T := TX12) (N := 18) hx hb hkw kin_X12 hown hK hP 6 rfl rfl 0 (by decide) (hkw _ m_103) (fun _ h9 => h9) rfl dX12_send_46 ?_
  refine va_get (D := (dC, dI)) (ci := 0) (v := .int 0) (C := RX1) (T := TX1) (N := 4) hx hb hkw kin_X1 hown hK hP 0 rfl rfl 2 (by decide) (hkw _ m_104) (fun _ h9 => h9) rfl dX12_send_49 ?_
  have hPc := hP.sub (ws' := [(i1, .inr (0, [.int 131076, .ref ri1, .int 0, .int 0])), (ri1, .inl (ki, 64, .inl gi)), (tr, .inl (kt, 64, .inl gt))]) [3, 4, 1] rfl
  have hDc := hD.sub (ws' := [(i1, .inr (0, [.int 131076, .ref ri1, .int 0, .int 0])), (ri1, .inl (ki, 64, .inl gi)), (tr, .inl (kt, 64, .inl gt))]) [3, 4, 1] (by decide) rfl
  have hKc := hK.sub (tys' := [(ki, .byte), (kt, .byte)]) [1, 0] rfl
  have hFc := va_free (wc := [(i1, .inr (0, [.int 131076, .ref ri1, .int 0, .int 0])), (ri1, .inl (ki, 64, .inl gi)), (tr, .inl (kt, 64, .inl gt))]) hD hS hA [3, 4, 1] rfl
  refine va_callv (va_runV (As := [.ref tr, .int 0, .int 0]) (rest := []) ⟨hx, hb, hml, hown, hkw⟩ (c_By_append l dC dI H.size i1 ri1 tr ki kt gi gt) (callVv 3 hkw (kwI m_134) rfl rfl rfl (hkw _ m_9) (hkw _ m_135) (hkw _ m_136) (hkw _ m_137) (by decide +kernel) ⟨Nat.le_of_ble_eq_true rfl, Nat.le_of_ble_eq_true rfl⟩) ⟨fbW, va_recv hK hP (ci := 0) (q0 := 3) rfl rfl, pW_in hPc hKc hDc hfx⟩ rfl rfl hl.1 rfl (lv_room (Nat.le_of_ble_eq_true rfl)) dX12_send_52 ⟨Nat.le_of_ble_eq_true rfl, Nat.le_of_ble_eq_true rfl⟩) hS (fun q _ h => hFc q h) hFc (fun u t H1 locs ht hvm hw hB hz1 hk1 hS => ?_)
  obtain ⟨q3, rfl⟩ : ∃ z, z = u := ⟨_, rfl⟩
  obtain ⟨hP1, hK1, hD1⟩ := hB
  rw [ht] at hP1
  have hK1 := va_K.moved hvm.symm hK1
  obtain ⟨hP, hD⟩ := va_join (wr := [(t0, .inr (0, [.int 65540, .ref tr, .int 0, .int 0])), (c1, .inr (1, [.int 1, .ref i1, .ref o1, .ref b1, .int 0, .int 0, .int 0, .int 0, .ref y1, .int 0, .ref z1, .int 0])), (k0, .inr (3, [.ref u0, .ref u1, .ref u2, .ref u3, .int 0, .int 0, .ref u4, .null, .null, .long 0, .long 0, .int 0, .int 0, .int 0, .int 0, .int 0, .long 0])), (h0, .inr (9, [.ref t0, .ref xm1, .ref a0, .ref w0, .ref k0, .ref e0, .ref xm2, .ref xm3, .ref xm4, .ref xm5, .ref j0, .ref j1, .ref j2, .int 0, .int 0, .int 0, .int (-1), .int 1])), (a0, .inl (ka, 4, .inr (.inr (.inr (.inr fa)))))]) (w1 := [(i1, .inr (0, [.int 131076, .ref ri1, .int 0, .int 0])), (ri1, .inl (ki, 64, .inl q3)), (tr, .inl (kt, 64, .inl gt))]) hP hD [3, 4, 1] [0, 2, 5, 6, 7] rfl rfl (by decide) (by decide) hk1 hFc hP1 hD1
  have hK := (hK.sub (tys' := [(ka, .object "KeySteward$Connection")]) [2] rfl).app hK1
  generalize H1 = H at hP hS ⊢
  have hP : va_P (dC, dI) classes [(t0, .inr (0, [.int 65540, .ref tr, .int 0, .int 0])), (c1, .inr (1, [.int 1, .ref i1, .ref o1, .ref b1, .int 0, .int 0, .int 0, .int 0, .ref y1, .int 0, .ref z1, .int 0])), (k0, .inr (3, [.ref u0, .ref u1, .ref u2, .ref u3, .int 0, .int 0, .ref u4, .null, .null, .long 0, .long 0, .int 0, .int 0, .int 0, .int 0, .int 0, .long 0])), (h0, .inr (9, [.ref t0, .ref xm1, .ref a0, .ref w0, .ref k0, .ref e0, .ref xm2, .ref xm3, .ref xm4, .ref xm5, .ref j0, .ref j1, .ref j2, .int 0, .int 0, .int 0, .int (-1), .int 1])), (a0, .inl (ka, 4, .inr (.inr (.inr (.inr fa))))), (i1, .inr (0, [.int 131076, .ref ri1, .int 0, .int 0])), (ri1, .inl (ki, 64, .inl q3)), (tr, .inl (kt, 64, .inl gt))] H := hP
  have hD : va_D A [(t0, .inr (0, [.int 65540, .ref tr, .int 0, .int 0])), (c1, .inr (1, [.int 1, .ref i1, .ref o1, .ref b1, .int 0, .int 0, .int 0, .int 0, .ref y1, .int 0, .ref z1, .int 0])), (k0, .inr (3, [.ref u0, .ref u1, .ref u2, .ref u3, .int 0, .int 0, .ref u4, .null, .null, .long 0, .long 0, .int 0, .int 0, .int 0, .int 0, .int 0, .long 0])), (h0, .inr (9, [.ref t0, .ref xm1, .ref a0, .ref w0, .ref k0, .ref e0, .ref xm2, .ref xm3, .ref xm4, .ref xm5, .ref j0, .ref j1, .ref j2, .int 0, .int 0, .int 0, .int (-1), .int 1])), (a0, .inl (ka, 4, .inr (.inr (.inr (.inr fa))))), (i1, .inr (0, [.int 131076, .ref ri1, .int 0, .int 0])), (ri1, .inl (ki, 64, .inl q3)), (tr, .inl (kt, 64, .inl gt))] := hD
  have hK : va_K (dC, dI) classes [(ka, .object "KeySteward$Connection"), (ki, .byte), (kt, .byte)] s := hK
  have hw4 := hw
  try dsimp only at hw4
  refine lv_aload_n hx hb dX12_send_55 rfl (lv_at hl 1 rfl) ?_
  refine va_get (D := (dC, dI)) (ci := 9) (v := .ref t0) (C := RX12) (T := TX12) (N := 18) hx hb hkw kin_X12 hown hK hP 3 rfl rfl 0 (by decide) (hkw _ m_103) (fun _ h9 => h9) rfl dX12_send_56 ?_
  have hPc := hP.sub (ws' := [(t0, .inr (0, [.int 65540, .ref tr, .int 0, .int 0]))]) [0] rfl
  have hDc := hD.sub (ws' := [(t0, .inr (0, [.int 65540, .ref tr, .int 0, .int 0]))]) [0] (by decide) rfl
  have hKc := hK.sub (tys' := []) [] rfl
  have hFc := va_free (wc := [(t0, .inr (0, [.int 65540, .ref tr, .int 0, .int 0]))]) hD hS hA [0] rfl
  refine va_callv (va_runV (As := []) (rest := []) ⟨hx, hb, hml, hown, hkw⟩ (c_By_empty l dC dI H.size t0 tr 65540 0 0) (callVv 0 hkw (kwI m_38) rfl rfl rfl (hkw _ m_9) (hkw _ m_132) (hkw _ m_40) (hkw _ m_41) (by decide +kernel) ⟨Nat.le_of_ble_eq_true rfl, Nat.le_of_ble_eq_true rfl⟩) ⟨fbW, va_recv hK hP (ci := 0) (q0 := 0) rfl rfl, pW_in hPc hKc hDc hfx⟩ rfl rfl hl.1 rfl (lv_room (Nat.le_of_ble_eq_true rfl)) dX12_send_59 ⟨Nat.le_of_ble_eq_true rfl, Nat.le_of_ble_eq_true rfl⟩) hS (fun q _ h => hFc q h) hFc (fun u t H1 locs ht hvm hw hB hz1 hk1 hS => ?_)
  obtain ⟨hP1, hK1, hD1⟩ := hB
  rw [ht] at hP1
  have hK1 := va_K.moved hvm.symm hK1
  obtain ⟨hP, hD⟩ := va_join (wr := [(c1, .inr (1, [.int 1, .ref i1, .ref o1, .ref b1, .int 0, .int 0, .int 0, .int 0, .ref y1, .int 0, .ref z1, .int 0])), (k0, .inr (3, [.ref u0, .ref u1, .ref u2, .ref u3, .int 0, .int 0, .ref u4, .null, .null, .long 0, .long 0, .int 0, .int 0, .int 0, .int 0, .int 0, .long 0])), (h0, .inr (9, [.ref t0, .ref xm1, .ref a0, .ref w0, .ref k0, .ref e0, .ref xm2, .ref xm3, .ref xm4, .ref xm5, .ref j0, .ref j1, .ref j2, .int 0, .int 0, .int 0, .int (-1), .int 1])), (a0, .inl (ka, 4, .inr (.inr (.inr (.inr fa))))), (i1, .inr (0, [.int 131076, .ref ri1, .int 0, .int 0])), (ri1, .inl (ki, 64, .inl q3)), (tr, .inl (kt, 64, .inl gt))]) (w1 := [(t0, .inr (0, [.int 65540, .ref tr, .int 0, .int 0]))]) hP hD [0] [1, 2, 3, 4, 5, 6, 7] rfl rfl (by decide) (by decide) hk1 hFc hP1 hD1
  have hK := (hK.sub (tys' := [(ka, .object "KeySteward$Connection"), (ki, .byte), (kt, .byte)]) [0, 1, 2] rfl).app hK1
  generalize H1 = H at hP hS ⊢
  have hP : va_P (dC, dI) classes [(c1, .inr (1, [.int 1, .ref i1, .ref o1, .ref b1, .int 0, .int 0, .int 0, .int 0, .ref y1, .int 0, .ref z1, .int 0])), (k0, .inr (3, [.ref u0, .ref u1, .ref u2, .ref u3, .int 0, .int 0, .ref u4, .null, .null, .long 0, .long 0, .int 0, .int 0, .int 0, .int 0, .int 0, .long 0])), (h0, .inr (9, [.ref t0, .ref xm1, .ref a0, .ref w0, .ref k0, .ref e0, .ref xm2, .ref xm3, .ref xm4, .ref xm5, .ref j0, .ref j1, .ref j2, .int 0, .int 0, .int 0, .int (-1), .int 1])), (a0, .inl (ka, 4, .inr (.inr (.inr (.inr fa))))), (i1, .inr (0, [.int 131076, .ref ri1, .int 0, .int 0])), (ri1, .inl (ki, 64, .inl q3)), (tr, .inl (kt, 64, .inl gt)), (t0, .inr (0, [.int 65540, .ref tr, .int 0, .int 0]))] H := hP
  have hD : va_D A [(c1, .inr (1, [.int 1, .ref i1, .ref o1, .ref b1, .int 0, .int 0, .int 0, .int 0, .ref y1, .int 0, .ref z1, .int 0])), (k0, .inr (3, [.ref u0, .ref u1, .ref u2, .ref u3, .int 0, .int 0, .ref u4, .null, .null, .long 0, .long 0, .int 0, .int 0, .int 0, .int 0, .int 0, .long 0])), (h0, .inr (9, [.ref t0, .ref xm1, .ref a0, .ref w0, .ref k0, .ref e0, .ref xm2, .ref xm3, .ref xm4, .ref xm5, .ref j0, .ref j1, .ref j2, .int 0, .int 0, .int 0, .int (-1), .int 1])), (a0, .inl (ka, 4, .inr (.inr (.inr (.inr fa))))), (i1, .inr (0, [.int 131076, .ref ri1, .int 0, .int 0])), (ri1, .inl (ki, 64, .inl q3)), (tr, .inl (kt, 64, .inl gt)), (t0, .inr (0, [.int 65540, .ref tr, .int 0, .int 0]))] := hD
  have hK : va_K (dC, dI) classes [(ka, .object "KeySteward$Connection"), (ki, .byte), (kt, .byte)] s := hK
  have hw5 := hw
  try dsimp only at hw5
  refine lv_iconst (v := 0) hx hb dX12_send_62 (by decide) ?_
  refine lv_istore_n (lv' := [(3, .int 0), (2, .ref c1), (0, .ref h0), (1, .int 1)]) hx hb dX12_send_63 rfl hl (by decide) rfl (fun ls hl => ?_)
  refine lv_iconst (v := 0) hx hb dX12_send_64 (by decide) ?_
  refine lv_istore (lv' := [(4, .int 0), (3, .int 0), (2, .ref c1), (0, .ref h0), (1, .int 1)]) hx hb dX12_send_65 hl (by decide) rfl (fun ls hl => ?_)
  refine lv_iconst (v := 0) hx hb dX12_send_67 (by decide) ?_
  refine lv_istore (lv' := [(5, .int 0), (4, .int 0), (3, .int 0), (2, .ref c1), (0, .ref h0), (1, .int 1)]) hx hb dX12_send_68 hl (by decide) rfl (fun ls hl => ?_)
  refine lv_iload hx hb dX12_send_70 (lv_at hl 0 rfl) ?_
  refine lv_ldc (v := 1048576) hx hb hown (hkw _ m_138) dX12_send_72 ?_
  refine lv_icmp_ge (tgt := 215) hx hb dX12_send_74 (by decide) (fun c_74_0 => absurd c_74_0 (by decide)) (fun c_74_0 => ?_)
  refine lv_aload_n hx hb dX12_send_77 rfl (lv_at hl 4 rfl) ?_
  refine va_get (D := (dC, dI)) (ci := 9) (v := .int 1) (C := RX12) (T := TX12) (N := 18) hx hb hkw kin_X12 hown hK hP 2 rfl rfl 17 (by decide) (hkw _ m_127) (fun _ h9 => h9) rfl dX12_send_78 ?_
  refine lv_if_eq (tgt := 215) hx hb dX12_send_81 (by decide) (fun c_81_0 => absurd c_81_0 (by decide)) (fun c_81_0 => ?_)
  refine lv_aload_n hx hb dX12_send_84 rfl (lv_at hl 3 rfl) ?_
  refine va_get (D := (dC, dI)) (ci := 1) (v := .int 1) (C := RX3) (T := TX3) (N := 12) hx hb hkw kin_X3 hown hK hP 0 rfl rfl 0 (by decide) (hkw _ m_114) (fun _ h9 => h9) rfl dX12_send_85 ?_
  refine lv_if_eq (tgt := 215) hx hb dX12_send_88 (by decide) (fun c_88_0 => absurd c_88_0 (by decide)) (fun c_88_0 => ?_)
  refine lv_aload_n hx hb dX12_send_91 rfl (lv_at hl 4 rfl) ?_
  refine va_get (D := (dC, dI)) (ci := 9) (v := .ref k0) (C := RX12) (T := TX12) (N := 18) hx hb hkw kin_X12 hown hK hP 2 rfl rfl 4 (by decide) (hkw _ m_139) (fun _ h9 => h9) rfl dX12_send_92 ?_
  refine lv_aload_n hx hb dX12_send_95 rfl (lv_at hl 3 rfl) ?_
  refine va_get (D := (dC, dI)) (ci := 1) (v := .ref i1) (C := RX3) (T := TX3) (N := 12) hx hb hkw kin_X3 hown hK hP 0 rfl rfl 1 (by decide) (hkw _ m_115) (fun _ h9 => h9) rfl dX12_send_96 ?_
  refine va_get (D := (dC, dI)) (ci := 0) (v := .ref ri1) (C := RX1) (T := TX1) (N := 4) hx hb hkw kin_X1 hown hK hP 4 rfl rfl 1 (by decide) (hkw _ m_133) (fun _ h9 => h9) rfl dX12_send_99 ?_
  refine lv_iload hx hb dX12_send_102 (lv_at hl 1 rfl) ?_
  refine lv_aload_n hx hb dX12_send_104 rfl (lv_at hl 3 rfl) ?_
  refine va_get (D := (dC, dI)) (ci := 1) (v := .ref i1) (C := RX3) (T := TX3) (N := 12) hx hb hkw kin_X3 hown hK hP 0 rfl rfl 1 (by decide) (hkw _ m_115) (fun _ h9 => h9) rfl dX12_send_105 ?_
  refine va_get (D := (dC, dI)) (ci := 0) (v := .int 0) (C := RX1) (T := TX1) (N := 4) hx hb hkw kin_X1 hown hK hP 4 rfl rfl 2 (by decide) (hkw _ m_104) (fun _ h9 => h9) rfl dX12_send_108 ?_
  have hPc := hP.sub (ws' := [(k0, .inr (3, [.ref u0, .ref u1, .ref u2, .ref u3, .int 0, .int 0, .ref u4, .null, .null, .long 0, .long 0, .int 0, .int 0, .int 0, .int 0, .int 0, .long 0]))]) [1] rfl
  have hDc := hD.sub (ws' := [(k0, .inr (3, [.ref u0, .ref u1, .ref u2, .ref u3, .int 0, .int 0, .ref u4, .null, .null, .long 0, .long 0, .int 0, .int 0, .int 0, .int 0, .int 0, .long 0]))]) [1] (by decide) rfl
  have hKc := hK.sub (tys' := []) [] rfl
  have hFc := va_free (wc := [(k0, .inr (3, [.ref u0, .ref u1, .ref u2, .ref u3, .int 0, .int 0, .ref u4, .null, .null, .long 0, .long 0, .int 0, .int 0, .int 0, .int 0, .int 0, .long 0]))]) hD hS hA [1] rfl
  refine va_calli (va_runV (As := [.ref ri1, .int 0, .int 0]) (rest := []) ⟨hx, hb, hml, hown, hkw⟩ (c_Re_read l dC dI H.size k0 ri1 u0 u1 u2 u3 u4) (callVv 3 hkw (kwI m_140) rfl rfl rfl (hkw _ m_141) (hkw _ m_142) (hkw _ m_143) (hkw _ m_144) (by decide +kernel) ⟨Nat.le_of_ble_eq_true rfl, Nat.le_of_ble_eq_true rfl⟩) ⟨fbW, va_recv hK hP (ci := 3) (q0 := 1) rfl rfl, pW_in hPc hKc hDc hfx⟩ rfl rfl hl.1 rfl (lv_room (Nat.le_of_ble_eq_true rfl)) dX12_send_111 ⟨Nat.le_of_ble_eq_true rfl, Nat.le_of_ble_eq_true rfl⟩) hS (fun q _ h => hFc q h) hFc (fun r6 u t H1 locs ht hvm hw hB hz1 hk1 hS => ?_)
  obtain ⟨hP1, hK1, hD1⟩ := hB
  rw [ht] at hP1
  have hK1 := va_K.moved hvm.symm hK1
  obtain ⟨hP, hD⟩ := va_join (wr := [(c1, .inr (1, [.int 1, .ref i1, .ref o1, .ref b1, .int 0, .int 0, .int 0, .int 0, .ref y1, .int 0, .ref z1, .int 0])), (h0, .inr (9, [.ref t0, .ref xm1, .ref a0, .ref w0, .ref k0, .ref e0, .ref xm2, .ref xm3, .ref xm4, .ref xm5, .ref j0, .ref j1, .ref j2, .int 0, .int 0, .int 0, .int (-1), .int 1])), (a0, .inl (ka, 4, .inr (.inr (.inr (.inr fa))))), (i1, .inr (0, [.int 131076, .ref ri1, .int 0, .int 0])), (ri1, .inl (ki, 64, .inl q3)), (tr, .inl (kt, 64, .inl gt)), (t0, .inr (0, [.int 65540, .ref tr, .int 0, .int 0]))]) (w1 := []) hP hD [1] [0, 2, 3, 4, 5, 6, 7] rfl rfl (by decide) (by decide) hk1 hFc hP1 hD1
  have hK := (hK.sub (tys' := [(ka, .object "KeySteward$Connection"), (ki, .byte), (kt, .byte)]) [0, 1, 2] rfl).app hK1
  generalize H1 = H at hP hS ⊢
  have hP : va_P (dC, dI) classes [(c1, .inr (1, [.int 1, .ref i1, .ref o1, .ref b1, .int 0, .int 0, .int 0, .int 0, .ref y1, .int 0, .ref z1, .int 0])), (h0, .inr (9, [.ref t0, .ref xm1, .ref a0, .ref w0, .ref k0, .ref e0, .ref xm2, .ref xm3, .ref xm4, .ref xm5, .ref j0, .ref j1, .ref j2, .int 0, .int 0, .int 0, .int (-1), .int 1])), (a0, .inl (ka, 4, .inr (.inr (.inr (.inr fa))))), (i1, .inr (0, [.int 131076, .ref ri1, .int 0, .int 0])), (ri1, .inl (ki, 64, .inl q3)), (tr, .inl (kt, 64, .inl gt)), (t0, .inr (0, [.int 65540, .ref tr, .int 0, .int 0]))] H := hP
  have hD : va_D A [(c1, .inr (1, [.int 1, .ref i1, .ref o1, .ref b1, .int 0, .int 0, .int 0, .int 0, .ref y1, .int 0, .ref z1, .int 0])), (h0, .inr (9, [.ref t0, .ref xm1, .ref a0, .ref w0, .ref k0, .ref e0, .ref xm2, .ref xm3, .ref xm4, .ref xm5, .ref j0, .ref j1, .ref j2, .int 0, .int 0, .int 0, .int (-1), .int 1])), (a0, .inl (ka, 4, .inr (.inr (.inr (.inr fa))))), (i1, .inr (0, [.int 131076, .ref ri1, .int 0, .int 0])), (ri1, .inl (ki, 64, .inl q3)), (tr, .inl (kt, 64, .inl gt)), (t0, .inr (0, [.int 65540, .ref tr, .int 0, .int 0]))] := hD
  have hK : va_K (dC, dI) classes [(ka, .object "KeySteward$Connection"), (ki, .byte), (kt, .byte)] s := hK
  have hw7 := hw
  try dsimp only at hw7
  subst hw7
  refine lv_istore (lv' := [(6, .int 1), (5, .int 0), (4, .int 0), (3, .int 0), (2, .ref c1), (0, .ref h0), (1, .int 1)]) hx hb dX12_send_114 hl (by decide) rfl (fun ls hl => ?_)
  refine lv_iload hx hb dX12_send_116 (lv_at hl 0 rfl) ?_
  refine lv_iconst (v := 1) hx hb dX12_send_118 (by decide) ?_
  refine lv_icmp_ne (tgt := 125) hx hb dX12_send_119 (by decide) (fun c_119_0 => absurd c_119_0 (by decide)) (fun c_119_0 => ?_)
  refine lv_goto (tgt := 215) hx hb dX12_send_122 (by decide) ?_
  refine lv_aload_n hx hb dX12_send_215 rfl (lv_at hl 5 rfl) ?_
  refine lv_aload_n hx hb dX12_send_216 rfl (lv_at hl 4 rfl) ?_
  refine lv_iload hx hb dX12_send_217 (lv_at hl 2 rfl) ?_
  have hPc := hP.sub (ws' := [(c1, .inr (1, [.int 1, .ref i1, .ref o1, .ref b1, .int 0, .int 0, .int 0, .int 0, .ref y1, .int 0, .ref z1, .int 0])), (i1, .inr (0, [.int 131076, .ref ri1, .int 0, .int 0]))]) [0, 3] rfl
  have hDc := hD.sub (ws' := [(c1, .inr (1, [.int 1, .ref i1, .ref o1, .ref b1, .int 0, .int 0, .int 0, .int 0, .ref y1, .int 0, .ref z1, .int 0])), (i1, .inr (0, [.int 131076, .ref ri1, .int 0, .int 0]))]) [0, 3] (by decide) rfl
  have hKc := hK.sub (tys' := []) [] rfl
  have hFc := va_free (wc := [(c1, .inr (1, [.int 1, .ref i1, .ref o1, .ref b1, .int 0, .int 0, .int 0, .int 0, .ref y1, .int 0, .ref z1, .int 0])), (i1, .inr (0, [.int 131076, .ref ri1, .int 0, .int 0]))]) hD hS hA [0, 3] rfl
  refine va_callv (va_runV (As := [.ref c1, .int 0]) (rest := []) ⟨hx, hb, hml, hown, hkw⟩ (c_KS_keepRest_0 l dC dI H.size h0 c1 i1 o1 b1 y1 z1 ri1) (callVv 2 hkw (kwI m_145) rfl rfl rfl (hkw _ m_122) (hkw _ m_146) (hkw _ m_147) (hkw _ m_148) (by decide +kernel) ⟨Nat.le_of_ble_eq_true rfl, Nat.le_of_ble_eq_true rfl⟩) ⟨fbW, va_recv hK hP (ci := 9) (q0 := 1) rfl rfl, pW_in hPc hKc hDc hfx⟩ rfl rfl hl.1 rfl (lv_room (Nat.le_of_ble_eq_true rfl)) dX12_send_219 ⟨Nat.le_of_ble_eq_true rfl, Nat.le_of_ble_eq_true rfl⟩) hS (fun q _ h => hFc q h) hFc (fun u t H1 locs ht hvm hw hB hz1 hk1 hS => ?_)
  obtain ⟨hP1, hK1, hD1⟩ := hB
  rw [ht] at hP1
  have hK1 := va_K.moved hvm.symm hK1
  obtain ⟨hP, hD⟩ := va_join (wr := [(h0, .inr (9, [.ref t0, .ref xm1, .ref a0, .ref w0, .ref k0, .ref e0, .ref xm2, .ref xm3, .ref xm4, .ref xm5, .ref j0, .ref j1, .ref j2, .int 0, .int 0, .int 0, .int (-1), .int 1])), (a0, .inl (ka, 4, .inr (.inr (.inr (.inr fa))))), (ri1, .inl (ki, 64, .inl q3)), (tr, .inl (kt, 64, .inl gt)), (t0, .inr (0, [.int 65540, .ref tr, .int 0, .int 0]))]) (w1 := []) hP hD [0, 3] [1, 2, 4, 5, 6] rfl rfl (by decide) (by decide) hk1 hFc hP1 hD1
  have hK := (hK.sub (tys' := [(ka, .object "KeySteward$Connection"), (ki, .byte), (kt, .byte)]) [0, 1, 2] rfl).app hK1
  generalize H1 = H at hP hS ⊢
  have hP : va_P (dC, dI) classes [(h0, .inr (9, [.ref t0, .ref xm1, .ref a0, .ref w0, .ref k0, .ref e0, .ref xm2, .ref xm3, .ref xm4, .ref xm5, .ref j0, .ref j1, .ref j2, .int 0, .int 0, .int 0, .int (-1), .int 1])), (a0, .inl (ka, 4, .inr (.inr (.inr (.inr fa))))), (ri1, .inl (ki, 64, .inl q3)), (tr, .inl (kt, 64, .inl gt)), (t0, .inr (0, [.int 65540, .ref tr, .int 0, .int 0]))] H := hP
  have hD : va_D A [(h0, .inr (9, [.ref t0, .ref xm1, .ref a0, .ref w0, .ref k0, .ref e0, .ref xm2, .ref xm3, .ref xm4, .ref xm5, .ref j0, .ref j1, .ref j2, .int 0, .int 0, .int 0, .int (-1), .int 1])), (a0, .inl (ka, 4, .inr (.inr (.inr (.inr fa))))), (ri1, .inl (ki, 64, .inl q3)), (tr, .inl (kt, 64, .inl gt)), (t0, .inr (0, [.int 65540, .ref tr, .int 0, .int 0]))] := hD
  have hK : va_K (dC, dI) classes [(ka, .object "KeySteward$Connection"), (ki, .byte), (kt, .byte)] s := hK
  have hw8 := hw
  try dsimp only at hw8
  refine lv_aload_n hx hb dX12_send_222 rfl (lv_at hl 5 rfl) ?_
  refine va_get (D := (dC, dI)) (ci := 9) (v := .int 1) (C := RX12) (T := TX12) (N := 18) hx hb hkw kin_X12 hown hK hP 0 rfl rfl 17 (by decide) (hkw _ m_127) (fun _ h9 => h9) rfl dX12_send_223 ?_
  refine lv_if_eq (tgt := 233) hx hb dX12_send_226 (by decide) (fun c_226_0 => absurd c_226_0 (by decide)) (fun c_226_0 => ?_)
  refine lv_iload_n hx hb dX12_send_229 rfl (lv_at hl 3 rfl) ?_
  refine lv_goto (tgt := 234) hx hb dX12_send_230 (by decide) ?_
  have hP9 := hP.sub (ws' := []) [] rfl
  have hD9 := hD.sub (ws' := []) [] (by decide) rfl
  have hK9 := hK.sub (tys' := []) [] rfl
  refine W.widen (k := 0) (n := 0) (Nat.le_of_ble_eq_true rfl) (Nat.le_of_ble_eq_true rfl) ?_
  exact W.iret (v := 0) hx hb hr (fun t ht hW => ⟨⟨0, (), rfl, rfl, by rw [ht]; exact hP9, va_K.moved hW.alike hK9, hD9⟩, hS.F ht⟩) hS.2.2 dX12_send_234

set_option maxHeartbeats 4000000 in
set_option maxRecDepth 100000 in
/-- isOpen_2, fresh -/
theorem c_KS_isOpen_2 (l : Launch) (dC : Nat → ClassId) (dI : Nat → Nat → Nat) (sz : Nat) (h0 : Nat) (t0 : Nat) (xm1 : Nat) (a0 : Nat) (w0 : Nat) (k0 : Nat) (e0 : Nat) (xm2 : Nat) (xm3 : Nat) (xm4 : Nat) (xm5 : Nat) (j0 : Nat) (j1 : Nat) (j2 : Nat) (ka : ClassId) (fa : Nat → Option Nat) (c2 : Nat) (i2 : Nat) (o2 : Nat) (b2 : Nat) (y2 : Nat) (z2 : Nat) (hc2 : fa 2 = some c2) : Met l yX12_isOpen wX12_isOpen ({ frames := 1, cells := 0, slots := 0, locals := 21 }) (va_Pc [.ref h0, .int 2] (pW (dC, dI) [(h0, .inr (9, [.ref t0, .ref xm1, .ref a0, .ref w0, .ref k0, .ref e0, .ref xm2, .ref xm3, .ref xm4, .ref xm5, .ref j0, .ref j1, .ref j2, .int 0, .int 0, .int 0, .int (-1), .int 1])), (a0, .inl (ka, 4, .inr (.inr (.inr (.inr fa))))), (c2, .inr (1, [.int 1, .ref i2, .ref o2, .ref b2, .int 0, .int 0, .int 0, .int 0, .ref y2, .int 0, .ref z2, .int 0]))] [(ka, .object "KeySteward$Connection")] sz)) (va_Qi (fun (r : Int32) (_u : Unit) => r = 1) (fun (_u : Unit) (t : State) => bW (dC, dI) [] [] (va_A [(h0, .inr (9, [.ref t0, .ref xm1, .ref a0, .ref w0, .ref k0, .ref e0, .ref xm2, .ref xm3, .ref xm4, .ref xm5, .ref j0, .ref j1, .ref j2, .int 0, .int 0, .int 0, .int (-1), .int 1])), (a0, .inl (ka, 4, .inr (.inr (.inr (.inr fa))))), (c2, .inr (1, [.int 1, .ref i2, .ref o2, .ref b2, .int 0, .int 0, .int 0, .int 0, .ref y2, .int 0, .ref z2, .int 0]))] sz) t) (va_A [(h0, .inr (9, [.ref t0, .ref xm1, .ref a0, .ref w0, .ref k0, .ref e0, .ref xm2, .ref xm3, .ref xm4, .ref xm5, .ref j0, .ref j1, .ref j2, .int 0, .int 0, .int 0, .int (-1), .int 1])), (a0, .inl (ka, 4, .inr (.inr (.inr (.inr fa))))), (c2, .inr (1, [.int 1, .ref i2, .ref o2, .ref b2, .int 0, .int 0, .int 0, .int 0, .ref y2, .int 0, .ref z2, .int 0]))] sz)) 0 0 (va_A [(h0, .inr (9, [.ref t0, .ref xm1, .ref a0, .ref w0, .ref k0, .ref e0, .ref xm2, .ref xm3, .ref xm4, .ref xm5, .ref j0, .ref j1, .ref j2, .int 0, .int 0, .int 0, .int (-1), .int 1])), (a0, .inl (ka, 4, .inr (.inr (.inr (.inr fa))))), (c2, .inr (1, [.int 1, .ref i2, .ref o2, .ref b2, .int 0, .int 0, .int 0, .int 0, .ref y2, .int 0, .ref z2, .int 0]))] sz) := by
  refine Met.ofW (cc := cX12_isOpen) (maxL := 3) (ret := (some .boolean)) (by decide) rfl ?_
  intro p e s m args below meth c s₁ B hml hv
  obtain ⟨rfl, hsz, hP, hK, hD0, hfx⟩ := hv
  have hx := B.exec
  have hb := B.bytes
  have hr := B.returns
  have hts := atoms_spec (ws := wX12_isOpen) B.pre
  have hkw : ∀ w ∈ kw, w.before _ s = true := fun w h => hts w (List.mem_cons_of_mem _ h)
  have hown : s.vm.findClass RX12 = some m.cls := findClass_of_methodNamed B.named
  have hlocks := B.notSynchronized
  subst hsz
  have hD := hD0.self (sz := s.heap.size)
  generalize hAe : va_A [(h0, .inr (9, [.ref t0, .ref xm1, .ref a0, .ref w0, .ref k0, .ref e0, .ref xm2, .ref xm3, .ref xm4, .ref xm5, .ref j0, .ref j1, .ref j2, .int 0, .int 0, .int 0, .int (-1), .int 1])), (a0, .inl (ka, 4, .inr (.inr (.inr (.inr fa))))), (c2, .inr (1, [.int 1, .ref i2, .ref o2, .ref b2, .int 0, .int 0, .int 0, .int 0, .ref y2, .int 0, .ref z2, .int 0]))] s.heap.size = A at hD ⊢
  have hA : ∀ q : Nat, s.heap.size ≤ q → A q := fun q h => by rw [← hAe]; exact Or.inr h
  have hS : va_S A s.heap s.heap [] := va_S.rf
  have hP : va_P (dC, dI) classes [(h0, .inr (9, [.ref t0, .ref xm1, .ref a0, .ref w0, .ref k0, .ref e0, .ref xm2, .ref xm3, .ref xm4, .ref xm5, .ref j0, .ref j1, .ref j2, .int 0, .int 0, .int 0, .int (-1), .int 1])), (a0, .inl (ka, 4, .inr (.inr (.inr (.inr fa))))), (c2, .inr (1, [.int 1, .ref i2, .ref o2, .ref b2, .int 0, .int 0, .int 0, .int 0, .ref y2, .int 0, .ref z2, .int 0]))] s.heap := hP
  have hl := lv_entry ([.ref h0, .int 2]) (n := 3) (Nat.le_of_ble_eq_true rfl)
  rw [lg_entry_eq]
  generalize (lg_sl ([.ref h0, .int 2]) ++ List.replicate (3 - (lg_sl ([.ref h0, .int 2])).length) Slot.unset).toArray = ls at hl ⊢
  have hl : lv_has ls 3 [(0, .ref h0), (1, .int 2)] := hl
  refine lv_aload_n hx hb dX12_isOpen_0 rfl (lv_at hl 0 rfl) ?_
  refine lv_iload_n hx hb dX12_isOpen_1 rfl (lv_at hl 1 rfl) ?_
  have hPc := hP.sub (ws' := [(h0, .inr (9, [.ref t0, .ref xm1, .ref a0, .ref w0, .ref k0, .ref e0, .ref xm2, .ref xm3, .ref xm4, .ref xm5, .ref j0, .ref j1, .ref j2, .int 0, .int 0, .int 0, .int (-1), .int 1])), (a0, .inl (ka, 4, .inr (.inr (.inr (.inr fa)))))]) [0, 1] rfl
  have hDc := hD.sub (ws' := [(h0, .inr (9, [.ref t0, .ref xm1, .ref a0, .ref w0, .ref k0, .ref e0, .ref xm2, .ref xm3, .ref xm4, .ref xm5, .ref j0, .ref j1, .ref j2, .int 0, .int 0, .int 0, .int (-1), .int 1])), (a0, .inl (ka, 4, .inr (.inr (.inr (.inr fa)))))]) [0, 1] (by decide) rfl
  have hKc := hK.sub (tys' := [(ka, .object "KeySteward$Connection")]) [0] rfl
  have hFc := va_free (wc := [(h0, .inr (9, [.ref t0, .ref xm1, .ref a0, .ref w0, .ref k0, .ref e0, .ref xm2, .ref xm3, .ref xm4, .ref xm5, .ref j0, .ref j1, .ref j2, .int 0, .int 0, .int 0, .int (-1), .int 1])), (a0, .inl (ka, 4, .inr (.inr (.inr (.inr fa)))))]) hD hS hA [0, 1] rfl
  refine va_callq (va_runV (As := [.int 2]) (rest := []) ⟨hx, hb, hml, hown, hkw⟩ (c_KS_coOf_2 l dC dI s.heap.size h0 t0 xm1 a0 w0 k0 e0 xm2 xm3 xm4 xm5 j0 j1 j2 ka fa c2 hc2) (callVv 1 hkw (kwI m_121) rfl rfl rfl (hkw _ m_122) (hkw _ m_123) (hkw _ m_124) (hkw _ m_125) (by decide +kernel) ⟨Nat.le_of_ble_eq_true rfl, Nat.le_of_ble_eq_true rfl⟩) ⟨fbW, va_recv hK hP (ci := 9) (q0 := 0) rfl rfl, pW_in hPc hKc hDc hfx⟩ rfl rfl hl.1 rfl (lv_room (Nat.le_of_ble_eq_true rfl)) dX12_isOpen_2 ⟨Nat.le_of_ble_eq_true rfl, Nat.le_of_ble_eq_true rfl⟩) hS (fun q _ h => hFc q h) hFc (fun r1 u t H1 locs ht hvm hw hB hz1 hk1 hS => ?_)
  obtain ⟨hP1, hK1, hD1⟩ := hB
  rw [ht] at hP1
  have hK1 := va_K.moved hvm.symm hK1
  obtain ⟨hP, hD⟩ := va_join (wr := [(c2, .inr (1, [.int 1, .ref i2, .ref o2, .ref b2, .int 0, .int 0, .int 0, .int 0, .ref y2, .int 0, .ref z2, .int 0]))]) (w1 := [(h0, .inr (9, [.ref t0, .ref xm1, .ref a0, .ref w0, .ref k0, .ref e0, .ref xm2, .ref xm3, .ref xm4, .ref xm5, .ref j0, .ref j1, .ref j2, .int 0, .int 0, .int 0, .int (-1), .int 1])), (a0, .inl (ka, 4, .inr (.inr (.inr (.inr fa)))))]) hP hD [0, 1] [2] rfl rfl (by decide) (by decide) hk1 hFc hP1 hD1
  have hK := (hK.sub (tys' := []) [] rfl).app hK1
  generalize H1 = H at hP hS ⊢
  have hP : va_P (dC, dI) classes [(c2, .inr (1, [.int 1, .ref i2, .ref o2, .ref b2, .int 0, .int 0, .int 0, .int 0, .ref y2, .int 0, .ref z2, .int 0])), (h0, .inr (9, [.ref t0, .ref xm1, .ref a0, .ref w0, .ref k0, .ref e0, .ref xm2, .ref xm3, .ref xm4, .ref xm5, .ref j0, .ref j1, .ref j2, .int 0, .int 0, .int 0, .int (-1), .int 1])), (a0, .inl (ka, 4, .inr (.inr (.inr (.inr fa)))))] H := hP
  have hD : va_D A [(c2, .inr (1, [.int 1, .ref i2, .ref o2, .ref b2, .int 0, .int 0, .int 0, .int 0, .ref y2, .int 0, .ref z2, .int 0])), (h0, .inr (9, [.ref t0, .ref xm1, .ref a0, .ref w0, .ref k0, .ref e0, .ref xm2, .ref xm3, .ref xm4, .ref xm5, .ref j0, .ref j1, .ref j2, .int 0, .int 0, .int 0, .int (-1), .int 1])), (a0, .inl (ka, 4, .inr (.inr (.inr (.inr fa)))))] := hD
  have hK : va_K (dC, dI) classes [(ka, .object "KeySteward$Connection")] s := hK
  have hw2 := hw
  try dsimp only at hw2
  subst hw2
  refine lv_astore_n (lv' := [(2, .ref c2), (0, .ref h0), (1, .int 2)]) hx hb dX12_isOpen_5 rfl hl (by decide) rfl (fun ls hl => ?_)
  refine lv_aload_n hx hb dX12_isOpen_6 rfl (lv_at hl 0 rfl) ?_
  refine lv_ifnull hx hb dX12_isOpen_7 ?_
  refine lv_aload_n hx hb dX12_isOpen_10 rfl (lv_at hl 0 rfl) ?_
  refine va_get (D := (dC, dI)) (ci := 1) (v := .int 1) (C := RX3) (T := TX3) (N := 12) hx hb hkw kin_X3 hown hK hP 0 rfl rfl 0 (by decide) (hkw _ m_114) (fun _ h9 => h9) rfl dX12_isOpen_11 ?_
  refine lv_if_eq (tgt := 21) hx hb dX12_isOpen_14 (by decide) (fun c_14_0 => absurd c_14_0 (by decide)) (fun c_14_0 => ?_)
  refine lv_iconst (v := 1) hx hb dX12_isOpen_17 (by decide) ?_
  refine lv_goto (tgt := 22) hx hb dX12_isOpen_18 (by decide) ?_
  have hP9 := hP.sub (ws' := []) [] rfl
  have hD9 := hD.sub (ws' := []) [] (by decide) rfl
  have hK9 := hK.sub (tys' := []) [] rfl
  refine W.widen (k := 0) (n := 0) (Nat.le_of_ble_eq_true rfl) (Nat.le_of_ble_eq_true rfl) ?_
  exact W.zret (v := 1) (ty := .boolean) hx hb hr rfl (fun t ht hW => ⟨⟨1, (), rfl, rfl, by rw [ht]; exact hP9, va_K.moved hW.alike hK9, hD9⟩, hS.F ht⟩) hS.2.2 dX12_isOpen_22

set_option maxHeartbeats 4000000 in
set_option maxRecDepth 100000 in
/-- out_2, fresh -/
theorem c_KS_out_2 (l : Launch) (dC : Nat → ClassId) (dI : Nat → Nat → Nat) (sz : Nat) (h0 : Nat) (t0 : Nat) (xm1 : Nat) (a0 : Nat) (w0 : Nat) (k0 : Nat) (e0 : Nat) (xm2 : Nat) (xm3 : Nat) (xm4 : Nat) (xm5 : Nat) (j0 : Nat) (j1 : Nat) (j2 : Nat) (ka : ClassId) (fa : Nat → Option Nat) (c2 : Nat) (i2 : Nat) (o2 : Nat) (b2 : Nat) (y2 : Nat) (z2 : Nat) (ro2 : Nat) (hc2 : fa 2 = some c2) : Met l yX12_out wX12_out ({ frames := 1, cells := 0, slots := 0, locals := 21 }) (va_Pc [.ref h0, .int 2] (pW (dC, dI) [(h0, .inr (9, [.ref t0, .ref xm1, .ref a0, .ref w0, .ref k0, .ref e0, .ref xm2, .ref xm3, .ref xm4, .ref xm5, .ref j0, .ref j1, .ref j2, .int 0, .int 0, .int 0, .int (-1), .int 1])), (a0, .inl (ka, 4, .inr (.inr (.inr (.inr fa))))), (c2, .inr (1, [.int 1, .ref i2, .ref o2, .ref b2, .int 0, .int 0, .int 0, .int 0, .ref y2, .int 0, .ref z2, .int 0])), (o2, .inr (0, [.int 65536, .ref ro2, .int 0, .int 0]))] [(ka, .object "KeySteward$Connection")] sz)) (va_Qi (fun (r : Int32) (_u : Unit) => r = 0) (fun (_u : Unit) (t : State) => bW (dC, dI) [] [] (va_A [(h0, .inr (9, [.ref t0, .ref xm1, .ref a0, .ref w0, .ref k0, .ref e0, .ref xm2, .ref xm3, .ref xm4, .ref xm5, .ref j0, .ref j1, .ref j2, .int 0, .int 0, .int 0, .int (-1), .int 1])), (a0, .inl (ka, 4, .inr (.inr (.inr (.inr fa))))), (c2, .inr (1, [.int 1, .ref i2, .ref o2, .ref b2, .int 0, .int 0, .int 0, .int 0, .ref y2, .int 0, .ref z2, .int 0])), (o2, .inr (0, [.int 65536, .ref ro2, .int 0, .int 0]))] sz) t) (va_A [(h0, .inr (9, [.ref t0, .ref xm1, .ref a0, .ref w0, .ref k0, .ref e0, .ref xm2, .ref xm3, .ref xm4, .ref xm5, .ref j0, .ref j1, .ref j2, .int 0, .int 0, .int 0, .int (-1), .int 1])), (a0, .inl (ka, 4, .inr (.inr (.inr (.inr fa))))), (c2, .inr (1, [.int 1, .ref i2, .ref o2, .ref b2, .int 0, .int 0, .int 0, .int 0, .ref y2, .int 0, .ref z2, .int 0])), (o2, .inr (0, [.int 65536, .ref ro2, .int 0, .int 0]))] sz)) 0 0 (va_A [(h0, .inr (9, [.ref t0, .ref xm1, .ref a0, .ref w0, .ref k0, .ref e0, .ref xm2, .ref xm3, .ref xm4, .ref xm5, .ref j0, .ref j1, .ref j2, .int 0, .int 0, .int 0, .int (-1), .int 1])), (a0, .inl (ka, 4, .inr (.inr (.inr (.inr fa))))), (c2, .inr (1, [.int 1, .ref i2, .ref o2, .ref b2, .int 0, .int 0, .int 0, .int 0, .ref y2, .int 0, .ref z2, .int 0])), (o2, .inr (0, [.int 65536, .ref ro2, .int 0, .int 0]))] sz) := by
  refine Met.ofW (cc := cX12_out) (maxL := 3) (ret := (some .int)) (by decide) rfl ?_
  intro p e s m args below meth c s₁ B hml hv
  obtain ⟨rfl, hsz, hP, hK, hD0, hfx⟩ := hv
  have hx := B.exec
  have hb := B.bytes
  have hr := B.returns
  have hts := atoms_spec (ws := wX12_out) B.pre
  have hkw : ∀ w ∈ kw, w.before _ s = true := fun w h => hts w (List.mem_cons_of_mem _ h)
  have hown : s.vm.findClass RX12 = some m.cls := findClass_of_methodNamed B.named
  have hlocks := B.notSynchronized
  subst hsz
  have hD := hD0.self (sz := s.heap.size)
  generalize hAe : va_A [(h0, .inr (9, [.ref t0, .ref xm1, .ref a0, .ref w0, .ref k0, .ref e0, .ref xm2, .ref xm3, .ref xm4, .ref xm5, .ref j0, .ref j1, .ref j2, .int 0, .int 0, .int 0, .int (-1), .int 1])), (a0, .inl (ka, 4, .inr (.inr (.inr (.inr fa))))), (c2, .inr (1, [.int 1, .ref i2, .ref o2, .ref b2, .int 0, .int 0, .int 0, .int 0, .ref y2, .int 0, .ref z2, .int 0])), (o2, .inr (0, [.int 65536, .ref ro2, .int 0, .int 0]))] s.heap.size = A at hD ⊢
  have hA : ∀ q : Nat, s.heap.size ≤ q → A q := fun q h => by rw [← hAe]; exact Or.inr h
  have hS : va_S A s.heap s.heap [] := va_S.rf
  have hP : va_P (dC, dI) classes [(h0, .inr (9, [.ref t0, .ref xm1, .ref a0, .ref w0, .ref k0, .ref e0, .ref xm2, .ref xm3, .ref xm4, .ref xm5, .ref j0, .ref j1, .ref j2, .int 0, .int 0, .int 0, .int (-1), .int 1])), (a0, .inl (ka, 4, .inr (.inr (.inr (.inr fa))))), (c2, .inr (1, [.int 1, .ref i2, .ref o2, .ref b2, .int 0, .int 0, .int 0, .int 0, .ref y2, .int 0, .ref z2, .int 0])), (o2, .inr (0, [.int 65536, .ref ro2, .int 0, .int 0]))] s.heap := hP
  have hl := lv_entry ([.ref h0, .int 2]) (n := 3) (Nat.le_of_ble_eq_true rfl)
  rw [lg_entry_eq]
  generalize (lg_sl ([.ref h0, .int 2]) ++ List.replicate (3 - (lg_sl ([.ref h0, .int 2])).length) Slot.unset).toArray = ls at hl ⊢
  have hl : lv_has ls 3 [(0, .ref h0), (1, .int 2)] := hl
  refine lv_aload_n hx hb dX12_out_0 rfl (lv_at hl 0 rfl) ?_
  refine lv_iload_n hx hb dX12_out_1 rfl (lv_at hl 1 rfl) ?_
  have hPc := hP.sub (ws' := [(h0, .inr (9, [.ref t0, .ref xm1, .ref a0, .ref w0, .ref k0, .ref e0, .ref xm2, .ref xm3, .ref xm4, .ref xm5, .ref j0, .ref j1, .ref j2, .int 0, .int 0, .int 0, .int (-1), .int 1])), (a0, .inl (ka, 4, .inr (.inr (.inr (.inr fa)))))]) [0, 1] rfl
  have hDc := hD.sub (ws' := [(h0, .inr (9, [.ref t0, .ref xm1, .ref a0, .ref w0, .ref k0, .ref e0, .ref xm2, .ref xm3, .ref xm4, .ref xm5, .ref j0, .ref j1, .ref j2, .int 0, .int 0, .int 0, .int (-1), .int 1])), (a0, .inl (ka, 4, .inr (.inr (.inr (.inr fa)))))]) [0, 1] (by decide) rfl
  have hKc := hK.sub (tys' := [(ka, .object "KeySteward$Connection")]) [0] rfl
  have hFc := va_free (wc := [(h0, .inr (9, [.ref t0, .ref xm1, .ref a0, .ref w0, .ref k0, .ref e0, .ref xm2, .ref xm3, .ref xm4, .ref xm5, .ref j0, .ref j1, .ref j2, .int 0, .int 0, .int 0, .int (-1), .int 1])), (a0, .inl (ka, 4, .inr (.inr (.inr (.inr fa)))))]) hD hS hA [0, 1] rfl
  refine va_callq (va_runV (As := [.int 2]) (rest := []) ⟨hx, hb, hml, hown, hkw⟩ (c_KS_coOf_2 l dC dI s.heap.size h0 t0 xm1 a0 w0 k0 e0 xm2 xm3 xm4 xm5 j0 j1 j2 ka fa c2 hc2) (callVv 1 hkw (kwI m_121) rfl rfl rfl (hkw _ m_122) (hkw _ m_123) (hkw _ m_124) (hkw _ m_125) (by decide +kernel) ⟨Nat.le_of_ble_eq_true rfl, Nat.le_of_ble_eq_true rfl⟩) ⟨fbW, va_recv hK hP (ci := 9) (q0 := 0) rfl rfl, pW_in hPc hKc hDc hfx⟩ rfl rfl hl.1 rfl (lv_room (Nat.le_of_ble_eq_true rfl)) dX12_out_2 ⟨Nat.le_of_ble_eq_true rfl, Nat.le_of_ble_eq_true rfl⟩) hS (fun q _ h => hFc q h) hFc (fun r1 u t H1 locs ht hvm hw hB hz1 hk1 hS => ?_)
  obtain ⟨hP1, hK1, hD1⟩ := hB
  rw [ht] at hP1
  have hK1 := va_K.moved hvm.symm hK1
  obtain ⟨hP, hD⟩ := va_join (wr := [(c2, .inr (1, [.int 1, .ref i2, .ref o2, .ref b2, .int 0, .int 0, .int 0, .int 0, .ref y2, .int 0, .ref z2, .int 0])), (o2, .inr (0, [.int 65536, .ref ro2, .int 0, .int 0]))]) (w1 := [(h0, .inr (9, [.ref t0, .ref xm1, .ref a0, .ref w0, .ref k0, .ref e0, .ref xm2, .ref xm3, .ref xm4, .ref xm5, .ref j0, .ref j1, .ref j2, .int 0, .int 0, .int 0, .int (-1), .int 1])), (a0, .inl (ka, 4, .inr (.inr (.inr (.inr fa)))))]) hP hD [0, 1] [2, 3] rfl rfl (by decide) (by decide) hk1 hFc hP1 hD1
  have hK := (hK.sub (tys' := []) [] rfl).app hK1
  generalize H1 = H at hP hS ⊢
  have hP : va_P (dC, dI) classes [(c2, .inr (1, [.int 1, .ref i2, .ref o2, .ref b2, .int 0, .int 0, .int 0, .int 0, .ref y2, .int 0, .ref z2, .int 0])), (o2, .inr (0, [.int 65536, .ref ro2, .int 0, .int 0])), (h0, .inr (9, [.ref t0, .ref xm1, .ref a0, .ref w0, .ref k0, .ref e0, .ref xm2, .ref xm3, .ref xm4, .ref xm5, .ref j0, .ref j1, .ref j2, .int 0, .int 0, .int 0, .int (-1), .int 1])), (a0, .inl (ka, 4, .inr (.inr (.inr (.inr fa)))))] H := hP
  have hD : va_D A [(c2, .inr (1, [.int 1, .ref i2, .ref o2, .ref b2, .int 0, .int 0, .int 0, .int 0, .ref y2, .int 0, .ref z2, .int 0])), (o2, .inr (0, [.int 65536, .ref ro2, .int 0, .int 0])), (h0, .inr (9, [.ref t0, .ref xm1, .ref a0, .ref w0, .ref k0, .ref e0, .ref xm2, .ref xm3, .ref xm4, .ref xm5, .ref j0, .ref j1, .ref j2, .int 0, .int 0, .int 0, .int (-1), .int 1])), (a0, .inl (ka, 4, .inr (.inr (.inr (.inr fa)))))] := hD
  have hK : va_K (dC, dI) classes [(ka, .object "KeySteward$Connection")] s := hK
  have hw2 := hw
  try dsimp only at hw2
  subst hw2
  refine lv_astore_n (lv' := [(2, .ref c2), (0, .ref h0), (1, .int 2)]) hx hb dX12_out_5 rfl hl (by decide) rfl (fun ls hl => ?_)
  refine lv_aload_n hx hb dX12_out_6 rfl (lv_at hl 0 rfl) ?_
  refine lv_ifnonnull (tgt := 14) hx hb dX12_out_7 (by decide) ?_
  refine lv_aload_n hx hb dX12_out_14 rfl (lv_at hl 0 rfl) ?_
  refine va_get (D := (dC, dI)) (ci := 1) (v := .ref o2) (C := RX3) (T := TX3) (N := 12) hx hb hkw kin_X3 hown hK hP 0 rfl rfl 2 (by decide) (hkw _ m_126) (fun _ h9 => h9) rfl dX12_out_15 ?_
  refine va_get (D := (dC, dI)) (ci := 0) (v := .int 0) (C := RX1) (T := TX1) (N := 4) hx hb hkw kin_X1 hown hK hP 1 rfl rfl 2 (by decide) (hkw _ m_104) (fun _ h9 => h9) rfl dX12_out_18 ?_
  have hP9 := hP.sub (ws' := []) [] rfl
  have hD9 := hD.sub (ws' := []) [] (by decide) rfl
  have hK9 := hK.sub (tys' := []) [] rfl
  refine W.widen (k := 0) (n := 0) (Nat.le_of_ble_eq_true rfl) (Nat.le_of_ble_eq_true rfl) ?_
  exact W.iret (v := 0) hx hb hr (fun t ht hW => ⟨⟨0, (), rfl, rfl, by rw [ht]; exact hP9, va_K.moved hW.alike hK9, hD9⟩, hS.F ht⟩) hS.2.2 dX12_out_21

set_option maxHeartbeats 4000000 in
set_option maxRecDepth 100000 in
/-- take_2_0, fresh -/
theorem c_KS_take_2_0 (l : Launch) (dC : Nat → ClassId) (dI : Nat → Nat → Nat) (sz : Nat) (h0 : Nat) (t0 : Nat) (xm1 : Nat) (a0 : Nat) (w0 : Nat) (k0 : Nat) (e0 : Nat) (xm2 : Nat) (xm3 : Nat) (xm4 : Nat) (xm5 : Nat) (j0 : Nat) (j1 : Nat) (j2 : Nat) (ka : ClassId) (fa : Nat → Option Nat) (c2 : Nat) (i2 : Nat) (o2 : Nat) (b2 : Nat) (y2 : Nat) (z2 : Nat) (ro2 : Nat) (hc2 : fa 2 = some c2) : Met l yX12_take wX12_take ({ frames := 1, cells := 0, slots := 0, locals := 22 }) (va_Pc [.ref h0, .int 2, .int 0] (pW (dC, dI) [(h0, .inr (9, [.ref t0, .ref xm1, .ref a0, .ref w0, .ref k0, .ref e0, .ref xm2, .ref xm3, .ref xm4, .ref xm5, .ref j0, .ref j1, .ref j2, .int 0, .int 0, .int 0, .int (-1), .int 1])), (a0, .inl (ka, 4, .inr (.inr (.inr (.inr fa))))), (c2, .inr (1, [.int 1, .ref i2, .ref o2, .ref b2, .int 0, .int 0, .int 0, .int 0, .ref y2, .int 0, .ref z2, .int 0])), (o2, .inr (0, [.int 65536, .ref ro2, .int 0, .int 0]))] [(ka, .object "KeySteward$Connection")] sz)) (va_Qi (fun (r : Int32) (_u : Unit) => r = 1) (fun (_u : Unit) (t : State) => bW (dC, dI) [] [] (va_A [(h0, .inr (9, [.ref t0, .ref xm1, .ref a0, .ref w0, .ref k0, .ref e0, .ref xm2, .ref xm3, .ref xm4, .ref xm5, .ref j0, .ref j1, .ref j2, .int 0, .int 0, .int 0, .int (-1), .int 1])), (a0, .inl (ka, 4, .inr (.inr (.inr (.inr fa))))), (c2, .inr (1, [.int 1, .ref i2, .ref o2, .ref b2, .int 0, .int 0, .int 0, .int 0, .ref y2, .int 0, .ref z2, .int 0])), (o2, .inr (0, [.int 65536, .ref ro2, .int 0, .int 0]))] sz) t) (va_A [(h0, .inr (9, [.ref t0, .ref xm1, .ref a0, .ref w0, .ref k0, .ref e0, .ref xm2, .ref xm3, .ref xm4, .ref xm5, .ref j0, .ref j1, .ref j2, .int 0, .int 0, .int 0, .int (-1), .int 1])), (a0, .inl (ka, 4, .inr (.inr (.inr (.inr fa))))), (c2, .inr (1, [.int 1, .ref i2, .ref o2, .ref b2, .int 0, .int 0, .int 0, .int 0, .ref y2, .int 0, .ref z2, .int 0])), (o2, .inr (0, [.int 65536, .ref ro2, .int 0, .int 0]))] sz)) 0 0 (va_A [(h0, .inr (9, [.ref t0, .ref xm1, .ref a0, .ref w0, .ref k0, .ref e0, .ref xm2, .ref xm3, .ref xm4, .ref xm5, .ref j0, .ref j1, .ref j2, .int 0, .int 0, .int 0, .int (-1), .int 1])), (a0, .inl (ka, 4, .inr (.inr (.inr (.inr fa))))), (c2, .inr (1, [.int 1, .ref i2, .ref o2, .ref b2, .int 0, .int 0, .int 0, .int 0, .ref y2, .int 0, .ref z2, .int 0])), (o2, .inr (0, [.int 65536, .ref ro2, .int 0, .int 0]))] sz) := by
  refine Met.ofW (cc := cX12_take) (maxL := 4) (ret := (some .boolean)) (by decide) rfl ?_
  intro p e s m args below meth c s₁ B hml hv
  obtain ⟨rfl, hsz, hP, hK, hD0, hfx⟩ := hv
  have hx := B.exec
  have hb := B.bytes
  have hr := B.returns
  have hts := atoms_spec (ws := wX12_take) B.pre
  have hkw : ∀ w ∈ kw, w.before _ s = true := fun w h => hts w (List.mem_cons_of_mem _ h)
  have hown : s.vm.findClass RX12 = some m.cls := findClass_of_methodNamed B.named
  have hlocks := B.notSynchronized
  subst hsz
  have hD := hD0.self (sz := s.heap.size)
  generalize hAe : va_A [(h0, .inr (9, [.ref t0, .ref xm1, .ref a0, .ref w0, .ref k0, .ref e0, .ref xm2, .ref xm3, .ref xm4, .ref xm5, .ref j0, .ref j1, .ref j2, .int 0, .int 0, .int 0, .int (-1), .int 1])), (a0, .inl (ka, 4, .inr (.inr (.inr (.inr fa))))), (c2, .inr (1, [.int 1, .ref i2, .ref o2, .ref b2, .int 0, .int 0, .int 0, .int 0, .ref y2, .int 0, .ref z2, .int 0])), (o2, .inr (0, [.int 65536, .ref ro2, .int 0, .int 0]))] s.heap.size = A at hD ⊢
  have hA : ∀ q : Nat, s.heap.size ≤ q → A q := fun q h => by rw [← hAe]; exact Or.inr h
  have hS : va_S A s.heap s.heap [] := va_S.rf
  have hP : va_P (dC, dI) classes [(h0, .inr (9, [.ref t0, .ref xm1, .ref a0, .ref w0, .ref k0, .ref e0, .ref xm2, .ref xm3, .ref xm4, .ref xm5, .ref j0, .ref j1, .ref j2, .int 0, .int 0, .int 0, .int (-1), .int 1])), (a0, .inl (ka, 4, .inr (.inr (.inr (.inr fa))))), (c2, .inr (1, [.int 1, .ref i2, .ref o2, .ref b2, .int 0, .int 0, .int 0, .int 0, .ref y2, .int 0, .ref z2, .int 0])), (o2, .inr (0, [.int 65536, .ref ro2, .int 0, .int 0]))] s.heap := hP
  have hl := lv_entry ([.ref h0, .int 2, .int 0]) (n := 4) (Nat.le_of_ble_eq_true rfl)
  rw [lg_entry_eq]
  generalize (lg_sl ([.ref h0, .int 2, .int 0]) ++ List.replicate (4 - (lg_sl ([.ref h0, .int 2, .int 0])).length) Slot.unset).toArray = ls at hl ⊢
  have hl : lv_has ls 4 [(0, .ref h0), (1, .int 2), (2, .int 0)] := hl
  refine lv_aload_n hx hb dX12_take_0 rfl (lv_at hl 0 rfl) ?_
  refine lv_iload_n hx hb dX12_take_1 rfl (lv_at hl 1 rfl) ?_
  have hPc := hP.sub (ws' := [(h0, .inr (9, [.ref t0, .ref xm1, .ref a0, .ref w0, .ref k0, .ref e0, .ref xm2, .ref xm3, .ref xm4, .ref xm5, .ref j0, .ref j1, .ref j2, .int 0, .int 0, .int 0, .int (-1), .int 1])), (a0, .inl (ka, 4, .inr (.inr (.inr (.inr fa)))))]) [0, 1] rfl
  have hDc := hD.sub (ws' := [(h0, .inr (9, [.ref t0, .ref xm1, .ref a0, .ref w0, .ref k0, .ref e0, .ref xm2, .ref xm3, .ref xm4, .ref xm5, .ref j0, .ref j1, .ref j2, .int 0, .int 0, .int 0, .int (-1), .int 1])), (a0, .inl (ka, 4, .inr (.inr (.inr (.inr fa)))))]) [0, 1] (by decide) rfl
  have hKc := hK.sub (tys' := [(ka, .object "KeySteward$Connection")]) [0] rfl
  have hFc := va_free (wc := [(h0, .inr (9, [.ref t0, .ref xm1, .ref a0, .ref w0, .ref k0, .ref e0, .ref xm2, .ref xm3, .ref xm4, .ref xm5, .ref j0, .ref j1, .ref j2, .int 0, .int 0, .int 0, .int (-1), .int 1])), (a0, .inl (ka, 4, .inr (.inr (.inr (.inr fa)))))]) hD hS hA [0, 1] rfl
  refine va_callq (va_runV (As := [.int 2]) (rest := []) ⟨hx, hb, hml, hown, hkw⟩ (c_KS_coOf_2 l dC dI s.heap.size h0 t0 xm1 a0 w0 k0 e0 xm2 xm3 xm4 xm5 j0 j1 j2 ka fa c2 hc2) (callVv 1 hkw (kwI m_121) rfl rfl rfl (hkw _ m_122) (hkw _ m_123) (hkw _ m_124) (hkw _ m_125) (by decide +kernel) ⟨Nat.le_of_ble_eq_true rfl, Nat.le_of_ble_eq_true rfl⟩) ⟨fbW, va_recv hK hP (ci := 9) (q0 := 0) rfl rfl, pW_in hPc hKc hDc hfx⟩ rfl rfl hl.1 rfl (lv_room (Nat.le_of_ble_eq_true rfl)) dX12_take_2 ⟨Nat.le_of_ble_eq_true rfl, Nat.le_of_ble_eq_true rfl⟩) hS (fun q _ h => hFc q h) hFc (fun r1 u t H1 locs ht hvm hw hB hz1 hk1 hS => ?_)
  obtain ⟨hP1, hK1, hD1⟩ := hB
  rw [ht] at hP1
  have hK1 := va_K.moved hvm.symm hK1
  obtain ⟨hP, hD⟩ := va_join (wr := [(c2, .inr (1, [.int 1, .ref i2, .ref o2, .ref b2, .int 0, .int 0, .int 0, .int 0, .ref y2, .int 0, .ref z2, .int 0])), (o2, .inr (0, [.int 65536, .ref ro2, .int 0, .int 0]))]) (w1 := [(h0, .inr (9, [.ref t0, .ref xm1, .ref a0, .ref w0, .ref k0, .ref e0, .ref xm2, .ref xm3, .ref xm4, .ref xm5, .ref j0, .ref j1, .ref j2, .int 0, .int 0, .int 0, .int (-1), .int 1])), (a0, .inl (ka, 4, .inr (.inr (.inr (.inr fa)))))]) hP hD [0, 1] [2, 3] rfl rfl (by decide) (by decide) hk1 hFc hP1 hD1
  have hK := (hK.sub (tys' := []) [] rfl).app hK1
  generalize H1 = H at hP hS ⊢
  have hP : va_P (dC, dI) classes [(c2, .inr (1, [.int 1, .ref i2, .ref o2, .ref b2, .int 0, .int 0, .int 0, .int 0, .ref y2, .int 0, .ref z2, .int 0])), (o2, .inr (0, [.int 65536, .ref ro2, .int 0, .int 0])), (h0, .inr (9, [.ref t0, .ref xm1, .ref a0, .ref w0, .ref k0, .ref e0, .ref xm2, .ref xm3, .ref xm4, .ref xm5, .ref j0, .ref j1, .ref j2, .int 0, .int 0, .int 0, .int (-1), .int 1])), (a0, .inl (ka, 4, .inr (.inr (.inr (.inr fa)))))] H := hP
  have hD : va_D A [(c2, .inr (1, [.int 1, .ref i2, .ref o2, .ref b2, .int 0, .int 0, .int 0, .int 0, .ref y2, .int 0, .ref z2, .int 0])), (o2, .inr (0, [.int 65536, .ref ro2, .int 0, .int 0])), (h0, .inr (9, [.ref t0, .ref xm1, .ref a0, .ref w0, .ref k0, .ref e0, .ref xm2, .ref xm3, .ref xm4, .ref xm5, .ref j0, .ref j1, .ref j2, .int 0, .int 0, .int 0, .int (-1), .int 1])), (a0, .inl (ka, 4, .inr (.inr (.inr (.inr fa)))))] := hD
  have hK : va_K (dC, dI) classes [(ka, .object "KeySteward$Connection")] s := hK
  have hw2 := hw
  try dsimp only at hw2
  subst hw2
  refine lv_astore_n (lv' := [(3, .ref c2), (0, .ref h0), (1, .int 2), (2, .int 0)]) hx hb dX12_take_5 rfl hl (by decide) rfl (fun ls hl => ?_)
  refine lv_aload_n hx hb dX12_take_6 rfl (lv_at hl 0 rfl) ?_
  refine lv_ifnull hx hb dX12_take_7 ?_
  refine lv_iload_n hx hb dX12_take_10 rfl (lv_at hl 3 rfl) ?_
  refine lv_if_lt (tgt := 25) hx hb dX12_take_11 (by decide) (fun c_11_0 => absurd c_11_0 (by decide)) (fun c_11_0 => ?_)
  refine lv_iload_n hx hb dX12_take_14 rfl (lv_at hl 3 rfl) ?_
  refine lv_aload_n hx hb dX12_take_15 rfl (lv_at hl 0 rfl) ?_
  refine va_get (D := (dC, dI)) (ci := 1) (v := .ref o2) (C := RX3) (T := TX3) (N := 12) hx hb hkw kin_X3 hown hK hP 0 rfl rfl 2 (by decide) (hkw _ m_126) (fun _ h9 => h9) rfl dX12_take_16 ?_
  refine va_get (D := (dC, dI)) (ci := 0) (v := .int 0) (C := RX1) (T := TX1) (N := 4) hx hb hkw kin_X1 hown hK hP 1 rfl rfl 2 (by decide) (hkw _ m_104) (fun _ h9 => h9) rfl dX12_take_19 ?_
  refine lv_icmp_le (tgt := 27) hx hb dX12_take_22 (by decide) (fun c_22_0 => ?_) (fun c_22_0 => absurd c_22_0 (by decide))
  refine lv_aload_n hx hb dX12_take_27 rfl (lv_at hl 0 rfl) ?_
  refine va_get (D := (dC, dI)) (ci := 1) (v := .ref o2) (C := RX3) (T := TX3) (N := 12) hx hb hkw kin_X3 hown hK hP 0 rfl rfl 2 (by decide) (hkw _ m_126) (fun _ h9 => h9) rfl dX12_take_28 ?_
  refine lv_iload_n hx hb dX12_take_31 rfl (lv_at hl 3 rfl) ?_
  have hPc := hP.sub (ws' := [(o2, .inr (0, [.int 65536, .ref ro2, .int 0, .int 0]))]) [1] rfl
  have hDc := hD.sub (ws' := [(o2, .inr (0, [.int 65536, .ref ro2, .int 0, .int 0]))]) [1] (by decide) rfl
  have hKc := hK.sub (tys' := []) [] rfl
  have hFc := va_free (wc := [(o2, .inr (0, [.int 65536, .ref ro2, .int 0, .int 0]))]) hD hS hA [1] rfl
  refine va_callv (va_runV (As := [.int 0]) (rest := []) ⟨hx, hb, hml, hown, hkw⟩ (c_By_drop l dC dI H.size o2 ro2 65536 0 0) (callVv 1 hkw (kwI m_116) rfl rfl rfl (hkw _ m_9) (hkw _ m_117) (hkw _ m_118) (hkw _ m_119) (by decide +kernel) ⟨Nat.le_of_ble_eq_true rfl, Nat.le_of_ble_eq_true rfl⟩) ⟨fbW, va_recv hK hP (ci := 0) (q0 := 1) rfl rfl, pW_in hPc hKc hDc hfx⟩ rfl rfl hl.1 rfl (lv_room (Nat.le_of_ble_eq_true rfl)) dX12_take_32 ⟨Nat.le_of_ble_eq_true rfl, Nat.le_of_ble_eq_true rfl⟩) hS (fun q _ h => hFc q h) hFc (fun u t H1 locs ht hvm hw hB hz1 hk1 hS => ?_)
  obtain ⟨hP1, hK1, hD1⟩ := hB
  rw [ht] at hP1
  have hK1 := va_K.moved hvm.symm hK1
  obtain ⟨hP, hD⟩ := va_join (wr := [(c2, .inr (1, [.int 1, .ref i2, .ref o2, .ref b2, .int 0, .int 0, .int 0, .int 0, .ref y2, .int 0, .ref z2, .int 0])), (h0, .inr (9, [.ref t0, .ref xm1, .ref a0, .ref w0, .ref k0, .ref e0, .ref xm2, .ref xm3, .ref xm4, .ref xm5, .ref j0, .ref j1, .ref j2, .int 0, .int 0, .int 0, .int (-1), .int 1])), (a0, .inl (ka, 4, .inr (.inr (.inr (.inr fa)))))]) (w1 := [(o2, .inr (0, [.int 65536, .ref ro2, .int 0, .int 0]))]) hP hD [1] [0, 2, 3] rfl rfl (by decide) (by decide) hk1 hFc hP1 hD1
  have hK := (hK.sub (tys' := [(ka, .object "KeySteward$Connection")]) [0] rfl).app hK1
  generalize H1 = H at hP hS ⊢
  have hP : va_P (dC, dI) classes [(c2, .inr (1, [.int 1, .ref i2, .ref o2, .ref b2, .int 0, .int 0, .int 0, .int 0, .ref y2, .int 0, .ref z2, .int 0])), (h0, .inr (9, [.ref t0, .ref xm1, .ref a0, .ref w0, .ref k0, .ref e0, .ref xm2, .ref xm3, .ref xm4, .ref xm5, .ref j0, .ref j1, .ref j2, .int 0, .int 0, .int 0, .int (-1), .int 1])), (a0, .inl (ka, 4, .inr (.inr (.inr (.inr fa))))), (o2, .inr (0, [.int 65536, .ref ro2, .int 0, .int 0]))] H := hP
  have hD : va_D A [(c2, .inr (1, [.int 1, .ref i2, .ref o2, .ref b2, .int 0, .int 0, .int 0, .int 0, .ref y2, .int 0, .ref z2, .int 0])), (h0, .inr (9, [.ref t0, .ref xm1, .ref a0, .ref w0, .ref k0, .ref e0, .ref xm2, .ref xm3, .ref xm4, .ref xm5, .ref j0, .ref j1, .ref j2, .int 0, .int 0, .int 0, .int (-1), .int 1])), (a0, .inl (ka, 4, .inr (.inr (.inr (.inr fa))))), (o2, .inr (0, [.int 65536, .ref ro2, .int 0, .int 0]))] := hD
  have hK : va_K (dC, dI) classes [(ka, .object "KeySteward$Connection")] s := hK
  have hw3 := hw
  try dsimp only at hw3
  refine lv_iconst (v := 1) hx hb dX12_take_35 (by decide) ?_
  have hP9 := hP.sub (ws' := []) [] rfl
  have hD9 := hD.sub (ws' := []) [] (by decide) rfl
  have hK9 := hK.sub (tys' := []) [] rfl
  refine W.widen (k := 0) (n := 0) (Nat.le_of_ble_eq_true rfl) (Nat.le_of_ble_eq_true rfl) ?_
  exact W.zret (v := 1) (ty := .boolean) hx hb hr rfl (fun t ht hW => ⟨⟨1, (), rfl, rfl, by rw [ht]; exact hP9, va_K.moved hW.alike hK9, hD9⟩, hS.F ht⟩) hS.2.2 dX12_take_36

set_option maxHeartbeats 4000000 in
set_option maxRecDepth 100000 in
/-- take_2_out, fresh -/
theorem c_KS_take_2_out (l : Launch) (dC : Nat → ClassId) (dI : Nat → Nat → Nat) (sz : Nat) (h0 : Nat) (t0 : Nat) (xm1 : Nat) (a0 : Nat) (w0 : Nat) (k0 : Nat) (e0 : Nat) (xm2 : Nat) (xm3 : Nat) (xm4 : Nat) (xm5 : Nat) (j0 : Nat) (j1 : Nat) (j2 : Nat) (ka : ClassId) (fa : Nat → Option Nat) (c2 : Nat) (i2 : Nat) (o2 : Nat) (b2 : Nat) (y2 : Nat) (z2 : Nat) (ro2 : Nat) (p1 : Int32) (hc2 : fa 2 = some c2) (hn : p1 < 0 ∨ 0 < p1) : Met l yX12_take wX12_take ({ frames := 1, cells := 0, slots := 0, locals := 21 }) (va_Pc [.ref h0, .int 2, .int p1] (pW (dC, dI) [(h0, .inr (9, [.ref t0, .ref xm1, .ref a0, .ref w0, .ref k0, .ref e0, .ref xm2, .ref xm3, .ref xm4, .ref xm5, .ref j0, .ref j1, .ref j2, .int 0, .int 0, .int 0, .int (-1), .int 1])), (a0, .inl (ka, 4, .inr (.inr (.inr (.inr fa))))), (c2, .inr (1, [.int 1, .ref i2, .ref o2, .ref b2, .int 0, .int 0, .int 0, .int 0, .ref y2, .int 0, .ref z2, .int 0])), (o2, .inr (0, [.int 65536, .ref ro2, .int 0, .int 0]))] [(ka, .object "KeySteward$Connection")] sz)) (va_Qi (fun (r : Int32) (_u : Unit) => r = 0) (fun (_u : Unit) (t : State) => bW (dC, dI) [] [] (va_A [(h0, .inr (9, [.ref t0, .ref xm1, .ref a0, .ref w0, .ref k0, .ref e0, .ref xm2, .ref xm3, .ref xm4, .ref xm5, .ref j0, .ref j1, .ref j2, .int 0, .int 0, .int 0, .int (-1), .int 1])), (a0, .inl (ka, 4, .inr (.inr (.inr (.inr fa))))), (c2, .inr (1, [.int 1, .ref i2, .ref o2, .ref b2, .int 0, .int 0, .int 0, .int 0, .ref y2, .int 0, .ref z2, .int 0])), (o2, .inr (0, [.int 65536, .ref ro2, .int 0, .int 0]))] sz) t) (va_A [(h0, .inr (9, [.ref t0, .ref xm1, .ref a0, .ref w0, .ref k0, .ref e0, .ref xm2, .ref xm3, .ref xm4, .ref xm5, .ref j0, .ref j1, .ref j2, .int 0, .int 0, .int 0, .int (-1), .int 1])), (a0, .inl (ka, 4, .inr (.inr (.inr (.inr fa))))), (c2, .inr (1, [.int 1, .ref i2, .ref o2, .ref b2, .int 0, .int 0, .int 0, .int 0, .ref y2, .int 0, .ref z2, .int 0])), (o2, .inr (0, [.int 65536, .ref ro2, .int 0, .int 0]))] sz)) 0 0 (va_A [(h0, .inr (9, [.ref t0, .ref xm1, .ref a0, .ref w0, .ref k0, .ref e0, .ref xm2, .ref xm3, .ref xm4, .ref xm5, .ref j0, .ref j1, .ref j2, .int 0, .int 0, .int 0, .int (-1), .int 1])), (a0, .inl (ka, 4, .inr (.inr (.inr (.inr fa))))), (c2, .inr (1, [.int 1, .ref i2, .ref o2, .ref b2, .int 0, .int 0, .int 0, .int 0, .ref y2, .int 0, .ref z2, .int 0])), (o2, .inr (0, [.int 65536, .ref ro2, .int 0, .int 0]))] sz) := by
  refine Met.ofW (cc := cX12_take) (maxL := 4) (ret := (some .boolean)) (by decide) rfl ?_
  intro p e s m args below meth c s₁ B hml hv
  obtain ⟨rfl, hsz, hP, hK, hD0, hfx⟩ := hv
  have hx := B.exec
  have hb := B.bytes
  have hr := B.returns
  have hts := atoms_spec (ws := wX12_take) B.pre
  have hkw : ∀ w ∈ kw, w.before _ s = true := fun w h => hts w (List.mem_cons_of_mem _ h)
  have hown : s.vm.findClass RX12 = some m.cls := findClass_of_methodNamed B.named
  have hlocks := B.notSynchronized
  subst hsz
  have hD := hD0.self (sz := s.heap.size)
  generalize hAe : va_A [(h0, .inr (9, [.ref t0, .ref xm1, .ref a0, .ref w0, .ref k0, .ref e0, .ref xm2, .ref xm3, .ref xm4, .ref xm5, .ref j0, .ref j1, .ref j2, .int 0, .int 0, .int 0, .int (-1), .int 1])), (a0, .inl (ka, 4, .inr (.inr (.inr (.inr fa))))), (c2, .inr (1, [.int 1, .ref i2, .ref o2, .ref b2, .int 0, .int 0, .int 0, .int 0, .ref y2, .int 0, .ref z2, .int 0])), (o2, .inr (0, [.int 65536, .ref ro2, .int 0, .int 0]))] s.heap.size = A at hD ⊢
  have hA : ∀ q : Nat, s.heap.size ≤ q → A q := fun q h => by rw [← hAe]; exact Or.inr h
  have hS : va_S A s.heap s.heap [] := va_S.rf
  have hP : va_P (dC, dI) classes [(h0, .inr (9, [.ref t0, .ref xm1, .ref a0, .ref w0, .ref k0, .ref e0, .ref xm2, .ref xm3, .ref xm4, .ref xm5, .ref j0, .ref j1, .ref j2, .int 0, .int 0, .int 0, .int (-1), .int 1])), (a0, .inl (ka, 4, .inr (.inr (.inr (.inr fa))))), (c2, .inr (1, [.int 1, .ref i2, .ref o2, .ref b2, .int 0, .int 0, .int 0, .int 0, .ref y2, .int 0, .ref z2, .int 0])), (o2, .inr (0, [.int 65536, .ref ro2, .int 0, .int 0]))] s.heap := hP
  have hl := lv_entry ([.ref h0, .int 2, .int p1]) (n := 4) (Nat.le_of_ble_eq_true rfl)
  rw [lg_entry_eq]
  generalize (lg_sl ([.ref h0, .int 2, .int p1]) ++ List.replicate (4 - (lg_sl ([.ref h0, .int 2, .int p1])).length) Slot.unset).toArray = ls at hl ⊢
  have hl : lv_has ls 4 [(0, .ref h0), (1, .int 2), (2, .int p1)] := hl
  refine lv_aload_n hx hb dX12_take_0 rfl (lv_at hl 0 rfl) ?_
  refine lv_iload_n hx hb dX12_take_1 rfl (lv_at hl 1 rfl) ?_
  have hPc := hP.sub (ws' := [(h0, .inr (9, [.ref t0, .ref xm1, .ref a0, .ref w0, .ref k0, .ref e0, .ref xm2, .ref xm3, .ref xm4, .ref xm5, .ref j0, .ref j1, .ref j2, .int 0, .int 0, .int 0, .int (-1), .int 1])), (a0, .inl (ka, 4, .inr (.inr (.inr (.inr fa)))))]) [0, 1] rfl
  have hDc := hD.sub (ws' := [(h0, .inr (9, [.ref t0, .ref xm1, .ref a0, .ref w0, .ref k0, .ref e0, .ref xm2, .ref xm3, .ref xm4, .ref xm5, .ref j0, .ref j1, .ref j2, .int 0, .int 0, .int 0, .int (-1), .int 1])), (a0, .inl (ka, 4, .inr (.inr (.inr (.inr fa)))))]) [0, 1] (by decide) rfl
  have hKc := hK.sub (tys' := [(ka, .object "KeySteward$Connection")]) [0] rfl
  have hFc := va_free (wc := [(h0, .inr (9, [.ref t0, .ref xm1, .ref a0, .ref w0, .ref k0, .ref e0, .ref xm2, .ref xm3, .ref xm4, .ref xm5, .ref j0, .ref j1, .ref j2, .int 0, .int 0, .int 0, .int (-1), .int 1])), (a0, .inl (ka, 4, .inr (.inr (.inr (.inr fa)))))]) hD hS hA [0, 1] rfl
  refine va_callq (va_runV (As := [.int 2]) (rest := []) ⟨hx, hb, hml, hown, hkw⟩ (c_KS_coOf_2 l dC dI s.heap.size h0 t0 xm1 a0 w0 k0 e0 xm2 xm3 xm4 xm5 j0 j1 j2 ka fa c2 hc2) (callVv 1 hkw (kwI m_121) rfl rfl rfl (hkw _ m_122) (hkw _ m_123) (hkw _ m_124) (hkw _ m_125) (by decide +kernel) ⟨Nat.le_of_ble_eq_true rfl, Nat.le_of_ble_eq_true rfl⟩) ⟨fbW, va_recv hK hP (ci := 9) (q0 := 0) rfl rfl, pW_in hPc hKc hDc hfx⟩ rfl rfl hl.1 rfl (lv_room (Nat.le_of_ble_eq_true rfl)) dX12_take_2 ⟨Nat.le_of_ble_eq_true rfl, Nat.le_of_ble_eq_true rfl⟩) hS (fun q _ h => hFc q h) hFc (fun r1 u t H1 locs ht hvm hw hB hz1 hk1 hS => ?_)
  obtain ⟨hP1, hK1, hD1⟩ := hB
  rw [ht] at hP1
  have hK1 := va_K.moved hvm.symm hK1
  obtain ⟨hP, hD⟩ := va_join (wr := [(c2, .inr (1, [.int 1, .ref i2, .ref o2, .ref b2, .int 0, .int 0, .int 0, .int 0, .ref y2, .int 0, .ref z2, .int 0])), (o2, .inr (0, [.int 65536, .ref ro2, .int 0, .int 0]))]) (w1 := [(h0, .inr (9, [.ref t0, .ref xm1, .ref a0, .ref w0, .ref k0, .ref e0, .ref xm2, .ref xm3, .ref xm4, .ref xm5, .ref j0, .ref j1, .ref j2, .int 0, .int 0, .int 0, .int (-1), .int 1])), (a0, .inl (ka, 4, .inr (.inr (.inr (.inr fa)))))]) hP hD [0, 1] [2, 3] rfl rfl (by decide) (by decide) hk1 hFc hP1 hD1
  have hK := (hK.sub (tys' := []) [] rfl).app hK1
  generalize H1 = H at hP hS ⊢
  have hP : va_P (dC, dI) classes [(c2, .inr (1, [.int 1, .ref i2, .ref o2, .ref b2, .int 0, .int 0, .int 0, .int 0, .ref y2, .int 0, .ref z2, .int 0])), (o2, .inr (0, [.int 65536, .ref ro2, .int 0, .int 0])), (h0, .inr (9, [.ref t0, .ref xm1, .ref a0, .ref w0, .ref k0, .ref e0, .ref xm2, .ref xm3, .ref xm4, .ref xm5, .ref j0, .ref j1, .ref j2, .int 0, .int 0, .int 0, .int (-1), .int 1])), (a0, .inl (ka, 4, .inr (.inr (.inr (.inr fa)))))] H := hP
  have hD : va_D A [(c2, .inr (1, [.int 1, .ref i2, .ref o2, .ref b2, .int 0, .int 0, .int 0, .int 0, .ref y2, .int 0, .ref z2, .int 0])), (o2, .inr (0, [.int 65536, .ref ro2, .int 0, .int 0])), (h0, .inr (9, [.ref t0, .ref xm1, .ref a0, .ref w0, .ref k0, .ref e0, .ref xm2, .ref xm3, .ref xm4, .ref xm5, .ref j0, .ref j1, .ref j2, .int 0, .int 0, .int 0, .int (-1), .int 1])), (a0, .inl (ka, 4, .inr (.inr (.inr (.inr fa)))))] := hD
  have hK : va_K (dC, dI) classes [(ka, .object "KeySteward$Connection")] s := hK
  have hw2 := hw
  try dsimp only at hw2
  subst hw2
  refine lv_astore_n (lv' := [(3, .ref c2), (0, .ref h0), (1, .int 2), (2, .int p1)]) hx hb dX12_take_5 rfl hl (by decide) rfl (fun ls hl => ?_)
  refine lv_aload_n hx hb dX12_take_6 rfl (lv_at hl 0 rfl) ?_
  refine lv_ifnull hx hb dX12_take_7 ?_
  refine lv_iload_n hx hb dX12_take_10 rfl (lv_at hl 3 rfl) ?_
  refine lv_if_lt (tgt := 25) hx hb dX12_take_11 (by decide) (fun c_11_0 => ?_) (fun c_11_0 => ?_)
  · refine lv_iconst (v := 0) hx hb dX12_take_25 (by decide) ?_
    have hP9 := hP.sub (ws' := []) [] rfl
    have hD9 := hD.sub (ws' := []) [] (by decide) rfl
    have hK9 := hK.sub (tys' := []) [] rfl
    refine W.widen (k := 0) (n := 0) (Nat.le_of_ble_eq_true rfl) (Nat.le_of_ble_eq_true rfl) ?_
    exact W.zret (v := 0) (ty := .boolean) hx hb hr rfl (fun t ht hW => ⟨⟨0, (), rfl, rfl, by rw [ht]; exact hP9, va_K.moved hW.alike hK9, hD9⟩, hS.F ht⟩) hS.2.2 dX12_take_26
  · refine lv_iload_n hx hb dX12_take_14 rfl (lv_at hl 3 rfl) ?_
    refine lv_aload_n hx hb dX12_take_15 rfl (lv_at hl 0 rfl) ?_
    refine va_get (D := (dC, dI)) (ci := 1) (v := .ref o2) (C := RX3) (T := TX3) (N := 12) hx hb hkw kin_X3 hown hK hP 0 rfl rfl 2 (by decide) (hkw _ m_126) (fun _ h9 => h9) rfl dX12_take_16 ?_
    refine va_get (D := (dC, dI)) (ci := 0) (v := .int 0) (C := RX1) (T := TX1) (N := 4) hx hb hkw kin_X1 hown hK hP 1 rfl rfl 2 (by decide) (hkw _ m_104) (fun _ h9 => h9) rfl dX12_take_19 ?_
    refine lv_icmp_le (tgt := 27) hx hb dX12_take_22 (by decide) (fun c_22_0 => absurd c_22_0 (dead_le hn c_11_0)) (fun c_22_0 => ?_)
    refine lv_iconst (v := 0) hx hb dX12_take_25 (by decide) ?_
    have hP9 := hP.sub (ws' := []) [] rfl
    have hD9 := hD.sub (ws' := []) [] (by decide) rfl
    have hK9 := hK.sub (tys' := []) [] rfl
    refine W.widen (k := 0) (n := 0) (Nat.le_of_ble_eq_true rfl) (Nat.le_of_ble_eq_true rfl) ?_
    exact W.zret (v := 0) (ty := .boolean) hx hb hr rfl (fun t ht hW => ⟨⟨0, (), rfl, rfl, by rw [ht]; exact hP9, va_K.moved hW.alike hK9, hD9⟩, hS.F ht⟩) hS.2.2 dX12_take_26

set_option maxHeartbeats 4000000 in
set_option maxRecDepth 100000 in
/-- open_2, fresh -/
theorem c_KS_open_2 (l : Launch) (dC : Nat → ClassId) (dI : Nat → Nat → Nat) (sz : Nat) (h0 : Nat) (t0 : Nat) (xm1 : Nat) (a0 : Nat) (w0 : Nat) (k0 : Nat) (e0 : Nat) (xm2 : Nat) (xm3 : Nat) (xm4 : Nat) (xm5 : Nat) (j0 : Nat) (j1 : Nat) (j2 : Nat) (ka : ClassId) (fa : Nat → Option Nat) (c2 : Nat) (i2 : Nat) (o2 : Nat) (b2 : Nat) (y2 : Nat) (z2 : Nat) (ri2 : Nat) (ro2 : Nat) (rb2 : Nat) (hc2 : fa 2 = some c2) : Met l yX12_open wX12_open ({ frames := 3, cells := 0, slots := 0, locals := 60 }) (va_Pc [.ref h0, .int 2] (pW (dC, dI) [(h0, .inr (9, [.ref t0, .ref xm1, .ref a0, .ref w0, .ref k0, .ref e0, .ref xm2, .ref xm3, .ref xm4, .ref xm5, .ref j0, .ref j1, .ref j2, .int 0, .int 0, .int 0, .int (-1), .int 1])), (a0, .inl (ka, 4, .inr (.inr (.inr (.inr fa))))), (c2, .inr (1, [.int 1, .ref i2, .ref o2, .ref b2, .int 0, .int 0, .int 0, .int 0, .ref y2, .int 0, .ref z2, .int 0])), (i2, .inr (0, [.int 131076, .ref ri2, .int 0, .int 0])), (o2, .inr (0, [.int 65536, .ref ro2, .int 0, .int 0])), (b2, .inr (0, [.int 67108864, .ref rb2, .int 0, .int 0]))] [(ka, .object "KeySteward$Connection")] sz)) (va_Qi (fun (r : Int32) (_u : Unit) => r = 1) (fun (_u : Unit) (t : State) => bW (dC, dI) [] [] (va_A [(h0, .inr (9, [.ref t0, .ref xm1, .ref a0, .ref w0, .ref k0, .ref e0, .ref xm2, .ref xm3, .ref xm4, .ref xm5, .ref j0, .ref j1, .ref j2, .int 0, .int 0, .int 0, .int (-1), .int 1])), (a0, .inl (ka, 4, .inr (.inr (.inr (.inr fa))))), (c2, .inr (1, [.int 1, .ref i2, .ref o2, .ref b2, .int 0, .int 0, .int 0, .int 0, .ref y2, .int 0, .ref z2, .int 0])), (i2, .inr (0, [.int 131076, .ref ri2, .int 0, .int 0])), (o2, .inr (0, [.int 65536, .ref ro2, .int 0, .int 0])), (b2, .inr (0, [.int 67108864, .ref rb2, .int 0, .int 0]))] sz) t) (va_A [(h0, .inr (9, [.ref t0, .ref xm1, .ref a0, .ref w0, .ref k0, .ref e0, .ref xm2, .ref xm3, .ref xm4, .ref xm5, .ref j0, .ref j1, .ref j2, .int 0, .int 0, .int 0, .int (-1), .int 1])), (a0, .inl (ka, 4, .inr (.inr (.inr (.inr fa))))), (c2, .inr (1, [.int 1, .ref i2, .ref o2, .ref b2, .int 0, .int 0, .int 0, .int 0, .ref y2, .int 0, .ref z2, .int 0])), (i2, .inr (0, [.int 131076, .ref ri2, .int 0, .int 0])), (o2, .inr (0, [.int 65536, .ref ro2, .int 0, .int 0])), (b2, .inr (0, [.int 67108864, .ref rb2, .int 0, .int 0]))] sz)) 0 0 (va_A [(h0, .inr (9, [.ref t0, .ref xm1, .ref a0, .ref w0, .ref k0, .ref e0, .ref xm2, .ref xm3, .ref xm4, .ref xm5, .ref j0, .ref j1, .ref j2, .int 0, .int 0, .int 0, .int (-1), .int 1])), (a0, .inl (ka, 4, .inr (.inr (.inr (.inr fa))))), (c2, .inr (1, [.int 1, .ref i2, .ref o2, .ref b2, .int 0, .int 0, .int 0, .int 0, .ref y2, .int 0, .ref z2, .int 0])), (i2, .inr (0, [.int 131076, .ref ri2, .int 0, .int 0])), (o2, .inr (0, [.int 65536, .ref ro2, .int 0, .int 0])), (b2, .inr (0, [.int 67108864, .ref rb2, .int 0, .int 0]))] sz) := by
  refine Met.ofW (cc := cX12_open) (maxL := 3) (ret := (some .boolean)) (by decide) rfl ?_
  intro p e s m args below meth c s₁ B hml hv
  obtain ⟨rfl, hsz, hP, hK, hD0, hfx⟩ := hv
  have hx := B.exec
  have hb := B.bytes
  have hr := B.returns
  have hts := atoms_spec (ws := wX12_open) B.pre
  have hkw : ∀ w ∈ kw, w.before _ s = true := fun w h => hts w (List.mem_cons_of_mem _ h)
  have hown : s.vm.findClass RX12 = some m.cls := findClass_of_methodNamed B.named
  have hlocks := B.notSynchronized
  subst hsz
  have hD := hD0.self (sz := s.heap.size)
  generalize hAe : va_A [(h0, .inr (9, [.ref t0, .ref xm1, .ref a0, .ref w0, .ref k0, .ref e0, .ref xm2, .ref xm3, .ref xm4, .ref xm5, .ref j0, .ref j1, .ref j2, .int 0, .int 0, .int 0, .int (-1), .int 1])), (a0, .inl (ka, 4, .inr (.inr (.inr (.inr fa))))), (c2, .inr (1, [.int 1, .ref i2, .ref o2, .ref b2, .int 0, .int 0, .int 0, .int 0, .ref y2, .int 0, .ref z2, .int 0])), (i2, .inr (0, [.int 131076, .ref ri2, .int 0, .int 0])), (o2, .inr (0, [.int 65536, .ref ro2, .int 0, .int 0])), (b2, .inr (0, [.int 67108864, .ref rb2, .int 0, .int 0]))] s.heap.size = A at hD ⊢
  have hA : ∀ q : Nat, s.heap.size ≤ q → A q := fun q h => by rw [← hAe]; exact Or.inr h
  have hS : va_S A s.heap s.heap [] := va_S.rf
  have hP : va_P (dC, dI) classes [(h0, .inr (9, [.ref t0, .ref xm1, .ref a0, .ref w0, .ref k0, .ref e0, .ref xm2, .ref xm3, .ref xm4, .ref xm5, .ref j0, .ref j1, .ref j2, .int 0, .int 0, .int 0, .int (-1), .int 1])), (a0, .inl (ka, 4, .inr (.inr (.inr (.inr fa))))), (c2, .inr (1, [.int 1, .ref i2, .ref o2, .ref b2, .int 0, .int 0, .int 0, .int 0, .ref y2, .int 0, .ref z2, .int 0])), (i2, .inr (0, [.int 131076, .ref ri2, .int 0, .int 0])), (o2, .inr (0, [.int 65536, .ref ro2, .int 0, .int 0])), (b2, .inr (0, [.int 67108864, .ref rb2, .int 0, .int 0]))] s.heap := hP
  have hl := lv_entry ([.ref h0, .int 2]) (n := 3) (Nat.le_of_ble_eq_true rfl)
  rw [lg_entry_eq]
  generalize (lg_sl ([.ref h0, .int 2]) ++ List.replicate (3 - (lg_sl ([.ref h0, .int 2])).length) Slot.unset).toArray = ls at hl ⊢
  have hl : lv_has ls 3 [(0, .ref h0), (1, .int 2)] := hl
  refine lv_aload_n hx hb dX12_open_0 rfl (lv_at hl 0 rfl) ?_
  refine lv_iload_n hx hb dX12_open_1 rfl (lv_at hl 1 rfl) ?_
  have hPc := hP.sub (ws' := [(h0, .inr (9, [.ref t0, .ref xm1, .ref a0, .ref w0, .ref k0, .ref e0, .ref xm2, .ref xm3, .ref xm4, .ref xm5, .ref j0, .ref j1, .ref j2, .int 0, .int 0, .int 0, .int (-1), .int 1])), (a0, .inl (ka, 4, .inr (.inr (.inr (.inr fa)))))]) [0, 1] rfl
  have hDc := hD.sub (ws' := [(h0, .inr (9, [.ref t0, .ref xm1, .ref a0, .ref w0, .ref k0, .ref e0, .ref xm2, .ref xm3, .ref xm4, .ref xm5, .ref j0, .ref j1, .ref j2, .int 0, .int 0, .int 0, .int (-1), .int 1])), (a0, .inl (ka, 4, .inr (.inr (.inr (.inr fa)))))]) [0, 1] (by decide) rfl
  have hKc := hK.sub (tys' := [(ka, .object "KeySteward$Connection")]) [0] rfl
  have hFc := va_free (wc := [(h0, .inr (9, [.ref t0, .ref xm1, .ref a0, .ref w0, .ref k0, .ref e0, .ref xm2, .ref xm3, .ref xm4, .ref xm5, .ref j0, .ref j1, .ref j2, .int 0, .int 0, .int 0, .int (-1), .int 1])), (a0, .inl (ka, 4, .inr (.inr (.inr (.inr fa)))))]) hD hS hA [0, 1] rfl
  refine va_callq (va_runV (As := [.int 2]) (rest := []) ⟨hx, hb, hml, hown, hkw⟩ (c_KS_coOf_2 l dC dI s.heap.size h0 t0 xm1 a0 w0 k0 e0 xm2 xm3 xm4 xm5 j0 j1 j2 ka fa c2 hc2) (callVv 1 hkw (kwI m_121) rfl rfl rfl (hkw _ m_122) (hkw _ m_123) (hkw _ m_124) (hkw _ m_125) (by decide +kernel) ⟨Nat.le_of_ble_eq_true rfl, Nat.le_of_ble_eq_true rfl⟩) ⟨fbW, va_recv hK hP (ci := 9) (q0 := 0) rfl rfl, pW_in hPc hKc hDc hfx⟩ rfl rfl hl.1 rfl (lv_room (Nat.le_of_ble_eq_true rfl)) dX12_open_2 ⟨Nat.le_of_ble_eq_true rfl, Nat.le_of_ble_eq_true rfl⟩) hS (fun q _ h => hFc q h) hFc (fun r1 u t H1 locs ht hvm hw hB hz1 hk1 hS => ?_)
  obtain ⟨hP1, hK1, hD1⟩ := hB
  rw [ht] at hP1
  have hK1 := va_K.moved hvm.symm hK1
  obtain ⟨hP, hD⟩ := va_join (wr := [(c2, .inr (1, [.int 1, .ref i2, .ref o2, .ref b2, .int 0, .int 0, .int 0, .int 0, .ref y2, .int 0, .ref z2, .int 0])), (i2, .inr (0, [.int 131076, .ref ri2, .int 0, .int 0])), (o2, .inr (0, [.int 65536, .ref ro2, .int 0, .int 0])), (b2, .inr (0, [.int 67108864, .ref rb2, .int 0, .int 0]))]) (w1 := [(h0, .inr (9, [.ref t0, .ref xm1, .ref a0, .ref w0, .ref k0, .ref e0, .ref xm2, .ref xm3, .ref xm4, .ref xm5, .ref j0, .ref j1, .ref j2, .int 0, .int 0, .int 0, .int (-1), .int 1])), (a0, .inl (ka, 4, .inr (.inr (.inr (.inr fa)))))]) hP hD [0, 1] [2, 3, 4, 5] rfl rfl (by decide) (by decide) hk1 hFc hP1 hD1
  have hK := (hK.sub (tys' := []) [] rfl).app hK1
  generalize H1 = H at hP hS ⊢
  have hP : va_P (dC, dI) classes [(c2, .inr (1, [.int 1, .ref i2, .ref o2, .ref b2, .int 0, .int 0, .int 0, .int 0, .ref y2, .int 0, .ref z2, .int 0])), (i2, .inr (0, [.int 131076, .ref ri2, .int 0, .int 0])), (o2, .inr (0, [.int 65536, .ref ro2, .int 0, .int 0])), (b2, .inr (0, [.int 67108864, .ref rb2, .int 0, .int 0])), (h0, .inr (9, [.ref t0, .ref xm1, .ref a0, .ref w0, .ref k0, .ref e0, .ref xm2, .ref xm3, .ref xm4, .ref xm5, .ref j0, .ref j1, .ref j2, .int 0, .int 0, .int 0, .int (-1), .int 1])), (a0, .inl (ka, 4, .inr (.inr (.inr (.inr fa)))))] H := hP
  have hD : va_D A [(c2, .inr (1, [.int 1, .ref i2, .ref o2, .ref b2, .int 0, .int 0, .int 0, .int 0, .ref y2, .int 0, .ref z2, .int 0])), (i2, .inr (0, [.int 131076, .ref ri2, .int 0, .int 0])), (o2, .inr (0, [.int 65536, .ref ro2, .int 0, .int 0])), (b2, .inr (0, [.int 67108864, .ref rb2, .int 0, .int 0])), (h0, .inr (9, [.ref t0, .ref xm1, .ref a0, .ref w0, .ref k0, .ref e0, .ref xm2, .ref xm3, .ref xm4, .ref xm5, .ref j0, .ref j1, .ref j2, .int 0, .int 0, .int 0, .int (-1), .int 1])), (a0, .inl (ka, 4, .inr (.inr (.inr (.inr fa)))))] := hD
  have hK : va_K (dC, dI) classes [(ka, .object "KeySteward$Connection")] s := hK
  have hw2 := hw
  try dsimp only at hw2
  subst hw2
  refine lv_astore_n (lv' := [(2, .ref c2), (0, .ref h0), (1, .int 2)]) hx hb dX12_open_5 rfl hl (by decide) rfl (fun ls hl => ?_)
  refine lv_aload_n hx hb dX12_open_6 rfl (lv_at hl 0 rfl) ?_
  refine lv_ifnull hx hb dX12_open_7 ?_
  refine lv_aload_n hx hb dX12_open_10 rfl (lv_at hl 1 rfl) ?_
  refine va_get (D := (dC, dI)) (ci := 9) (v := .int 1) (C := RX12) (T := TX12) (N := 18) hx hb hkw kin_X12 hown hK hP 4 rfl rfl 17 (by decide) (hkw _ m_127) (fun _ h9 => h9) rfl dX12_open_11 ?_
  refine lv_if_ne (tgt := 19) hx hb dX12_open_14 (by decide) (fun c_14_0 => ?_) (fun c_14_0 => absurd c_14_0 (by decide))
  refine lv_aload_n hx hb dX12_open_19 rfl (lv_at hl 0 rfl) ?_
  have hPc := hP.sub (ws' := [(c2, .inr (1, [.int 1, .ref i2, .ref o2, .ref b2, .int 0, .int 0, .int 0, .int 0, .ref y2, .int 0, .ref z2, .int 0])), (i2, .inr (0, [.int 131076, .ref ri2, .int 0, .int 0])), (b2, .inr (0, [.int 67108864, .ref rb2, .int 0, .int 0]))]) [0, 1, 3] rfl
  have hDc := hD.sub (ws' := [(c2, .inr (1, [.int 1, .ref i2, .ref o2, .ref b2, .int 0, .int 0, .int 0, .int 0, .ref y2, .int 0, .ref z2, .int 0])), (i2, .inr (0, [.int 131076, .ref ri2, .int 0, .int 0])), (b2, .inr (0, [.int 67108864, .ref rb2, .int 0, .int 0]))]) [0, 1, 3] (by decide) rfl
  have hKc := hK.sub (tys' := []) [] rfl
  have hFc := va_free (wc := [(c2, .inr (1, [.int 1, .ref i2, .ref o2, .ref b2, .int 0, .int 0, .int 0, .int 0, .ref y2, .int 0, .ref z2, .int 0])), (i2, .inr (0, [.int 131076, .ref ri2, .int 0, .int 0])), (b2, .inr (0, [.int 67108864, .ref rb2, .int 0, .int 0]))]) hD hS hA [0, 1, 3] rfl
  refine va_callv (va_runV (As := []) (rest := []) ⟨hx, hb, hml, hown, hkw⟩ (c_Co_close l dC dI H.size c2 i2 o2 b2 y2 z2 1 0 0 0 0 0 0 131076 ri2 0 0 67108864 rb2 0 0) (callVv 0 hkw (kwI m_128) rfl rfl rfl (hkw _ m_43) (hkw _ m_129) (hkw _ m_130) (hkw _ m_131) (by decide +kernel) ⟨Nat.le_of_ble_eq_true rfl, Nat.le_of_ble_eq_true rfl⟩) ⟨fbW, va_recv hK hP (ci := 1) (q0 := 0) rfl rfl, pW_in hPc hKc hDc hfx⟩ rfl rfl hl.1 rfl (lv_room (Nat.le_of_ble_eq_true rfl)) dX12_open_20 ⟨Nat.le_of_ble_eq_true rfl, Nat.le_of_ble_eq_true rfl⟩) hS (fun q _ h => hFc q h) hFc (fun u t H1 locs ht hvm hw hB hz1 hk1 hS => ?_)
  obtain ⟨hP1, hK1, hD1⟩ := hB
  rw [ht] at hP1
  have hK1 := va_K.moved hvm.symm hK1
  obtain ⟨hP, hD⟩ := va_join (wr := [(o2, .inr (0, [.int 65536, .ref ro2, .int 0, .int 0])), (h0, .inr (9, [.ref t0, .ref xm1, .ref a0, .ref w0, .ref k0, .ref e0, .ref xm2, .ref xm3, .ref xm4, .ref xm5, .ref j0, .ref j1, .ref j2, .int 0, .int 0, .int 0, .int (-1), .int 1])), (a0, .inl (ka, 4, .inr (.inr (.inr (.inr fa)))))]) (w1 := [(c2, .inr (1, [.int 0, .ref i2, .ref o2, .ref b2, .int 0, .int 0, .int 0, .int 0, .ref y2, .int 0, .ref z2, .int 0])), (i2, .inr (0, [.int 131076, .ref ri2, .int 0, .int 0])), (b2, .inr (0, [.int 67108864, .ref rb2, .int 0, .int 0]))]) hP hD [0, 1, 3] [2, 4, 5] rfl rfl (by decide) (by decide) hk1 hFc hP1 hD1
  have hK := (hK.sub (tys' := [(ka, .object "KeySteward$Connection")]) [0] rfl).app hK1
  generalize H1 = H at hP hS ⊢
  have hP : va_P (dC, dI) classes [(o2, .inr (0, [.int 65536, .ref ro2, .int 0, .int 0])), (h0, .inr (9, [.ref t0, .ref xm1, .ref a0, .ref w0, .ref k0, .ref e0, .ref xm2, .ref xm3, .ref xm4, .ref xm5, .ref j0, .ref j1, .ref j2, .int 0, .int 0, .int 0, .int (-1), .int 1])), (a0, .inl (ka, 4, .inr (.inr (.inr (.inr fa))))), (c2, .inr (1, [.int 0, .ref i2, .ref o2, .ref b2, .int 0, .int 0, .int 0, .int 0, .ref y2, .int 0, .ref z2, .int 0])), (i2, .inr (0, [.int 131076, .ref ri2, .int 0, .int 0])), (b2, .inr (0, [.int 67108864, .ref rb2, .int 0, .int 0]))] H := hP
  have hD : va_D A [(o2, .inr (0, [.int 65536, .ref ro2, .int 0, .int 0])), (h0, .inr (9, [.ref t0, .ref xm1, .ref a0, .ref w0, .ref k0, .ref e0, .ref xm2, .ref xm3, .ref xm4, .ref xm5, .ref j0, .ref j1, .ref j2, .int 0, .int 0, .int 0, .int (-1), .int 1])), (a0, .inl (ka, 4, .inr (.inr (.inr (.inr fa))))), (c2, .inr (1, [.int 0, .ref i2, .ref o2, .ref b2, .int 0, .int 0, .int 0, .int 0, .ref y2, .int 0, .ref z2, .int 0])), (i2, .inr (0, [.int 131076, .ref ri2, .int 0, .int 0])), (b2, .inr (0, [.int 67108864, .ref rb2, .int 0, .int 0]))] := hD
  have hK : va_K (dC, dI) classes [(ka, .object "KeySteward$Connection")] s := hK
  have hw3 := hw
  try dsimp only at hw3
  refine lv_aload_n hx hb dX12_open_23 rfl (lv_at hl 0 rfl) ?_
  refine va_get (D := (dC, dI)) (ci := 1) (v := .ref o2) (C := RX3) (T := TX3) (N := 12) hx hb hkw kin_X3 hown hK hP 3 rfl rfl 2 (by decide) (hkw _ m_126) (fun _ h9 => h9) rfl dX12_open_24 ?_
  have hPc := hP.sub (ws' := [(o2, .inr (0, [.int 65536, .ref ro2, .int 0, .int 0]))]) [0] rfl
  have hDc := hD.sub (ws' := [(o2, .inr (0, [.int 65536, .ref ro2, .int 0, .int 0]))]) [0] (by decide) rfl
  have hKc := hK.sub (tys' := []) [] rfl
  have hFc := va_free (wc := [(o2, .inr (0, [.int 65536, .ref ro2, .int 0, .int 0]))]) hD hS hA [0] rfl
  refine va_callv (va_runV (As := []) (rest := []) ⟨hx, hb, hml, hown, hkw⟩ (c_By_empty l dC dI H.size o2 ro2 65536 0 0) (callVv 0 hkw (kwI m_38) rfl rfl rfl (hkw _ m_9) (hkw _ m_132) (hkw _ m_40) (hkw _ m_41) (by decide +kernel) ⟨Nat.le_of_ble_eq_true rfl, Nat.le_of_ble_eq_true rfl⟩) ⟨fbW, va_recv hK hP (ci := 0) (q0 := 0) rfl rfl, pW_in hPc hKc hDc hfx⟩ rfl rfl hl.1 rfl (lv_room (Nat.le_of_ble_eq_true rfl)) dX12_open_27 ⟨Nat.le_of_ble_eq_true rfl, Nat.le_of_ble_eq_true rfl⟩) hS (fun q _ h => hFc q h) hFc (fun u t H1 locs ht hvm hw hB hz1 hk1 hS => ?_)
  obtain ⟨hP1, hK1, hD1⟩ := hB
  rw [ht] at hP1
  have hK1 := va_K.moved hvm.symm hK1
  obtain ⟨hP, hD⟩ := va_join (wr := [(h0, .inr (9, [.ref t0, .ref xm1, .ref a0, .ref w0, .ref k0, .ref e0, .ref xm2, .ref xm3, .ref xm4, .ref xm5, .ref j0, .ref j1, .ref j2, .int 0, .int 0, .int 0, .int (-1), .int 1])), (a0, .inl (ka, 4, .inr (.inr (.inr (.inr fa))))), (c2, .inr (1, [.int 0, .ref i2, .ref o2, .ref b2, .int 0, .int 0, .int 0, .int 0, .ref y2, .int 0, .ref z2, .int 0])), (i2, .inr (0, [.int 131076, .ref ri2, .int 0, .int 0])), (b2, .inr (0, [.int 67108864, .ref rb2, .int 0, .int 0]))]) (w1 := [(o2, .inr (0, [.int 65536, .ref ro2, .int 0, .int 0]))]) hP hD [0] [1, 2, 3, 4, 5] rfl rfl (by decide) (by decide) hk1 hFc hP1 hD1
  have hK := (hK.sub (tys' := [(ka, .object "KeySteward$Connection")]) [0] rfl).app hK1
  generalize H1 = H at hP hS ⊢
  have hP : va_P (dC, dI) classes [(h0, .inr (9, [.ref t0, .ref xm1, .ref a0, .ref w0, .ref k0, .ref e0, .ref xm2, .ref xm3, .ref xm4, .ref xm5, .ref j0, .ref j1, .ref j2, .int 0, .int 0, .int 0, .int (-1), .int 1])), (a0, .inl (ka, 4, .inr (.inr (.inr (.inr fa))))), (c2, .inr (1, [.int 0, .ref i2, .ref o2, .ref b2, .int 0, .int 0, .int 0, .int 0, .ref y2, .int 0, .ref z2, .int 0])), (i2, .inr (0, [.int 131076, .ref ri2, .int 0, .int 0])), (b2, .inr (0, [.int 67108864, .ref rb2, .int 0, .int 0])), (o2, .inr (0, [.int 65536, .ref ro2, .int 0, .int 0]))] H := hP
  have hD : va_D A [(h0, .inr (9, [.ref t0, .ref xm1, .ref a0, .ref w0, .ref k0, .ref e0, .ref xm2, .ref xm3, .ref xm4, .ref xm5, .ref j0, .ref j1, .ref j2, .int 0, .int 0, .int 0, .int (-1), .int 1])), (a0, .inl (ka, 4, .inr (.inr (.inr (.inr fa))))), (c2, .inr (1, [.int 0, .ref i2, .ref o2, .ref b2, .int 0, .int 0, .int 0, .int 0, .ref y2, .int 0, .ref z2, .int 0])), (i2, .inr (0, [.int 131076, .ref ri2, .int 0, .int 0])), (b2, .inr (0, [.int 67108864, .ref rb2, .int 0, .int 0])), (o2, .inr (0, [.int 65536, .ref ro2, .int 0, .int 0]))] := hD
  have hK : va_K (dC, dI) classes [(ka, .object "KeySteward$Connection")] s := hK
  have hw4 := hw
  try dsimp only at hw4
  refine lv_aload_n hx hb dX12_open_30 rfl (lv_at hl 0 rfl) ?_
  refine lv_iconst (v := 1) hx hb dX12_open_31 (by decide) ?_
  refine va_put (D := (dC, dI)) (ci := 1) (v := .int 1) (ty := .boolean) (C := RX3) (T := TX3) (N := 12) hx hb hkw kin_X3 tyX3 tyX3_ok nmX3 hown hK hP hD hS 2 rfl rfl 0 (by decide) (hkw _ m_114) (fun _ h9 => h9) rfl (by decide +kernel) rfl rfl (Nat.le_of_ble_eq_true rfl) dX12_open_32 (fun H locs hP hD hS => ?_)
  have hP : va_P (dC, dI) classes [(h0, .inr (9, [.ref t0, .ref xm1, .ref a0, .ref w0, .ref k0, .ref e0, .ref xm2, .ref xm3, .ref xm4, .ref xm5, .ref j0, .ref j1, .ref j2, .int 0, .int 0, .int 0, .int (-1), .int 1])), (a0, .inl (ka, 4, .inr (.inr (.inr (.inr fa))))), (c2, .inr (1, [.int 1, .ref i2, .ref o2, .ref b2, .int 0, .int 0, .int 0, .int 0, .ref y2, .int 0, .ref z2, .int 0])), (i2, .inr (0, [.int 131076, .ref ri2, .int 0, .int 0])), (b2, .inr (0, [.int 67108864, .ref rb2, .int 0, .int 0])), (o2, .inr (0, [.int 65536, .ref ro2, .int 0, .int 0]))] H := hP
  have hD : va_D A [(h0, .inr (9, [.ref t0, .ref xm1, .ref a0, .ref w0, .ref k0, .ref e0, .ref xm2, .ref xm3, .ref xm4, .ref xm5, .ref j0, .ref j1, .ref j2, .int 0, .int 0, .int 0, .int (-1), .int 1])), (a0, .inl (ka, 4, .inr (.inr (.inr (.inr fa))))), (c2, .inr (1, [.int 1, .ref i2, .ref o2, .ref b2, .int 0, .int 0, .int 0, .int 0, .ref y2, .int 0, .ref z2, .int 0])), (i2, .inr (0, [.int 131076, .ref ri2, .int 0, .int 0])), (b2, .inr (0, [.int 67108864, .ref rb2, .int 0, .int 0])), (o2, .inr (0, [.int 65536, .ref ro2, .int 0, .int 0]))] := hD
  refine lv_iconst (v := 1) hx hb dX12_open_35 (by decide) ?_
  have hP9 := hP.sub (ws' := []) [] rfl
  have hD9 := hD.sub (ws' := []) [] (by decide) rfl
  have hK9 := hK.sub (tys' := []) [] rfl
  refine W.widen (k := 0) (n := 0) (Nat.le_of_ble_eq_true rfl) (Nat.le_of_ble_eq_true rfl) ?_
  exact W.zret (v := 1) (ty := .boolean) hx hb hr rfl (fun t ht hW => ⟨⟨1, (), rfl, rfl, by rw [ht]; exact hP9, va_K.moved hW.alike hK9, hD9⟩, hS.F ht⟩) hS.2.2 dX12_open_36

set_option maxHeartbeats 4000000 in
set_option maxRecDepth 100000 in
/-- send_2, fresh -/
theorem c_KS_send_2 (l : Launch) (dC : Nat → ClassId) (dI : Nat → Nat → Nat) (sz : Nat) (h0 : Nat) (t0 : Nat) (xm1 : Nat) (a0 : Nat) (w0 : Nat) (k0 : Nat) (e0 : Nat) (xm2 : Nat) (xm3 : Nat) (xm4 : Nat) (xm5 : Nat) (j0 : Nat) (j1 : Nat) (j2 : Nat) (ka : ClassId) (fa : Nat → Option Nat) (tr : Nat) (kt : ClassId) (gt : Nat → Int32) (c2 : Nat) (i2 : Nat) (o2 : Nat) (b2 : Nat) (y2 : Nat) (z2 : Nat) (ri2 : Nat) (ki : ClassId) (gi : Nat → Int32) (u0 : Nat) (u1 : Nat) (u2 : Nat) (u3 : Nat) (u4 : Nat) (hc2 : fa 2 = some c2) : Met l yX12_send wX12_send ({ frames := 2, cells := 0, slots := 0, locals := 63 }) (va_Pc [.ref h0, .int 2] (pW (dC, dI) [(h0, .inr (9, [.ref t0, .ref xm1, .ref a0, .ref w0, .ref k0, .ref e0, .ref xm2, .ref xm3, .ref xm4, .ref xm5, .ref j0, .ref j1, .ref j2, .int 0, .int 0, .int 0, .int (-1), .int 1])), (a0, .inl (ka, 4, .inr (.inr (.inr (.inr fa))))), (t0, .inr (0, [.int 65540, .ref tr, .int 0, .int 0])), (tr, .inl (kt, 64, .inl gt)), (c2, .inr (1, [.int 1, .ref i2, .ref o2, .ref b2, .int 0, .int 0, .int 0, .int 0, .ref y2, .int 0, .ref z2, .int 0])), (i2, .inr (0, [.int 131076, .ref ri2, .int 0, .int 0])), (ri2, .inl (ki, 64, .inl gi)), (k0, .inr (3, [.ref u0, .ref u1, .ref u2, .ref u3, .int 0, .int 0, .ref u4, .null, .null, .long 0, .long 0, .int 0, .int 0, .int 0, .int 0, .int 0, .long 0]))] [(ka, .object "KeySteward$Connection"), (kt, .byte), (ki, .byte)] sz)) (va_Qi (fun (r : Int32) (_u : Unit) => r = 0) (fun (_u : Unit) (t : State) => bW (dC, dI) [] [] (va_A [(h0, .inr (9, [.ref t0, .ref xm1, .ref a0, .ref w0, .ref k0, .ref e0, .ref xm2, .ref xm3, .ref xm4, .ref xm5, .ref j0, .ref j1, .ref j2, .int 0, .int 0, .int 0, .int (-1), .int 1])), (a0, .inl (ka, 4, .inr (.inr (.inr (.inr fa))))), (t0, .inr (0, [.int 65540, .ref tr, .int 0, .int 0])), (tr, .inl (kt, 64, .inl gt)), (c2, .inr (1, [.int 1, .ref i2, .ref o2, .ref b2, .int 0, .int 0, .int 0, .int 0, .ref y2, .int 0, .ref z2, .int 0])), (i2, .inr (0, [.int 131076, .ref ri2, .int 0, .int 0])), (ri2, .inl (ki, 64, .inl gi)), (k0, .inr (3, [.ref u0, .ref u1, .ref u2, .ref u3, .int 0, .int 0, .ref u4, .null, .null, .long 0, .long 0, .int 0, .int 0, .int 0, .int 0, .int 0, .long 0]))] sz) t) (va_A [(h0, .inr (9, [.ref t0, .ref xm1, .ref a0, .ref w0, .ref k0, .ref e0, .ref xm2, .ref xm3, .ref xm4, .ref xm5, .ref j0, .ref j1, .ref j2, .int 0, .int 0, .int 0, .int (-1), .int 1])), (a0, .inl (ka, 4, .inr (.inr (.inr (.inr fa))))), (t0, .inr (0, [.int 65540, .ref tr, .int 0, .int 0])), (tr, .inl (kt, 64, .inl gt)), (c2, .inr (1, [.int 1, .ref i2, .ref o2, .ref b2, .int 0, .int 0, .int 0, .int 0, .ref y2, .int 0, .ref z2, .int 0])), (i2, .inr (0, [.int 131076, .ref ri2, .int 0, .int 0])), (ri2, .inl (ki, 64, .inl gi)), (k0, .inr (3, [.ref u0, .ref u1, .ref u2, .ref u3, .int 0, .int 0, .ref u4, .null, .null, .long 0, .long 0, .int 0, .int 0, .int 0, .int 0, .int 0, .long 0]))] sz)) 0 0 (va_A [(h0, .inr (9, [.ref t0, .ref xm1, .ref a0, .ref w0, .ref k0, .ref e0, .ref xm2, .ref xm3, .ref xm4, .ref xm5, .ref j0, .ref j1, .ref j2, .int 0, .int 0, .int 0, .int (-1), .int 1])), (a0, .inl (ka, 4, .inr (.inr (.inr (.inr fa))))), (t0, .inr (0, [.int 65540, .ref tr, .int 0, .int 0])), (tr, .inl (kt, 64, .inl gt)), (c2, .inr (1, [.int 1, .ref i2, .ref o2, .ref b2, .int 0, .int 0, .int 0, .int 0, .ref y2, .int 0, .ref z2, .int 0])), (i2, .inr (0, [.int 131076, .ref ri2, .int 0, .int 0])), (ri2, .inl (ki, 64, .inl gi)), (k0, .inr (3, [.ref u0, .ref u1, .ref u2, .ref u3, .int 0, .int 0, .ref u4, .null, .null, .long 0, .long 0, .int 0, .int 0, .int 0, .int 0, .int 0, .long 0]))] sz) := by
  refine Met.ofW (cc := cX12_send) (maxL := 10) (ret := (some .int)) (by decide) rfl ?_
  intro p e s m args below meth c s₁ B hml hv
  obtain ⟨rfl, hsz, hP, hK, hD0, hfx⟩ := hv
  have hx := B.exec
  have hb := B.bytes
  have hr := B.returns
  have hts := atoms_spec (ws := wX12_send) B.pre
  have hkw : ∀ w ∈ kw, w.before _ s = true := fun w h => hts w (List.mem_cons_of_mem _ h)
  have hown : s.vm.findClass RX12 = some m.cls := findClass_of_methodNamed B.named
  have hlocks := B.notSynchronized
  subst hsz
  have hD := hD0.self (sz := s.heap.size)
  generalize hAe : va_A [(h0, .inr (9, [.ref t0, .ref xm1, .ref a0, .ref w0, .ref k0, .ref e0, .ref xm2, .ref xm3, .ref xm4, .ref xm5, .ref j0, .ref j1, .ref j2, .int 0, .int 0, .int 0, .int (-1), .int 1])), (a0, .inl (ka, 4, .inr (.inr (.inr (.inr fa))))), (t0, .inr (0, [.int 65540, .ref tr, .int 0, .int 0])), (tr, .inl (kt, 64, .inl gt)), (c2, .inr (1, [.int 1, .ref i2, .ref o2, .ref b2, .int 0, .int 0, .int 0, .int 0, .ref y2, .int 0, .ref z2, .int 0])), (i2, .inr (0, [.int 131076, .ref ri2, .int 0, .int 0])), (ri2, .inl (ki, 64, .inl gi)), (k0, .inr (3, [.ref u0, .ref u1, .ref u2, .ref u3, .int 0, .int 0, .ref u4, .null, .null, .long 0, .long 0, .int 0, .int 0, .int 0, .int 0, .int 0, .long 0]))] s.heap.size = A at hD ⊢
  have hA : ∀ q : Nat, s.heap.size ≤ q → A q := fun q h => by rw [← hAe]; exact Or.inr h
  have hS : va_S A s.heap s.heap [] := va_S.rf
  have hP : va_P (dC, dI) classes [(h0, .inr (9, [.ref t0, .ref xm1, .ref a0, .ref w0, .ref k0, .ref e0, .ref xm2, .ref xm3, .ref xm4, .ref xm5, .ref j0, .ref j1, .ref j2, .int 0, .int 0, .int 0, .int (-1), .int 1])), (a0, .inl (ka, 4, .inr (.inr (.inr (.inr fa))))), (t0, .inr (0, [.int 65540, .ref tr, .int 0, .int 0])), (tr, .inl (kt, 64, .inl gt)), (c2, .inr (1, [.int 1, .ref i2, .ref o2, .ref b2, .int 0, .int 0, .int 0, .int 0, .ref y2, .int 0, .ref z2, .int 0])), (i2, .inr (0, [.int 131076, .ref ri2, .int 0, .int 0])), (ri2, .inl (ki, 64, .inl gi)), (k0, .inr (3, [.ref u0, .ref u1, .ref u2, .ref u3, .int 0, .int 0, .ref u4, .null, .null, .long 0, .long 0, .int 0, .int 0, .int 0, .int 0, .int 0, .long 0]))] s.heap := hP
  have hl := lv_entry ([.ref h0, .int 2]) (n := 10) (Nat.le_of_ble_eq_true rfl)
  rw [lg_entry_eq]
  generalize (lg_sl ([.ref h0, .int 2]) ++ List.replicate (10 - (lg_sl ([.ref h0, .int 2])).length) Slot.unset).toArray = ls at hl ⊢
  have hl : lv_has ls 10 [(0, .ref h0), (1, .int 2)] := hl
  refine lv_aload_n hx hb dX12_send_0 rfl (lv_at hl 0 rfl) ?_
  refine lv_iload_n hx hb dX12_send_1 rfl (lv_at hl 1 rfl) ?_
  have hPc := hP.sub (ws' := [(h0, .inr (9, [.ref t0, .ref xm1, .ref a0, .ref w0, .ref k0, .ref e0, .ref xm2, .ref xm3, .ref xm4, .ref xm5, .ref j0, .ref j1, .ref j2, .int 0, .int 0, .int 0, .int (-1), .int 1])), (a0, .inl (ka, 4, .inr (.inr (.inr (.inr fa)))))]) [0, 1] rfl
  have hDc := hD.sub (ws' := [(h0, .inr (9, [.ref t0, .ref xm1, .ref a0, .ref w0, .ref k0, .ref e0, .ref xm2, .ref xm3, .ref xm4, .ref xm5, .ref j0, .ref j1, .ref j2, .int 0, .int 0, .int 0, .int (-1), .int 1])), (a0, .inl (ka, 4, .inr (.inr (.inr (.inr fa)))))]) [0, 1] (by decide) rfl
  have hKc := hK.sub (tys' := [(ka, .object "KeySteward$Connection")]) [0] rfl
  have hFc := va_free (wc := [(h0, .inr (9, [.ref t0, .ref xm1, .ref a0, .ref w0, .ref k0, .ref e0, .ref xm2, .ref xm3, .ref xm4, .ref xm5, .ref j0, .ref j1, .ref j2, .int 0, .int 0, .int 0, .int (-1), .int 1])), (a0, .inl (ka, 4, .inr (.inr (.inr (.inr fa)))))]) hD hS hA [0, 1] rfl
  refine va_callq (va_runV (As := [.int 2]) (rest := []) ⟨hx, hb, hml, hown, hkw⟩ (c_KS_coOf_2 l dC dI s.heap.size h0 t0 xm1 a0 w0 k0 e0 xm2 xm3 xm4 xm5 j0 j1 j2 ka fa c2 hc2) (callVv 1 hkw (kwI m_121) rfl rfl rfl (hkw _ m_122) (hkw _ m_123) (hkw _ m_124) (hkw _ m_125) (by decide +kernel) ⟨Nat.le_of_ble_eq_true rfl, Nat.le_of_ble_eq_true rfl⟩) ⟨fbW, va_recv hK hP (ci := 9) (q0 := 0) rfl rfl, pW_in hPc hKc hDc hfx⟩ rfl rfl hl.1 rfl (lv_room (Nat.le_of_ble_eq_true rfl)) dX12_send_2 ⟨Nat.le_of_ble_eq_true rfl, Nat.le_of_ble_eq_true rfl⟩) hS (fun q _ h => hFc q h) hFc (fun r1 u t H1 locs ht hvm hw hB hz1 hk1 hS => ?_)
  obtain ⟨hP1, hK1, hD1⟩ := hB
  rw [ht] at hP1
  have hK1 := va_K.moved hvm.symm hK1
  obtain ⟨hP, hD⟩ := va_join (wr := [(t0, .inr (0, [.int 65540, .ref tr, .int 0, .int 0])), (tr, .inl (kt, 64, .inl gt)), (c2, .inr (1, [.int 1, .ref i2, .ref o2, .ref b2, .int 0, .int 0, .int 0, .int 0, .ref y2, .int 0, .ref z2, .int 0])), (i2, .inr (0, [.int 131076, .ref ri2, .int 0, .int 0])), (ri2, .inl (ki, 64, .inl gi)), (k0, .inr (3, [.ref u0, .ref u1, .ref u2, .ref u3, .int 0, .int 0, .ref u4, .null, .null, .long 0, .long 0, .int 0, .int 0, .int 0, .int 0, .int 0, .long 0]))]) (w1 := [(h0, .inr (9, [.ref t0, .ref xm1, .ref a0, .ref w0, .ref k0, .ref e0, .ref xm2, .ref xm3, .ref xm4, .ref xm5, .ref j0, .ref j1, .ref j2, .int 0, .int 0, .int 0, .int (-1), .int 1])), (a0, .inl (ka, 4, .inr (.inr (.inr (.inr fa)))))]) hP hD [0, 1] [2, 3, 4, 5, 6, 7] rfl rfl (by decide) (by decide) hk1 hFc hP1 hD1
  have hK := (hK.sub (tys' := [(kt, .byte), (ki, .byte)]) [1, 2] rfl).app hK1
  generalize H1 = H at hP hS ⊢
  have hP : va_P (dC, dI) classes [(t0, .inr (0, [.int 65540, .ref tr, .int 0, .int 0])), (tr, .inl (kt, 64, .inl gt)), (c2, .inr (1, [.int 1, .ref i2, .ref o2, .ref b2, .int 0, .int 0, .int 0, .int 0, .ref y2, .int 0, .ref z2, .int 0])), (i2, .inr (0, [.int 131076, .ref ri2, .int 0, .int 0])), (ri2, .inl (ki, 64, .inl gi)), (k0, .inr (3, [.ref u0, .ref u1, .ref u2, .ref u3, .int 0, .int 0, .ref u4, .null, .null, .long 0, .long 0, .int 0, .int 0, .int 0, .int 0, .int 0, .long 0])), (h0, .inr (9, [.ref t0, .ref xm1, .ref a0, .ref w0, .ref k0, .ref e0, .ref xm2, .ref xm3, .ref xm4, .ref xm5, .ref j0, .ref j1, .ref j2, .int 0, .int 0, .int 0, .int (-1), .int 1])), (a0, .inl (ka, 4, .inr (.inr (.inr (.inr fa)))))] H := hP
  have hD : va_D A [(t0, .inr (0, [.int 65540, .ref tr, .int 0, .int 0])), (tr, .inl (kt, 64, .inl gt)), (c2, .inr (1, [.int 1, .ref i2, .ref o2, .ref b2, .int 0, .int 0, .int 0, .int 0, .ref y2, .int 0, .ref z2, .int 0])), (i2, .inr (0, [.int 131076, .ref ri2, .int 0, .int 0])), (ri2, .inl (ki, 64, .inl gi)), (k0, .inr (3, [.ref u0, .ref u1, .ref u2, .ref u3, .int 0, .int 0, .ref u4, .null, .null, .long 0, .long 0, .int 0, .int 0, .int 0, .int 0, .int 0, .long 0])), (h0, .inr (9, [.ref t0, .ref xm1, .ref a0, .ref w0, .ref k0, .ref e0, .ref xm2, .ref xm3, .ref xm4, .ref xm5, .ref j0, .ref j1, .ref j2, .int 0, .int 0, .int 0, .int (-1), .int 1])), (a0, .inl (ka, 4, .inr (.inr (.inr (.inr fa)))))] := hD
  have hK : va_K (dC, dI) classes [(kt, .byte), (ki, .byte), (ka, .object "KeySteward$Connection")] s := hK
  have hw2 := hw
  try dsimp only at hw2
  subst hw2
  refine lv_astore_n (lv' := [(2, .ref c2), (0, .ref h0), (1, .int 2)]) hx hb dX12_send_5 rfl hl (by decide) rfl (fun ls hl => ?_)
  refine lv_aload_n hx hb dX12_send_6 rfl (lv_at hl 0 rfl) ?_
  refine lv_ifnull hx hb dX12_send_7 ?_
  refine lv_aload_n hx hb dX12_send_10 rfl (lv_at hl 0 rfl) ?_
  refine va_get (D := (dC, dI)) (ci := 1) (v := .int 1) (C := RX3) (T := TX3) (N := 12) hx hb hkw kin_X3 hown hK hP 2 rfl rfl 0 (by decide) (hkw _ m_114) (fun _ h9 => h9) rfl dX12_send_11 ?_
  refine lv_if_eq (tgt := 24) hx hb dX12_send_14 (by decide) (fun c_14_0 => absurd c_14_0 (by decide)) (fun c_14_0 => ?_)
  refine lv_aload_n hx hb dX12_send_17 rfl (lv_at hl 1 rfl) ?_
  refine va_get (D := (dC, dI)) (ci := 9) (v := .int 1) (C := RX12) (T := TX12) (N := 18) hx hb hkw kin_X12 hown hK hP 6 rfl rfl 17 (by decide) (hkw _ m_127) (fun _ h9 => h9) rfl dX12_send_18 ?_
  refine lv_if_ne (tgt := 33) hx hb dX12_send_21 (by decide) (fun c_21_0 => ?_) (fun c_21_0 => absurd c_21_0 (by decide))
  refine lv_aload_n hx hb dX12_send_33 rfl (lv_at hl 0 rfl) ?_
  refine va_get (D := (dC, dI)) (ci := 1) (v := .ref i2) (C := RX3) (T := TX3) (N := 12) hx hb hkw kin_X3 hown hK hP 2 rfl rfl 1 (by decide) (hkw _ m_115) (fun _ h9 => h9) rfl dX12_send_34 ?_
  refine lv_aload_n hx hb dX12_send_37 rfl (lv_at hl 1 rfl) ?_
  refine va_get (D := (dC, dI)) (ci := 9) (v := .ref t0) (C := RX12) (T := TX12) (N := 18) hx hb hkw kin_X12 hown hK hP 6 rfl rfl 0 (by decide) (hkw _ m_103) (fun _ h9 => h9) rfl dX12_send_38 ?_
  refine va_get (D := (dC, dI)) (ci := 0) (v := .ref tr) (C := RX1) (T := TX1) (N := 4) hx hb hkw kin_X1 hown hK hP 0 rfl rfl 1 (by decide) (hkw _ m_133) (fun _ h9 => h9) rfl dX12_send_41 ?_
  refine lv_iconst (v := 0) hx hb dX12_send_44 (by decide) ?_
  refine lv_aload_n hx hb dX12_send_45 rfl (lv_at hl 1 rfl) ?_
  refine va_get (D := (dC, dI)) (ci := 9) (v := .ref t0) (C := RX12) (T := TX12) (N := 18) hx hb hkw kin_X12 hown hK hP 6 rfl rfl 0 (by decide) (hkw _ m_103) (fun _ h9 => h9) rfl dX12_send_46 ?_
  refine va_get (D := (dC, dI)) (ci := 0) (v := .int 0) (C := RX1) (T := TX1) (N := 4) hx hb hkw kin_X1 hown hK hP 0 rfl rfl 2 (by decide) (hkw _ m_104) (fun _ h9 => h9) rfl dX12_send_49 ?_
  have hPc := hP.sub (ws' := [(i2, .inr (0, [.int 131076, .ref ri2, .int 0, .int 0])), (ri2, .inl (ki, 64, .inl gi)), (tr, .inl (kt, 64, .inl gt))]) [3, 4, 1] rfl
  have hDc := hD.sub (ws' := [(i2, .inr (0, [.int 131076, .ref ri2, .int 0, .int 0])), (ri2, .inl (ki, 64, .inl gi)), (tr, .inl (kt, 64, .inl gt))]) [3, 4, 1] (by decide) rfl
  have hKc := hK.sub (tys' := [(ki, .byte), (kt, .byte)]) [1, 0] rfl
  have hFc := va_free (wc := [(i2, .inr (0, [.int 131076, .ref ri2, .int 0, .int 0])), (ri2, .inl (ki, 64, .inl gi)), (tr, .inl (kt, 64, .inl gt))]) hD hS hA [3, 4, 1] rfl
  refine va_callv (va_runV (As := [.ref tr, .int 0, .int 0]) (rest := []) ⟨hx, hb, hml, hown, hkw⟩ (c_By_append l dC dI H.size i2 ri2 tr ki kt gi gt) (callVv 3 hkw (kwI m_134) rfl rfl rfl (hkw _ m_9) (hkw _ m_135) (hkw _ m_136) (hkw _ m_137) (by decide +kernel) ⟨Nat.le_of_ble_eq_true rfl, Nat.le_of_ble_eq_true rfl⟩) ⟨fbW, va_recv hK hP (ci := 0) (q0 := 3) rfl rfl, pW_in hPc hKc hDc hfx⟩ rfl rfl hl.1 rfl (lv_room (Nat.le_of_ble_eq_true rfl)) dX12_send_52 ⟨Nat.le_of_ble_eq_true rfl, Nat.le_of_ble_eq_true rfl⟩) hS (fun q _ h => hFc q h) hFc (fun u t H1 locs ht hvm hw hB hz1 hk1 hS => ?_)
  obtain ⟨q3, rfl⟩ : ∃ z, z = u := ⟨_, rfl⟩
  obtain ⟨hP1, hK1, hD1⟩ := hB
  rw [ht] at hP1
  have hK1 := va_K.moved hvm.symm hK1
  obtain ⟨hP, hD⟩ := va_join (wr := [(t0, .inr (0, [.int 65540, .ref tr, .int 0, .int 0])), (c2, .inr (1, [.int 1, .ref i2, .ref o2, .ref b2, .int 0, .int 0, .int 0, .int 0, .ref y2, .int 0, .ref z2, .int 0])), (k0, .inr (3, [.ref u0, .ref u1, .ref u2, .ref u3, .int 0, .int 0, .ref u4, .null, .null, .long 0, .long 0, .int 0, .int 0, .int 0, .int 0, .int 0, .long 0])), (h0, .inr (9, [.ref t0, .ref xm1, .ref a0, .ref w0, .ref k0, .ref e0, .ref xm2, .ref xm3, .ref xm4, .ref xm5, .ref j0, .ref j1, .ref j2, .int 0, .int 0, .int 0, .int (-1), .int 1])), (a0, .inl (ka, 4, .inr (.inr (.inr (.inr fa)))))]) (w1 := [(i2, .inr (0, [.int 131076, .ref ri2, .int 0, .int 0])), (ri2, .inl (ki, 64, .inl q3)), (tr, .inl (kt, 64, .inl gt))]) hP hD [3, 4, 1] [0, 2, 5, 6, 7] rfl rfl (by decide) (by decide) hk1 hFc hP1 hD1
  have hK := (hK.sub (tys' := [(ka, .object "KeySteward$Connection")]) [2] rfl).app hK1
  generalize H1 = H at hP hS ⊢
  have hP : va_P (dC, dI) classes [(t0, .inr (0, [.int 65540, .ref tr, .int 0, .int 0])), (c2, .inr (1, [.int 1, .ref i2, .ref o2, .ref b2, .int 0, .int 0, .int 0, .int 0, .ref y2, .int 0, .ref z2, .int 0])), (k0, .inr (3, [.ref u0, .ref u1, .ref u2, .ref u3, .int 0, .int 0, .ref u4, .null, .null, .long 0, .long 0, .int 0, .int 0, .int 0, .int 0, .int 0, .long 0])), (h0, .inr (9, [.ref t0, .ref xm1, .ref a0, .ref w0, .ref k0, .ref e0, .ref xm2, .ref xm3, .ref xm4, .ref xm5, .ref j0, .ref j1, .ref j2, .int 0, .int 0, .int 0, .int (-1), .int 1])), (a0, .inl (ka, 4, .inr (.inr (.inr (.inr fa))))), (i2, .inr (0, [.int 131076, .ref ri2, .int 0, .int 0])), (ri2, .inl (ki, 64, .inl q3)), (tr, .inl (kt, 64, .inl gt))] H := hP
  have hD : va_D A [(t0, .inr (0, [.int 65540, .ref tr, .int 0, .int 0])), (c2, .inr (1, [.int 1, .ref i2, .ref o2, .ref b2, .int 0, .int 0, .int 0, .int 0, .ref y2, .int 0, .ref z2, .int 0])), (k0, .inr (3, [.ref u0, .ref u1, .ref u2, .ref u3, .int 0, .int 0, .ref u4, .null, .null, .long 0, .long 0, .int 0, .int 0, .int 0, .int 0, .int 0, .long 0])), (h0, .inr (9, [.ref t0, .ref xm1, .ref a0, .ref w0, .ref k0, .ref e0, .ref xm2, .ref xm3, .ref xm4, .ref xm5, .ref j0, .ref j1, .ref j2, .int 0, .int 0, .int 0, .int (-1), .int 1])), (a0, .inl (ka, 4, .inr (.inr (.inr (.inr fa))))), (i2, .inr (0, [.int 131076, .ref ri2, .int 0, .int 0])), (ri2, .inl (ki, 64, .inl q3)), (tr, .inl (kt, 64, .inl gt))] := hD
  have hK : va_K (dC, dI) classes [(ka, .object "KeySteward$Connection"), (ki, .byte), (kt, .byte)] s := hK
  have hw4 := hw
  try dsimp only at hw4
  refine lv_aload_n hx hb dX12_send_55 rfl (lv_at hl 1 rfl) ?_
  refine va_get (D := (dC, dI)) (ci := 9) (v := .ref t0) (C := RX12) (T := TX12) (N := 18) hx hb hkw kin_X12 hown hK hP 3 rfl rfl 0 (by decide) (hkw _ m_103) (fun _ h9 => h9) rfl dX12_send_56 ?_
  have hPc := hP.sub (ws' := [(t0, .inr (0, [.int 65540, .ref tr, .int 0, .int 0]))]) [0] rfl
  have hDc := hD.sub (ws' := [(t0, .inr (0, [.int 65540, .ref tr, .int 0, .int 0]))]) [0] (by decide) rfl
  have hKc := hK.sub (tys' := []) [] rfl
  have hFc := va_free (wc := [(t0, .inr (0, [.int 65540, .ref tr, .int 0, .int 0]))]) hD hS hA [0] rfl
  refine va_callv (va_runV (As := []) (rest := []) ⟨hx, hb, hml, hown, hkw⟩ (c_By_empty l dC dI H.size t0 tr 65540 0 0) (callVv 0 hkw (kwI m_38) rfl rfl rfl (hkw _ m_9) (hkw _ m_132) (hkw _ m_40) (hkw _ m_41) (by decide +kernel) ⟨Nat.le_of_ble_eq_true rfl, Nat.le_of_ble_eq_true rfl⟩) ⟨fbW, va_recv hK hP (ci := 0) (q0 := 0) rfl rfl, pW_in hPc hKc hDc hfx⟩ rfl rfl hl.1 rfl (lv_room (Nat.le_of_ble_eq_true rfl)) dX12_send_59 ⟨Nat.le_of_ble_eq_true rfl, Nat.le_of_ble_eq_true rfl⟩) hS (fun q _ h => hFc q h) hFc (fun u t H1 locs ht hvm hw hB hz1 hk1 hS => ?_)
  obtain ⟨hP1, hK1, hD1⟩ := hB
  rw [ht] at hP1
  have hK1 := va_K.moved hvm.symm hK1
  obtain ⟨hP, hD⟩ := va_join (wr := [(c2, .inr (1, [.int 1, .ref i2, .ref o2, .ref b2, .int 0, .int 0, .int 0, .int 0, .ref y2, .int 0, .ref z2, .int 0])), (k0, .inr (3, [.ref u0, .ref u1, .ref u2, .ref u3, .int 0, .int 0, .ref u4, .null, .null, .long 0, .long 0, .int 0, .int 0, .int 0, .int 0, .int 0, .long 0])), (h0, .inr (9, [.ref t0, .ref xm1, .ref a0, .ref w0, .ref k0, .ref e0, .ref xm2, .ref xm3, .ref xm4, .ref xm5, .ref j0, .ref j1, .ref j2, .int 0, .int 0, .int 0, .int (-1), .int 1])), (a0, .inl (ka, 4, .inr (.inr (.inr (.inr fa))))), (i2, .inr (0, [.int 131076, .ref ri2, .int 0, .int 0])), (ri2, .inl (ki, 64, .inl q3)), (tr, .inl (kt, 64, .inl gt))]) (w1 := [(t0, .inr (0, [.int 65540, .ref tr, .int 0, .int 0]))]) hP hD [0] [1, 2, 3, 4, 5, 6, 7] rfl rfl (by decide) (by decide) hk1 hFc hP1 hD1
  have hK := (hK.sub (tys' := [(ka, .object "KeySteward$Connection"), (ki, .byte), (kt, .byte)]) [0, 1, 2] rfl).app hK1
  generalize H1 = H at hP hS ⊢
  have hP : va_P (dC, dI) classes [(c2, .inr (1, [.int 1, .ref i2, .ref o2, .ref b2, .int 0, .int 0, .int 0, .int 0, .ref y2, .int 0, .ref z2, .int 0])), (k0, .inr (3, [.ref u0, .ref u1, .ref u2, .ref u3, .int 0, .int 0, .ref u4, .null, .null, .long 0, .long 0, .int 0, .int 0, .int 0, .int 0, .int 0, .long 0])), (h0, .inr (9, [.ref t0, .ref xm1, .ref a0, .ref w0, .ref k0, .ref e0, .ref xm2, .ref xm3, .ref xm4, .ref xm5, .ref j0, .ref j1, .ref j2, .int 0, .int 0, .int 0, .int (-1), .int 1])), (a0, .inl (ka, 4, .inr (.inr (.inr (.inr fa))))), (i2, .inr (0, [.int 131076, .ref ri2, .int 0, .int 0])), (ri2, .inl (ki, 64, .inl q3)), (tr, .inl (kt, 64, .inl gt)), (t0, .inr (0, [.int 65540, .ref tr, .int 0, .int 0]))] H := hP
  have hD : va_D A [(c2, .inr (1, [.int 1, .ref i2, .ref o2, .ref b2, .int 0, .int 0, .int 0, .int 0, .ref y2, .int 0, .ref z2, .int 0])), (k0, .inr (3, [.ref u0, .ref u1, .ref u2, .ref u3, .int 0, .int 0, .ref u4, .null, .null, .long 0, .long 0, .int 0, .int 0, .int 0, .int 0, .int 0, .long 0])), (h0, .inr (9, [.ref t0, .ref xm1, .ref a0, .ref w0, .ref k0, .ref e0, .ref xm2, .ref xm3, .ref xm4, .ref xm5, .ref j0, .ref j1, .ref j2, .int 0, .int 0, .int 0, .int (-1), .int 1])), (a0, .inl (ka, 4, .inr (.inr (.inr (.inr fa))))), (i2, .inr (0, [.int 131076, .ref ri2, .int 0, .int 0])), (ri2, .inl (ki, 64, .inl q3)), (tr, .inl (kt, 64, .inl gt)), (t0, .inr (0, [.int 65540, .ref tr, .int 0, .int 0]))] := hD
  have hK : va_K (dC, dI) classes [(ka, .object "KeySteward$Connection"), (ki, .byte), (kt, .byte)] s := hK
  have hw5 := hw
  try dsimp only at hw5
  refine lv_iconst (v := 0) hx hb dX12_send_62 (by decide) ?_
  refine lv_istore_n (lv' := [(3, .int 0), (2, .ref c2), (0, .ref h0), (1, .int 2)]) hx hb dX12_send_63 rfl hl (by decide) rfl (fun ls hl => ?_)
  refine lv_iconst (v := 0) hx hb dX12_send_64 (by decide) ?_
  refine lv_istore (lv' := [(4, .int 0), (3, .int 0), (2, .ref c2), (0, .ref h0), (1, .int 2)]) hx hb dX12_send_65 hl (by decide) rfl (fun ls hl => ?_)
  refine lv_iconst (v := 0) hx hb dX12_send_67 (by decide) ?_
  refine lv_istore (lv' := [(5, .int 0), (4, .int 0), (3, .int 0), (2, .ref c2), (0, .ref h0), (1, .int 2)]) hx hb dX12_send_68 hl (by decide) rfl (fun ls hl => ?_)
  refine lv_iload hx hb dX12_send_70 (lv_at hl 0 rfl) ?_
  refine lv_ldc (v := 1048576) hx hb hown (hkw _ m_138) dX12_send_72 ?_
  refine lv_icmp_ge (tgt := 215) hx hb dX12_send_74 (by decide) (fun c_74_0 => absurd c_74_0 (by decide)) (fun c_74_0 => ?_)
  refine lv_aload_n hx hb dX12_send_77 rfl (lv_at hl 4 rfl) ?_
  refine va_get (D := (dC, dI)) (ci := 9) (v := .int 1) (C := RX12) (T := TX12) (N := 18) hx hb hkw kin_X12 hown hK hP 2 rfl rfl 17 (by decide) (hkw _ m_127) (fun _ h9 => h9) rfl dX12_send_78 ?_
  refine lv_if_eq (tgt := 215) hx hb dX12_send_81 (by decide) (fun c_81_0 => absurd c_81_0 (by decide)) (fun c_81_0 => ?_)
  refine lv_aload_n hx hb dX12_send_84 rfl (lv_at hl 3 rfl) ?_
  refine va_get (D := (dC, dI)) (ci := 1) (v := .int 1) (C := RX3) (T := TX3) (N := 12) hx hb hkw kin_X3 hown hK hP 0 rfl rfl 0 (by decide) (hkw _ m_114) (fun _ h9 => h9) rfl dX12_send_85 ?_
  refine lv_if_eq (tgt := 215) hx hb dX12_send_88 (by decide) (fun c_88_0 => absurd c_88_0 (by decide)) (fun c_88_0 => ?_)
  refine lv_aload_n hx hb dX12_send_91 rfl (lv_at hl 4 rfl) ?_
  refine va_get (D := (dC, dI)) (ci := 9) (v := .ref k0) (C := RX12) (T := TX12) (N := 18) hx hb hkw kin_X12 hown hK hP 2 rfl rfl 4 (by decide) (hkw _ m_139) (fun _ h9 => h9) rfl dX12_send_92 ?_
  refine lv_aload_n hx hb dX12_send_95 rfl (lv_at hl 3 rfl) ?_
  refine va_get (D := (dC, dI)) (ci := 1) (v := .ref i2) (C := RX3) (T := TX3) (N := 12) hx hb hkw kin_X3 hown hK hP 0 rfl rfl 1 (by decide) (hkw _ m_115) (fun _ h9 => h9) rfl dX12_send_96 ?_
  refine va_get (D := (dC, dI)) (ci := 0) (v := .ref ri2) (C := RX1) (T := TX1) (N := 4) hx hb hkw kin_X1 hown hK hP 4 rfl rfl 1 (by decide) (hkw _ m_133) (fun _ h9 => h9) rfl dX12_send_99 ?_
  refine lv_iload hx hb dX12_send_102 (lv_at hl 1 rfl) ?_
  refine lv_aload_n hx hb dX12_send_104 rfl (lv_at hl 3 rfl) ?_
  refine va_get (D := (dC, dI)) (ci := 1) (v := .ref i2) (C := RX3) (T := TX3) (N := 12) hx hb hkw kin_X3 hown hK hP 0 rfl rfl 1 (by decide) (hkw _ m_115) (fun _ h9 => h9) rfl dX12_send_105 ?_
  refine va_get (D := (dC, dI)) (ci := 0) (v := .int 0) (C := RX1) (T := TX1) (N := 4) hx hb hkw kin_X1 hown hK hP 4 rfl rfl 2 (by decide) (hkw _ m_104) (fun _ h9 => h9) rfl dX12_send_108 ?_
  have hPc := hP.sub (ws' := [(k0, .inr (3, [.ref u0, .ref u1, .ref u2, .ref u3, .int 0, .int 0, .ref u4, .null, .null, .long 0, .long 0, .int 0, .int 0, .int 0, .int 0, .int 0, .long 0]))]) [1] rfl
  have hDc := hD.sub (ws' := [(k0, .inr (3, [.ref u0, .ref u1, .ref u2, .ref u3, .int 0, .int 0, .ref u4, .null, .null, .long 0, .long 0, .int 0, .int 0, .int 0, .int 0, .int 0, .long 0]))]) [1] (by decide) rfl
  have hKc := hK.sub (tys' := []) [] rfl
  have hFc := va_free (wc := [(k0, .inr (3, [.ref u0, .ref u1, .ref u2, .ref u3, .int 0, .int 0, .ref u4, .null, .null, .long 0, .long 0, .int 0, .int 0, .int 0, .int 0, .int 0, .long 0]))]) hD hS hA [1] rfl
  refine va_calli (va_runV (As := [.ref ri2, .int 0, .int 0]) (rest := []) ⟨hx, hb, hml, hown, hkw⟩ (c_Re_read l dC dI H.size k0 ri2 u0 u1 u2 u3 u4) (callVv 3 hkw (kwI m_140) rfl rfl rfl (hkw _ m_141) (hkw _ m_142) (hkw _ m_143) (hkw _ m_144) (by decide +kernel) ⟨Nat.le_of_ble_eq_true rfl, Nat.le_of_ble_eq_true rfl⟩) ⟨fbW, va_recv hK hP (ci := 3) (q0 := 1) rfl rfl, pW_in hPc hKc hDc hfx⟩ rfl rfl hl.1 rfl (lv_room (Nat.le_of_ble_eq_true rfl)) dX12_send_111 ⟨Nat.le_of_ble_eq_true rfl, Nat.le_of_ble_eq_true rfl⟩) hS (fun q _ h => hFc q h) hFc (fun r6 u t H1 locs ht hvm hw hB hz1 hk1 hS => ?_)
  obtain ⟨hP1, hK1, hD1⟩ := hB
  rw [ht] at hP1
  have hK1 := va_K.moved hvm.symm hK1
  obtain ⟨hP, hD⟩ := va_join (wr := [(c2, .inr (1, [.int 1, .ref i2, .ref o2, .ref b2, .int 0, .int 0, .int 0, .int 0, .ref y2, .int 0, .ref z2, .int 0])), (h0, .inr (9, [.ref t0, .ref xm1, .ref a0, .ref w0, .ref k0, .ref e0, .ref xm2, .ref xm3, .ref xm4, .ref xm5, .ref j0, .ref j1, .ref j2, .int 0, .int 0, .int 0, .int (-1), .int 1])), (a0, .inl (ka, 4, .inr (.inr (.inr (.inr fa))))), (i2, .inr (0, [.int 131076, .ref ri2, .int 0, .int 0])), (ri2, .inl (ki, 64, .inl q3)), (tr, .inl (kt, 64, .inl gt)), (t0, .inr (0, [.int 65540, .ref tr, .int 0, .int 0]))]) (w1 := []) hP hD [1] [0, 2, 3, 4, 5, 6, 7] rfl rfl (by decide) (by decide) hk1 hFc hP1 hD1
  have hK := (hK.sub (tys' := [(ka, .object "KeySteward$Connection"), (ki, .byte), (kt, .byte)]) [0, 1, 2] rfl).app hK1
  generalize H1 = H at hP hS ⊢
  have hP : va_P (dC, dI) classes [(c2, .inr (1, [.int 1, .ref i2, .ref o2, .ref b2, .int 0, .int 0, .int 0, .int 0, .ref y2, .int 0, .ref z2, .int 0])), (h0, .inr (9, [.ref t0, .ref xm1, .ref a0, .ref w0, .ref k0, .ref e0, .ref xm2, .ref xm3, .ref xm4, .ref xm5, .ref j0, .ref j1, .ref j2, .int 0, .int 0, .int 0, .int (-1), .int 1])), (a0, .inl (ka, 4, .inr (.inr (.inr (.inr fa))))), (i2, .inr (0, [.int 131076, .ref ri2, .int 0, .int 0])), (ri2, .inl (ki, 64, .inl q3)), (tr, .inl (kt, 64, .inl gt)), (t0, .inr (0, [.int 65540, .ref tr, .int 0, .int 0]))] H := hP
  have hD : va_D A [(c2, .inr (1, [.int 1, .ref i2, .ref o2, .ref b2, .int 0, .int 0, .int 0, .int 0, .ref y2, .int 0, .ref z2, .int 0])), (h0, .inr (9, [.ref t0, .ref xm1, .ref a0, .ref w0, .ref k0, .ref e0, .ref xm2, .ref xm3, .ref xm4, .ref xm5, .ref j0, .ref j1, .ref j2, .int 0, .int 0, .int 0, .int (-1), .int 1])), (a0, .inl (ka, 4, .inr (.inr (.inr (.inr fa))))), (i2, .inr (0, [.int 131076, .ref ri2, .int 0, .int 0])), (ri2, .inl (ki, 64, .inl q3)), (tr, .inl (kt, 64, .inl gt)), (t0, .inr (0, [.int 65540, .ref tr, .int 0, .int 0]))] := hD
  have hK : va_K (dC, dI) classes [(ka, .object "KeySteward$Connection"), (ki, .byte), (kt, .byte)] s := hK
  have hw7 := hw
  try dsimp only at hw7
  subst hw7
  refine lv_istore (lv' := [(6, .int 1), (5, .int 0), (4, .int 0), (3, .int 0), (2, .ref c2), (0, .ref h0), (1, .int 2)]) hx hb dX12_send_114 hl (by decide) rfl (fun ls hl => ?_)
  refine lv_iload hx hb dX12_send_116 (lv_at hl 0 rfl) ?_
  refine lv_iconst (v := 1) hx hb dX12_send_118 (by decide) ?_
  refine lv_icmp_ne (tgt := 125) hx hb dX12_send_119 (by decide) (fun c_119_0 => absurd c_119_0 (by decide)) (fun c_119_0 => ?_)
  refine lv_goto (tgt := 215) hx hb dX12_send_122 (by decide) ?_
  refine lv_aload_n hx hb dX12_send_215 rfl (lv_at hl 5 rfl) ?_
  refine lv_aload_n hx hb dX12_send_216 rfl (lv_at hl 4 rfl) ?_
  refine lv_iload hx hb dX12_send_217 (lv_at hl 2 rfl) ?_
  have hPc := hP.sub (ws' := [(c2, .inr (1, [.int 1, .ref i2, .ref o2, .ref b2, .int 0, .int 0, .int 0, .int 0, .ref y2, .int 0, .ref z2, .int 0])), (i2, .inr (0, [.int 131076, .ref ri2, .int 0, .int 0]))]) [0, 3] rfl
  have hDc := hD.sub (ws' := [(c2, .inr (1, [.int 1, .ref i2, .ref o2, .ref b2, .int 0, .int 0, .int 0, .int 0, .ref y2, .int 0, .ref z2, .int 0])), (i2, .inr (0, [.int 131076, .ref ri2, .int 0, .int 0]))]) [0, 3] (by decide) rfl
  have hKc := hK.sub (tys' := []) [] rfl
  have hFc := va_free (wc := [(c2, .inr (1, [.int 1, .ref i2, .ref o2, .ref b2, .int 0, .int 0, .int 0, .int 0, .ref y2, .int 0, .ref z2, .int 0])), (i2, .inr (0, [.int 131076, .ref ri2, .int 0, .int 0]))]) hD hS hA [0, 3] rfl
  refine va_callv (va_runV (As := [.ref c2, .int 0]) (rest := []) ⟨hx, hb, hml, hown, hkw⟩ (c_KS_keepRest_0 l dC dI H.size h0 c2 i2 o2 b2 y2 z2 ri2) (callVv 2 hkw (kwI m_145) rfl rfl rfl (hkw _ m_122) (hkw _ m_146) (hkw _ m_147) (hkw _ m_148) (by decide +kernel) ⟨Nat.le_of_ble_eq_true rfl, Nat.le_of_ble_eq_true rfl⟩) ⟨fbW, va_recv hK hP (ci := 9) (q0 := 1) rfl rfl, pW_in hPc hKc hDc hfx⟩ rfl rfl hl.1 rfl (lv_room (Nat.le_of_ble_eq_true rfl)) dX12_send_219 ⟨Nat.le_of_ble_eq_true rfl, Nat.le_of_ble_eq_true rfl⟩) hS (fun q _ h => hFc q h) hFc (fun u t H1 locs ht hvm hw hB hz1 hk1 hS => ?_)
  obtain ⟨hP1, hK1, hD1⟩ := hB
  rw [ht] at hP1
  have hK1 := va_K.moved hvm.symm hK1
  obtain ⟨hP, hD⟩ := va_join (wr := [(h0, .inr (9, [.ref t0, .ref xm1, .ref a0, .ref w0, .ref k0, .ref e0, .ref xm2, .ref xm3, .ref xm4, .ref xm5, .ref j0, .ref j1, .ref j2, .int 0, .int 0, .int 0, .int (-1), .int 1])), (a0, .inl (ka, 4, .inr (.inr (.inr (.inr fa))))), (ri2, .inl (ki, 64, .inl q3)), (tr, .inl (kt, 64, .inl gt)), (t0, .inr (0, [.int 65540, .ref tr, .int 0, .int 0]))]) (w1 := []) hP hD [0, 3] [1, 2, 4, 5, 6] rfl rfl (by decide) (by decide) hk1 hFc hP1 hD1
  have hK := (hK.sub (tys' := [(ka, .object "KeySteward$Connection"), (ki, .byte), (kt, .byte)]) [0, 1, 2] rfl).app hK1
  generalize H1 = H at hP hS ⊢
  have hP : va_P (dC, dI) classes [(h0, .inr (9, [.ref t0, .ref xm1, .ref a0, .ref w0, .ref k0, .ref e0, .ref xm2, .ref xm3, .ref xm4, .ref xm5, .ref j0, .ref j1, .ref j2, .int 0, .int 0, .int 0, .int (-1), .int 1])), (a0, .inl (ka, 4, .inr (.inr (.inr (.inr fa))))), (ri2, .inl (ki, 64, .inl q3)), (tr, .inl (kt, 64, .inl gt)), (t0, .inr (0, [.int 65540, .ref tr, .int 0, .int 0]))] H := hP
  have hD : va_D A [(h0, .inr (9, [.ref t0, .ref xm1, .ref a0, .ref w0, .ref k0, .ref e0, .ref xm2, .ref xm3, .ref xm4, .ref xm5, .ref j0, .ref j1, .ref j2, .int 0, .int 0, .int 0, .int (-1), .int 1])), (a0, .inl (ka, 4, .inr (.inr (.inr (.inr fa))))), (ri2, .inl (ki, 64, .inl q3)), (tr, .inl (kt, 64, .inl gt)), (t0, .inr (0, [.int 65540, .ref tr, .int 0, .int 0]))] := hD
  have hK : va_K (dC, dI) classes [(ka, .object "KeySteward$Connection"), (ki, .byte), (kt, .byte)] s := hK
  have hw8 := hw
  try dsimp only at hw8
  refine lv_aload_n hx hb dX12_send_222 rfl (lv_at hl 5 rfl) ?_
  refine va_get (D := (dC, dI)) (ci := 9) (v := .int 1) (C := RX12) (T := TX12) (N := 18) hx hb hkw kin_X12 hown hK hP 0 rfl rfl 17 (by decide) (hkw _ m_127) (fun _ h9 => h9) rfl dX12_send_223 ?_
  refine lv_if_eq (tgt := 233) hx hb dX12_send_226 (by decide) (fun c_226_0 => absurd c_226_0 (by decide)) (fun c_226_0 => ?_)
  refine lv_iload_n hx hb dX12_send_229 rfl (lv_at hl 3 rfl) ?_
  refine lv_goto (tgt := 234) hx hb dX12_send_230 (by decide) ?_
  have hP9 := hP.sub (ws' := []) [] rfl
  have hD9 := hD.sub (ws' := []) [] (by decide) rfl
  have hK9 := hK.sub (tys' := []) [] rfl
  refine W.widen (k := 0) (n := 0) (Nat.le_of_ble_eq_true rfl) (Nat.le_of_ble_eq_true rfl) ?_
  exact W.iret (v := 0) hx hb hr (fun t ht hW => ⟨⟨0, (), rfl, rfl, by rw [ht]; exact hP9, va_K.moved hW.alike hK9, hD9⟩, hS.F ht⟩) hS.2.2 dX12_send_234

set_option maxHeartbeats 4000000 in
set_option maxRecDepth 100000 in
/-- isOpen_3, fresh -/
theorem c_KS_isOpen_3 (l : Launch) (dC : Nat → ClassId) (dI : Nat → Nat → Nat) (sz : Nat) (h0 : Nat) (t0 : Nat) (xm1 : Nat) (a0 : Nat) (w0 : Nat) (k0 : Nat) (e0 : Nat) (xm2 : Nat) (xm3 : Nat) (xm4 : Nat) (xm5 : Nat) (j0 : Nat) (j1 : Nat) (j2 : Nat) (ka : ClassId) (fa : Nat → Option Nat) (c3 : Nat) (i3 : Nat) (o3 : Nat) (b3 : Nat) (y3 : Nat) (z3 : Nat) (hc3 : fa 3 = some c3) : Met l yX12_isOpen wX12_isOpen ({ frames := 1, cells := 0, slots := 0, locals := 21 }) (va_Pc [.ref h0, .int 3] (pW (dC, dI) [(h0, .inr (9, [.ref t0, .ref xm1, .ref a0, .ref w0, .ref k0, .ref e0, .ref xm2, .ref xm3, .ref xm4, .ref xm5, .ref j0, .ref j1, .ref j2, .int 0, .int 0, .int 0, .int (-1), .int 1])), (a0, .inl (ka, 4, .inr (.inr (.inr (.inr fa))))), (c3, .inr (1, [.int 1, .ref i3, .ref o3, .ref b3, .int 0, .int 0, .int 0, .int 0, .ref y3, .int 0, .ref z3, .int 0]))] [(ka, .object "KeySteward$Connection")] sz)) (va_Qi (fun (r : Int32) (_u : Unit) => r = 1) (fun (_u : Unit) (t : State) => bW (dC, dI) [] [] (va_A [(h0, .inr (9, [.ref t0, .ref xm1, .ref a0, .ref w0, .ref k0, .ref e0, .ref xm2, .ref xm3, .ref xm4, .ref xm5, .ref j0, .ref j1, .ref j2, .int 0, .int 0, .int 0, .int (-1), .int 1])), (a0, .inl (ka, 4, .inr (.inr (.inr (.inr fa))))), (c3, .inr (1, [.int 1, .ref i3, .ref o3, .ref b3, .int 0, .int 0, .int 0, .int 0, .ref y3, .int 0, .ref z3, .int 0]))] sz) t) (va_A [(h0, .inr (9, [.ref t0, .ref xm1, .ref a0, .ref w0, .ref k0, .ref e0, .ref xm2, .ref xm3, .ref xm4, .ref xm5, .ref j0, .ref j1, .ref j2, .int 0, .int 0, .int 0, .int (-1), .int 1])), (a0, .inl (ka, 4, .inr (.inr (.inr (.inr fa))))), (c3, .inr (1, [.int 1, .ref i3, .ref o3, .ref b3, .int 0, .int 0, .int 0, .int 0, .ref y3, .int 0, .ref z3, .int 0]))] sz)) 0 0 (va_A [(h0, .inr (9, [.ref t0, .ref xm1, .ref a0, .ref w0, .ref k0, .ref e0, .ref xm2, .ref xm3, .ref xm4, .ref xm5, .ref j0, .ref j1, .ref j2, .int 0, .int 0, .int 0, .int (-1), .int 1])), (a0, .inl (ka, 4, .inr (.inr (.inr (.inr fa))))), (c3, .inr (1, [.int 1, .ref i3, .ref o3, .ref b3, .int 0, .int 0, .int 0, .int 0, .ref y3, .int 0, .ref z3, .int 0]))] sz) := by
  refine Met.ofW (cc := cX12_isOpen) (maxL := 3) (ret := (some .boolean)) (by decide) rfl ?_
  intro p e s m args below meth c s₁ B hml hv
  obtain ⟨rfl, hsz, hP, hK, hD0, hfx⟩ := hv
  have hx := B.exec
  have hb := B.bytes
  have hr := B.returns
  have hts := atoms_spec (ws := wX12_isOpen) B.pre
  have hkw : ∀ w ∈ kw, w.before _ s = true := fun w h => hts w (List.mem_cons_of_mem _ h)
  have hown : s.vm.findClass RX12 = some m.cls := findClass_of_methodNamed B.named
  have hlocks := B.notSynchronized
  subst hsz
  have hD := hD0.self (sz := s.heap.size)
  generalize hAe : va_A [(h0, .inr (9, [.ref t0, .ref xm1, .ref a0, .ref w0, .ref k0, .ref e0, .ref xm2, .ref xm3, .ref xm4, .ref xm5, .ref j0, .ref j1, .ref j2, .int 0, .int 0, .int 0, .int (-1), .int 1])), (a0, .inl (ka, 4, .inr (.inr (.inr (.inr fa))))), (c3, .inr (1, [.int 1, .ref i3, .ref o3, .ref b3, .int 0, .int 0, .int 0, .int 0, .ref y3, .int 0, .ref z3, .int 0]))] s.heap.size = A at hD ⊢
  have hA : ∀ q : Nat, s.heap.size ≤ q → A q := fun q h => by rw [← hAe]; exact Or.inr h
  have hS : va_S A s.heap s.heap [] := va_S.rf
  have hP : va_P (dC, dI) classes [(h0, .inr (9, [.ref t0, .ref xm1, .ref a0, .ref w0, .ref k0, .ref e0, .ref xm2, .ref xm3, .ref xm4, .ref xm5, .ref j0, .ref j1, .ref j2, .int 0, .int 0, .int 0, .int (-1), .int 1])), (a0, .inl (ka, 4, .inr (.inr (.inr (.inr fa))))), (c3, .inr (1, [.int 1, .ref i3, .ref o3, .ref b3, .int 0, .int 0, .int 0, .int 0, .ref y3, .int 0, .ref z3, .int 0]))] s.heap := hP
  have hl := lv_entry ([.ref h0, .int 3]) (n := 3) (Nat.le_of_ble_eq_true rfl)
  rw [lg_entry_eq]
  generalize (lg_sl ([.ref h0, .int 3]) ++ List.replicate (3 - (lg_sl ([.ref h0, .int 3])).length) Slot.unset).toArray = ls at hl ⊢
  have hl : lv_has ls 3 [(0, .ref h0), (1, .int 3)] := hl
  refine lv_aload_n hx hb dX12_isOpen_0 rfl (lv_at hl 0 rfl) ?_
  refine lv_iload_n hx hb dX12_isOpen_1 rfl (lv_at hl 1 rfl) ?_
  have hPc := hP.sub (ws' := [(h0, .inr (9, [.ref t0, .ref xm1, .ref a0, .ref w0, .ref k0, .ref e0, .ref xm2, .ref xm3, .ref xm4, .ref xm5, .ref j0, .ref j1, .ref j2, .int 0, .int 0, .int 0, .int (-1), .int 1])), (a0, .inl (ka, 4, .inr (.inr (.inr (.inr fa)))))]) [0, 1] rfl
  have hDc := hD.sub (ws' := [(h0, .inr (9, [.ref t0, .ref xm1, .ref a0, .ref w0, .ref k0, .ref e0, .ref xm2, .ref xm3, .ref xm4, .ref xm5, .ref j0, .ref j1, .ref j2, .int 0, .int 0, .int 0, .int (-1), .int 1])), (a0, .inl (ka, 4, .inr (.inr (.inr (.inr fa)))))]) [0, 1] (by decide) rfl
  have hKc := hK.sub (tys' := [(ka, .object "KeySteward$Connection")]) [0] rfl
  have hFc := va_free (wc := [(h0, .inr (9, [.ref t0, .ref xm1, .ref a0, .ref w0, .ref k0, .ref e0, .ref xm2, .ref xm3, .ref xm4, .ref xm5, .ref j0, .ref j1, .ref j2, .int 0, .int 0, .int 0, .int (-1), .int 1])), (a0, .inl (ka, 4, .inr (.inr (.inr (.inr fa)))))]) hD hS hA [0, 1] rfl
  refine va_callq (va_runV (As := [.int 3]) (rest := []) ⟨hx, hb, hml, hown, hkw⟩ (c_KS_coOf_3 l dC dI s.heap.size h0 t0 xm1 a0 w0 k0 e0 xm2 xm3 xm4 xm5 j0 j1 j2 ka fa c3 hc3) (callVv 1 hkw (kwI m_121) rfl rfl rfl (hkw _ m_122) (hkw _ m_123) (hkw _ m_124) (hkw _ m_125) (by decide +kernel) ⟨Nat.le_of_ble_eq_true rfl, Nat.le_of_ble_eq_true rfl⟩) ⟨fbW, va_recv hK hP (ci := 9) (q0 := 0) rfl rfl, pW_in hPc hKc hDc hfx⟩ rfl rfl hl.1 rfl (lv_room (Nat.le_of_ble_eq_true rfl)) dX12_isOpen_2 ⟨Nat.le_of_ble_eq_true rfl, Nat.le_of_ble_eq_true rfl⟩) hS (fun q _ h => hFc q h) hFc (fun r1 u t H1 locs ht hvm hw hB hz1 hk1 hS => ?_)
  obtain ⟨hP1, hK1, hD1⟩ := hB
  rw [ht] at hP1
  have hK1 := va_K.moved hvm.symm hK1
  obtain ⟨hP, hD⟩ := va_join (wr := [(c3, .inr (1, [.int 1, .ref i3, .ref o3, .ref b3, .int 0, .int 0, .int 0, .int 0, .ref y3, .int 0, .ref z3, .int 0]))]) (w1 := [(h0, .inr (9, [.ref t0, .ref xm1, .ref a0, .ref w0, .ref k0, .ref e0, .ref xm2, .ref xm3, .ref xm4, .ref xm5, .ref j0, .ref j1, .ref j2, .int 0, .int 0, .int 0, .int (-1), .int 1])), (a0, .inl (ka, 4, .inr (.inr (.inr (.inr fa)))))]) hP hD [0, 1] [2] rfl rfl (by decide) (by decide) hk1 hFc hP1 hD1
  have hK := (hK.sub (tys' := []) [] rfl).app hK1
  generalize H1 = H at hP hS ⊢
  have hP : va_P (dC, dI) classes [(c3, .inr (1, [.int 1, .ref i3, .ref o3, .ref b3, .int 0, .int 0, .int 0, .int 0, .ref y3, .int 0, .ref z3, .int 0])), (h0, .inr (9, [.ref t0, .ref xm1, .ref a0, .ref w0, .ref k0, .ref e0, .ref xm2, .ref xm3, .ref xm4, .ref xm5, .ref j0, .ref j1, .ref j2, .int 0, .int 0, .int 0, .int (-1), .int 1])), (a0, .inl (ka, 4, .inr (.inr (.inr (.inr fa)))))] H := hP
  have hD : va_D A [(c3, .inr (1, [.int 1, .ref i3, .ref o3, .ref b3, .int 0, .int 0, .int 0, .int 0, .ref y3, .int 0, .ref z3, .int 0])), (h0, .inr (9, [.ref t0, .ref xm1, .ref a0, .ref w0, .ref k0, .ref e0, .ref xm2, .ref xm3, .ref xm4, .ref xm5, .ref j0, .ref j1, .ref j2, .int 0, .int 0, .int 0, .int (-1), .int 1])), (a0, .inl (ka, 4, .inr (.inr (.inr (.inr fa)))))] := hD
  have hK : va_K (dC, dI) classes [(ka, .object "KeySteward$Connection")] s := hK
  have hw2 := hw
  try dsimp only at hw2
  subst hw2
  refine lv_astore_n (lv' := [(2, .ref c3), (0, .ref h0), (1, .int 3)]) hx hb dX12_isOpen_5 rfl hl (by decide) rfl (fun ls hl => ?_)
  refine lv_aload_n hx hb dX12_isOpen_6 rfl (lv_at hl 0 rfl) ?_
  refine lv_ifnull hx hb dX12_isOpen_7 ?_
  refine lv_aload_n hx hb dX12_isOpen_10 rfl (lv_at hl 0 rfl) ?_
  refine va_get (D := (dC, dI)) (ci := 1) (v := .int 1) (C := RX3) (T := TX3) (N := 12) hx hb hkw kin_X3 hown hK hP 0 rfl rfl 0 (by decide) (hkw _ m_114) (fun _ h9 => h9) rfl dX12_isOpen_11 ?_
  refine lv_if_eq (tgt := 21) hx hb dX12_isOpen_14 (by decide) (fun c_14_0 => absurd c_14_0 (by decide)) (fun c_14_0 => ?_)
  refine lv_iconst (v := 1) hx hb dX12_isOpen_17 (by decide) ?_
  refine lv_goto (tgt := 22) hx hb dX12_isOpen_18 (by decide) ?_
  have hP9 := hP.sub (ws' := []) [] rfl
  have hD9 := hD.sub (ws' := []) [] (by decide) rfl
  have hK9 := hK.sub (tys' := []) [] rfl
  refine W.widen (k := 0) (n := 0) (Nat.le_of_ble_eq_true rfl) (Nat.le_of_ble_eq_true rfl) ?_
  exact W.zret (v := 1) (ty := .boolean) hx hb hr rfl (fun t ht hW => ⟨⟨1, (), rfl, rfl, by rw [ht]; exact hP9, va_K.moved hW.alike hK9, hD9⟩, hS.F ht⟩) hS.2.2 dX12_isOpen_22

set_option maxHeartbeats 4000000 in
set_option maxRecDepth 100000 in
/-- out_3, fresh -/
theorem c_KS_out_3 (l : Launch) (dC : Nat → ClassId) (dI : Nat → Nat → Nat) (sz : Nat) (h0 : Nat) (t0 : Nat) (xm1 : Nat) (a0 : Nat) (w0 : Nat) (k0 : Nat) (e0 : Nat) (xm2 : Nat) (xm3 : Nat) (xm4 : Nat) (xm5 : Nat) (j0 : Nat) (j1 : Nat) (j2 : Nat) (ka : ClassId) (fa : Nat → Option Nat) (c3 : Nat) (i3 : Nat) (o3 : Nat) (b3 : Nat) (y3 : Nat) (z3 : Nat) (ro3 : Nat) (hc3 : fa 3 = some c3) : Met l yX12_out wX12_out ({ frames := 1, cells := 0, slots := 0, locals := 21 }) (va_Pc [.ref h0, .int 3] (pW (dC, dI) [(h0, .inr (9, [.ref t0, .ref xm1, .ref a0, .ref w0, .ref k0, .ref e0, .ref xm2, .ref xm3, .ref xm4, .ref xm5, .ref j0, .ref j1, .ref j2, .int 0, .int 0, .int 0, .int (-1), .int 1])), (a0, .inl (ka, 4, .inr (.inr (.inr (.inr fa))))), (c3, .inr (1, [.int 1, .ref i3, .ref o3, .ref b3, .int 0, .int 0, .int 0, .int 0, .ref y3, .int 0, .ref z3, .int 0])), (o3, .inr (0, [.int 65536, .ref ro3, .int 0, .int 0]))] [(ka, .object "KeySteward$Connection")] sz)) (va_Qi (fun (r : Int32) (_u : Unit) => r = 0) (fun (_u : Unit) (t : State) => bW (dC, dI) [] [] (va_A [(h0, .inr (9, [.ref t0, .ref xm1, .ref a0, .ref w0, .ref k0, .ref e0, .ref xm2, .ref xm3, .ref xm4, .ref xm5, .ref j0, .ref j1, .ref j2, .int 0, .int 0, .int 0, .int (-1), .int 1])), (a0, .inl (ka, 4, .inr (.inr (.inr (.inr fa))))), (c3, .inr (1, [.int 1, .ref i3, .ref o3, .ref b3, .int 0, .int 0, .int 0, .int 0, .ref y3, .int 0, .ref z3, .int 0])), (o3, .inr (0, [.int 65536, .ref ro3, .int 0, .int 0]))] sz) t) (va_A [(h0, .inr (9, [.ref t0, .ref xm1, .ref a0, .ref w0, .ref k0, .ref e0, .ref xm2, .ref xm3, .ref xm4, .ref xm5, .ref j0, .ref j1, .ref j2, .int 0, .int 0, .int 0, .int (-1), .int 1])), (a0, .inl (ka, 4, .inr (.inr (.inr (.inr fa))))), (c3, .inr (1, [.int 1, .ref i3, .ref o3, .ref b3, .int 0, .int 0, .int 0, .int 0, .ref y3, .int 0, .ref z3, .int 0])), (o3, .inr (0, [.int 65536, .ref ro3, .int 0, .int 0]))] sz)) 0 0 (va_A [(h0, .inr (9, [.ref t0, .ref xm1, .ref a0, .ref w0, .ref k0, .ref e0, .ref xm2, .ref xm3, .ref xm4, .ref xm5, .ref j0, .ref j1, .ref j2, .int 0, .int 0, .int 0, .int (-1), .int 1])), (a0, .inl (ka, 4, .inr (.inr (.inr (.inr fa))))), (c3, .inr (1, [.int 1, .ref i3, .ref o3, .ref b3, .int 0, .int 0, .int 0, .int 0, .ref y3, .int 0, .ref z3, .int 0])), (o3, .inr (0, [.int 65536, .ref ro3, .int 0, .int 0]))] sz) := by
  refine Met.ofW (cc := cX12_out) (maxL := 3) (ret := (some .int)) (by decide) rfl ?_
  intro p e s m args below meth c s₁ B hml hv
  obtain ⟨rfl, hsz, hP, hK, hD0, hfx⟩ := hv
  have hx := B.exec
  have hb := B.bytes
  have hr := B.returns
  have hts := atoms_spec (ws := wX12_out) B.pre
  have hkw : ∀ w ∈ kw, w.before _ s = true := fun w h => hts w (List.mem_cons_of_mem _ h)
  have hown : s.vm.findClass RX12 = some m.cls := findClass_of_methodNamed B.named
  have hlocks := B.notSynchronized
  subst hsz
  have hD := hD0.self (sz := s.heap.size)
  generalize hAe : va_A [(h0, .inr (9, [.ref t0, .ref xm1, .ref a0, .ref w0, .ref k0, .ref e0, .ref xm2, .ref xm3, .ref xm4, .ref xm5, .ref j0, .ref j1, .ref j2, .int 0, .int 0, .int 0, .int (-1), .int 1])), (a0, .inl (ka, 4, .inr (.inr (.inr (.inr fa))))), (c3, .inr (1, [.int 1, .ref i3, .ref o3, .ref b3, .int 0, .int 0, .int 0, .int 0, .ref y3, .int 0, .ref z3, .int 0])), (o3, .inr (0, [.int 65536, .ref ro3, .int 0, .int 0]))] s.heap.size = A at hD ⊢
  have hA : ∀ q : Nat, s.heap.size ≤ q → A q := fun q h => by rw [← hAe]; exact Or.inr h
  have hS : va_S A s.heap s.heap [] := va_S.rf
  have hP : va_P (dC, dI) classes [(h0, .inr (9, [.ref t0, .ref xm1, .ref a0, .ref w0, .ref k0, .ref e0, .ref xm2, .ref xm3, .ref xm4, .ref xm5, .ref j0, .ref j1, .ref j2, .int 0, .int 0, .int 0, .int (-1), .int 1])), (a0, .inl (ka, 4, .inr (.inr (.inr (.inr fa))))), (c3, .inr (1, [.int 1, .ref i3, .ref o3, .ref b3, .int 0, .int 0, .int 0, .int 0, .ref y3, .int 0, .ref z3, .int 0])), (o3, .inr (0, [.int 65536, .ref ro3, .int 0, .int 0]))] s.heap := hP
  have hl := lv_entry ([.ref h0, .int 3]) (n := 3) (Nat.le_of_ble_eq_true rfl)
  rw [lg_entry_eq]
  generalize (lg_sl ([.ref h0, .int 3]) ++ List.replicate (3 - (lg_sl ([.ref h0, .int 3])).length) Slot.unset).toArray = ls at hl ⊢
  have hl : lv_has ls 3 [(0, .ref h0), (1, .int 3)] := hl
  refine lv_aload_n hx hb dX12_out_0 rfl (lv_at hl 0 rfl) ?_
  refine lv_iload_n hx hb dX12_out_1 rfl (lv_at hl 1 rfl) ?_
  have hPc := hP.sub (ws' := [(h0, .inr (9, [.ref t0, .ref xm1, .ref a0, .ref w0, .ref k0, .ref e0, .ref xm2, .ref xm3, .ref xm4, .ref xm5, .ref j0, .ref j1, .ref j2, .int 0, .int 0, .int 0, .int (-1), .int 1])), (a0, .inl (ka, 4, .inr (.inr (.inr (.inr fa)))))]) [0, 1] rfl
  have hDc := hD.sub (ws' := [(h0, .inr (9, [.ref t0, .ref xm1, .ref a0, .ref w0, .ref k0, .ref e0, .ref xm2, .ref xm3, .ref xm4, .ref xm5, .ref j0, .ref j1, .ref j2, .int 0, .int 0, .int 0, .int (-1), .int 1])), (a0, .inl (ka, 4, .inr (.inr (.inr (.inr fa)))))]) [0, 1] (by decide) rfl
  have hKc := hK.sub (tys' := [(ka, .object "KeySteward$Connection")]) [0] rfl
  have hFc := va_free (wc := [(h0, .inr (9, [.ref t0, .ref xm1, .ref a0, .ref w0, .ref k0, .ref e0, .ref xm2, .ref xm3, .ref xm4, .ref xm5, .ref j0, .ref j1, .ref j2, .int 0, .int 0, .int 0, .int (-1), .int 1])), (a0, .inl (ka, 4, .inr (.inr (.inr (.inr fa)))))]) hD hS hA [0, 1] rfl
  refine va_callq (va_runV (As := [.int 3]) (rest := []) ⟨hx, hb, hml, hown, hkw⟩ (c_KS_coOf_3 l dC dI s.heap.size h0 t0 xm1 a0 w0 k0 e0 xm2 xm3 xm4 xm5 j0 j1 j2 ka fa c3 hc3) (callVv 1 hkw (kwI m_121) rfl rfl rfl (hkw _ m_122) (hkw _ m_123) (hkw _ m_124) (hkw _ m_125) (by decide +kernel) ⟨Nat.le_of_ble_eq_true rfl, Nat.le_of_ble_eq_true rfl⟩) ⟨fbW, va_recv hK hP (ci := 9) (q0 := 0) rfl rfl, pW_in hPc hKc hDc hfx⟩ rfl rfl hl.1 rfl (lv_room (Nat.le_of_ble_eq_true rfl)) dX12_out_2 ⟨Nat.le_of_ble_eq_true rfl, Nat.le_of_ble_eq_true rfl⟩) hS (fun q _ h => hFc q h) hFc (fun r1 u t H1 locs ht hvm hw hB hz1 hk1 hS => ?_)
  obtain ⟨hP1, hK1, hD1⟩ := hB
  rw [ht] at hP1
  have hK1 := va_K.moved hvm.symm hK1
  obtain ⟨hP, hD⟩ := va_join (wr := [(c3, .inr (1, [.int 1, .ref i3, .ref o3, .ref b3, .int 0, .int 0, .int 0, .int 0, .ref y3, .int 0, .ref z3, .int 0])), (o3, .inr (0, [.int 65536, .ref ro3, .int 0, .int 0]))]) (w1 := [(h0, .inr (9, [.ref t0, .ref xm1, .ref a0, .ref w0, .ref k0, .ref e0, .ref xm2, .ref xm3, .ref xm4, .ref xm5, .ref j0, .ref j1, .ref j2, .int 0, .int 0, .int 0, .int (-1), .int 1])), (a0, .inl (ka, 4, .inr (.inr (.inr (.inr fa)))))]) hP hD [0, 1] [2, 3] rfl rfl (by decide) (by decide) hk1 hFc hP1 hD1
  have hK := (hK.sub (tys' := []) [] rfl).app hK1
  generalize H1 = H at hP hS ⊢
  have hP : va_P (dC, dI) classes [(c3, .inr (1, [.int 1, .ref i3, .ref o3, .ref b3, .int 0, .int 0, .int 0, .int 0, .ref y3, .int 0, .ref z3, .int 0])), (o3, .inr (0, [.int 65536, .ref ro3, .int 0, .int 0])), (h0, .inr (9, [.ref t0, .ref xm1, .ref a0, .ref w0, .ref k0, .ref e0, .ref xm2, .ref xm3, .ref xm4, .ref xm5, .ref j0, .ref j1, .ref j2, .int 0, .int 0, .int 0, .int (-1), .int 1])), (a0, .inl (ka, 4, .inr (.inr (.inr (.inr fa)))))] H := hP
  have hD : va_D A [(c3, .inr (1, [.int 1, .ref i3, .ref o3, .ref b3, .int 0, .int 0, .int 0, .int 0, .ref y3, .int 0, .ref z3, .int 0])), (o3, .inr (0, [.int 65536, .ref ro3, .int 0, .int 0])), (h0, .inr (9, [.ref t0, .ref xm1, .ref a0, .ref w0, .ref k0, .ref e0, .ref xm2, .ref xm3, .ref xm4, .ref xm5, .ref j0, .ref j1, .ref j2, .int 0, .int 0, .int 0, .int (-1), .int 1])), (a0, .inl (ka, 4, .inr (.inr (.inr (.inr fa)))))] := hD
  have hK : va_K (dC, dI) classes [(ka, .object "KeySteward$Connection")] s := hK
  have hw2 := hw
  try dsimp only at hw2
  subst hw2
  refine lv_astore_n (lv' := [(2, .ref c3), (0, .ref h0), (1, .int 3)]) hx hb dX12_out_5 rfl hl (by decide) rfl (fun ls hl => ?_)
  refine lv_aload_n hx hb dX12_out_6 rfl (lv_at hl 0 rfl) ?_
  refine lv_ifnonnull (tgt := 14) hx hb dX12_out_7 (by decide) ?_
  refine lv_aload_n hx hb dX12_out_14 rfl (lv_at hl 0 rfl) ?_
  refine va_get (D := (dC, dI)) (ci := 1) (v := .ref o3) (C := RX3) (T := TX3) (N := 12) hx hb hkw kin_X3 hown hK hP 0 rfl rfl 2 (by decide) (hkw _ m_126) (fun _ h9 => h9) rfl dX12_out_15 ?_
  refine va_get (D := (dC, dI)) (ci := 0) (v := .int 0) (C := RX1) (T := TX1) (N := 4) hx hb hkw kin_X1 hown hK hP 1 rfl rfl 2 (by decide) (hkw _ m_104) (fun _ h9 => h9) rfl dX12_out_18 ?_
  have hP9 := hP.sub (ws' := []) [] rfl
  have hD9 := hD.sub (ws' := []) [] (by decide) rfl
  have hK9 := hK.sub (tys' := []) [] rfl
  refine W.widen (k := 0) (n := 0) (Nat.le_of_ble_eq_true rfl) (Nat.le_of_ble_eq_true rfl) ?_
  exact W.iret (v := 0) hx hb hr (fun t ht hW => ⟨⟨0, (), rfl, rfl, by rw [ht]; exact hP9, va_K.moved hW.alike hK9, hD9⟩, hS.F ht⟩) hS.2.2 dX12_out_21

set_option maxHeartbeats 4000000 in
set_option maxRecDepth 100000 in
/-- take_3_0, fresh -/
theorem c_KS_take_3_0 (l : Launch) (dC : Nat → ClassId) (dI : Nat → Nat → Nat) (sz : Nat) (h0 : Nat) (t0 : Nat) (xm1 : Nat) (a0 : Nat) (w0 : Nat) (k0 : Nat) (e0 : Nat) (xm2 : Nat) (xm3 : Nat) (xm4 : Nat) (xm5 : Nat) (j0 : Nat) (j1 : Nat) (j2 : Nat) (ka : ClassId) (fa : Nat → Option Nat) (c3 : Nat) (i3 : Nat) (o3 : Nat) (b3 : Nat) (y3 : Nat) (z3 : Nat) (ro3 : Nat) (hc3 : fa 3 = some c3) : Met l yX12_take wX12_take ({ frames := 1, cells := 0, slots := 0, locals := 22 }) (va_Pc [.ref h0, .int 3, .int 0] (pW (dC, dI) [(h0, .inr (9, [.ref t0, .ref xm1, .ref a0, .ref w0, .ref k0, .ref e0, .ref xm2, .ref xm3, .ref xm4, .ref xm5, .ref j0, .ref j1, .ref j2, .int 0, .int 0, .int 0, .int (-1), .int 1])), (a0, .inl (ka, 4, .inr (.inr (.inr (.inr fa))))), (c3, .inr (1, [.int 1, .ref i3, .ref o3, .ref b3, .int 0, .int 0, .int 0, .int 0, .ref y3, .int 0, .ref z3, .int 0])), (o3, .inr (0, [.int 65536, .ref ro3, .int 0, .int 0]))] [(ka, .object "KeySteward$Connection")] sz)) (va_Qi (fun (r : Int32) (_u : Unit) => r = 1) (fun (_u : Unit) (t : State) => bW (dC, dI) [] [] (va_A [(h0, .inr (9, [.ref t0, .ref xm1, .ref a0, .ref w0, .ref k0, .ref e0, .ref xm2, .ref xm3, .ref xm4, .ref xm5, .ref j0, .ref j1, .ref j2, .int 0, .int 0, .int 0, .int (-1), .int 1])), (a0, .inl (ka, 4, .inr (.inr (.inr (.inr fa))))), (c3, .inr (1, [.int 1, .ref i3, .ref o3, .ref b3, .int 0, .int 0, .int 0, .int 0, .ref y3, .int 0, .ref z3, .int 0])), (o3, .inr (0, [.int 65536, .ref ro3, .int 0, .int 0]))] sz) t) (va_A [(h0, .inr (9, [.ref t0, .ref xm1, .ref a0, .ref w0, .ref k0, .ref e0, .ref xm2, .ref xm3, .ref xm4, .ref xm5, .ref j0, .ref j1, .ref j2, .int 0, .int 0, .int 0, .int (-1), .int 1])), (a0, .inl (ka, 4, .inr (.inr (.inr (.inr fa))))), (c3, .inr (1, [.int 1, .ref i3, .ref o3, .ref b3, .int 0, .int 0, .int 0, .int 0, .ref y3, .int 0, .ref z3, .int 0])), (o3, .inr (0, [.int 65536, .ref ro3, .int 0, .int 0]))] sz)) 0 0 (va_A [(h0, .inr (9, [.ref t0, .ref xm1, .ref a0, .ref w0, .ref k0, .ref e0, .ref xm2, .ref xm3, .ref xm4, .ref xm5, .ref j0, .ref j1, .ref j2, .int 0, .int 0, .int 0, .int (-1), .int 1])), (a0, .inl (ka, 4, .inr (.inr (.inr (.inr fa))))), (c3, .inr (1, [.int 1, .ref i3, .ref o3, .ref b3, .int 0, .int 0, .int 0, .int 0, .ref y3, .int 0, .ref z3, .int 0])), (o3, .inr (0, [.int 65536, .ref ro3, .int 0, .int 0]))] sz) := by
  refine Met.ofW (cc := cX12_take) (maxL := 4) (ret := (some .boolean)) (by decide) rfl ?_
  intro p e s m args below meth c s₁ B hml hv
  obtain ⟨rfl, hsz, hP, hK, hD0, hfx⟩ := hv
  have hx := B.exec
  have hb := B.bytes
  have hr := B.returns
  have hts := atoms_spec (ws := wX12_take) B.pre
  have hkw : ∀ w ∈ kw, w.before _ s = true := fun w h => hts w (List.mem_cons_of_mem _ h)
  have hown : s.vm.findClass RX12 = some m.cls := findClass_of_methodNamed B.named
  have hlocks := B.notSynchronized
  subst hsz
  have hD := hD0.self (sz := s.heap.size)
  generalize hAe : va_A [(h0, .inr (9, [.ref t0, .ref xm1, .ref a0, .ref w0, .ref k0, .ref e0, .ref xm2, .ref xm3, .ref xm4, .ref xm5, .ref j0, .ref j1, .ref j2, .int 0, .int 0, .int 0, .int (-1), .int 1])), (a0, .inl (ka, 4, .inr (.inr (.inr (.inr fa))))), (c3, .inr (1, [.int 1, .ref i3, .ref o3, .ref b3, .int 0, .int 0, .int 0, .int 0, .ref y3, .int 0, .ref z3, .int 0])), (o3, .inr (0, [.int 65536, .ref ro3, .int 0, .int 0]))] s.heap.size = A at hD ⊢
  have hA : ∀ q : Nat, s.heap.size ≤ q → A q := fun q h => by rw [← hAe]; exact Or.inr h
  have hS : va_S A s.heap s.heap [] := va_S.rf
  have hP : va_P (dC, dI) classes [(h0, .inr (9, [.ref t0, .ref xm1, .ref a0, .ref w0, .ref k0, .ref e0, .ref xm2, .ref xm3, .ref xm4, .ref xm5, .ref j0, .ref j1, .ref j2, .int 0, .int 0, .int 0, .int (-1), .int 1])), (a0, .inl (ka, 4, .inr (.inr (.inr (.inr fa))))), (c3, .inr (1, [.int 1, .ref i3, .ref o3, .ref b3, .int 0, .int 0, .int 0, .int 0, .ref y3, .int 0, .ref z3, .int 0])), (o3, .inr (0, [.int 65536, .ref ro3, .int 0, .int 0]))] s.heap := hP
  have hl := lv_entry ([.ref h0, .int 3, .int 0]) (n := 4) (Nat.le_of_ble_eq_true rfl)
  rw [lg_entry_eq]
  generalize (lg_sl ([.ref h0, .int 3, .int 0]) ++ List.replicate (4 - (lg_sl ([.ref h0, .int 3, .int 0])).length) Slot.unset).toArray = ls at hl ⊢
  have hl : lv_has ls 4 [(0, .ref h0), (1, .int 3), (2, .int 0)] := hl
  refine lv_aload_n hx hb dX12_take_0 rfl (lv_at hl 0 rfl) ?_
  refine lv_iload_n hx hb dX12_take_1 rfl (lv_at hl 1 rfl) ?_
  have hPc := hP.sub (ws' := [(h0, .inr (9, [.ref t0, .ref xm1, .ref a0, .ref w0, .ref k0, .ref e0, .ref xm2, .ref xm3, .ref xm4, .ref xm5, .ref j0, .ref j1, .ref j2, .int 0, .int 0, .int 0, .int (-1), .int 1])), (a0, .inl (ka, 4, .inr (.inr (.inr (.inr fa)))))]) [0, 1] rfl
  have hDc := hD.sub (ws' := [(h0, .inr (9, [.ref t0, .ref xm1, .ref a0, .ref w0, .ref k0, .ref e0, .ref xm2, .ref xm3, .ref xm4, .ref xm5, .ref j0, .ref j1, .ref j2, .int 0, .int 0, .int 0, .int (-1), .int 1])), (a0, .inl (ka, 4, .inr (.inr (.inr (.inr fa)))))]) [0, 1] (by decide) rfl
  have hKc := hK.sub (tys' := [(ka, .object "KeySteward$Connection")]) [0] rfl
  have hFc := va_free (wc := [(h0, .inr (9, [.ref t0, .ref xm1, .ref a0, .ref w0, .ref k0, .ref e0, .ref xm2, .ref xm3, .ref xm4, .ref xm5, .ref j0, .ref j1, .ref j2, .int 0, .int 0, .int 0, .int (-1), .int 1])), (a0, .inl (ka, 4, .inr (.inr (.inr (.inr fa)))))]) hD hS hA [0, 1] rfl
  refine va_callq (va_runV (As := [.int 3]) (rest := []) ⟨hx, hb, hml, hown, hkw⟩ (c_KS_coOf_3 l dC dI s.heap.size h0 t0 xm1 a0 w0 k0 e0 xm2 xm3 xm4 xm5 j0 j1 j2 ka fa c3 hc3) (callVv 1 hkw (kwI m_121) rfl rfl rfl (hkw _ m_122) (hkw _ m_123) (hkw _ m_124) (hkw _ m_125) (by decide +kernel) ⟨Nat.le_of_ble_eq_true rfl, Nat.le_of_ble_eq_true rfl⟩) ⟨fbW, va_recv hK hP (ci := 9) (q0 := 0) rfl rfl, pW_in hPc hKc hDc hfx⟩ rfl rfl hl.1 rfl (lv_room (Nat.le_of_ble_eq_true rfl)) dX12_take_2 ⟨Nat.le_of_ble_eq_true rfl, Nat.le_of_ble_eq_true rfl⟩) hS (fun q _ h => hFc q h) hFc (fun r1 u t H1 locs ht hvm hw hB hz1 hk1 hS => ?_)
  obtain ⟨hP1, hK1, hD1⟩ := hB
  rw [ht] at hP1
  have hK1 := va_K.moved hvm.symm hK1
  obtain ⟨hP, hD⟩ := va_join (wr := [(c3, .inr (1, [.int 1, .ref i3, .ref o3, .ref b3, .int 0, .int 0, .int 0, .int 0, .ref y3, .int 0, .ref z3, .int 0])), (o3, .inr (0, [.int 65536, .ref ro3, .int 0, .int 0]))]) (w1 := [(h0, .inr (9, [.ref t0, .ref xm1, .ref a0, .ref w0, .ref k0, .ref e0, .ref xm2, .ref xm3, .ref xm4, .ref xm5, .ref j0, .ref j1, .ref j2, .int 0, .int 0, .int 0, .int (-1), .int 1])), (a0, .inl (ka, 4, .inr (.inr (.inr (.inr fa)))))]) hP hD [0, 1] [2, 3] rfl rfl (by decide) (by decide) hk1 hFc hP1 hD1
  have hK := (hK.sub (tys' := []) [] rfl).app hK1
  generalize H1 = H at hP hS ⊢
  have hP : va_P (dC, dI) classes [(c3, .inr (1, [.int 1, .ref i3, .ref o3, .ref b3, .int 0, .int 0, .int 0, .int 0, .ref y3, .int 0, .ref z3, .int 0])), (o3, .inr (0, [.int 65536, .ref ro3, .int 0, .int 0])), (h0, .inr (9, [.ref t0, .ref xm1, .ref a0, .ref w0, .ref k0, .ref e0, .ref xm2, .ref xm3, .ref xm4, .ref xm5, .ref j0, .ref j1, .ref j2, .int 0, .int 0, .int 0, .int (-1), .int 1])), (a0, .inl (ka, 4, .inr (.inr (.inr (.inr fa)))))] H := hP
  have hD : va_D A [(c3, .inr (1, [.int 1, .ref i3, .ref o3, .ref b3, .int 0, .int 0, .int 0, .int 0, .ref y3, .int 0, .ref z3, .int 0])), (o3, .inr (0, [.int 65536, .ref ro3, .int 0, .int 0])), (h0, .inr (9, [.ref t0, .ref xm1, .ref a0, .ref w0, .ref k0, .ref e0, .ref xm2, .ref xm3, .ref xm4, .ref xm5, .ref j0, .ref j1, .ref j2, .int 0, .int 0, .int 0, .int (-1), .int 1])), (a0, .inl (ka, 4, .inr (.inr (.inr (.inr fa)))))] := hD
  have hK : va_K (dC, dI) classes [(ka, .object "KeySteward$Connection")] s := hK
  have hw2 := hw
  try dsimp only at hw2
  subst hw2
  refine lv_astore_n (lv' := [(3, .ref c3), (0, .ref h0), (1, .int 3), (2, .int 0)]) hx hb dX12_take_5 rfl hl (by decide) rfl (fun ls hl => ?_)
  refine lv_aload_n hx hb dX12_take_6 rfl (lv_at hl 0 rfl) ?_
  refine lv_ifnull hx hb dX12_take_7 ?_
  refine lv_iload_n hx hb dX12_take_10 rfl (lv_at hl 3 rfl) ?_
  refine lv_if_lt (tgt := 25) hx hb dX12_take_11 (by decide) (fun c_11_0 => absurd c_11_0 (by decide)) (fun c_11_0 => ?_)
  refine lv_iload_n hx hb dX12_take_14 rfl (lv_at hl 3 rfl) ?_
  refine lv_aload_n hx hb dX12_take_15 rfl (lv_at hl 0 rfl) ?_
  refine va_get (D := (dC, dI)) (ci := 1) (v := .ref o3) (C := RX3) (T := TX3) (N := 12) hx hb hkw kin_X3 hown hK hP 0 rfl rfl 2 (by decide) (hkw _ m_126) (fun _ h9 => h9) rfl dX12_take_16 ?_
  refine va_get (D := (dC, dI)) (ci := 0) (v := .int 0) (C := RX1) (T := TX1) (N := 4) hx hb hkw kin_X1 hown hK hP 1 rfl rfl 2 (by decide) (hkw _ m_104) (fun _ h9 => h9) rfl dX12_take_19 ?_
  refine lv_icmp_le (tgt := 27) hx hb dX12_take_22 (by decide) (fun c_22_0 => ?_) (fun c_22_0 => absurd c_22_0 (by decide))
  refine lv_aload_n hx hb dX12_take_27 rfl (lv_at hl 0 rfl) ?_
  refine va_get (D := (dC, dI)) (ci := 1) (v := .ref o3) (C := RX3) (T := TX3) (N := 12) hx hb hkw kin_X3 hown hK hP 0 rfl rfl 2 (by decide) (hkw _ m_126) (fun _ h9 => h9) rfl dX12_take_28 ?_
  refine lv_iload_n hx hb dX12_take_31 rfl (lv_at hl 3 rfl) ?_
  have hPc := hP.sub (ws' := [(o3, .inr (0, [.int 65536, .ref ro3, .int 0, .int 0]))]) [1] rfl
  have hDc := hD.sub (ws' := [(o3, .inr (0, [.int 65536, .ref ro3, .int 0, .int 0]))]) [1] (by decide) rfl
  have hKc := hK.sub (tys' := []) [] rfl
  have hFc := va_free (wc := [(o3, .inr (0, [.int 65536, .ref ro3, .int 0, .int 0]))]) hD hS hA [1] rfl
  refine va_callv (va_runV (As := [.int 0]) (rest := []) ⟨hx, hb, hml, hown, hkw⟩ (c_By_drop l dC dI H.size o3 ro3 65536 0 0) (callVv 1 hkw (kwI m_116) rfl rfl rfl (hkw _ m_9) (hkw _ m_117) (hkw _ m_118) (hkw _ m_119) (by decide +kernel) ⟨Nat.le_of_ble_eq_true rfl, Nat.le_of_ble_eq_true rfl⟩) ⟨fbW, va_recv hK hP (ci := 0) (q0 := 1) rfl rfl, pW_in hPc hKc hDc hfx⟩ rfl rfl hl.1 rfl (lv_room (Nat.le_of_ble_eq_true rfl)) dX12_take_32 ⟨Nat.le_of_ble_eq_true rfl, Nat.le_of_ble_eq_true rfl⟩) hS (fun q _ h => hFc q h) hFc (fun u t H1 locs ht hvm hw hB hz1 hk1 hS => ?_)
  obtain ⟨hP1, hK1, hD1⟩ := hB
  rw [ht] at hP1
  have hK1 := va_K.moved hvm.symm hK1
  obtain ⟨hP, hD⟩ := va_join (wr := [(c3, .inr (1, [.int 1, .ref i3, .ref o3, .ref b3, .int 0, .int 0, .int 0, .int 0, .ref y3, .int 0, .ref z3, .int 0])), (h0, .inr (9, [.ref t0, .ref xm1, .ref a0, .ref w0, .ref k0, .ref e0, .ref xm2, .ref xm3, .ref xm4, .ref xm5, .ref j0, .ref j1, .ref j2, .int 0, .int 0, .int 0, .int (-1), .int 1])), (a0, .inl (ka, 4, .inr (.inr (.inr (.inr fa)))))]) (w1 := [(o3, .inr (0, [.int 65536, .ref ro3, .int 0, .int 0]))]) hP hD [1] [0, 2, 3] rfl rfl (by decide) (by decide) hk1 hFc hP1 hD1
  have hK := (hK.sub (tys' := [(ka, .object "KeySteward$Connection")]) [0] rfl).app hK1
  generalize H1 = H at hP hS ⊢
  have hP : va_P (dC, dI) classes [(c3, .inr (1, [.int 1, .ref i3, .ref o3, .ref b3, .int 0, .int 0, .int 0, .int 0, .ref y3, .int 0, .ref z3, .int 0])), (h0, .inr (9, [.ref t0, .ref xm1, .ref a0, .ref w0, .ref k0, .ref e0, .ref xm2, .ref xm3, .ref xm4, .ref xm5, .ref j0, .ref j1, .ref j2, .int 0, .int 0, .int 0, .int (-1), .int 1])), (a0, .inl (ka, 4, .inr (.inr (.inr (.inr fa))))), (o3, .inr (0, [.int 65536, .ref ro3, .int 0, .int 0]))] H := hP
  have hD : va_D A [(c3, .inr (1, [.int 1, .ref i3, .ref o3, .ref b3, .int 0, .int 0, .int 0, .int 0, .ref y3, .int 0, .ref z3, .int 0])), (h0, .inr (9, [.ref t0, .ref xm1, .ref a0, .ref w0, .ref k0, .ref e0, .ref xm2, .ref xm3, .ref xm4, .ref xm5, .ref j0, .ref j1, .ref j2, .int 0, .int 0, .int 0, .int (-1), .int 1])), (a0, .inl (ka, 4, .inr (.inr (.inr (.inr fa))))), (o3, .inr (0, [.int 65536, .ref ro3, .int 0, .int 0]))] := hD
  have hK : va_K (dC, dI) classes [(ka, .object "KeySteward$Connection")] s := hK
  have hw3 := hw
  try dsimp only at hw3
  refine lv_iconst (v := 1) hx hb dX12_take_35 (by decide) ?_
  have hP9 := hP.sub (ws' := []) [] rfl
  have hD9 := hD.sub (ws' := []) [] (by decide) rfl
  have hK9 := hK.sub (tys' := []) [] rfl
  refine W.widen (k := 0) (n := 0) (Nat.le_of_ble_eq_true rfl) (Nat.le_of_ble_eq_true rfl) ?_
  exact W.zret (v := 1) (ty := .boolean) hx hb hr rfl (fun t ht hW => ⟨⟨1, (), rfl, rfl, by rw [ht]; exact hP9, va_K.moved hW.alike hK9, hD9⟩, hS.F ht⟩) hS.2.2 dX12_take_36

set_option maxHeartbeats 4000000 in
set_option maxRecDepth 100000 in
/-- take_3_out, fresh -/
theorem c_KS_take_3_out (l : Launch) (dC : Nat → ClassId) (dI : Nat → Nat → Nat) (sz : Nat) (h0 : Nat) (t0 : Nat) (xm1 : Nat) (a0 : Nat) (w0 : Nat) (k0 : Nat) (e0 : Nat) (xm2 : Nat) (xm3 : Nat) (xm4 : Nat) (xm5 : Nat) (j0 : Nat) (j1 : Nat) (j2 : Nat) (ka : ClassId) (fa : Nat → Option Nat) (c3 : Nat) (i3 : Nat) (o3 : Nat) (b3 : Nat) (y3 : Nat) (z3 : Nat) (ro3 : Nat) (p1 : Int32) (hc3 : fa 3 = some c3) (hn : p1 < 0 ∨ 0 < p1) : Met l yX12_take wX12_take ({ frames := 1, cells := 0, slots := 0, locals := 21 }) (va_Pc [.ref h0, .int 3, .int p1] (pW (dC, dI) [(h0, .inr (9, [.ref t0, .ref xm1, .ref a0, .ref w0, .ref k0, .ref e0, .ref xm2, .ref xm3, .ref xm4, .ref xm5, .ref j0, .ref j1, .ref j2, .int 0, .int 0, .int 0, .int (-1), .int 1])), (a0, .inl (ka, 4, .inr (.inr (.inr (.inr fa))))), (c3, .inr (1, [.int 1, .ref i3, .ref o3, .ref b3, .int 0, .int 0, .int 0, .int 0, .ref y3, .int 0, .ref z3, .int 0])), (o3, .inr (0, [.int 65536, .ref ro3, .int 0, .int 0]))] [(ka, .object "KeySteward$Connection")] sz)) (va_Qi (fun (r : Int32) (_u : Unit) => r = 0) (fun (_u : Unit) (t : State) => bW (dC, dI) [] [] (va_A [(h0, .inr (9, [.ref t0, .ref xm1, .ref a0, .ref w0, .ref k0, .ref e0, .ref xm2, .ref xm3, .ref xm4, .ref xm5, .ref j0, .ref j1, .ref j2, .int 0, .int 0, .int 0, .int (-1), .int 1])), (a0, .inl (ka, 4, .inr (.inr (.inr (.inr fa))))), (c3, .inr (1, [.int 1, .ref i3, .ref o3, .ref b3, .int 0, .int 0, .int 0, .int 0, .ref y3, .int 0, .ref z3, .int 0])), (o3, .inr (0, [.int 65536, .ref ro3, .int 0, .int 0]))] sz) t) (va_A [(h0, .inr (9, [.ref t0, .ref xm1, .ref a0, .ref w0, .ref k0, .ref e0, .ref xm2, .ref xm3, .ref xm4, .ref xm5, .ref j0, .ref j1, .ref j2, .int 0, .int 0, .int 0, .int (-1), .int 1])), (a0, .inl (ka, 4, .inr (.inr (.inr (.inr fa))))), (c3, .inr (1, [.int 1, .ref i3, .ref o3, .ref b3, .int 0, .int 0, .int 0, .int 0, .ref y3, .int 0, .ref z3, .int 0])), (o3, .inr (0, [.int 65536, .ref ro3, .int 0, .int 0]))] sz)) 0 0 (va_A [(h0, .inr (9, [.ref t0, .ref xm1, .ref a0, .ref w0, .ref k0, .ref e0, .ref xm2, .ref xm3, .ref xm4, .ref xm5, .ref j0, .ref j1, .ref j2, .int 0, .int 0, .int 0, .int (-1), .int 1])), (a0, .inl (ka, 4, .inr (.inr (.inr (.inr fa))))), (c3, .inr (1, [.int 1, .ref i3, .ref o3, .ref b3, .int 0, .int 0, .int 0, .int 0, .ref y3, .int 0, .ref z3, .int 0])), (o3, .inr (0, [.int 65536, .ref ro3, .int 0, .int 0]))] sz) := by
  refine Met.ofW (cc := cX12_take) (maxL := 4) (ret := (some .boolean)) (by decide) rfl ?_
  intro p e s m args below meth c s₁ B hml hv
  obtain ⟨rfl, hsz, hP, hK, hD0, hfx⟩ := hv
  have hx := B.exec
  have hb := B.bytes
  have hr := B.returns
  have hts := atoms_spec (ws := wX12_take) B.pre
  have hkw : ∀ w ∈ kw, w.before _ s = true := fun w h => hts w (List.mem_cons_of_mem _ h)
  have hown : s.vm.findClass RX12 = some m.cls := findClass_of_methodNamed B.named
  have hlocks := B.notSynchronized
  subst hsz
  have hD := hD0.self (sz := s.heap.size)
  generalize hAe : va_A [(h0, .inr (9, [.ref t0, .ref xm1, .ref a0, .ref w0, .ref k0, .ref e0, .ref xm2, .ref xm3, .ref xm4, .ref xm5, .ref j0, .ref j1, .ref j2, .int 0, .int 0, .int 0, .int (-1), .int 1])), (a0, .inl (ka, 4, .inr (.inr (.inr (.inr fa))))), (c3, .inr (1, [.int 1, .ref i3, .ref o3, .ref b3, .int 0, .int 0, .int 0, .int 0, .ref y3, .int 0, .ref z3, .int 0])), (o3, .inr (0, [.int 65536, .ref ro3, .int 0, .int 0]))] s.heap.size = A at hD ⊢
  have hA : ∀ q : Nat, s.heap.size ≤ q → A q := fun q h => by rw [← hAe]; exact Or.inr h
  have hS : va_S A s.heap s.heap [] := va_S.rf
  have hP : va_P (dC, dI) classes [(h0, .inr (9, [.ref t0, .ref xm1, .ref a0, .ref w0, .ref k0, .ref e0, .ref xm2, .ref xm3, .ref xm4, .ref xm5, .ref j0, .ref j1, .ref j2, .int 0, .int 0, .int 0, .int (-1), .int 1])), (a0, .inl (ka, 4, .inr (.inr (.inr (.inr fa))))), (c3, .inr (1, [.int 1, .ref i3, .ref o3, .ref b3, .int 0, .int 0, .int 0, .int 0, .ref y3, .int 0, .ref z3, .int 0])), (o3, .inr (0, [.int 65536, .ref ro3, .int 0, .int 0]))] s.heap := hP
  have hl := lv_entry ([.ref h0, .int 3, .int p1]) (n := 4) (Nat.le_of_ble_eq_true rfl)
  rw [lg_entry_eq]
  generalize (lg_sl ([.ref h0, .int 3, .int p1]) ++ List.replicate (4 - (lg_sl ([.ref h0, .int 3, .int p1])).length) Slot.unset).toArray = ls at hl ⊢
  have hl : lv_has ls 4 [(0, .ref h0), (1, .int 3), (2, .int p1)] := hl
  refine lv_aload_n hx hb dX12_take_0 rfl (lv_at hl 0 rfl) ?_
  refine lv_iload_n hx hb dX12_take_1 rfl (lv_at hl 1 rfl) ?_
  have hPc := hP.sub (ws' := [(h0, .inr (9, [.ref t0, .ref xm1, .ref a0, .ref w0, .ref k0, .ref e0, .ref xm2, .ref xm3, .ref xm4, .ref xm5, .ref j0, .ref j1, .ref j2, .int 0, .int 0, .int 0, .int (-1), .int 1])), (a0, .inl (ka, 4, .inr (.inr (.inr (.inr fa)))))]) [0, 1] rfl
  have hDc := hD.sub (ws' := [(h0, .inr (9, [.ref t0, .ref xm1, .ref a0, .ref w0, .ref k0, .ref e0, .ref xm2, .ref xm3, .ref xm4, .ref xm5, .ref j0, .ref j1, .ref j2, .int 0, .int 0, .int 0, .int (-1), .int 1])), (a0, .inl (ka, 4, .inr (.inr (.inr (.inr fa)))))]) [0, 1] (by decide) rfl
  have hKc := hK.sub (tys' := [(ka, .object "KeySteward$Connection")]) [0] rfl
  have hFc := va_free (wc := [(h0, .inr (9, [.ref t0, .ref xm1, .ref a0, .ref w0, .ref k0, .ref e0, .ref xm2, .ref xm3, .ref xm4, .ref xm5, .ref j0, .ref j1, .ref j2, .int 0, .int 0, .int 0, .int (-1), .int 1])), (a0, .inl (ka, 4, .inr (.inr (.inr (.inr fa)))))]) hD hS hA [0, 1] rfl
  refine va_callq (va_runV (As := [.int 3]) (rest := []) ⟨hx, hb, hml, hown, hkw⟩ (c_KS_coOf_3 l dC dI s.heap.size h0 t0 xm1 a0 w0 k0 e0 xm2 xm3 xm4 xm5 j0 j1 j2 ka fa c3 hc3) (callVv 1 hkw (kwI m_121) rfl rfl rfl (hkw _ m_122) (hkw _ m_123) (hkw _ m_124) (hkw _ m_125) (by decide +kernel) ⟨Nat.le_of_ble_eq_true rfl, Nat.le_of_ble_eq_true rfl⟩) ⟨fbW, va_recv hK hP (ci := 9) (q0 := 0) rfl rfl, pW_in hPc hKc hDc hfx⟩ rfl rfl hl.1 rfl (lv_room (Nat.le_of_ble_eq_true rfl)) dX12_take_2 ⟨Nat.le_of_ble_eq_true rfl, Nat.le_of_ble_eq_true rfl⟩) hS (fun q _ h => hFc q h) hFc (fun r1 u t H1 locs ht hvm hw hB hz1 hk1 hS => ?_)
  obtain ⟨hP1, hK1, hD1⟩ := hB
  rw [ht] at hP1
  have hK1 := va_K.moved hvm.symm hK1
  obtain ⟨hP, hD⟩ := va_join (wr := [(c3, .inr (1, [.int 1, .ref i3, .ref o3, .ref b3, .int 0, .int 0, .int 0, .int 0, .ref y3, .int 0, .ref z3, .int 0])), (o3, .inr (0, [.int 65536, .ref ro3, .int 0, .int 0]))]) (w1 := [(h0, .inr (9, [.ref t0, .ref xm1, .ref a0, .ref w0, .ref k0, .ref e0, .ref xm2, .ref xm3, .ref xm4, .ref xm5, .ref j0, .ref j1, .ref j2, .int 0, .int 0, .int 0, .int (-1), .int 1])), (a0, .inl (ka, 4, .inr (.inr (.inr (.inr fa)))))]) hP hD [0, 1] [2, 3] rfl rfl (by decide) (by decide) hk1 hFc hP1 hD1
  have hK := (hK.sub (tys' := []) [] rfl).app hK1
  generalize H1 = H at hP hS ⊢
  have hP : va_P (dC, dI) classes [(c3, .inr (1, [.int 1, .ref i3, .ref o3, .ref b3, .int 0, .int 0, .int 0, .int 0, .ref y3, .int 0, .ref z3, .int 0])), (o3, .inr (0, [.int 65536, .ref ro3, .int 0, .int 0])), (h0, .inr (9, [.ref t0, .ref xm1, .ref a0, .ref w0, .ref k0, .ref e0, .ref xm2, .ref xm3, .ref xm4, .ref xm5, .ref j0, .ref j1, .ref j2, .int 0, .int 0, .int 0, .int (-1), .int 1])), (a0, .inl (ka, 4, .inr (.inr (.inr (.inr fa)))))] H := hP
  have hD : va_D A [(c3, .inr (1, [.int 1, .ref i3, .ref o3, .ref b3, .int 0, .int 0, .int 0, .int 0, .ref y3, .int 0, .ref z3, .int 0])), (o3, .inr (0, [.int 65536, .ref ro3, .int 0, .int 0])), (h0, .inr (9, [.ref t0, .ref xm1, .ref a0, .ref w0, .ref k0, .ref e0, .ref xm2, .ref xm3, .ref xm4, .ref xm5, .ref j0, .ref j1, .ref j2, .int 0, .int 0, .int 0, .int (-1), .int 1])), (a0, .inl (ka, 4, .inr (.inr (.inr (.inr fa)))))] := hD
  have hK : va_K (dC, dI) classes [(ka, .object "KeySteward$Connection")] s := hK
  have hw2 := hw
  try dsimp only at hw2
  subst hw2
  refine lv_astore_n (lv' := [(3, .ref c3), (0, .ref h0), (1, .int 3), (2, .int p1)]) hx hb dX12_take_5 rfl hl (by decide) rfl (fun ls hl => ?_)
  refine lv_aload_n hx hb dX12_take_6 rfl (lv_at hl 0 rfl) ?_
  refine lv_ifnull hx hb dX12_take_7 ?_
  refine lv_iload_n hx hb dX12_take_10 rfl (lv_at hl 3 rfl) ?_
  refine lv_if_lt (tgt := 25) hx hb dX12_take_11 (by decide) (fun c_11_0 => ?_) (fun c_11_0 => ?_)
  · refine lv_iconst (v := 0) hx hb dX12_take_25 (by decide) ?_
    have hP9 := hP.sub (ws' := []) [] rfl
    have hD9 := hD.sub (ws' := []) [] (by decide) rfl
    have hK9 := hK.sub (tys' := []) [] rfl
    refine W.widen (k := 0) (n := 0) (Nat.le_of_ble_eq_true rfl) (Nat.le_of_ble_eq_true rfl) ?_
    exact W.zret (v := 0) (ty := .boolean) hx hb hr rfl (fun t ht hW => ⟨⟨0, (), rfl, rfl, by rw [ht]; exact hP9, va_K.moved hW.alike hK9, hD9⟩, hS.F ht⟩) hS.2.2 dX12_take_26
  · refine lv_iload_n hx hb dX12_take_14 rfl (lv_at hl 3 rfl) ?_
    refine lv_aload_n hx hb dX12_take_15 rfl (lv_at hl 0 rfl) ?_
    refine va_get (D := (dC, dI)) (ci := 1) (v := .ref o3) (C := RX3) (T := TX3) (N := 12) hx hb hkw kin_X3 hown hK hP 0 rfl rfl 2 (by decide) (hkw _ m_126) (fun _ h9 => h9) rfl dX12_take_16 ?_
    refine va_get (D := (dC, dI)) (ci := 0) (v := .int 0) (C := RX1) (T := TX1) (N := 4) hx hb hkw kin_X1 hown hK hP 1 rfl rfl 2 (by decide) (hkw _ m_104) (fun _ h9 => h9) rfl dX12_take_19 ?_
    refine lv_icmp_le (tgt := 27) hx hb dX12_take_22 (by decide) (fun c_22_0 => absurd c_22_0 (dead_le hn c_11_0)) (fun c_22_0 => ?_)
    refine lv_iconst (v := 0) hx hb dX12_take_25 (by decide) ?_
    have hP9 := hP.sub (ws' := []) [] rfl
    have hD9 := hD.sub (ws' := []) [] (by decide) rfl
    have hK9 := hK.sub (tys' := []) [] rfl
    refine W.widen (k := 0) (n := 0) (Nat.le_of_ble_eq_true rfl) (Nat.le_of_ble_eq_true rfl) ?_
    exact W.zret (v := 0) (ty := .boolean) hx hb hr rfl (fun t ht hW => ⟨⟨0, (), rfl, rfl, by rw [ht]; exact hP9, va_K.moved hW.alike hK9, hD9⟩, hS.F ht⟩) hS.2.2 dX12_take_26

set_option maxHeartbeats 4000000 in
set_option maxRecDepth 100000 in
/-- open_3, fresh -/
theorem c_KS_open_3 (l : Launch) (dC : Nat → ClassId) (dI : Nat → Nat → Nat) (sz : Nat) (h0 : Nat) (t0 : Nat) (xm1 : Nat) (a0 : Nat) (w0 : Nat) (k0 : Nat) (e0 : Nat) (xm2 : Nat) (xm3 : Nat) (xm4 : Nat) (xm5 : Nat) (j0 : Nat) (j1 : Nat) (j2 : Nat) (ka : ClassId) (fa : Nat → Option Nat) (c3 : Nat) (i3 : Nat) (o3 : Nat) (b3 : Nat) (y3 : Nat) (z3 : Nat) (ri3 : Nat) (ro3 : Nat) (rb3 : Nat) (hc3 : fa 3 = some c3) : Met l yX12_open wX12_open ({ frames := 3, cells := 0, slots := 0, locals := 60 }) (va_Pc [.ref h0, .int 3] (pW (dC, dI) [(h0, .inr (9, [.ref t0, .ref xm1, .ref a0, .ref w0, .ref k0, .ref e0, .ref xm2, .ref xm3, .ref xm4, .ref xm5, .ref j0, .ref j1, .ref j2, .int 0, .int 0, .int 0, .int (-1), .int 1])), (a0, .inl (ka, 4, .inr (.inr (.inr (.inr fa))))), (c3, .inr (1, [.int 1, .ref i3, .ref o3, .ref b3, .int 0, .int 0, .int 0, .int 0, .ref y3, .int 0, .ref z3, .int 0])), (i3, .inr (0, [.int 131076, .ref ri3, .int 0, .int 0])), (o3, .inr (0, [.int 65536, .ref ro3, .int 0, .int 0])), (b3, .inr (0, [.int 67108864, .ref rb3, .int 0, .int 0]))] [(ka, .object "KeySteward$Connection")] sz)) (va_Qi (fun (r : Int32) (_u : Unit) => r = 1) (fun (_u : Unit) (t : State) => bW (dC, dI) [] [] (va_A [(h0, .inr (9, [.ref t0, .ref xm1, .ref a0, .ref w0, .ref k0, .ref e0, .ref xm2, .ref xm3, .ref xm4, .ref xm5, .ref j0, .ref j1, .ref j2, .int 0, .int 0, .int 0, .int (-1), .int 1])), (a0, .inl (ka, 4, .inr (.inr (.inr (.inr fa))))), (c3, .inr (1, [.int 1, .ref i3, .ref o3, .ref b3, .int 0, .int 0, .int 0, .int 0, .ref y3, .int 0, .ref z3, .int 0])), (i3, .inr (0, [.int 131076, .ref ri3, .int 0, .int 0])), (o3, .inr (0, [.int 65536, .ref ro3, .int 0, .int 0])), (b3, .inr (0, [.int 67108864, .ref rb3, .int 0, .int 0]))] sz) t) (va_A [(h0, .inr (9, [.ref t0, .ref xm1, .ref a0, .ref w0, .ref k0, .ref e0, .ref xm2, .ref xm3, .ref xm4, .ref xm5, .ref j0, .ref j1, .ref j2, .int 0, .int 0, .int 0, .int (-1), .int 1])), (a0, .inl (ka, 4, .inr (.inr (.inr (.inr fa))))), (c3, .inr (1, [.int 1, .ref i3, .ref o3, .ref b3, .int 0, .int 0, .int 0, .int 0, .ref y3, .int 0, .ref z3, .int 0])), (i3, .inr (0, [.int 131076, .ref ri3, .int 0, .int 0])), (o3, .inr (0, [.int 65536, .ref ro3, .int 0, .int 0])), (b3, .inr (0, [.int 67108864, .ref rb3, .int 0, .int 0]))] sz)) 0 0 (va_A [(h0, .inr (9, [.ref t0, .ref xm1, .ref a0, .ref w0, .ref k0, .ref e0, .ref xm2, .ref xm3, .ref xm4, .ref xm5, .ref j0, .ref j1, .ref j2, .int 0, .int 0, .int 0, .int (-1), .int 1])), (a0, .inl (ka, 4, .inr (.inr (.inr (.inr fa))))), (c3, .inr (1, [.int 1, .ref i3, .ref o3, .ref b3, .int 0, .int 0, .int 0, .int 0, .ref y3, .int 0, .ref z3, .int 0])), (i3, .inr (0, [.int 131076, .ref ri3, .int 0, .int 0])), (o3, .inr (0, [.int 65536, .ref ro3, .int 0, .int 0])), (b3, .inr (0, [.int 67108864, .ref rb3, .int 0, .int 0]))] sz) := by
  refine Met.ofW (cc := cX12_open) (maxL := 3) (ret := (some .boolean)) (by decide) rfl ?_
  intro p e s m args below meth c s₁ B hml hv
  obtain ⟨rfl, hsz, hP, hK, hD0, hfx⟩ := hv
  have hx := B.exec
  have hb := B.bytes
  have hr := B.returns
  have hts := atoms_spec (ws := wX12_open) B.pre
  have hkw : ∀ w ∈ kw, w.before _ s = true := fun w h => hts w (List.mem_cons_of_mem _ h)
  have hown : s.vm.findClass RX12 = some m.cls := findClass_of_methodNamed B.named
  have hlocks := B.notSynchronized
  subst hsz
  have hD := hD0.self (sz := s.heap.size)
  generalize hAe : va_A [(h0, .inr (9, [.ref t0, .ref xm1, .ref a0, .ref w0, .ref k0, .ref e0, .ref xm2, .ref xm3, .ref xm4, .ref xm5, .ref j0, .ref j1, .ref j2, .int 0, .int 0, .int 0, .int (-1), .int 1])), (a0, .inl (ka, 4, .inr (.inr (.inr (.inr fa))))), (c3, .inr (1, [.int 1, .ref i3, .ref o3, .ref b3, .int 0, .int 0, .int 0, .int 0, .ref y3, .int 0, .ref z3, .int 0])), (i3, .inr (0, [.int 131076, .ref ri3, .int 0, .int 0])), (o3, .inr (0, [.int 65536, .ref ro3, .int 0, .int 0])), (b3, .inr (0, [.int 67108864, .ref rb3, .int 0, .int 0]))] s.heap.size = A at hD ⊢
  have hA : ∀ q : Nat, s.heap.size ≤ q → A q := fun q h => by rw [← hAe]; exact Or.inr h
  have hS : va_S A s.heap s.heap [] := va_S.rf
  have hP : va_P (dC, dI) classes [(h0, .inr (9, [.ref t0, .ref xm1, .ref a0, .ref w0, .ref k0, .ref e0, .ref xm2, .ref xm3, .ref xm4, .ref xm5, .ref j0, .ref j1, .ref j2, .int 0, .int 0, .int 0, .int (-1), .int 1])), (a0, .inl (ka, 4, .inr (.inr (.inr (.inr fa))))), (c3, .inr (1, [.int 1, .ref i3, .ref o3, .ref b3, .int 0, .int 0, .int 0, .int 0, .ref y3, .int 0, .ref z3, .int 0])), (i3, .inr (0, [.int 131076, .ref ri3, .int 0, .int 0])), (o3, .inr (0, [.int 65536, .ref ro3, .int 0, .int 0])), (b3, .inr (0, [.int 67108864, .ref rb3, .int 0, .int 0]))] s.heap := hP
  have hl := lv_entry ([.ref h0, .int 3]) (n := 3) (Nat.le_of_ble_eq_true rfl)
  rw [lg_entry_eq]
  generalize (lg_sl ([.ref h0, .int 3]) ++ List.replicate (3 - (lg_sl ([.ref h0, .int 3])).length) Slot.unset).toArray = ls at hl ⊢
  have hl : lv_has ls 3 [(0, .ref h0), (1, .int 3)] := hl
  refine lv_aload_n hx hb dX12_open_0 rfl (lv_at hl 0 rfl) ?_
  refine lv_iload_n hx hb dX12_open_1 rfl (lv_at hl 1 rfl) ?_
  have hPc := hP.sub (ws' := [(h0, .inr (9, [.ref t0, .ref xm1, .ref a0, .ref w0, .ref k0, .ref e0, .ref xm2, .ref xm3, .ref xm4, .ref xm5, .ref j0, .ref j1, .ref j2, .int 0, .int 0, .int 0, .int (-1), .int 1])), (a0, .inl (ka, 4, .inr (.inr (.inr (.inr fa)))))]) [0, 1] rfl
  have hDc := hD.sub (ws' := [(h0, .inr (9, [.ref t0, .ref xm1, .ref a0, .ref w0, .ref k0, .ref e0, .ref xm2, .ref xm3, .ref xm4, .ref xm5, .ref j0, .ref j1, .ref j2, .int 0, .int 0, .int 0, .int (-1), .int 1])), (a0, .inl (ka, 4, .inr (.inr (.inr (.inr fa)))))]) [0, 1] (by decide) rfl
  have hKc := hK.sub (tys' := [(ka, .object "KeySteward$Connection")]) [0] rfl
  have hFc := va_free (wc := [(h0, .inr (9, [.ref t0, .ref xm1, .ref a0, .ref w0, .ref k0, .ref e0, .ref xm2, .ref xm3, .ref xm4, .ref xm5, .ref j0, .ref j1, .ref j2, .int 0, .int 0, .int 0, .int (-1), .int 1])), (a0, .inl (ka, 4, .inr (.inr (.inr (.inr fa)))))]) hD hS hA [0, 1] rfl
  refine va_callq (va_runV (As := [.int 3]) (rest := []) ⟨hx, hb, hml, hown, hkw⟩ (c_KS_coOf_3 l dC dI s.heap.size h0 t0 xm1 a0 w0 k0 e0 xm2 xm3 xm4 xm5 j0 j1 j2 ka fa c3 hc3) (callVv 1 hkw (kwI m_121) rfl rfl rfl (hkw _ m_122) (hkw _ m_123) (hkw _ m_124) (hkw _ m_125) (by decide +kernel) ⟨Nat.le_of_ble_eq_true rfl, Nat.le_of_ble_eq_true rfl⟩) ⟨fbW, va_recv hK hP (ci := 9) (q0 := 0) rfl rfl, pW_in hPc hKc hDc hfx⟩ rfl rfl hl.1 rfl (lv_room (Nat.le_of_ble_eq_true rfl)) dX12_open_2 ⟨Nat.le_of_ble_eq_true rfl, Nat.le_of_ble_eq_true rfl⟩) hS (fun q _ h => hFc q h) hFc (fun r1 u t H1 locs ht hvm hw hB hz1 hk1 hS => ?_)
  obtain ⟨hP1, hK1, hD1⟩ := hB
  rw [ht] at hP1
  have hK1 := va_K.moved hvm.symm hK1
  obtain ⟨hP, hD⟩ := va_join (wr := [(c3, .inr (1, [.int 1, .ref i3, .ref o3, .ref b3, .int 0, .int 0, .int 0, .int 0, .ref y3, .int 0, .ref z3, .int 0])), (i3, .inr (0, [.int 131076, .ref ri3, .int 0, .int 0])), (o3, .inr (0, [.int 65536, .ref ro3, .int 0, .int 0])), (b3, .inr (0, [.int 67108864, .ref rb3, .int 0, .int 0]))]) (w1 := [(h0, .inr (9, [.ref t0, .ref xm1, .ref a0, .ref w0, .ref k0, .ref e0, .ref xm2, .ref xm3, .ref xm4, .ref xm5, .ref j0, .ref j1, .ref j2, .int 0, .int 0, .int 0, .int (-1), .int 1])), (a0, .inl (ka, 4, .inr (.inr (.inr (.inr fa)))))]) hP hD [0, 1] [2, 3, 4, 5] rfl rfl (by decide) (by decide) hk1 hFc hP1 hD1
  have hK := (hK.sub (tys' := []) [] rfl).app hK1
  generalize H1 = H at hP hS ⊢
  have hP : va_P (dC, dI) classes [(c3, .inr (1, [.int 1, .ref i3, .ref o3, .ref b3, .int 0, .int 0, .int 0, .int 0, .ref y3, .int 0, .ref z3, .int 0])), (i3, .inr (0, [.int 131076, .ref ri3, .int 0, .int 0])), (o3, .inr (0, [.int 65536, .ref ro3, .int 0, .int 0])), (b3, .inr (0, [.int 67108864, .ref rb3, .int 0, .int 0])), (h0, .inr (9, [.ref t0, .ref xm1, .ref a0, .ref w0, .ref k0, .ref e0, .ref xm2, .ref xm3, .ref xm4, .ref xm5, .ref j0, .ref j1, .ref j2, .int 0, .int 0, .int 0, .int (-1), .int 1])), (a0, .inl (ka, 4, .inr (.inr (.inr (.inr fa)))))] H := hP
  have hD : va_D A [(c3, .inr (1, [.int 1, .ref i3, .ref o3, .ref b3, .int 0, .int 0, .int 0, .int 0, .ref y3, .int 0, .ref z3, .int 0])), (i3, .inr (0, [.int 131076, .ref ri3, .int 0, .int 0])), (o3, .inr (0, [.int 65536, .ref ro3, .int 0, .int 0])), (b3, .inr (0, [.int 67108864, .ref rb3, .int 0, .int 0])), (h0, .inr (9, [.ref t0, .ref xm1, .ref a0, .ref w0, .ref k0, .ref e0, .ref xm2, .ref xm3, .ref xm4, .ref xm5, .ref j0, .ref j1, .ref j2, .int 0, .int 0, .int 0, .int (-1), .int 1])), (a0, .inl (ka, 4, .inr (.inr (.inr (.inr fa)))))] := hD
  have hK : va_K (dC, dI) classes [(ka, .object "KeySteward$Connection")] s := hK
  have hw2 := hw
  try dsimp only at hw2
  subst hw2
  refine lv_astore_n (lv' := [(2, .ref c3), (0, .ref h0), (1, .int 3)]) hx hb dX12_open_5 rfl hl (by decide) rfl (fun ls hl => ?_)
  refine lv_aload_n hx hb dX12_open_6 rfl (lv_at hl 0 rfl) ?_
  refine lv_ifnull hx hb dX12_open_7 ?_
  refine lv_aload_n hx hb dX12_open_10 rfl (lv_at hl 1 rfl) ?_
  refine va_get (D := (dC, dI)) (ci := 9) (v := .int 1) (C := RX12) (T := TX12) (N := 18) hx hb hkw kin_X12 hown hK hP 4 rfl rfl 17 (by decide) (hkw _ m_127) (fun _ h9 => h9) rfl dX12_open_11 ?_
  refine lv_if_ne (tgt := 19) hx hb dX12_open_14 (by decide) (fun c_14_0 => ?_) (fun c_14_0 => absurd c_14_0 (by decide))
  refine lv_aload_n hx hb dX12_open_19 rfl (lv_at hl 0 rfl) ?_
  have hPc := hP.sub (ws' := [(c3, .inr (1, [.int 1, .ref i3, .ref o3, .ref b3, .int 0, .int 0, .int 0, .int 0, .ref y3, .int 0, .ref z3, .int 0])), (i3, .inr (0, [.int 131076, .ref ri3, .int 0, .int 0])), (b3, .inr (0, [.int 67108864, .ref rb3, .int 0, .int 0]))]) [0, 1, 3] rfl
  have hDc := hD.sub (ws' := [(c3, .inr (1, [.int 1, .ref i3, .ref o3, .ref b3, .int 0, .int 0, .int 0, .int 0, .ref y3, .int 0, .ref z3, .int 0])), (i3, .inr (0, [.int 131076, .ref ri3, .int 0, .int 0])), (b3, .inr (0, [.int 67108864, .ref rb3, .int 0, .int 0]))]) [0, 1, 3] (by decide) rfl
  have hKc := hK.sub (tys' := []) [] rfl
  have hFc := va_free (wc := [(c3, .inr (1, [.int 1, .ref i3, .ref o3, .ref b3, .int 0, .int 0, .int 0, .int 0, .ref y3, .int 0, .ref z3, .int 0])), (i3, .inr (0, [.int 131076, .ref ri3, .int 0, .int 0])), (b3, .inr (0, [.int 67108864, .ref rb3, .int 0, .int 0]))]) hD hS hA [0, 1, 3] rfl
  refine va_callv (va_runV (As := []) (rest := []) ⟨hx, hb, hml, hown, hkw⟩ (c_Co_close l dC dI H.size c3 i3 o3 b3 y3 z3 1 0 0 0 0 0 0 131076 ri3 0 0 67108864 rb3 0 0) (callVv 0 hkw (kwI m_128) rfl rfl rfl (hkw _ m_43) (hkw _ m_129) (hkw _ m_130) (hkw _ m_131) (by decide +kernel) ⟨Nat.le_of_ble_eq_true rfl, Nat.le_of_ble_eq_true rfl⟩) ⟨fbW, va_recv hK hP (ci := 1) (q0 := 0) rfl rfl, pW_in hPc hKc hDc hfx⟩ rfl rfl hl.1 rfl (lv_room (Nat.le_of_ble_eq_true rfl)) dX12_open_20 ⟨Nat.le_of_ble_eq_true rfl, Nat.le_of_ble_eq_true rfl⟩) hS (fun q _ h => hFc q h) hFc (fun u t H1 locs ht hvm hw hB hz1 hk1 hS => ?_)
  obtain ⟨hP1, hK1, hD1⟩ := hB
  rw [ht] at hP1
  have hK1 := va_K.moved hvm.symm hK1
  obtain ⟨hP, hD⟩ := va_join (wr := [(o3, .inr (0, [.int 65536, .ref ro3, .int 0, .int 0])), (h0, .inr (9, [.ref t0, .ref xm1, .ref a0, .ref w0, .ref k0, .ref e0, .ref xm2, .ref xm3, .ref xm4, .ref xm5, .ref j0, .ref j1, .ref j2, .int 0, .int 0, .int 0, .int (-1), .int 1])), (a0, .inl (ka, 4, .inr (.inr (.inr (.inr fa)))))]) (w1 := [(c3, .inr (1, [.int 0, .ref i3, .ref o3, .ref b3, .int 0, .int 0, .int 0, .int 0, .ref y3, .int 0, .ref z3, .int 0])), (i3, .inr (0, [.int 131076, .ref ri3, .int 0, .int 0])), (b3, .inr (0, [.int 67108864, .ref rb3, .int 0, .int 0]))]) hP hD [0, 1, 3] [2, 4, 5] rfl rfl (by decide) (by decide) hk1 hFc hP1 hD1
  have hK := (hK.sub (tys' := [(ka, .object "KeySteward$Connection")]) [0] rfl).app hK1
  generalize H1 = H at hP hS ⊢
  have hP : va_P (dC, dI) classes [(o3, .inr (0, [.int 65536, .ref ro3, .int 0, .int 0])), (h0, .inr (9, [.ref t0, .ref xm1, .ref a0, .ref w0, .ref k0, .ref e0, .ref xm2, .ref xm3, .ref xm4, .ref xm5, .ref j0, .ref j1, .ref j2, .int 0, .int 0, .int 0, .int (-1), .int 1])), (a0, .inl (ka, 4, .inr (.inr (.inr (.inr fa))))), (c3, .inr (1, [.int 0, .ref i3, .ref o3, .ref b3, .int 0, .int 0, .int 0, .int 0, .ref y3, .int 0, .ref z3, .int 0])), (i3, .inr (0, [.int 131076, .ref ri3, .int 0, .int 0])), (b3, .inr (0, [.int 67108864, .ref rb3, .int 0, .int 0]))] H := hP
  have hD : va_D A [(o3, .inr (0, [.int 65536, .ref ro3, .int 0, .int 0])), (h0, .inr (9, [.ref t0, .ref xm1, .ref a0, .ref w0, .ref k0, .ref e0, .ref xm2, .ref xm3, .ref xm4, .ref xm5, .ref j0, .ref j1, .ref j2, .int 0, .int 0, .int 0, .int (-1), .int 1])), (a0, .inl (ka, 4, .inr (.inr (.inr (.inr fa))))), (c3, .inr (1, [.int 0, .ref i3, .ref o3, .ref b3, .int 0, .int 0, .int 0, .int 0, .ref y3, .int 0, .ref z3, .int 0])), (i3, .inr (0, [.int 131076, .ref ri3, .int 0, .int 0])), (b3, .inr (0, [.int 67108864, .ref rb3, .int 0, .int 0]))] := hD
  have hK : va_K (dC, dI) classes [(ka, .object "KeySteward$Connection")] s := hK
  have hw3 := hw
  try dsimp only at hw3
  refine lv_aload_n hx hb dX12_open_23 rfl (lv_at hl 0 rfl) ?_
  refine va_get (D := (dC, dI)) (ci := 1) (v := .ref o3) (C := RX3) (T := TX3) (N := 12) hx hb hkw kin_X3 hown hK hP 3 rfl rfl 2 (by decide) (hkw _ m_126) (fun _ h9 => h9) rfl dX12_open_24 ?_
  have hPc := hP.sub (ws' := [(o3, .inr (0, [.int 65536, .ref ro3, .int 0, .int 0]))]) [0] rfl
  have hDc := hD.sub (ws' := [(o3, .inr (0, [.int 65536, .ref ro3, .int 0, .int 0]))]) [0] (by decide) rfl
  have hKc := hK.sub (tys' := []) [] rfl
  have hFc := va_free (wc := [(o3, .inr (0, [.int 65536, .ref ro3, .int 0, .int 0]))]) hD hS hA [0] rfl
  refine va_callv (va_runV (As := []) (rest := []) ⟨hx, hb, hml, hown, hkw⟩ (c_By_empty l dC dI H.size o3 ro3 65536 0 0) (callVv 0 hkw (kwI m_38) rfl rfl rfl (hkw _ m_9) (hkw _ m_132) (hkw _ m_40) (hkw _ m_41) (by decide +kernel) ⟨Nat.le_of_ble_eq_true rfl, Nat.le_of_ble_eq_true rfl⟩) ⟨fbW, va_recv hK hP (ci := 0) (q0 := 0) rfl rfl, pW_in hPc hKc hDc hfx⟩ rfl rfl hl.1 rfl (lv_room (Nat.le_of_ble_eq_true rfl)) dX12_open_27 ⟨Nat.le_of_ble_eq_true rfl, Nat.le_of_ble_eq_true rfl⟩) hS (fun q _ h => hFc q h) hFc (fun u t H1 locs ht hvm hw hB hz1 hk1 hS => ?_)
  obtain ⟨hP1, hK1, hD1⟩ := hB
  rw [ht] at hP1
  have hK1 := va_K.moved hvm.symm hK1
  obtain ⟨hP, hD⟩ := va_join (wr := [(h0, .inr (9, [.ref t0, .ref xm1, .ref a0, .ref w0, .ref k0, .ref e0, .ref xm2, .ref xm3, .ref xm4, .ref xm5, .ref j0, .ref j1, .ref j2, .int 0, .int 0, .int 0, .int (-1), .int 1])), (a0, .inl (ka, 4, .inr (.inr (.inr (.inr fa))))), (c3, .inr (1, [.int 0, .ref i3, .ref o3, .ref b3, .int 0, .int 0, .int 0, .int 0, .ref y3, .int 0, .ref z3, .int 0])), (i3, .inr (0, [.int 131076, .ref ri3, .int 0, .int 0])), (b3, .inr (0, [.int 67108864, .ref rb3, .int 0, .int 0]))]) (w1 := [(o3, .inr (0, [.int 65536, .ref ro3, .int 0, .int 0]))]) hP hD [0] [1, 2, 3, 4, 5] rfl rfl (by decide) (by decide) hk1 hFc hP1 hD1
  have hK := (hK.sub (tys' := [(ka, .object "KeySteward$Connection")]) [0] rfl).app hK1
  generalize H1 = H at hP hS ⊢
  have hP : va_P (dC, dI) classes [(h0, .inr (9, [.ref t0, .ref xm1, .ref a0, .ref w0, .ref k0, .ref e0, .ref xm2, .ref xm3, .ref xm4, .ref xm5, .ref j0, .ref j1, .ref j2, .int 0, .int 0, .int 0, .int (-1), .int 1])), (a0, .inl (ka, 4, .inr (.inr (.inr (.inr fa))))), (c3, .inr (1, [.int 0, .ref i3, .ref o3, .ref b3, .int 0, .int 0, .int 0, .int 0, .ref y3, .int 0, .ref z3, .int 0])), (i3, .inr (0, [.int 131076, .ref ri3, .int 0, .int 0])), (b3, .inr (0, [.int 67108864, .ref rb3, .int 0, .int 0])), (o3, .inr (0, [.int 65536, .ref ro3, .int 0, .int 0]))] H := hP
  have hD : va_D A [(h0, .inr (9, [.ref t0, .ref xm1, .ref a0, .ref w0, .ref k0, .ref e0, .ref xm2, .ref xm3, .ref xm4, .ref xm5, .ref j0, .ref j1, .ref j2, .int 0, .int 0, .int 0, .int (-1), .int 1])), (a0, .inl (ka, 4, .inr (.inr (.inr (.inr fa))))), (c3, .inr (1, [.int 0, .ref i3, .ref o3, .ref b3, .int 0, .int 0, .int 0, .int 0, .ref y3, .int 0, .ref z3, .int 0])), (i3, .inr (0, [.int 131076, .ref ri3, .int 0, .int 0])), (b3, .inr (0, [.int 67108864, .ref rb3, .int 0, .int 0])), (o3, .inr (0, [.int 65536, .ref ro3, .int 0, .int 0]))] := hD
  have hK : va_K (dC, dI) classes [(ka, .object "KeySteward$Connection")] s := hK
  have hw4 := hw
  try dsimp only at hw4
  refine lv_aload_n hx hb dX12_open_30 rfl (lv_at hl 0 rfl) ?_
  refine lv_iconst (v := 1) hx hb dX12_open_31 (by decide) ?_
  refine va_put (D := (dC, dI)) (ci := 1) (v := .int 1) (ty := .boolean) (C := RX3) (T := TX3) (N := 12) hx hb hkw kin_X3 tyX3 tyX3_ok nmX3 hown hK hP hD hS 2 rfl rfl 0 (by decide) (hkw _ m_114) (fun _ h9 => h9) rfl (by decide +kernel) rfl rfl (Nat.le_of_ble_eq_true rfl) dX12_open_32 (fun H locs hP hD hS => ?_)
  have hP : va_P (dC, dI) classes [(h0, .inr (9, [.ref t0, .ref xm1, .ref a0, .ref w0, .ref k0, .ref e0, .ref xm2, .ref xm3, .ref xm4, .ref xm5, .ref j0, .ref j1, .ref j2, .int 0, .int 0, .int 0, .int (-1), .int 1])), (a0, .inl (ka, 4, .inr (.inr (.inr (.inr fa))))), (c3, .inr (1, [.int 1, .ref i3, .ref o3, .ref b3, .int 0, .int 0, .int 0, .int 0, .ref y3, .int 0, .ref z3, .int 0])), (i3, .inr (0, [.int 131076, .ref ri3, .int 0, .int 0])), (b3, .inr (0, [.int 67108864, .ref rb3, .int 0, .int 0])), (o3, .inr (0, [.int 65536, .ref ro3, .int 0, .int 0]))] H := hP
  have hD : va_D A [(h0, .inr (9, [.ref t0, .ref xm1, .ref a0, .ref w0, .ref k0, .ref e0, .ref xm2, .ref xm3, .ref xm4, .ref xm5, .ref j0, .ref j1, .ref j2, .int 0, .int 0, .int 0, .int (-1), .int 1])), (a0, .inl (ka, 4, .inr (.inr (.inr (.inr fa))))), (c3, .inr (1, [.int 1, .ref i3, .ref o3, .ref b3, .int 0, .int 0, .int 0, .int 0, .ref y3, .int 0, .ref z3, .int 0])), (i3, .inr (0, [.int 131076, .ref ri3, .int 0, .int 0])), (b3, .inr (0, [.int 67108864, .ref rb3, .int 0, .int 0])), (o3, .inr (0, [.int 65536, .ref ro3, .int 0, .int 0]))] := hD
  refine lv_iconst (v := 1) hx hb dX12_open_35 (by decide) ?_
  have hP9 := hP.sub (ws' := []) [] rfl
  have hD9 := hD.sub (ws' := []) [] (by decide) rfl
  have hK9 := hK.sub (tys' := []) [] rfl
  refine W.widen (k := 0) (n := 0) (Nat.le_of_ble_eq_true rfl) (Nat.le_of_ble_eq_true rfl) ?_
  exact W.zret (v := 1) (ty := .boolean) hx hb hr rfl (fun t ht hW => ⟨⟨1, (), rfl, rfl, by rw [ht]; exact hP9, va_K.moved hW.alike hK9, hD9⟩, hS.F ht⟩) hS.2.2 dX12_open_36

set_option maxHeartbeats 4000000 in
set_option maxRecDepth 100000 in
/-- send_3, fresh -/
theorem c_KS_send_3 (l : Launch) (dC : Nat → ClassId) (dI : Nat → Nat → Nat) (sz : Nat) (h0 : Nat) (t0 : Nat) (xm1 : Nat) (a0 : Nat) (w0 : Nat) (k0 : Nat) (e0 : Nat) (xm2 : Nat) (xm3 : Nat) (xm4 : Nat) (xm5 : Nat) (j0 : Nat) (j1 : Nat) (j2 : Nat) (ka : ClassId) (fa : Nat → Option Nat) (tr : Nat) (kt : ClassId) (gt : Nat → Int32) (c3 : Nat) (i3 : Nat) (o3 : Nat) (b3 : Nat) (y3 : Nat) (z3 : Nat) (ri3 : Nat) (ki : ClassId) (gi : Nat → Int32) (u0 : Nat) (u1 : Nat) (u2 : Nat) (u3 : Nat) (u4 : Nat) (hc3 : fa 3 = some c3) : Met l yX12_send wX12_send ({ frames := 2, cells := 0, slots := 0, locals := 63 }) (va_Pc [.ref h0, .int 3] (pW (dC, dI) [(h0, .inr (9, [.ref t0, .ref xm1, .ref a0, .ref w0, .ref k0, .ref e0, .ref xm2, .ref xm3, .ref xm4, .ref xm5, .ref j0, .ref j1, .ref j2, .int 0, .int 0, .int 0, .int (-1), .int 1])), (a0, .inl (ka, 4, .inr (.inr (.inr (.inr fa))))), (t0, .inr (0, [.int 65540, .ref tr, .int 0, .int 0])), (tr, .inl (kt, 64, .inl gt)), (c3, .inr (1, [.int 1, .ref i3, .ref o3, .ref b3, .int 0, .int 0, .int 0, .int 0, .ref y3, .int 0, .ref z3, .int 0])), (i3, .inr (0, [.int 131076, .ref ri3, .int 0, .int 0])), (ri3, .inl (ki, 64, .inl gi)), (k0, .inr (3, [.ref u0, .ref u1, .ref u2, .ref u3, .int 0, .int 0, .ref u4, .null, .null, .long 0, .long 0, .int 0, .int 0, .int 0, .int 0, .int 0, .long 0]))] [(ka, .object "KeySteward$Connection"), (kt, .byte), (ki, .byte)] sz)) (va_Qi (fun (r : Int32) (_u : Unit) => r = 0) (fun (_u : Unit) (t : State) => bW (dC, dI) [] [] (va_A [(h0, .inr (9, [.ref t0, .ref xm1, .ref a0, .ref w0, .ref k0, .ref e0, .ref xm2, .ref xm3, .ref xm4, .ref xm5, .ref j0, .ref j1, .ref j2, .int 0, .int 0, .int 0, .int (-1), .int 1])), (a0, .inl (ka, 4, .inr (.inr (.inr (.inr fa))))), (t0, .inr (0, [.int 65540, .ref tr, .int 0, .int 0])), (tr, .inl (kt, 64, .inl gt)), (c3, .inr (1, [.int 1, .ref i3, .ref o3, .ref b3, .int 0, .int 0, .int 0, .int 0, .ref y3, .int 0, .ref z3, .int 0])), (i3, .inr (0, [.int 131076, .ref ri3, .int 0, .int 0])), (ri3, .inl (ki, 64, .inl gi)), (k0, .inr (3, [.ref u0, .ref u1, .ref u2, .ref u3, .int 0, .int 0, .ref u4, .null, .null, .long 0, .long 0, .int 0, .int 0, .int 0, .int 0, .int 0, .long 0]))] sz) t) (va_A [(h0, .inr (9, [.ref t0, .ref xm1, .ref a0, .ref w0, .ref k0, .ref e0, .ref xm2, .ref xm3, .ref xm4, .ref xm5, .ref j0, .ref j1, .ref j2, .int 0, .int 0, .int 0, .int (-1), .int 1])), (a0, .inl (ka, 4, .inr (.inr (.inr (.inr fa))))), (t0, .inr (0, [.int 65540, .ref tr, .int 0, .int 0])), (tr, .inl (kt, 64, .inl gt)), (c3, .inr (1, [.int 1, .ref i3, .ref o3, .ref b3, .int 0, .int 0, .int 0, .int 0, .ref y3, .int 0, .ref z3, .int 0])), (i3, .inr (0, [.int 131076, .ref ri3, .int 0, .int 0])), (ri3, .inl (ki, 64, .inl gi)), (k0, .inr (3, [.ref u0, .ref u1, .ref u2, .ref u3, .int 0, .int 0, .ref u4, .null, .null, .long 0, .long 0, .int 0, .int 0, .int 0, .int 0, .int 0, .long 0]))] sz)) 0 0 (va_A [(h0, .inr (9, [.ref t0, .ref xm1, .ref a0, .ref w0, .ref k0, .ref e0, .ref xm2, .ref xm3, .ref xm4, .ref xm5, .ref j0, .ref j1, .ref j2, .int 0, .int 0, .int 0, .int (-1), .int 1])), (a0, .inl (ka, 4, .inr (.inr (.inr (.inr fa))))), (t0, .inr (0, [.int 65540, .ref tr, .int 0, .int 0])), (tr, .inl (kt, 64, .inl gt)), (c3, .inr (1, [.int 1, .ref i3, .ref o3, .ref b3, .int 0, .int 0, .int 0, .int 0, .ref y3, .int 0, .ref z3, .int 0])), (i3, .inr (0, [.int 131076, .ref ri3, .int 0, .int 0])), (ri3, .inl (ki, 64, .inl gi)), (k0, .inr (3, [.ref u0, .ref u1, .ref u2, .ref u3, .int 0, .int 0, .ref u4, .null, .null, .long 0, .long 0, .int 0, .int 0, .int 0, .int 0, .int 0, .long 0]))] sz) := by
  refine Met.ofW (cc := cX12_send) (maxL := 10) (ret := (some .int)) (by decide) rfl ?_
  intro p e s m args below meth c s₁ B hml hv
  obtain ⟨rfl, hsz, hP, hK, hD0, hfx⟩ := hv
  have hx := B.exec
  have hb := B.bytes
  have hr := B.returns
  have hts := atoms_spec (ws := wX12_send) B.pre
  have hkw : ∀ w ∈ kw, w.before _ s = true := fun w h => hts w (List.mem_cons_of_mem _ h)
  have hown : s.vm.findClass RX12 = some m.cls := findClass_of_methodNamed B.named
  have hlocks := B.notSynchronized
  subst hsz
  have hD := hD0.self (sz := s.heap.size)
  generalize hAe : va_A [(h0, .inr (9, [.ref t0, .ref xm1, .ref a0, .ref w0, .ref k0, .ref e0, .ref xm2, .ref xm3, .ref xm4, .ref xm5, .ref j0, .ref j1, .ref j2, .int 0, .int 0, .int 0, .int (-1), .int 1])), (a0, .inl (ka, 4, .inr (.inr (.inr (.inr fa))))), (t0, .inr (0, [.int 65540, .ref tr, .int 0, .int 0])), (tr, .inl (kt, 64, .inl gt)), (c3, .inr (1, [.int 1, .ref i3, .ref o3, .ref b3, .int 0, .int 0, .int 0, .int 0, .ref y3, .int 0, .ref z3, .int 0])), (i3, .inr (0, [.int 131076, .ref ri3, .int 0, .int 0])), (ri3, .inl (ki, 64, .inl gi)), (k0, .inr (3, [.ref u0, .ref u1, .ref u2, .ref u3, .int 0, .int 0, .ref u4, .null, .null, .long 0, .long 0, .int 0, .int 0, .int 0, .int 0, .int 0, .long 0]))] s.heap.size = A at hD ⊢
  have hA : ∀ q : Nat, s.heap.size ≤ q → A q := fun q h => by rw [← hAe]; exact Or.inr h
  have hS : va_S A s.heap s.heap [] := va_S.rf
  have hP : va_P (dC, dI) classes [(h0, .inr (9, [.ref t0, .ref xm1, .ref a0, .ref w0, .ref k0, .ref e0, .ref xm2, .ref xm3, .ref xm4, .ref xm5, .ref j0, .ref j1, .ref j2, .int 0, .int 0, .int 0, .int (-1), .int 1])), (a0, .inl (ka, 4, .inr (.inr (.inr (.inr fa))))), (t0, .inr (0, [.int 65540, .ref tr, .int 0, .int 0])), (tr, .inl (kt, 64, .inl gt)), (c3, .inr (1, [.int 1, .ref i3, .ref o3, .ref b3, .int 0, .int 0, .int 0, .int 0, .ref y3, .int 0, .ref z3, .int 0])), (i3, .inr (0, [.int 131076, .ref ri3, .int 0, .int 0])), (ri3, .inl (ki, 64, .inl gi)), (k0, .inr (3, [.ref u0, .ref u1, .ref u2, .ref u3, .int 0, .int 0, .ref u4, .null, .null, .long 0, .long 0, .int 0, .int 0, .int 0, .int 0, .int 0, .long 0]))] s.heap := hP
  have hl := lv_entry ([.ref h0, .int 3]) (n := 10) (Nat.le_of_ble_eq_true rfl)
  rw [lg_entry_eq]
  generalize (lg_sl ([.ref h0, .int 3]) ++ List.replicate (10 - (lg_sl ([.ref h0, .int 3])).length) Slot.unset).toArray = ls at hl ⊢
  have hl : lv_has ls 10 [(0, .ref h0), (1, .int 3)] := hl
  refine lv_aload_n hx hb dX12_send_0 rfl (lv_at hl 0 rfl) ?_
  refine lv_iload_n hx hb dX12_send_1 rfl (lv_at hl 1 rfl) ?_
  have hPc := hP.sub (ws' := [(h0, .inr (9, [.ref t0, .ref xm1, .ref a0, .ref w0, .ref k0, .ref e0, .ref xm2, .ref xm3, .ref xm4, .ref xm5, .ref j0, .ref j1, .ref j2, .int 0, .int 0, .int 0, .int (-1), .int 1])), (a0, .inl (ka, 4, .inr (.inr (.inr (.inr fa)))))]) [0, 1] rfl
  have hDc := hD.sub (ws' := [(h0, .inr (9, [.ref t0, .ref xm1, .ref a0, .ref w0, .ref k0, .ref e0, .ref xm2, .ref xm3, .ref xm4, .ref xm5, .ref j0, .ref j1, .ref j2, .int 0, .int 0, .int 0, .int (-1), .int 1])), (a0, .inl (ka, 4, .inr (.inr (.inr (.inr fa)))))]) [0, 1] (by decide) rfl
  have hKc := hK.sub (tys' := [(ka, .object "KeySteward$Connection")]) [0] rfl
  have hFc := va_free (wc := [(h0, .inr (9, [.ref t0, .ref xm1, .ref a0, .ref w0, .ref k0, .ref e0, .ref xm2, .ref xm3, .ref xm4, .ref xm5, .ref j0, .ref j1, .ref j2, .int 0, .int 0, .int 0, .int (-1), .int 1])), (a0, .inl (ka, 4, .inr (.inr (.inr (.inr fa)))))]) hD hS hA [0, 1] rfl
  refine va_callq (va_runV (As := [.int 3]) (rest := []) ⟨hx, hb, hml, hown, hkw⟩ (c_KS_coOf_3 l dC dI s.heap.size h0 t0 xm1 a0 w0 k0 e0 xm2 xm3 xm4 xm5 j0 j1 j2 ka fa c3 hc3) (callVv 1 hkw (kwI m_121) rfl rfl rfl (hkw _ m_122) (hkw _ m_123) (hkw _ m_124) (hkw _ m_125) (by decide +kernel) ⟨Nat.le_of_ble_eq_true rfl, Nat.le_of_ble_eq_true rfl⟩) ⟨fbW, va_recv hK hP (ci := 9) (q0 := 0) rfl rfl, pW_in hPc hKc hDc hfx⟩ rfl rfl hl.1 rfl (lv_room (Nat.le_of_ble_eq_true rfl)) dX12_send_2 ⟨Nat.le_of_ble_eq_true rfl, Nat.le_of_ble_eq_true rfl⟩) hS (fun q _ h => hFc q h) hFc (fun r1 u t H1 locs ht hvm hw hB hz1 hk1 hS => ?_)
  obtain ⟨hP1, hK1, hD1⟩ := hB
  rw [ht] at hP1
  have hK1 := va_K.moved hvm.symm hK1
  obtain ⟨hP, hD⟩ := va_join (wr := [(t0, .inr (0, [.int 65540, .ref tr, .int 0, .int 0])), (tr, .inl (kt, 64, .inl gt)), (c3, .inr (1, [.int 1, .ref i3, .ref o3, .ref b3, .int 0, .int 0, .int 0, .int 0, .ref y3, .int 0, .ref z3, .int 0])), (i3, .inr (0, [.int 131076, .ref ri3, .int 0, .int 0])), (ri3, .inl (ki, 64, .inl gi)), (k0, .inr (3, [.ref u0, .ref u1, .ref u2, .ref u3, .int 0, .int 0, .ref u4, .null, .null, .long 0, .long 0, .int 0, .int 0, .int 0, .int 0, .int 0, .long 0]))]) (w1 := [(h0, .inr (9, [.ref t0, .ref xm1, .ref a0, .ref w0, .ref k0, .ref e0, .ref xm2, .ref xm3, .ref xm4, .ref xm5, .ref j0, .ref j1, .ref j2, .int 0, .int 0, .int 0, .int (-1), .int 1])), (a0, .inl (ka, 4, .inr (.inr (.inr (.inr fa)))))]) hP hD [0, 1] [2, 3, 4, 5, 6, 7] rfl rfl (by decide) (by decide) hk1 hFc hP1 hD1
  have hK := (hK.sub (tys' := [(kt, .byte), (ki, .byte)]) [1, 2] rfl).app hK1
  generalize H1 = H at hP hS ⊢
  have hP : va_P (dC, dI) classes [(t0, .inr (0, [.int 65540, .ref tr, .int 0, .int 0])), (tr, .inl (kt, 64, .inl gt)), (c3, .inr (1, [.int 1, .ref i3, .ref o3, .ref b3, .int 0, .int 0, .int 0, .int 0, .ref y3, .int 0, .ref z3, .int 0])), (i3, .inr (0, [.int 131076, .ref ri3, .int 0, .int 0])), (ri3, .inl (ki, 64, .inl gi)), (k0, .inr (3, [.ref u0, .ref u1, .ref u2, .ref u3, .int 0, .int 0, .ref u4, .null, .null, .long 0, .long 0, .int 0, .int 0, .int 0, .int 0, .int 0, .long 0])), (h0, .inr (9, [.ref t0, .ref xm1, .ref a0, .ref w0, .ref k0, .ref e0, .ref xm2, .ref xm3, .ref xm4, .ref xm5, .ref j0, .ref j1, .ref j2, .int 0, .int 0, .int 0, .int (-1), .int 1])), (a0, .inl (ka, 4, .inr (.inr (.inr (.inr fa)))))] H := hP
  have hD : va_D A [(t0, .inr (0, [.int 65540, .ref tr, .int 0, .int 0])), (tr, .inl (kt, 64, .inl gt)), (c3, .inr (1, [.int 1, .ref i3, .ref o3, .ref b3, .int 0, .int 0, .int 0, .int 0, .ref y3, .int 0, .ref z3, .int 0])), (i3, .inr (0, [.int 131076, .ref ri3, .int 0, .int 0])), (ri3, .inl (ki, 64, .inl gi)), (k0, .inr (3, [.ref u0, .ref u1, .ref u2, .ref u3, .int 0, .int 0, .ref u4, .null, .null, .long 0, .long 0, .int 0, .int 0, .int 0, .int 0, .int 0, .long 0])), (h0, .inr (9, [.ref t0, .ref xm1, .ref a0, .ref w0, .ref k0, .ref e0, .ref xm2, .ref xm3, .ref xm4, .ref xm5, .ref j0, .ref j1, .ref j2, .int 0, .int 0, .int 0, .int (-1), .int 1])), (a0, .inl (ka, 4, .inr (.inr (.inr (.inr fa)))))] := hD
  have hK : va_K (dC, dI) classes [(kt, .byte), (ki, .byte), (ka, .object "KeySteward$Connection")] s := hK
  have hw2 := hw
  try dsimp only at hw2
  subst hw2
  refine lv_astore_n (lv' := [(2, .ref c3), (0, .ref h0), (1, .int 3)]) hx hb dX12_send_5 rfl hl (by decide) rfl (fun ls hl => ?_)
  refine lv_aload_n hx hb dX12_send_6 rfl (lv_at hl 0 rfl) ?_
  refine lv_ifnull hx hb dX12_send_7 ?_
  refine lv_aload_n hx hb dX12_send_10 rfl (lv_at hl 0 rfl) ?_
  refine va_get (D := (dC, dI)) (ci := 1) (v := .int 1) (C := RX3) (T := TX3) (N := 12) hx hb hkw kin_X3 hown hK hP 2 rfl rfl 0 (by decide) (hkw _ m_114) (fun _ h9 => h9) rfl dX12_send_11 ?_
  refine lv_if_eq (tgt := 24) hx hb dX12_send_14 (by decide) (fun c_14_0 => absurd c_14_0 (by decide)) (fun c_14_0 => ?_)
  refine lv_aload_n hx hb dX12_send_17 rfl (lv_at hl 1 rfl) ?_
  refine va_get (D := (dC, dI)) (ci := 9) (v := .int 1) (C := RX12) (T := TX12) (N := 18) hx hb hkw kin_X12 hown hK hP 6 rfl rfl 17 (by decide) (hkw _ m_127) (fun _ h9 => h9) rfl dX12_send_18 ?_
  refine lv_if_ne (tgt := 33) hx hb dX12_send_21 (by decide) (fun c_21_0 => ?_) (fun c_21_0 => absurd c_21_0 (by decide))
  refine lv_aload_n hx hb dX12_send_33 rfl (lv_at hl 0 rfl) ?_
  refine va_get (D := (dC, dI)) (ci := 1) (v := .ref i3) (C := RX3) (T := TX3) (N := 12) hx hb hkw kin_X3 hown hK hP 2 rfl rfl 1 (by decide) (hkw _ m_115) (fun _ h9 => h9) rfl dX12_send_34 ?_
  refine lv_aload_n hx hb dX12_send_37 rfl (lv_at hl 1 rfl) ?_
  refine va_get (D := (dC, dI)) (ci := 9) (v := .ref t0) (C := RX12) (T := TX12) (N := 18) hx hb hkw kin_X12 hown hK hP 6 rfl rfl 0 (by decide) (hkw _ m_103) (fun _ h9 => h9) rfl dX12_send_38 ?_
  refine va_get (D := (dC, dI)) (ci := 0) (v := .ref tr) (C := RX1) (T := TX1) (N := 4) hx hb hkw kin_X1 hown hK hP 0 rfl rfl 1 (by decide) (hkw _ m_133) (fun _ h9 => h9) rfl dX12_send_41 ?_
  refine lv_iconst (v := 0) hx hb dX12_send_44 (by decide) ?_
  refine lv_aload_n hx hb dX12_send_45 rfl (lv_at hl 1 rfl) ?_
  refine va_get (D := (dC, dI)) (ci := 9) (v := .ref t0) (C := RX12) (T := TX12) (N := 18) hx hb hkw kin_X12 hown hK hP 6 rfl rfl 0 (by decide) (hkw _ m_103) (fun _ h9 => h9) rfl dX12_send_46 ?_
  refine va_get (D := (dC, dI)) (ci := 0) (v := .int 0) (C := RX1) (T := TX1) (N := 4) hx hb hkw kin_X1 hown hK hP 0 rfl rfl 2 (by decide) (hkw _ m_104) (fun _ h9 => h9) rfl dX12_send_49 ?_
  have hPc := hP.sub (ws' := [(i3, .inr (0, [.int 131076, .ref ri3, .int 0, .int 0])), (ri3, .inl (ki, 64, .inl gi)), (tr, .inl (kt, 64, .inl gt))]) [3, 4, 1] rfl
  have hDc := hD.sub (ws' := [(i3, .inr (0, [.int 131076, .ref ri3, .int 0, .int 0])), (ri3, .inl (ki, 64, .inl gi)), (tr, .inl (kt, 64, .inl gt))]) [3, 4, 1] (by decide) rfl
  have hKc := hK.sub (tys' := [(ki, .byte), (kt, .byte)]) [1, 0] rfl
  have hFc := va_free (wc := [(i3, .inr (0, [.int 131076, .ref ri3, .int 0, .int 0])), (ri3, .inl (ki, 64, .inl gi)), (tr, .inl (kt, 64, .inl gt))]) hD hS hA [3, 4, 1] rfl
  refine va_callv (va_runV (As := [.ref tr, .int 0, .int 0]) (rest := []) ⟨hx, hb, hml, hown, hkw⟩ (c_By_append l dC dI H.size i3 ri3 tr ki kt gi gt) (callVv 3 hkw (kwI m_134) rfl rfl rfl (hkw _ m_9) (hkw _ m_135) (hkw _ m_136) (hkw _ m_137) (by decide +kernel) ⟨Nat.le_of_ble_eq_true rfl, Nat.le_of_ble_eq_true rfl⟩) ⟨fbW, va_recv hK hP (ci := 0) (q0 := 3) rfl rfl, pW_in hPc hKc hDc hfx⟩ rfl rfl hl.1 rfl (lv_room (Nat.le_of_ble_eq_true rfl)) dX12_send_52 ⟨Nat.le_of_ble_eq_true rfl, Nat.le_of_ble_eq_true rfl⟩) hS (fun q _ h => hFc q h) hFc (fun u t H1 locs ht hvm hw hB hz1 hk1 hS => ?_)
  obtain ⟨q3, rfl⟩ : ∃ z, z = u := ⟨_, rfl⟩
  obtain ⟨hP1, hK1, hD1⟩ := hB
  rw [ht] at hP1
  have hK1 := va_K.moved hvm.symm hK1
  obtain ⟨hP, hD⟩ := va_join (wr := [(t0, .inr (0, [.int 65540, .ref tr, .int 0, .int 0])), (c3, .inr (1, [.int 1, .ref i3, .ref o3, .ref b3, .int 0, .int 0, .int 0, .int 0, .ref y3, .int 0, .ref z3, .int 0])), (k0, .inr (3, [.ref u0, .ref u1, .ref u2, .ref u3, .int 0, .int 0, .ref u4, .null, .null, .long 0, .long 0, .int 0, .int 0, .int 0, .int 0, .int 0, .long 0])), (h0, .inr (9, [.ref t0, .ref xm1, .ref a0, .ref w0, .ref k0, .ref e0, .ref xm2, .ref xm3, .ref xm4, .ref xm5, .ref j0, .ref j1, .ref j2, .int 0, .int 0, .int 0, .int (-1), .int 1])), (a0, .inl (ka, 4, .inr (.inr (.inr (.inr fa)))))]) (w1 := [(i3, .inr (0, [.int 131076, .ref ri3, .int 0, .int 0])), (ri3, .inl (ki, 64, .inl q3)), (tr, .inl (kt, 64, .inl gt))]) hP hD [3, 4, 1] [0, 2, 5, 6, 7] rfl rfl (by decide) (by decide) hk1 hFc hP1 hD1
  have hK := (hK.sub (tys' := [(ka, .object "KeySteward$Connection")]) [2] rfl).app hK1
  generalize H1 = H at hP hS ⊢
  have hP : va_P (dC, dI) classes [(t0, .inr (0, [.int 65540, .ref tr, .int 0, .int 0])), (c3, .inr (1, [.int 1, .ref i3, .ref o3, .ref b3, .int 0, .int 0, .int 0, .int 0, .ref y3, .int 0, .ref z3, .int 0])), (k0, .inr (3, [.ref u0, .ref u1, .ref u2, .ref u3, .int 0, .int 0, .ref u4, .null, .null, .long 0, .long 0, .int 0, .int 0, .int 0, .int 0, .int 0, .long 0])), (h0, .inr (9, [.ref t0, .ref xm1, .ref a0, .ref w0, .ref k0, .ref e0, .ref xm2, .ref xm3, .ref xm4, .ref xm5, .ref j0, .ref j1, .ref j2, .int 0, .int 0, .int 0, .int (-1), .int 1])), (a0, .inl (ka, 4, .inr (.inr (.inr (.inr fa))))), (i3, .inr (0, [.int 131076, .ref ri3, .int 0, .int 0])), (ri3, .inl (ki, 64, .inl q3)), (tr, .inl (kt, 64, .inl gt))] H := hP
  have hD : va_D A [(t0, .inr (0, [.int 65540, .ref tr, .int 0, .int 0])), (c3, .inr (1, [.int 1, .ref i3, .ref o3, .ref b3, .int 0, .int 0, .int 0, .int 0, .ref y3, .int 0, .ref z3, .int 0])), (k0, .inr (3, [.ref u0, .ref u1, .ref u2, .ref u3, .int 0, .int 0, .ref u4, .null, .null, .long 0, .long 0, .int 0, .int 0, .int 0, .int 0, .int 0, .long 0])), (h0, .inr (9, [.ref t0, .ref xm1, .ref a0, .ref w0, .ref k0, .ref e0, .ref xm2, .ref xm3, .ref xm4, .ref xm5, .ref j0, .ref j1, .ref j2, .int 0, .int 0, .int 0, .int (-1), .int 1])), (a0, .inl (ka, 4, .inr (.inr (.inr (.inr fa))))), (i3, .inr (0, [.int 131076, .ref ri3, .int 0, .int 0])), (ri3, .inl (ki, 64, .inl q3)), (tr, .inl (kt, 64, .inl gt))] := hD
  have hK : va_K (dC, dI) classes [(ka, .object "KeySteward$Connection"), (ki, .byte), (kt, .byte)] s := hK
  have hw4 := hw
  try dsimp only at hw4
  refine lv_aload_n hx hb dX12_send_55 rfl (lv_at hl 1 rfl) ?_
  refine va_get (D := (dC, dI)) (ci := 9) (v := .ref t0) (C := RX12) (T := TX12) (N := 18) hx hb hkw kin_X12 hown hK hP 3 rfl rfl 0 (by decide) (hkw _ m_103) (fun _ h9 => h9) rfl dX12_send_56 ?_
  have hPc := hP.sub (ws' := [(t0, .inr (0, [.int 65540, .ref tr, .int 0, .int 0]))]) [0] rfl
  have hDc := hD.sub (ws' := [(t0, .inr (0, [.int 65540, .ref tr, .int 0, .int 0]))]) [0] (by decide) rfl
  have hKc := hK.sub (tys' := []) [] rfl
  have hFc := va_free (wc := [(t0, .inr (0, [.int 65540, .ref tr, .int 0, .int 0]))]) hD hS hA [0] rfl
  refine va_callv (va_runV (As := []) (rest := []) ⟨hx, hb, hml, hown, hkw⟩ (c_By_empty l dC dI H.size t0 tr 65540 0 0) (callVv 0 hkw (kwI m_38) rfl rfl rfl (hkw _ m_9) (hkw _ m_132) (hkw _ m_40) (hkw _ m_41) (by decide +kernel) ⟨Nat.le_of_ble_eq_true rfl, Nat.le_of_ble_eq_true rfl⟩) ⟨fbW, va_recv hK hP (ci := 0) (q0 := 0) rfl rfl, pW_in hPc hKc hDc hfx⟩ rfl rfl hl.1 rfl (lv_room (Nat.le_of_ble_eq_true rfl)) dX12_send_59 ⟨Nat.le_of_ble_eq_true rfl, Nat.le_of_ble_eq_true rfl⟩) hS (fun q _ h => hFc q h) hFc (fun u t H1 locs ht hvm hw hB hz1 hk1 hS => ?_)
  obtain ⟨hP1, hK1, hD1⟩ := hB
  rw [ht] at hP1
  have hK1 := va_K.moved hvm.symm hK1
  obtain ⟨hP, hD⟩ := va_join (wr := [(c3, .inr (1, [.int 1, .ref i3, .ref o3, .ref b3, .int 0, .int 0, .int 0, .int 0, .ref y3, .int 0, .ref z3, .int 0])), (k0, .inr (3, [.ref u0, .ref u1, .ref u2, .ref u3, .int 0, .int 0, .ref u4, .null, .null, .long 0, .long 0, .int 0, .int 0, .int 0, .int 0, .int 0, .long 0])), (h0, .inr (9, [.ref t0, .ref xm1, .ref a0, .ref w0, .ref k0, .ref e0, .ref xm2, .ref xm3, .ref xm4, .ref xm5, .ref j0, .ref j1, .ref j2, .int 0, .int 0, .int 0, .int (-1), .int 1])), (a0, .inl (ka, 4, .inr (.inr (.inr (.inr fa))))), (i3, .inr (0, [.int 131076, .ref ri3, .int 0, .int 0])), (ri3, .inl (ki, 64, .inl q3)), (tr, .inl (kt, 64, .inl gt))]) (w1 := [(t0, .inr (0, [.int 65540, .ref tr, .int 0, .int 0]))]) hP hD [0] [1, 2, 3, 4, 5, 6, 7] rfl rfl (by decide) (by decide) hk1 hFc hP1 hD1
  have hK := (hK.sub (tys' := [(ka, .object "KeySteward$Connection"), (ki, .byte), (kt, .byte)]) [0, 1, 2] rfl).app hK1
  generalize H1 = H at hP hS ⊢
  have hP : va_P (dC, dI) classes [(c3, .inr (1, [.int 1, .ref i3, .ref o3, .ref b3, .int 0, .int 0, .int 0, .int 0, .ref y3, .int 0, .ref z3, .int 0])), (k0, .inr (3, [.ref u0, .ref u1, .ref u2, .ref u3, .int 0, .int 0, .ref u4, .null, .null, .long 0, .long 0, .int 0, .int 0, .int 0, .int 0, .int 0, .long 0])), (h0, .inr (9, [.ref t0, .ref xm1, .ref a0, .ref w0, .ref k0, .ref e0, .ref xm2, .ref xm3, .ref xm4, .ref xm5, .ref j0, .ref j1, .ref j2, .int 0, .int 0, .int 0, .int (-1), .int 1])), (a0, .inl (ka, 4, .inr (.inr (.inr (.inr fa))))), (i3, .inr (0, [.int 131076, .ref ri3, .int 0, .int 0])), (ri3, .inl (ki, 64, .inl q3)), (tr, .inl (kt, 64, .inl gt)), (t0, .inr (0, [.int 65540, .ref tr, .int 0, .int 0]))] H := hP
  have hD : va_D A [(c3, .inr (1, [.int 1, .ref i3, .ref o3, .ref b3, .int 0, .int 0, .int 0, .int 0, .ref y3, .int 0, .ref z3, .int 0])), (k0, .inr (3, [.ref u0, .ref u1, .ref u2, .ref u3, .int 0, .int 0, .ref u4, .null, .null, .long 0, .long 0, .int 0, .int 0, .int 0, .int 0, .int 0, .long 0])), (h0, .inr (9, [.ref t0, .ref xm1, .ref a0, .ref w0, .ref k0, .ref e0, .ref xm2, .ref xm3, .ref xm4, .ref xm5, .ref j0, .ref j1, .ref j2, .int 0, .int 0, .int 0, .int (-1), .int 1])), (a0, .inl (ka, 4, .inr (.inr (.inr (.inr fa))))), (i3, .inr (0, [.int 131076, .ref ri3, .int 0, .int 0])), (ri3, .inl (ki, 64, .inl q3)), (tr, .inl (kt, 64, .inl gt)), (t0, .inr (0, [.int 65540, .ref tr, .int 0, .int 0]))] := hD
  have hK : va_K (dC, dI) classes [(ka, .object "KeySteward$Connection"), (ki, .byte), (kt, .byte)] s := hK
  have hw5 := hw
  try dsimp only at hw5
  refine lv_iconst (v := 0) hx hb dX12_send_62 (by decide) ?_
  refine lv_istore_n (lv' := [(3, .int 0), (2, .ref c3), (0, .ref h0), (1, .int 3)]) hx hb dX12_send_63 rfl hl (by decide) rfl (fun ls hl => ?_)
  refine lv_iconst (v := 0) hx hb dX12_send_64 (by decide) ?_
  refine lv_istore (lv' := [(4, .int 0), (3, .int 0), (2, .ref c3), (0, .ref h0), (1, .int 3)]) hx hb dX12_send_65 hl (by decide) rfl (fun ls hl => ?_)
  refine lv_iconst (v := 0) hx hb dX12_send_67 (by decide) ?_
  refine lv_istore (lv' := [(5, .int 0), (4, .int 0), (3, .int 0), (2, .ref c3), (0, .ref h0), (1, .int 3)]) hx hb dX12_send_68 hl (by decide) rfl (fun ls hl => ?_)
  refine lv_iload hx hb dX12_send_70 (lv_at hl 0 rfl) ?_
  refine lv_ldc (v := 1048576) hx hb hown (hkw _ m_138) dX12_send_72 ?_
  refine lv_icmp_ge (tgt := 215) hx hb dX12_send_74 (by decide) (fun c_74_0 => absurd c_74_0 (by decide)) (fun c_74_0 => ?_)
  refine lv_aload_n hx hb dX12_send_77 rfl (lv_at hl 4 rfl) ?_
  refine va_get (D := (dC, dI)) (ci := 9) (v := .int 1) (C := RX12) (T := TX12) (N := 18) hx hb hkw kin_X12 hown hK hP 2 rfl rfl 17 (by decide) (hkw _ m_127) (fun _ h9 => h9) rfl dX12_send_78 ?_
  refine lv_if_eq (tgt := 215) hx hb dX12_send_81 (by decide) (fun c_81_0 => absurd c_81_0 (by decide)) (fun c_81_0 => ?_)
  refine lv_aload_n hx hb dX12_send_84 rfl (lv_at hl 3 rfl) ?_
  refine va_get (D := (dC, dI)) (ci := 1) (v := .int 1) (C := RX3) (T := TX3) (N := 12) hx hb hkw kin_X3 hown hK hP 0 rfl rfl 0 (by decide) (hkw _ m_114) (fun _ h9 => h9) rfl dX12_send_85 ?_
  refine lv_if_eq (tgt := 215) hx hb dX12_send_88 (by decide) (fun c_88_0 => absurd c_88_0 (by decide)) (fun c_88_0 => ?_)
  refine lv_aload_n hx hb dX12_send_91 rfl (lv_at hl 4 rfl) ?_
  refine va_get (D := (dC, dI)) (ci := 9) (v := .ref k0) (C := RX12) (T := TX12) (N := 18) hx hb hkw kin_X12 hown hK hP 2 rfl rfl 4 (by decide) (hkw _ m_139) (fun _ h9 => h9) rfl dX12_send_92 ?_
  refine lv_aload_n hx hb dX12_send_95 rfl (lv_at hl 3 rfl) ?_
  refine va_get (D := (dC, dI)) (ci := 1) (v := .ref i3) (C := RX3) (T := TX3) (N := 12) hx hb hkw kin_X3 hown hK hP 0 rfl rfl 1 (by decide) (hkw _ m_115) (fun _ h9 => h9) rfl dX12_send_96 ?_
  refine va_get (D := (dC, dI)) (ci := 0) (v := .ref ri3) (C := RX1) (T := TX1) (N := 4) hx hb hkw kin_X1 hown hK hP 4 rfl rfl 1 (by decide) (hkw _ m_133) (fun _ h9 => h9) rfl dX12_send_99 ?_
  refine lv_iload hx hb dX12_send_102 (lv_at hl 1 rfl) ?_
  refine lv_aload_n hx hb dX12_send_104 rfl (lv_at hl 3 rfl) ?_
  refine va_get (D := (dC, dI)) (ci := 1) (v := .ref i3) (C := RX3) (T := TX3) (N := 12) hx hb hkw kin_X3 hown hK hP 0 rfl rfl 1 (by decide) (hkw _ m_115) (fun _ h9 => h9) rfl dX12_send_105 ?_
  refine va_get (D := (dC, dI)) (ci := 0) (v := .int 0) (C := RX1) (T := TX1) (N := 4) hx hb hkw kin_X1 hown hK hP 4 rfl rfl 2 (by decide) (hkw _ m_104) (fun _ h9 => h9) rfl dX12_send_108 ?_
  have hPc := hP.sub (ws' := [(k0, .inr (3, [.ref u0, .ref u1, .ref u2, .ref u3, .int 0, .int 0, .ref u4, .null, .null, .long 0, .long 0, .int 0, .int 0, .int 0, .int 0, .int 0, .long 0]))]) [1] rfl
  have hDc := hD.sub (ws' := [(k0, .inr (3, [.ref u0, .ref u1, .ref u2, .ref u3, .int 0, .int 0, .ref u4, .null, .null, .long 0, .long 0, .int 0, .int 0, .int 0, .int 0, .int 0, .long 0]))]) [1] (by decide) rfl
  have hKc := hK.sub (tys' := []) [] rfl
  have hFc := va_free (wc := [(k0, .inr (3, [.ref u0, .ref u1, .ref u2, .ref u3, .int 0, .int 0, .ref u4, .null, .null, .long 0, .long 0, .int 0, .int 0, .int 0, .int 0, .int 0, .long 0]))]) hD hS hA [1] rfl
  refine va_calli (va_runV (As := [.ref ri3, .int 0, .int 0]) (rest := []) ⟨hx, hb, hml, hown, hkw⟩ (c_Re_read l dC dI H.size k0 ri3 u0 u1 u2 u3 u4) (callVv 3 hkw (kwI m_140) rfl rfl rfl (hkw _ m_141) (hkw _ m_142) (hkw _ m_143) (hkw _ m_144) (by decide +kernel) ⟨Nat.le_of_ble_eq_true rfl, Nat.le_of_ble_eq_true rfl⟩) ⟨fbW, va_recv hK hP (ci := 3) (q0 := 1) rfl rfl, pW_in hPc hKc hDc hfx⟩ rfl rfl hl.1 rfl (lv_room (Nat.le_of_ble_eq_true rfl)) dX12_send_111 ⟨Nat.le_of_ble_eq_true rfl, Nat.le_of_ble_eq_true rfl⟩) hS (fun q _ h => hFc q h) hFc (fun r6 u t H1 locs ht hvm hw hB hz1 hk1 hS => ?_)
  obtain ⟨hP1, hK1, hD1⟩ := hB
  rw [ht] at hP1
  have hK1 := va_K.moved hvm.symm hK1
  obtain ⟨hP, hD⟩ := va_join (wr := [(c3, .inr (1, [.int 1, .ref i3, .ref o3, .ref b3, .int 0, .int 0, .int 0, .int 0, .ref y3, .int 0, .ref z3, .int 0])), (h0, .inr (9, [.ref t0, .ref xm1, .ref a0, .ref w0, .ref k0, .ref e0, .ref xm2, .ref xm3, .ref xm4, .ref xm5, .ref j0, .ref j1, .ref j2, .int 0, .int 0, .int 0, .int (-1), .int 1])), (a0, .inl (ka, 4, .inr (.inr (.inr (.inr fa))))), (i3, .inr (0, [.int 131076, .ref ri3, .int 0, .int 0])), (ri3, .inl (ki, 64, .inl q3)), (tr, .inl (kt, 64, .inl gt)), (t0, .inr (0, [.int 65540, .ref tr, .int 0, .int 0]))]) (w1 := []) hP hD [1] [0, 2, 3, 4, 5, 6, 7] rfl rfl (by decide) (by decide) hk1 hFc hP1 hD1
  have hK := (hK.sub (tys' := [(ka, .object "KeySteward$Connection"), (ki, .byte), (kt, .byte)]) [0, 1, 2] rfl).app hK1
  generalize H1 = H at hP hS ⊢
  have hP : va_P (dC, dI) classes [(c3, .inr (1, [.int 1, .ref i3, .ref o3, .ref b3, .int 0, .int 0, .int 0, .int 0, .ref y3, .int 0, .ref z3, .int 0])), (h0, .inr (9, [.ref t0, .ref xm1, .ref a0, .ref w0, .ref k0, .ref e0, .ref xm2, .ref xm3, .ref xm4, .ref xm5, .ref j0, .ref j1, .ref j2, .int 0, .int 0, .int 0, .int (-1), .int 1])), (a0, .inl (ka, 4, .inr (.inr (.inr (.inr fa))))), (i3, .inr (0, [.int 131076, .ref ri3, .int 0, .int 0])), (ri3, .inl (ki, 64, .inl q3)), (tr, .inl (kt, 64, .inl gt)), (t0, .inr (0, [.int 65540, .ref tr, .int 0, .int 0]))] H := hP
  have hD : va_D A [(c3, .inr (1, [.int 1, .ref i3, .ref o3, .ref b3, .int 0, .int 0, .int 0, .int 0, .ref y3, .int 0, .ref z3, .int 0])), (h0, .inr (9, [.ref t0, .ref xm1, .ref a0, .ref w0, .ref k0, .ref e0, .ref xm2, .ref xm3, .ref xm4, .ref xm5, .ref j0, .ref j1, .ref j2, .int 0, .int 0, .int 0, .int (-1), .int 1])), (a0, .inl (ka, 4, .inr (.inr (.inr (.inr fa))))), (i3, .inr (0, [.int 131076, .ref ri3, .int 0, .int 0])), (ri3, .inl (ki, 64, .inl q3)), (tr, .inl (kt, 64, .inl gt)), (t0, .inr (0, [.int 65540, .ref tr, .int 0, .int 0]))] := hD
  have hK : va_K (dC, dI) classes [(ka, .object "KeySteward$Connection"), (ki, .byte), (kt, .byte)] s := hK
  have hw7 := hw
  try dsimp only at hw7
  subst hw7
  refine lv_istore (lv' := [(6, .int 1), (5, .int 0), (4, .int 0), (3, .int 0), (2, .ref c3), (0, .ref h0), (1, .int 3)]) hx hb dX12_send_114 hl (by decide) rfl (fun ls hl => ?_)
  refine lv_iload hx hb dX12_send_116 (lv_at hl 0 rfl) ?_
  refine lv_iconst (v := 1) hx hb dX12_send_118 (by decide) ?_
  refine lv_icmp_ne (tgt := 125) hx hb dX12_send_119 (by decide) (fun c_119_0 => absurd c_119_0 (by decide)) (fun c_119_0 => ?_)
  refine lv_goto (tgt := 215) hx hb dX12_send_122 (by decide) ?_
  refine lv_aload_n hx hb dX12_send_215 rfl (lv_at hl 5 rfl) ?_
  refine lv_aload_n hx hb dX12_send_216 rfl (lv_at hl 4 rfl) ?_
  refine lv_iload hx hb dX12_send_217 (lv_at hl 2 rfl) ?_
  have hPc := hP.sub (ws' := [(c3, .inr (1, [.int 1, .ref i3, .ref o3, .ref b3, .int 0, .int 0, .int 0, .int 0, .ref y3, .int 0, .ref z3, .int 0])), (i3, .inr (0, [.int 131076, .ref ri3, .int 0, .int 0]))]) [0, 3] rfl
  have hDc := hD.sub (ws' := [(c3, .inr (1, [.int 1, .ref i3, .ref o3, .ref b3, .int 0, .int 0, .int 0, .int 0, .ref y3, .int 0, .ref z3, .int 0])), (i3, .inr (0, [.int 131076, .ref ri3, .int 0, .int 0]))]) [0, 3] (by decide) rfl
  have hKc := hK.sub (tys' := []) [] rfl
  have hFc := va_free (wc := [(c3, .inr (1, [.int 1, .ref i3, .ref o3, .ref b3, .int 0, .int 0, .int 0, .int 0, .ref y3, .int 0, .ref z3, .int 0])), (i3, .inr (0, [.int 131076, .ref ri3, .int 0, .int 0]))]) hD hS hA [0, 3] rfl
  refine va_callv (va_runV (As := [.ref c3, .int 0]) (rest := []) ⟨hx, hb, hml, hown, hkw⟩ (c_KS_keepRest_0 l dC dI H.size h0 c3 i3 o3 b3 y3 z3 ri3) (callVv 2 hkw (kwI m_145) rfl rfl rfl (hkw _ m_122) (hkw _ m_146) (hkw _ m_147) (hkw _ m_148) (by decide +kernel) ⟨Nat.le_of_ble_eq_true rfl, Nat.le_of_ble_eq_true rfl⟩) ⟨fbW, va_recv hK hP (ci := 9) (q0 := 1) rfl rfl, pW_in hPc hKc hDc hfx⟩ rfl rfl hl.1 rfl (lv_room (Nat.le_of_ble_eq_true rfl)) dX12_send_219 ⟨Nat.le_of_ble_eq_true rfl, Nat.le_of_ble_eq_true rfl⟩) hS (fun q _ h => hFc q h) hFc (fun u t H1 locs ht hvm hw hB hz1 hk1 hS => ?_)
  obtain ⟨hP1, hK1, hD1⟩ := hB
  rw [ht] at hP1
  have hK1 := va_K.moved hvm.symm hK1
  obtain ⟨hP, hD⟩ := va_join (wr := [(h0, .inr (9, [.ref t0, .ref xm1, .ref a0, .ref w0, .ref k0, .ref e0, .ref xm2, .ref xm3, .ref xm4, .ref xm5, .ref j0, .ref j1, .ref j2, .int 0, .int 0, .int 0, .int (-1), .int 1])), (a0, .inl (ka, 4, .inr (.inr (.inr (.inr fa))))), (ri3, .inl (ki, 64, .inl q3)), (tr, .inl (kt, 64, .inl gt)), (t0, .inr (0, [.int 65540, .ref tr, .int 0, .int 0]))]) (w1 := []) hP hD [0, 3] [1, 2, 4, 5, 6] rfl rfl (by decide) (by decide) hk1 hFc hP1 hD1
  have hK := (hK.sub (tys' := [(ka, .object "KeySteward$Connection"), (ki, .byte), (kt, .byte)]) [0, 1, 2] rfl).app hK1
  generalize H1 = H at hP hS ⊢
  have hP : va_P (dC, dI) classes [(h0, .inr (9, [.ref t0, .ref xm1, .ref a0, .ref w0, .ref k0, .ref e0, .ref xm2, .ref xm3, .ref xm4, .ref xm5, .ref j0, .ref j1, .ref j2, .int 0, .int 0, .int 0, .int (-1), .int 1])), (a0, .inl (ka, 4, .inr (.inr (.inr (.inr fa))))), (ri3, .inl (ki, 64, .inl q3)), (tr, .inl (kt, 64, .inl gt)), (t0, .inr (0, [.int 65540, .ref tr, .int 0, .int 0]))] H := hP
  have hD : va_D A [(h0, .inr (9, [.ref t0, .ref xm1, .ref a0, .ref w0, .ref k0, .ref e0, .ref xm2, .ref xm3, .ref xm4, .ref xm5, .ref j0, .ref j1, .ref j2, .int 0, .int 0, .int 0, .int (-1), .int 1])), (a0, .inl (ka, 4, .inr (.inr (.inr (.inr fa))))), (ri3, .inl (ki, 64, .inl q3)), (tr, .inl (kt, 64, .inl gt)), (t0, .inr (0, [.int 65540, .ref tr, .int 0, .int 0]))] := hD
  have hK : va_K (dC, dI) classes [(ka, .object "KeySteward$Connection"), (ki, .byte), (kt, .byte)] s := hK
  have hw8 := hw
  try dsimp only at hw8
  refine lv_aload_n hx hb dX12_send_222 rfl (lv_at hl 5 rfl) ?_
  refine va_get (D := (dC, dI)) (ci := 9) (v := .int 1) (C := RX12) (T := TX12) (N := 18) hx hb hkw kin_X12 hown hK hP 0 rfl rfl 17 (by decide) (hkw _ m_127) (fun _ h9 => h9) rfl dX12_send_223 ?_
  refine lv_if_eq (tgt := 233) hx hb dX12_send_226 (by decide) (fun c_226_0 => absurd c_226_0 (by decide)) (fun c_226_0 => ?_)
  refine lv_iload_n hx hb dX12_send_229 rfl (lv_at hl 3 rfl) ?_
  refine lv_goto (tgt := 234) hx hb dX12_send_230 (by decide) ?_
  have hP9 := hP.sub (ws' := []) [] rfl
  have hD9 := hD.sub (ws' := []) [] (by decide) rfl
  have hK9 := hK.sub (tys' := []) [] rfl
  refine W.widen (k := 0) (n := 0) (Nat.le_of_ble_eq_true rfl) (Nat.le_of_ble_eq_true rfl) ?_
  exact W.iret (v := 0) hx hb hr (fun t ht hW => ⟨⟨0, (), rfl, rfl, by rw [ht]; exact hP9, va_K.moved hW.alike hK9, hD9⟩, hS.F ht⟩) hS.2.2 dX12_send_234

set_option maxHeartbeats 4000000 in
set_option maxRecDepth 100000 in
/-- isOpen_out, fresh -/
theorem c_KS_isOpen_out (l : Launch) (dC : Nat → ClassId) (dI : Nat → Nat → Nat) (sz : Nat) (h0 : Nat) (t0 : Nat) (xm1 : Nat) (a0 : Nat) (w0 : Nat) (k0 : Nat) (e0 : Nat) (xm2 : Nat) (xm3 : Nat) (xm4 : Nat) (xm5 : Nat) (j0 : Nat) (j1 : Nat) (j2 : Nat) (ka : ClassId) (fa : Nat → Option Nat) (p0 : Int32) (ho : p0 < 0 ∨ 4 ≤ p0) : Met l yX12_isOpen wX12_isOpen ({ frames := 1, cells := 0, slots := 0, locals := 21 }) (va_Pc [.ref h0, .int p0] (pW (dC, dI) [(h0, .inr (9, [.ref t0, .ref xm1, .ref a0, .ref w0, .ref k0, .ref e0, .ref xm2, .ref xm3, .ref xm4, .ref xm5, .ref j0, .ref j1, .ref j2, .int 0, .int 0, .int 0, .int (-1), .int 1])), (a0, .inl (ka, 4, .inr (.inr (.inr (.inr fa)))))] [(ka, .object "KeySteward$Connection")] sz)) (va_Qi (fun (r : Int32) (_u : Unit) => r = 0) (fun (_u : Unit) (t : State) => bW (dC, dI) [] [] (va_A [(h0, .inr (9, [.ref t0, .ref xm1, .ref a0, .ref w0, .ref k0, .ref e0, .ref xm2, .ref xm3, .ref xm4, .ref xm5, .ref j0, .ref j1, .ref j2, .int 0, .int 0, .int 0, .int (-1), .int 1])), (a0, .inl (ka, 4, .inr (.inr (.inr (.inr fa)))))] sz) t) (va_A [(h0, .inr (9, [.ref t0, .ref xm1, .ref a0, .ref w0, .ref k0, .ref e0, .ref xm2, .ref xm3, .ref xm4, .ref xm5, .ref j0, .ref j1, .ref j2, .int 0, .int 0, .int 0, .int (-1), .int 1])), (a0, .inl (ka, 4, .inr (.inr (.inr (.inr fa)))))] sz)) 0 0 (va_A [(h0, .inr (9, [.ref t0, .ref xm1, .ref a0, .ref w0, .ref k0, .ref e0, .ref xm2, .ref xm3, .ref xm4, .ref xm5, .ref j0, .ref j1, .ref j2, .int 0, .int 0, .int 0, .int (-1), .int 1])), (a0, .inl (ka, 4, .inr (.inr (.inr (.inr fa)))))] sz) := by
  refine Met.ofW (cc := cX12_isOpen) (maxL := 3) (ret := (some .boolean)) (by decide) rfl ?_
  intro p e s m args below meth c s₁ B hml hv
  obtain ⟨rfl, hsz, hP, hK, hD0, hfx⟩ := hv
  have hx := B.exec
  have hb := B.bytes
  have hr := B.returns
  have hts := atoms_spec (ws := wX12_isOpen) B.pre
  have hkw : ∀ w ∈ kw, w.before _ s = true := fun w h => hts w (List.mem_cons_of_mem _ h)
  have hown : s.vm.findClass RX12 = some m.cls := findClass_of_methodNamed B.named
  have hlocks := B.notSynchronized
  subst hsz
  have hD := hD0.self (sz := s.heap.size)
  generalize hAe : va_A [(h0, .inr (9, [.ref t0, .ref xm1, .ref a0, .ref w0, .ref k0, .ref e0, .ref xm2, .ref xm3, .ref xm4, .ref xm5, .ref j0, .ref j1, .ref j2, .int 0, .int 0, .int 0, .int (-1), .int 1])), (a0, .inl (ka, 4, .inr (.inr (.inr (.inr fa)))))] s.heap.size = A at hD ⊢
  have hA : ∀ q : Nat, s.heap.size ≤ q → A q := fun q h => by rw [← hAe]; exact Or.inr h
  have hS : va_S A s.heap s.heap [] := va_S.rf
  have hP : va_P (dC, dI) classes [(h0, .inr (9, [.ref t0, .ref xm1, .ref a0, .ref w0, .ref k0, .ref e0, .ref xm2, .ref xm3, .ref xm4, .ref xm5, .ref j0, .ref j1, .ref j2, .int 0, .int 0, .int 0, .int (-1), .int 1])), (a0, .inl (ka, 4, .inr (.inr (.inr (.inr fa)))))] s.heap := hP
  have hl := lv_entry ([.ref h0, .int p0]) (n := 3) (Nat.le_of_ble_eq_true rfl)
  rw [lg_entry_eq]
  generalize (lg_sl ([.ref h0, .int p0]) ++ List.replicate (3 - (lg_sl ([.ref h0, .int p0])).length) Slot.unset).toArray = ls at hl ⊢
  have hl : lv_has ls 3 [(0, .ref h0), (1, .int p0)] := hl
  refine lv_aload_n hx hb dX12_isOpen_0 rfl (lv_at hl 0 rfl) ?_
  refine lv_iload_n hx hb dX12_isOpen_1 rfl (lv_at hl 1 rfl) ?_
  have hPc := hP.sub (ws' := [(h0, .inr (9, [.ref t0, .ref xm1, .ref a0, .ref w0, .ref k0, .ref e0, .ref xm2, .ref xm3, .ref xm4, .ref xm5, .ref j0, .ref j1, .ref j2, .int 0, .int 0, .int 0, .int (-1), .int 1])), (a0, .inl (ka, 4, .inr (.inr (.inr (.inr fa)))))]) [0, 1] rfl
  have hDc := hD.sub (ws' := [(h0, .inr (9, [.ref t0, .ref xm1, .ref a0, .ref w0, .ref k0, .ref e0, .ref xm2, .ref xm3, .ref xm4, .ref xm5, .ref j0, .ref j1, .ref j2, .int 0, .int 0, .int 0, .int (-1), .int 1])), (a0, .inl (ka, 4, .inr (.inr (.inr (.inr fa)))))]) [0, 1] (by decide) rfl
  have hKc := hK.sub (tys' := [(ka, .object "KeySteward$Connection")]) [0] rfl
  have hFc := va_free (wc := [(h0, .inr (9, [.ref t0, .ref xm1, .ref a0, .ref w0, .ref k0, .ref e0, .ref xm2, .ref xm3, .ref xm4, .ref xm5, .ref j0, .ref j1, .ref j2, .int 0, .int 0, .int 0, .int (-1), .int 1])), (a0, .inl (ka, 4, .inr (.inr (.inr (.inr fa)))))]) hD hS hA [0, 1] rfl
  refine va_callq (va_runV (As := [.int p0]) (rest := []) ⟨hx, hb, hml, hown, hkw⟩ (c_KS_coOut l dC dI s.heap.size h0 t0 xm1 a0 w0 k0 e0 xm2 xm3 xm4 xm5 j0 j1 j2 ka fa p0 ho) (callVv 1 hkw (kwI m_121) rfl rfl rfl (hkw _ m_122) (hkw _ m_123) (hkw _ m_124) (hkw _ m_125) (by decide +kernel) ⟨Nat.le_of_ble_eq_true rfl, Nat.le_of_ble_eq_true rfl⟩) ⟨fbW, va_recv hK hP (ci := 9) (q0 := 0) rfl rfl, pW_in hPc hKc hDc hfx⟩ rfl rfl hl.1 rfl (lv_room (Nat.le_of_ble_eq_true rfl)) dX12_isOpen_2 ⟨Nat.le_of_ble_eq_true rfl, Nat.le_of_ble_eq_true rfl⟩) hS (fun q _ h => hFc q h) hFc (fun r1 u t H1 locs ht hvm hw hB hz1 hk1 hS => ?_)
  obtain ⟨hP1, hK1, hD1⟩ := hB
  rw [ht] at hP1
  have hK1 := va_K.moved hvm.symm hK1
  obtain ⟨hP, hD⟩ := va_join (wr := []) (w1 := [(h0, .inr (9, [.ref t0, .ref xm1, .ref a0, .ref w0, .ref k0, .ref e0, .ref xm2, .ref xm3, .ref xm4, .ref xm5, .ref j0, .ref j1, .ref j2, .int 0, .int 0, .int 0, .int (-1), .int 1])), (a0, .inl (ka, 4, .inr (.inr (.inr (.inr fa)))))]) hP hD [0, 1] [] rfl rfl (by decide) (by decide) hk1 hFc hP1 hD1
  have hK := (hK.sub (tys' := []) [] rfl).app hK1
  generalize H1 = H at hP hS ⊢
  have hP : va_P (dC, dI) classes [(h0, .inr (9, [.ref t0, .ref xm1, .ref a0, .ref w0, .ref k0, .ref e0, .ref xm2, .ref xm3, .ref xm4, .ref xm5, .ref j0, .ref j1, .ref j2, .int 0, .int 0, .int 0, .int (-1), .int 1])), (a0, .inl (ka, 4, .inr (.inr (.inr (.inr fa)))))] H := hP
  have hD : va_D A [(h0, .inr (9, [.ref t0, .ref xm1, .ref a0, .ref w0, .ref k0, .ref e0, .ref xm2, .ref xm3, .ref xm4, .ref xm5, .ref j0, .ref j1, .ref j2, .int 0, .int 0, .int 0, .int (-1), .int 1])), (a0, .inl (ka, 4, .inr (.inr (.inr (.inr fa)))))] := hD
  have hK : va_K (dC, dI) classes [(ka, .object "KeySteward$Connection")] s := hK
  have hw2 := hw
  try dsimp only at hw2
  subst hw2
  refine lv_astore_nN (lv' := [(2, .null), (0, .ref h0), (1, .int p0)]) hx hb dX12_isOpen_5 rfl hl (by decide) rfl (fun ls hl => ?_)
  refine lv_aload_nN hx hb dX12_isOpen_6 rfl (lv_at hl 0 rfl) ?_
  refine lv_ifnullN (tgt := 21) hx hb dX12_isOpen_7 (by decide) ?_
  refine lv_iconst (v := 0) hx hb dX12_isOpen_21 (by decide) ?_
  have hP9 := hP.sub (ws' := []) [] rfl
  have hD9 := hD.sub (ws' := []) [] (by decide) rfl
  have hK9 := hK.sub (tys' := []) [] rfl
  refine W.widen (k := 0) (n := 0) (Nat.le_of_ble_eq_true rfl) (Nat.le_of_ble_eq_true rfl) ?_
  exact W.zret (v := 0) (ty := .boolean) hx hb hr rfl (fun t ht hW => ⟨⟨0, (), rfl, rfl, by rw [ht]; exact hP9, va_K.moved hW.alike hK9, hD9⟩, hS.F ht⟩) hS.2.2 dX12_isOpen_22

set_option maxHeartbeats 4000000 in
set_option maxRecDepth 100000 in
/-- out_out, fresh -/
theorem c_KS_out_out (l : Launch) (dC : Nat → ClassId) (dI : Nat → Nat → Nat) (sz : Nat) (h0 : Nat) (t0 : Nat) (xm1 : Nat) (a0 : Nat) (w0 : Nat) (k0 : Nat) (e0 : Nat) (xm2 : Nat) (xm3 : Nat) (xm4 : Nat) (xm5 : Nat) (j0 : Nat) (j1 : Nat) (j2 : Nat) (ka : ClassId) (fa : Nat → Option Nat) (p0 : Int32) (ho : p0 < 0 ∨ 4 ≤ p0) : Met l yX12_out wX12_out ({ frames := 1, cells := 0, slots := 0, locals := 21 }) (va_Pc [.ref h0, .int p0] (pW (dC, dI) [(h0, .inr (9, [.ref t0, .ref xm1, .ref a0, .ref w0, .ref k0, .ref e0, .ref xm2, .ref xm3, .ref xm4, .ref xm5, .ref j0, .ref j1, .ref j2, .int 0, .int 0, .int 0, .int (-1), .int 1])), (a0, .inl (ka, 4, .inr (.inr (.inr (.inr fa)))))] [(ka, .object "KeySteward$Connection")] sz)) (va_Qi (fun (r : Int32) (_u : Unit) => r = -1) (fun (_u : Unit) (t : State) => bW (dC, dI) [] [] (va_A [(h0, .inr (9, [.ref t0, .ref xm1, .ref a0, .ref w0, .ref k0, .ref e0, .ref xm2, .ref xm3, .ref xm4, .ref xm5, .ref j0, .ref j1, .ref j2, .int 0, .int 0, .int 0, .int (-1), .int 1])), (a0, .inl (ka, 4, .inr (.inr (.inr (.inr fa)))))] sz) t) (va_A [(h0, .inr (9, [.ref t0, .ref xm1, .ref a0, .ref w0, .ref k0, .ref e0, .ref xm2, .ref xm3, .ref xm4, .ref xm5, .ref j0, .ref j1, .ref j2, .int 0, .int 0, .int 0, .int (-1), .int 1])), (a0, .inl (ka, 4, .inr (.inr (.inr (.inr fa)))))] sz)) 0 0 (va_A [(h0, .inr (9, [.ref t0, .ref xm1, .ref a0, .ref w0, .ref k0, .ref e0, .ref xm2, .ref xm3, .ref xm4, .ref xm5, .ref j0, .ref j1, .ref j2, .int 0, .int 0, .int 0, .int (-1), .int 1])), (a0, .inl (ka, 4, .inr (.inr (.inr (.inr fa)))))] sz) := by
  refine Met.ofW (cc := cX12_out) (maxL := 3) (ret := (some .int)) (by decide) rfl ?_
  intro p e s m args below meth c s₁ B hml hv
  obtain ⟨rfl, hsz, hP, hK, hD0, hfx⟩ := hv
  have hx := B.exec
  have hb := B.bytes
  have hr := B.returns
  have hts := atoms_spec (ws := wX12_out) B.pre
  have hkw : ∀ w ∈ kw, w.before _ s = true := fun w h => hts w (List.mem_cons_of_mem _ h)
  have hown : s.vm.findClass RX12 = some m.cls := findClass_of_methodNamed B.named
  have hlocks := B.notSynchronized
  subst hsz
  have hD := hD0.self (sz := s.heap.size)
  generalize hAe : va_A [(h0, .inr (9, [.ref t0, .ref xm1, .ref a0, .ref w0, .ref k0, .ref e0, .ref xm2, .ref xm3, .ref xm4, .ref xm5, .ref j0, .ref j1, .ref j2, .int 0, .int 0, .int 0, .int (-1), .int 1])), (a0, .inl (ka, 4, .inr (.inr (.inr (.inr fa)))))] s.heap.size = A at hD ⊢
  have hA : ∀ q : Nat, s.heap.size ≤ q → A q := fun q h => by rw [← hAe]; exact Or.inr h
  have hS : va_S A s.heap s.heap [] := va_S.rf
  have hP : va_P (dC, dI) classes [(h0, .inr (9, [.ref t0, .ref xm1, .ref a0, .ref w0, .ref k0, .ref e0, .ref xm2, .ref xm3, .ref xm4, .ref xm5, .ref j0, .ref j1, .ref j2, .int 0, .int 0, .int 0, .int (-1), .int 1])), (a0, .inl (ka, 4, .inr (.inr (.inr (.inr fa)))))] s.heap := hP
  have hl := lv_entry ([.ref h0, .int p0]) (n := 3) (Nat.le_of_ble_eq_true rfl)
  rw [lg_entry_eq]
  generalize (lg_sl ([.ref h0, .int p0]) ++ List.replicate (3 - (lg_sl ([.ref h0, .int p0])).length) Slot.unset).toArray = ls at hl ⊢
  have hl : lv_has ls 3 [(0, .ref h0), (1, .int p0)] := hl
  refine lv_aload_n hx hb dX12_out_0 rfl (lv_at hl 0 rfl) ?_
  refine lv_iload_n hx hb dX12_out_1 rfl (lv_at hl 1 rfl) ?_
  have hPc := hP.sub (ws' := [(h0, .inr (9, [.ref t0, .ref xm1, .ref a0, .ref w0, .ref k0, .ref e0, .ref xm2, .ref xm3, .ref xm4, .ref xm5, .ref j0, .ref j1, .ref j2, .int 0, .int 0, .int 0, .int (-1), .int 1])), (a0, .inl (ka, 4, .inr (.inr (.inr (.inr fa)))))]) [0, 1] rfl
  have hDc := hD.sub (ws' := [(h0, .inr (9, [.ref t0, .ref xm1, .ref a0, .ref w0, .ref k0, .ref e0, .ref xm2, .ref xm3, .ref xm4, .ref xm5, .ref j0, .ref j1, .ref j2, .int 0, .int 0, .int 0, .int (-1), .int 1])), (a0, .inl (ka, 4, .inr (.inr (.inr (.inr fa)))))]) [0, 1] (by decide) rfl
  have hKc := hK.sub (tys' := [(ka, .object "KeySteward$Connection")]) [0] rfl
  have hFc := va_free (wc := [(h0, .inr (9, [.ref t0, .ref xm1, .ref a0, .ref w0, .ref k0, .ref e0, .ref xm2, .ref xm3, .ref xm4, .ref xm5, .ref j0, .ref j1, .ref j2, .int 0, .int 0, .int 0, .int (-1), .int 1])), (a0, .inl (ka, 4, .inr (.inr (.inr (.inr fa)))))]) hD hS hA [0, 1] rfl
  refine va_callq (va_runV (As := [.int p0]) (rest := []) ⟨hx, hb, hml, hown, hkw⟩ (c_KS_coOut l dC dI s.heap.size h0 t0 xm1 a0 w0 k0 e0 xm2 xm3 xm4 xm5 j0 j1 j2 ka fa p0 ho) (callVv 1 hkw (kwI m_121) rfl rfl rfl (hkw _ m_122) (hkw _ m_123) (hkw _ m_124) (hkw _ m_125) (by decide +kernel) ⟨Nat.le_of_ble_eq_true rfl, Nat.le_of_ble_eq_true rfl⟩) ⟨fbW, va_recv hK hP (ci := 9) (q0 := 0) rfl rfl, pW_in hPc hKc hDc hfx⟩ rfl rfl hl.1 rfl (lv_room (Nat.le_of_ble_eq_true rfl)) dX12_out_2 ⟨Nat.le_of_ble_eq_true rfl, Nat.le_of_ble_eq_true rfl⟩) hS (fun q _ h => hFc q h) hFc (fun r1 u t H1 locs ht hvm hw hB hz1 hk1 hS => ?_)
  obtain ⟨hP1, hK1, hD1⟩ := hB
  rw [ht] at hP1
  have hK1 := va_K.moved hvm.symm hK1
  obtain ⟨hP, hD⟩ := va_join (wr := []) (w1 := [(h0, .inr (9, [.ref t0, .ref xm1, .ref a0, .ref w0, .ref k0, .ref e0, .ref xm2, .ref xm3, .ref xm4, .ref xm5, .ref j0, .ref j1, .ref j2, .int 0, .int 0, .int 0, .int (-1), .int 1])), (a0, .inl (ka, 4, .inr (.inr (.inr (.inr fa)))))]) hP hD [0, 1] [] rfl rfl (by decide) (by decide) hk1 hFc hP1 hD1
  have hK := (hK.sub (tys' := []) [] rfl).app hK1
  generalize H1 = H at hP hS ⊢
  have hP : va_P (dC, dI) classes [(h0, .inr (9, [.ref t0, .ref xm1, .ref a0, .ref w0, .ref k0, .ref e0, .ref xm2, .ref xm3, .ref xm4, .ref xm5, .ref j0, .ref j1, .ref j2, .int 0, .int 0, .int 0, .int (-1), .int 1])), (a0, .inl (ka, 4, .inr (.inr (.inr (.inr fa)))))] H := hP
  have hD : va_D A [(h0, .inr (9, [.ref t0, .ref xm1, .ref a0, .ref w0, .ref k0, .ref e0, .ref xm2, .ref xm3, .ref xm4, .ref xm5, .ref j0, .ref j1, .ref j2, .int 0, .int 0, .int 0, .int (-1), .int 1])), (a0, .inl (ka, 4, .inr (.inr (.inr (.inr fa)))))] := hD
  have hK : va_K (dC, dI) classes [(ka, .object "KeySteward$Connection")] s := hK
  have hw2 := hw
  try dsimp only at hw2
  subst hw2
  refine lv_astore_nN (lv' := [(2, .null), (0, .ref h0), (1, .int p0)]) hx hb dX12_out_5 rfl hl (by decide) rfl (fun ls hl => ?_)
  refine lv_aload_nN hx hb dX12_out_6 rfl (lv_at hl 0 rfl) ?_
  refine lv_ifnonnullN hx hb dX12_out_7 ?_
  refine lv_iconst (v := (-1)) hx hb dX12_out_10 (by decide) ?_
  refine lv_goto (tgt := 21) hx hb dX12_out_11 (by decide) ?_
  have hP9 := hP.sub (ws' := []) [] rfl
  have hD9 := hD.sub (ws' := []) [] (by decide) rfl
  have hK9 := hK.sub (tys' := []) [] rfl
  refine W.widen (k := 0) (n := 0) (Nat.le_of_ble_eq_true rfl) (Nat.le_of_ble_eq_true rfl) ?_
  exact W.iret (v := (-1)) hx hb hr (fun t ht hW => ⟨⟨(-1), (), rfl, rfl, by rw [ht]; exact hP9, va_K.moved hW.alike hK9, hD9⟩, hS.F ht⟩) hS.2.2 dX12_out_21

set_option maxHeartbeats 4000000 in
set_option maxRecDepth 100000 in
/-- take_out, fresh -/
theorem c_KS_take_out (l : Launch) (dC : Nat → ClassId) (dI : Nat → Nat → Nat) (sz : Nat) (h0 : Nat) (t0 : Nat) (xm1 : Nat) (a0 : Nat) (w0 : Nat) (k0 : Nat) (e0 : Nat) (xm2 : Nat) (xm3 : Nat) (xm4 : Nat) (xm5 : Nat) (j0 : Nat) (j1 : Nat) (j2 : Nat) (ka : ClassId) (fa : Nat → Option Nat) (p0 : Int32) (p1 : Int32) (ho : p0 < 0 ∨ 4 ≤ p0) : Met l yX12_take wX12_take ({ frames := 1, cells := 0, slots := 0, locals := 21 }) (va_Pc [.ref h0, .int p0, .int p1] (pW (dC, dI) [(h0, .inr (9, [.ref t0, .ref xm1, .ref a0, .ref w0, .ref k0, .ref e0, .ref xm2, .ref xm3, .ref xm4, .ref xm5, .ref j0, .ref j1, .ref j2, .int 0, .int 0, .int 0, .int (-1), .int 1])), (a0, .inl (ka, 4, .inr (.inr (.inr (.inr fa)))))] [(ka, .object "KeySteward$Connection")] sz)) (va_Qi (fun (r : Int32) (_u : Unit) => r = 0) (fun (_u : Unit) (t : State) => bW (dC, dI) [] [] (va_A [(h0, .inr (9, [.ref t0, .ref xm1, .ref a0, .ref w0, .ref k0, .ref e0, .ref xm2, .ref xm3, .ref xm4, .ref xm5, .ref j0, .ref j1, .ref j2, .int 0, .int 0, .int 0, .int (-1), .int 1])), (a0, .inl (ka, 4, .inr (.inr (.inr (.inr fa)))))] sz) t) (va_A [(h0, .inr (9, [.ref t0, .ref xm1, .ref a0, .ref w0, .ref k0, .ref e0, .ref xm2, .ref xm3, .ref xm4, .ref xm5, .ref j0, .ref j1, .ref j2, .int 0, .int 0, .int 0, .int (-1), .int 1])), (a0, .inl (ka, 4, .inr (.inr (.inr (.inr fa)))))] sz)) 0 0 (va_A [(h0, .inr (9, [.ref t0, .ref xm1, .ref a0, .ref w0, .ref k0, .ref e0, .ref xm2, .ref xm3, .ref xm4, .ref xm5, .ref j0, .ref j1, .ref j2, .int 0, .int 0, .int 0, .int (-1), .int 1])), (a0, .inl (ka, 4, .inr (.inr (.inr (.inr fa)))))] sz) := by
  refine Met.ofW (cc := cX12_take) (maxL := 4) (ret := (some .boolean)) (by decide) rfl ?_
  intro p e s m args below meth c s₁ B hml hv
  obtain ⟨rfl, hsz, hP, hK, hD0, hfx⟩ := hv
  have hx := B.exec
  have hb := B.bytes
  have hr := B.returns
  have hts := atoms_spec (ws := wX12_take) B.pre
  have hkw : ∀ w ∈ kw, w.before _ s = true := fun w h => hts w (List.mem_cons_of_mem _ h)
  have hown : s.vm.findClass RX12 = some m.cls := findClass_of_methodNamed B.named
  have hlocks := B.notSynchronized
  subst hsz
  have hD := hD0.self (sz := s.heap.size)
  generalize hAe : va_A [(h0, .inr (9, [.ref t0, .ref xm1, .ref a0, .ref w0, .ref k0, .ref e0, .ref xm2, .ref xm3, .ref xm4, .ref xm5, .ref j0, .ref j1, .ref j2, .int 0, .int 0, .int 0, .int (-1), .int 1])), (a0, .inl (ka, 4, .inr (.inr (.inr (.inr fa)))))] s.heap.size = A at hD ⊢
  have hA : ∀ q : Nat, s.heap.size ≤ q → A q := fun q h => by rw [← hAe]; exact Or.inr h
  have hS : va_S A s.heap s.heap [] := va_S.rf
  have hP : va_P (dC, dI) classes [(h0, .inr (9, [.ref t0, .ref xm1, .ref a0, .ref w0, .ref k0, .ref e0, .ref xm2, .ref xm3, .ref xm4, .ref xm5, .ref j0, .ref j1, .ref j2, .int 0, .int 0, .int 0, .int (-1), .int 1])), (a0, .inl (ka, 4, .inr (.inr (.inr (.inr fa)))))] s.heap := hP
  have hl := lv_entry ([.ref h0, .int p0, .int p1]) (n := 4) (Nat.le_of_ble_eq_true rfl)
  rw [lg_entry_eq]
  generalize (lg_sl ([.ref h0, .int p0, .int p1]) ++ List.replicate (4 - (lg_sl ([.ref h0, .int p0, .int p1])).length) Slot.unset).toArray = ls at hl ⊢
  have hl : lv_has ls 4 [(0, .ref h0), (1, .int p0), (2, .int p1)] := hl
  refine lv_aload_n hx hb dX12_take_0 rfl (lv_at hl 0 rfl) ?_
  refine lv_iload_n hx hb dX12_take_1 rfl (lv_at hl 1 rfl) ?_
  have hPc := hP.sub (ws' := [(h0, .inr (9, [.ref t0, .ref xm1, .ref a0, .ref w0, .ref k0, .ref e0, .ref xm2, .ref xm3, .ref xm4, .ref xm5, .ref j0, .ref j1, .ref j2, .int 0, .int 0, .int 0, .int (-1), .int 1])), (a0, .inl (ka, 4, .inr (.inr (.inr (.inr fa)))))]) [0, 1] rfl
  have hDc := hD.sub (ws' := [(h0, .inr (9, [.ref t0, .ref xm1, .ref a0, .ref w0, .ref k0, .ref e0, .ref xm2, .ref xm3, .ref xm4, .ref xm5, .ref j0, .ref j1, .ref j2, .int 0, .int 0, .int 0, .int (-1), .int 1])), (a0, .inl (ka, 4, .inr (.inr (.inr (.inr fa)))))]) [0, 1] (by decide) rfl
  have hKc := hK.sub (tys' := [(ka, .object "KeySteward$Connection")]) [0] rfl
  have hFc := va_free (wc := [(h0, .inr (9, [.ref t0, .ref xm1, .ref a0, .ref w0, .ref k0, .ref e0, .ref xm2, .ref xm3, .ref xm4, .ref xm5, .ref j0, .ref j1, .ref j2, .int 0, .int 0, .int 0, .int (-1), .int 1])), (a0, .inl (ka, 4, .inr (.inr (.inr (.inr fa)))))]) hD hS hA [0, 1] rfl
  refine va_callq (va_runV (As := [.int p0]) (rest := []) ⟨hx, hb, hml, hown, hkw⟩ (c_KS_coOut l dC dI s.heap.size h0 t0 xm1 a0 w0 k0 e0 xm2 xm3 xm4 xm5 j0 j1 j2 ka fa p0 ho) (callVv 1 hkw (kwI m_121) rfl rfl rfl (hkw _ m_122) (hkw _ m_123) (hkw _ m_124) (hkw _ m_125) (by decide +kernel) ⟨Nat.le_of_ble_eq_true rfl, Nat.le_of_ble_eq_true rfl⟩) ⟨fbW, va_recv hK hP (ci := 9) (q0 := 0) rfl rfl, pW_in hPc hKc hDc hfx⟩ rfl rfl hl.1 rfl (lv_room (Nat.le_of_ble_eq_true rfl)) dX12_take_2 ⟨Nat.le_of_ble_eq_true rfl, Nat.le_of_ble_eq_true rfl⟩) hS (fun q _ h => hFc q h) hFc (fun r1 u t H1 locs ht hvm hw hB hz1 hk1 hS => ?_)
  obtain ⟨hP1, hK1, hD1⟩ := hB
  rw [ht] at hP1
  have hK1 := va_K.moved hvm.symm hK1
  obtain ⟨hP, hD⟩ := va_join (wr := []) (w1 := [(h0, .inr (9, [.ref t0, .ref xm1, .ref a0, .ref w0, .ref k0, .ref e0, .ref xm2, .ref xm3, .ref xm4, .ref xm5, .ref j0, .ref j1, .ref j2, .int 0, .int 0, .int 0, .int (-1), .int 1])), (a0, .inl (ka, 4, .inr (.inr (.inr (.inr fa)))))]) hP hD [0, 1] [] rfl rfl (by decide) (by decide) hk1 hFc hP1 hD1
  have hK := (hK.sub (tys' := []) [] rfl).app hK1
  generalize H1 = H at hP hS ⊢
  have hP : va_P (dC, dI) classes [(h0, .inr (9, [.ref t0, .ref xm1, .ref a0, .ref w0, .ref k0, .ref e0, .ref xm2, .ref xm3, .ref xm4, .ref xm5, .ref j0, .ref j1, .ref j2, .int 0, .int 0, .int 0, .int (-1), .int 1])), (a0, .inl (ka, 4, .inr (.inr (.inr (.inr fa)))))] H := hP
  have hD : va_D A [(h0, .inr (9, [.ref t0, .ref xm1, .ref a0, .ref w0, .ref k0, .ref e0, .ref xm2, .ref xm3, .ref xm4, .ref xm5, .ref j0, .ref j1, .ref j2, .int 0, .int 0, .int 0, .int (-1), .int 1])), (a0, .inl (ka, 4, .inr (.inr (.inr (.inr fa)))))] := hD
  have hK : va_K (dC, dI) classes [(ka, .object "KeySteward$Connection")] s := hK
  have hw2 := hw
  try dsimp only at hw2
  subst hw2
  refine lv_astore_nN (lv' := [(3, .null), (0, .ref h0), (1, .int p0), (2, .int p1)]) hx hb dX12_take_5 rfl hl (by decide) rfl (fun ls hl => ?_)
  refine lv_aload_nN hx hb dX12_take_6 rfl (lv_at hl 0 rfl) ?_
  refine lv_ifnullN (tgt := 25) hx hb dX12_take_7 (by decide) ?_
  refine lv_iconst (v := 0) hx hb dX12_take_25 (by decide) ?_
  have hP9 := hP.sub (ws' := []) [] rfl
  have hD9 := hD.sub (ws' := []) [] (by decide) rfl
  have hK9 := hK.sub (tys' := []) [] rfl
  refine W.widen (k := 0) (n := 0) (Nat.le_of_ble_eq_true rfl) (Nat.le_of_ble_eq_true rfl) ?_
  exact W.zret (v := 0) (ty := .boolean) hx hb hr rfl (fun t ht hW => ⟨⟨0, (), rfl, rfl, by rw [ht]; exact hP9, va_K.moved hW.alike hK9, hD9⟩, hS.F ht⟩) hS.2.2 dX12_take_26

set_option maxHeartbeats 4000000 in
set_option maxRecDepth 100000 in
/-- open_out, fresh -/
theorem c_KS_open_out (l : Launch) (dC : Nat → ClassId) (dI : Nat → Nat → Nat) (sz : Nat) (h0 : Nat) (t0 : Nat) (xm1 : Nat) (a0 : Nat) (w0 : Nat) (k0 : Nat) (e0 : Nat) (xm2 : Nat) (xm3 : Nat) (xm4 : Nat) (xm5 : Nat) (j0 : Nat) (j1 : Nat) (j2 : Nat) (ka : ClassId) (fa : Nat → Option Nat) (p0 : Int32) (ho : p0 < 0 ∨ 4 ≤ p0) : Met l yX12_open wX12_open ({ frames := 1, cells := 0, slots := 0, locals := 21 }) (va_Pc [.ref h0, .int p0] (pW (dC, dI) [(h0, .inr (9, [.ref t0, .ref xm1, .ref a0, .ref w0, .ref k0, .ref e0, .ref xm2, .ref xm3, .ref xm4, .ref xm5, .ref j0, .ref j1, .ref j2, .int 0, .int 0, .int 0, .int (-1), .int 1])), (a0, .inl (ka, 4, .inr (.inr (.inr (.inr fa)))))] [(ka, .object "KeySteward$Connection")] sz)) (va_Qi (fun (r : Int32) (_u : Unit) => r = 0) (fun (_u : Unit) (t : State) => bW (dC, dI) [] [] (va_A [(h0, .inr (9, [.ref t0, .ref xm1, .ref a0, .ref w0, .ref k0, .ref e0, .ref xm2, .ref xm3, .ref xm4, .ref xm5, .ref j0, .ref j1, .ref j2, .int 0, .int 0, .int 0, .int (-1), .int 1])), (a0, .inl (ka, 4, .inr (.inr (.inr (.inr fa)))))] sz) t) (va_A [(h0, .inr (9, [.ref t0, .ref xm1, .ref a0, .ref w0, .ref k0, .ref e0, .ref xm2, .ref xm3, .ref xm4, .ref xm5, .ref j0, .ref j1, .ref j2, .int 0, .int 0, .int 0, .int (-1), .int 1])), (a0, .inl (ka, 4, .inr (.inr (.inr (.inr fa)))))] sz)) 0 0 (va_A [(h0, .inr (9, [.ref t0, .ref xm1, .ref a0, .ref w0, .ref k0, .ref e0, .ref xm2, .ref xm3, .ref xm4, .ref xm5, .ref j0, .ref j1, .ref j2, .int 0, .int 0, .int 0, .int (-1), .int 1])), (a0, .inl (ka, 4, .inr (.inr (.inr (.inr fa)))))] sz) := by
  refine Met.ofW (cc := cX12_open) (maxL := 3) (ret := (some .boolean)) (by decide) rfl ?_
  intro p e s m args below meth c s₁ B hml hv
  obtain ⟨rfl, hsz, hP, hK, hD0, hfx⟩ := hv
  have hx := B.exec
  have hb := B.bytes
  have hr := B.returns
  have hts := atoms_spec (ws := wX12_open) B.pre
  have hkw : ∀ w ∈ kw, w.before _ s = true := fun w h => hts w (List.mem_cons_of_mem _ h)
  have hown : s.vm.findClass RX12 = some m.cls := findClass_of_methodNamed B.named
  have hlocks := B.notSynchronized
  subst hsz
  have hD := hD0.self (sz := s.heap.size)
  generalize hAe : va_A [(h0, .inr (9, [.ref t0, .ref xm1, .ref a0, .ref w0, .ref k0, .ref e0, .ref xm2, .ref xm3, .ref xm4, .ref xm5, .ref j0, .ref j1, .ref j2, .int 0, .int 0, .int 0, .int (-1), .int 1])), (a0, .inl (ka, 4, .inr (.inr (.inr (.inr fa)))))] s.heap.size = A at hD ⊢
  have hA : ∀ q : Nat, s.heap.size ≤ q → A q := fun q h => by rw [← hAe]; exact Or.inr h
  have hS : va_S A s.heap s.heap [] := va_S.rf
  have hP : va_P (dC, dI) classes [(h0, .inr (9, [.ref t0, .ref xm1, .ref a0, .ref w0, .ref k0, .ref e0, .ref xm2, .ref xm3, .ref xm4, .ref xm5, .ref j0, .ref j1, .ref j2, .int 0, .int 0, .int 0, .int (-1), .int 1])), (a0, .inl (ka, 4, .inr (.inr (.inr (.inr fa)))))] s.heap := hP
  have hl := lv_entry ([.ref h0, .int p0]) (n := 3) (Nat.le_of_ble_eq_true rfl)
  rw [lg_entry_eq]
  generalize (lg_sl ([.ref h0, .int p0]) ++ List.replicate (3 - (lg_sl ([.ref h0, .int p0])).length) Slot.unset).toArray = ls at hl ⊢
  have hl : lv_has ls 3 [(0, .ref h0), (1, .int p0)] := hl
  refine lv_aload_n hx hb dX12_open_0 rfl (lv_at hl 0 rfl) ?_
  refine lv_iload_n hx hb dX12_open_1 rfl (lv_at hl 1 rfl) ?_
  have hPc := hP.sub (ws' := [(h0, .inr (9, [.ref t0, .ref xm1, .ref a0, .ref w0, .ref k0, .ref e0, .ref xm2, .ref xm3, .ref xm4, .ref xm5, .ref j0, .ref j1, .ref j2, .int 0, .int 0, .int 0, .int (-1), .int 1])), (a0, .inl (ka, 4, .inr (.inr (.inr (.inr fa)))))]) [0, 1] rfl
  have hDc := hD.sub (ws' := [(h0, .inr (9, [.ref t0, .ref xm1, .ref a0, .ref w0, .ref k0, .ref e0, .ref xm2, .ref xm3, .ref xm4, .ref xm5, .ref j0, .ref j1, .ref j2, .int 0, .int 0, .int 0, .int (-1), .int 1])), (a0, .inl (ka, 4, .inr (.inr (.inr (.inr fa)))))]) [0, 1] (by decide) rfl
  have hKc := hK.sub (tys' := [(ka, .object "KeySteward$Connection")]) [0] rfl
  have hFc := va_free (wc := [(h0, .inr (9, [.ref t0, .ref xm1, .ref a0, .ref w0, .ref k0, .ref e0, .ref xm2, .ref xm3, .ref xm4, .ref xm5, .ref j0, .ref j1, .ref j2, .int 0, .int 0, .int 0, .int (-1), .int 1])), (a0, .inl (ka, 4, .inr (.inr (.inr (.inr fa)))))]) hD hS hA [0, 1] rfl
  refine va_callq (va_runV (As := [.int p0]) (rest := []) ⟨hx, hb, hml, hown, hkw⟩ (c_KS_coOut l dC dI s.heap.size h0 t0 xm1 a0 w0 k0 e0 xm2 xm3 xm4 xm5 j0 j1 j2 ka fa p0 ho) (callVv 1 hkw (kwI m_121) rfl rfl rfl (hkw _ m_122) (hkw _ m_123) (hkw _ m_124) (hkw _ m_125) (by decide +kernel) ⟨Nat.le_of_ble_eq_true rfl, Nat.le_of_ble_eq_true rfl⟩) ⟨fbW, va_recv hK hP (ci := 9) (q0 := 0) rfl rfl, pW_in hPc hKc hDc hfx⟩ rfl rfl hl.1 rfl (lv_room (Nat.le_of_ble_eq_true rfl)) dX12_open_2 ⟨Nat.le_of_ble_eq_true rfl, Nat.le_of_ble_eq_true rfl⟩) hS (fun q _ h => hFc q h) hFc (fun r1 u t H1 locs ht hvm hw hB hz1 hk1 hS => ?_)
  obtain ⟨hP1, hK1, hD1⟩ := hB
  rw [ht] at hP1
  have hK1 := va_K.moved hvm.symm hK1
  obtain ⟨hP, hD⟩ := va_join (wr := []) (w1 := [(h0, .inr (9, [.ref t0, .ref xm1, .ref a0, .ref w0, .ref k0, .ref e0, .ref xm2, .ref xm3, .ref xm4, .ref xm5, .ref j0, .ref j1, .ref j2, .int 0, .int 0, .int 0, .int (-1), .int 1])), (a0, .inl (ka, 4, .inr (.inr (.inr (.inr fa)))))]) hP hD [0, 1] [] rfl rfl (by decide) (by decide) hk1 hFc hP1 hD1
  have hK := (hK.sub (tys' := []) [] rfl).app hK1
  generalize H1 = H at hP hS ⊢
  have hP : va_P (dC, dI) classes [(h0, .inr (9, [.ref t0, .ref xm1, .ref a0, .ref w0, .ref k0, .ref e0, .ref xm2, .ref xm3, .ref xm4, .ref xm5, .ref j0, .ref j1, .ref j2, .int 0, .int 0, .int 0, .int (-1), .int 1])), (a0, .inl (ka, 4, .inr (.inr (.inr (.inr fa)))))] H := hP
  have hD : va_D A [(h0, .inr (9, [.ref t0, .ref xm1, .ref a0, .ref w0, .ref k0, .ref e0, .ref xm2, .ref xm3, .ref xm4, .ref xm5, .ref j0, .ref j1, .ref j2, .int 0, .int 0, .int 0, .int (-1), .int 1])), (a0, .inl (ka, 4, .inr (.inr (.inr (.inr fa)))))] := hD
  have hK : va_K (dC, dI) classes [(ka, .object "KeySteward$Connection")] s := hK
  have hw2 := hw
  try dsimp only at hw2
  subst hw2
  refine lv_astore_nN (lv' := [(2, .null), (0, .ref h0), (1, .int p0)]) hx hb dX12_open_5 rfl hl (by decide) rfl (fun ls hl => ?_)
  refine lv_aload_nN hx hb dX12_open_6 rfl (lv_at hl 0 rfl) ?_
  refine lv_ifnullN (tgt := 17) hx hb dX12_open_7 (by decide) ?_
  refine lv_iconst (v := 0) hx hb dX12_open_17 (by decide) ?_
  have hP9 := hP.sub (ws' := []) [] rfl
  have hD9 := hD.sub (ws' := []) [] (by decide) rfl
  have hK9 := hK.sub (tys' := []) [] rfl
  refine W.widen (k := 0) (n := 0) (Nat.le_of_ble_eq_true rfl) (Nat.le_of_ble_eq_true rfl) ?_
  exact W.zret (v := 0) (ty := .boolean) hx hb hr rfl (fun t ht hW => ⟨⟨0, (), rfl, rfl, by rw [ht]; exact hP9, va_K.moved hW.alike hK9, hD9⟩, hS.F ht⟩) hS.2.2 dX12_open_18

set_option maxHeartbeats 4000000 in
set_option maxRecDepth 100000 in
/-- send_out, fresh -/
theorem c_KS_send_out (l : Launch) (dC : Nat → ClassId) (dI : Nat → Nat → Nat) (sz : Nat) (h0 : Nat) (t0 : Nat) (xm1 : Nat) (a0 : Nat) (w0 : Nat) (k0 : Nat) (e0 : Nat) (xm2 : Nat) (xm3 : Nat) (xm4 : Nat) (xm5 : Nat) (j0 : Nat) (j1 : Nat) (j2 : Nat) (ka : ClassId) (fa : Nat → Option Nat) (tr : Nat) (p0 : Int32) (ho : p0 < 0 ∨ 4 ≤ p0) : Met l yX12_send wX12_send ({ frames := 1, cells := 0, slots := 0, locals := 21 }) (va_Pc [.ref h0, .int p0] (pW (dC, dI) [(h0, .inr (9, [.ref t0, .ref xm1, .ref a0, .ref w0, .ref k0, .ref e0, .ref xm2, .ref xm3, .ref xm4, .ref xm5, .ref j0, .ref j1, .ref j2, .int 0, .int 0, .int 0, .int (-1), .int 1])), (a0, .inl (ka, 4, .inr (.inr (.inr (.inr fa))))), (t0, .inr (0, [.int 65540, .ref tr, .int 0, .int 0]))] [(ka, .object "KeySteward$Connection")] sz)) (va_Qi (fun (r : Int32) (_u : Unit) => r = -1) (fun (_u : Unit) (t : State) => bW (dC, dI) [] [] (va_A [(h0, .inr (9, [.ref t0, .ref xm1, .ref a0, .ref w0, .ref k0, .ref e0, .ref xm2, .ref xm3, .ref xm4, .ref xm5, .ref j0, .ref j1, .ref j2, .int 0, .int 0, .int 0, .int (-1), .int 1])), (a0, .inl (ka, 4, .inr (.inr (.inr (.inr fa))))), (t0, .inr (0, [.int 65540, .ref tr, .int 0, .int 0]))] sz) t) (va_A [(h0, .inr (9, [.ref t0, .ref xm1, .ref a0, .ref w0, .ref k0, .ref e0, .ref xm2, .ref xm3, .ref xm4, .ref xm5, .ref j0, .ref j1, .ref j2, .int 0, .int 0, .int 0, .int (-1), .int 1])), (a0, .inl (ka, 4, .inr (.inr (.inr (.inr fa))))), (t0, .inr (0, [.int 65540, .ref tr, .int 0, .int 0]))] sz)) 0 0 (va_A [(h0, .inr (9, [.ref t0, .ref xm1, .ref a0, .ref w0, .ref k0, .ref e0, .ref xm2, .ref xm3, .ref xm4, .ref xm5, .ref j0, .ref j1, .ref j2, .int 0, .int 0, .int 0, .int (-1), .int 1])), (a0, .inl (ka, 4, .inr (.inr (.inr (.inr fa))))), (t0, .inr (0, [.int 65540, .ref tr, .int 0, .int 0]))] sz) := by
  refine Met.ofW (cc := cX12_send) (maxL := 10) (ret := (some .int)) (by decide) rfl ?_
  intro p e s m args below meth c s₁ B hml hv
  obtain ⟨rfl, hsz, hP, hK, hD0, hfx⟩ := hv
  have hx := B.exec
  have hb := B.bytes
  have hr := B.returns
  have hts := atoms_spec (ws := wX12_send) B.pre
  have hkw : ∀ w ∈ kw, w.before _ s = true := fun w h => hts w (List.mem_cons_of_mem _ h)
  have hown : s.vm.findClass RX12 = some m.cls := findClass_of_methodNamed B.named
  have hlocks := B.notSynchronized
  subst hsz
  have hD := hD0.self (sz := s.heap.size)
  generalize hAe : va_A [(h0, .inr (9, [.ref t0, .ref xm1, .ref a0, .ref w0, .ref k0, .ref e0, .ref xm2, .ref xm3, .ref xm4, .ref xm5, .ref j0, .ref j1, .ref j2, .int 0, .int 0, .int 0, .int (-1), .int 1])), (a0, .inl (ka, 4, .inr (.inr (.inr (.inr fa))))), (t0, .inr (0, [.int 65540, .ref tr, .int 0, .int 0]))] s.heap.size = A at hD ⊢
  have hA : ∀ q : Nat, s.heap.size ≤ q → A q := fun q h => by rw [← hAe]; exact Or.inr h
  have hS : va_S A s.heap s.heap [] := va_S.rf
  have hP : va_P (dC, dI) classes [(h0, .inr (9, [.ref t0, .ref xm1, .ref a0, .ref w0, .ref k0, .ref e0, .ref xm2, .ref xm3, .ref xm4, .ref xm5, .ref j0, .ref j1, .ref j2, .int 0, .int 0, .int 0, .int (-1), .int 1])), (a0, .inl (ka, 4, .inr (.inr (.inr (.inr fa))))), (t0, .inr (0, [.int 65540, .ref tr, .int 0, .int 0]))] s.heap := hP
  have hl := lv_entry ([.ref h0, .int p0]) (n := 10) (Nat.le_of_ble_eq_true rfl)
  rw [lg_entry_eq]
  generalize (lg_sl ([.ref h0, .int p0]) ++ List.replicate (10 - (lg_sl ([.ref h0, .int p0])).length) Slot.unset).toArray = ls at hl ⊢
  have hl : lv_has ls 10 [(0, .ref h0), (1, .int p0)] := hl
  refine lv_aload_n hx hb dX12_send_0 rfl (lv_at hl 0 rfl) ?_
  refine lv_iload_n hx hb dX12_send_1 rfl (lv_at hl 1 rfl) ?_
  have hPc := hP.sub (ws' := [(h0, .inr (9, [.ref t0, .ref xm1, .ref a0, .ref w0, .ref k0, .ref e0, .ref xm2, .ref xm3, .ref xm4, .ref xm5, .ref j0, .ref j1, .ref j2, .int 0, .int 0, .int 0, .int (-1), .int 1])), (a0, .inl (ka, 4, .inr (.inr (.inr (.inr fa)))))]) [0, 1] rfl
  have hDc := hD.sub (ws' := [(h0, .inr (9, [.ref t0, .ref xm1, .ref a0, .ref w0, .ref k0, .ref e0, .ref xm2, .ref xm3, .ref xm4, .ref xm5, .ref j0, .ref j1, .ref j2, .int 0, .int 0, .int 0, .int (-1), .int 1])), (a0, .inl (ka, 4, .inr (.inr (.inr (.inr fa)))))]) [0, 1] (by decide) rfl
  have hKc := hK.sub (tys' := [(ka, .object "KeySteward$Connection")]) [0] rfl
  have hFc := va_free (wc := [(h0, .inr (9, [.ref t0, .ref xm1, .ref a0, .ref w0, .ref k0, .ref e0, .ref xm2, .ref xm3, .ref xm4, .ref xm5, .ref j0, .ref j1, .ref j2, .int 0, .int 0, .int 0, .int (-1), .int 1])), (a0, .inl (ka, 4, .inr (.inr (.inr (.inr fa)))))]) hD hS hA [0, 1] rfl
  refine va_callq (va_runV (As := [.int p0]) (rest := []) ⟨hx, hb, hml, hown, hkw⟩ (c_KS_coOut l dC dI s.heap.size h0 t0 xm1 a0 w0 k0 e0 xm2 xm3 xm4 xm5 j0 j1 j2 ka fa p0 ho) (callVv 1 hkw (kwI m_121) rfl rfl rfl (hkw _ m_122) (hkw _ m_123) (hkw _ m_124) (hkw _ m_125) (by decide +kernel) ⟨Nat.le_of_ble_eq_true rfl, Nat.le_of_ble_eq_true rfl⟩) ⟨fbW, va_recv hK hP (ci := 9) (q0 := 0) rfl rfl, pW_in hPc hKc hDc hfx⟩ rfl rfl hl.1 rfl (lv_room (Nat.le_of_ble_eq_true rfl)) dX12_send_2 ⟨Nat.le_of_ble_eq_true rfl, Nat.le_of_ble_eq_true rfl⟩) hS (fun q _ h => hFc q h) hFc (fun r1 u t H1 locs ht hvm hw hB hz1 hk1 hS => ?_)
  obtain ⟨hP1, hK1, hD1⟩ := hB
  rw [ht] at hP1
  have hK1 := va_K.moved hvm.symm hK1
  obtain ⟨hP, hD⟩ := va_join (wr := [(t0, .inr (0, [.int 65540, .ref tr, .int 0, .int 0]))]) (w1 := [(h0, .inr (9, [.ref t0, .ref xm1, .ref a0, .ref w0, .ref k0, .ref e0, .ref xm2, .ref xm3, .ref xm4, .ref xm5, .ref j0, .ref j1, .ref j2, .int 0, .int 0, .int 0, .int (-1), .int 1])), (a0, .inl (ka, 4, .inr (.inr (.inr (.inr fa)))))]) hP hD [0, 1] [2] rfl rfl (by decide) (by decide) hk1 hFc hP1 hD1
  have hK := (hK.sub (tys' := []) [] rfl).app hK1
  generalize H1 = H at hP hS ⊢
  have hP : va_P (dC, dI) classes [(t0, .inr (0, [.int 65540, .ref tr, .int 0, .int 0])), (h0, .inr (9, [.ref t0, .ref xm1, .ref a0, .ref w0, .ref k0, .ref e0, .ref xm2, .ref xm3, .ref xm4, .ref xm5, .ref j0, .ref j1, .ref j2, .int 0, .int 0, .int 0, .int (-1), .int 1])), (a0, .inl (ka, 4, .inr (.inr (.inr (.inr fa)))))] H := hP
  have hD : va_D A [(t0, .inr (0, [.int 65540, .ref tr, .int 0, .int 0])), (h0, .inr (9, [.ref t0, .ref xm1, .ref a0, .ref w0, .ref k0, .ref e0, .ref xm2, .ref xm3, .ref xm4, .ref xm5, .ref j0, .ref j1, .ref j2, .int 0, .int 0, .int 0, .int (-1), .int 1])), (a0, .inl (ka, 4, .inr (.inr (.inr (.inr fa)))))] := hD
  have hK : va_K (dC, dI) classes [(ka, .object "KeySteward$Connection")] s := hK
  have hw2 := hw
  try dsimp only at hw2
  subst hw2
  refine lv_astore_nN (lv' := [(2, .null), (0, .ref h0), (1, .int p0)]) hx hb dX12_send_5 rfl hl (by decide) rfl (fun ls hl => ?_)
  refine lv_aload_nN hx hb dX12_send_6 rfl (lv_at hl 0 rfl) ?_
  refine lv_ifnullN (tgt := 24) hx hb dX12_send_7 (by decide) ?_
  refine lv_aload_n hx hb dX12_send_24 rfl (lv_at hl 1 rfl) ?_
  refine va_get (D := (dC, dI)) (ci := 9) (v := .ref t0) (C := RX12) (T := TX12) (N := 18) hx hb hkw kin_X12 hown hK hP 1 rfl rfl 0 (by decide) (hkw _ m_103) (fun _ h9 => h9) rfl dX12_send_25 ?_
  have hPc := hP.sub (ws' := [(t0, .inr (0, [.int 65540, .ref tr, .int 0, .int 0]))]) [0] rfl
  have hDc := hD.sub (ws' := [(t0, .inr (0, [.int 65540, .ref tr, .int 0, .int 0]))]) [0] (by decide) rfl
  have hKc := hK.sub (tys' := []) [] rfl
  have hFc := va_free (wc := [(t0, .inr (0, [.int 65540, .ref tr, .int 0, .int 0]))]) hD hS hA [0] rfl
  refine va_callv (va_runV (As := []) (rest := []) ⟨hx, hb, hml, hown, hkw⟩ (c_By_empty l dC dI H.size t0 tr 65540 0 0) (callVv 0 hkw (kwI m_38) rfl rfl rfl (hkw _ m_9) (hkw _ m_132) (hkw _ m_40) (hkw _ m_41) (by decide +kernel) ⟨Nat.le_of_ble_eq_true rfl, Nat.le_of_ble_eq_true rfl⟩) ⟨fbW, va_recv hK hP (ci := 0) (q0 := 0) rfl rfl, pW_in hPc hKc hDc hfx⟩ rfl rfl hl.1 rfl (lv_room (Nat.le_of_ble_eq_true rfl)) dX12_send_28 ⟨Nat.le_of_ble_eq_true rfl, Nat.le_of_ble_eq_true rfl⟩) hS (fun q _ h => hFc q h) hFc (fun u t H1 locs ht hvm hw hB hz1 hk1 hS => ?_)
  obtain ⟨hP1, hK1, hD1⟩ := hB
  rw [ht] at hP1
  have hK1 := va_K.moved hvm.symm hK1
  obtain ⟨hP, hD⟩ := va_join (wr := [(h0, .inr (9, [.ref t0, .ref xm1, .ref a0, .ref w0, .ref k0, .ref e0, .ref xm2, .ref xm3, .ref xm4, .ref xm5, .ref j0, .ref j1, .ref j2, .int 0, .int 0, .int 0, .int (-1), .int 1])), (a0, .inl (ka, 4, .inr (.inr (.inr (.inr fa)))))]) (w1 := [(t0, .inr (0, [.int 65540, .ref tr, .int 0, .int 0]))]) hP hD [0] [1, 2] rfl rfl (by decide) (by decide) hk1 hFc hP1 hD1
  have hK := (hK.sub (tys' := [(ka, .object "KeySteward$Connection")]) [0] rfl).app hK1
  generalize H1 = H at hP hS ⊢
  have hP : va_P (dC, dI) classes [(h0, .inr (9, [.ref t0, .ref xm1, .ref a0, .ref w0, .ref k0, .ref e0, .ref xm2, .ref xm3, .ref xm4, .ref xm5, .ref j0, .ref j1, .ref j2, .int 0, .int 0, .int 0, .int (-1), .int 1])), (a0, .inl (ka, 4, .inr (.inr (.inr (.inr fa))))), (t0, .inr (0, [.int 65540, .ref tr, .int 0, .int 0]))] H := hP
  have hD : va_D A [(h0, .inr (9, [.ref t0, .ref xm1, .ref a0, .ref w0, .ref k0, .ref e0, .ref xm2, .ref xm3, .ref xm4, .ref xm5, .ref j0, .ref j1, .ref j2, .int 0, .int 0, .int 0, .int (-1), .int 1])), (a0, .inl (ka, 4, .inr (.inr (.inr (.inr fa))))), (t0, .inr (0, [.int 65540, .ref tr, .int 0, .int 0]))] := hD
  have hK : va_K (dC, dI) classes [(ka, .object "KeySteward$Connection")] s := hK
  have hw3 := hw
  try dsimp only at hw3
  refine lv_iconst (v := (-1)) hx hb dX12_send_31 (by decide) ?_
  have hP9 := hP.sub (ws' := []) [] rfl
  have hD9 := hD.sub (ws' := []) [] (by decide) rfl
  have hK9 := hK.sub (tys' := []) [] rfl
  refine W.widen (k := 0) (n := 0) (Nat.le_of_ble_eq_true rfl) (Nat.le_of_ble_eq_true rfl) ?_
  exact W.iret (v := (-1)) hx hb hr (fun t ht hW => ⟨⟨(-1), (), rfl, rfl, by rw [ht]; exact hP9, va_K.moved hW.alike hK9, hD9⟩, hS.F ht⟩) hS.2.2 dX12_send_32

set_option maxHeartbeats 4000000 in
set_option maxRecDepth 100000 in
/-- pass, fresh -/
theorem c_KS_pass (l : Launch) (dC : Nat → ClassId) (dI : Nat → Nat → Nat) (sz : Nat) (h0 : Nat) (t0 : Nat) (xm1 : Nat) (a0 : Nat) (w0 : Nat) (k0 : Nat) (e0 : Nat) (xm2 : Nat) (xm3 : Nat) (xm4 : Nat) (xm5 : Nat) (j0 : Nat) (j1 : Nat) (j2 : Nat) (v1 : Nat) (v2 : Nat) (v3 : Nat) (v4 : Nat) (v5 : Nat) (v6 : Nat) (v7 : Nat) (v8 : Nat) (v9 : Nat) (v10 : Nat) (rj : Nat) (t1 : Int64) : Met l yX12_pass wX12_pass ({ frames := 1, cells := 0, slots := 0, locals := 26 }) (va_Pc [.ref h0, .long t1] (pW (dC, dI) [(h0, .inr (9, [.ref t0, .ref xm1, .ref a0, .ref w0, .ref k0, .ref e0, .ref xm2, .ref xm3, .ref xm4, .ref xm5, .ref j0, .ref j1, .ref j2, .int 0, .int 0, .int 0, .int (-1), .int 1])), (e0, .inr (4, [.ref v1, .ref v2, .ref v3, .ref v4, .ref v5, .ref v6, .int 0, .ref v7, .ref v8, .int 0, .ref v9, .ref v10, .int 0, .int 0, .int 0, .int 0, .long 0, .int 0, .int 0])), (j0, .inr (0, [.int 67108864, .ref rj, .int 0, .int 0]))] [] sz)) (va_Qi (fun (r : Int32) (_u : Unit) => r = ps t1) (fun (_u : Unit) (t : State) => bW (dC, dI) [] [] (va_A [(h0, .inr (9, [.ref t0, .ref xm1, .ref a0, .ref w0, .ref k0, .ref e0, .ref xm2, .ref xm3, .ref xm4, .ref xm5, .ref j0, .ref j1, .ref j2, .int 0, .int 0, .int 0, .int (-1), .int 1])), (e0, .inr (4, [.ref v1, .ref v2, .ref v3, .ref v4, .ref v5, .ref v6, .int 0, .ref v7, .ref v8, .int 0, .ref v9, .ref v10, .int 0, .int 0, .int 0, .int 0, .long 0, .int 0, .int 0])), (j0, .inr (0, [.int 67108864, .ref rj, .int 0, .int 0]))] sz) t) (va_A [(h0, .inr (9, [.ref t0, .ref xm1, .ref a0, .ref w0, .ref k0, .ref e0, .ref xm2, .ref xm3, .ref xm4, .ref xm5, .ref j0, .ref j1, .ref j2, .int 0, .int 0, .int 0, .int (-1), .int 1])), (e0, .inr (4, [.ref v1, .ref v2, .ref v3, .ref v4, .ref v5, .ref v6, .int 0, .ref v7, .ref v8, .int 0, .ref v9, .ref v10, .int 0, .int 0, .int 0, .int 0, .long 0, .int 0, .int 0])), (j0, .inr (0, [.int 67108864, .ref rj, .int 0, .int 0]))] sz)) 0 0 (va_A [(h0, .inr (9, [.ref t0, .ref xm1, .ref a0, .ref w0, .ref k0, .ref e0, .ref xm2, .ref xm3, .ref xm4, .ref xm5, .ref j0, .ref j1, .ref j2, .int 0, .int 0, .int 0, .int (-1), .int 1])), (e0, .inr (4, [.ref v1, .ref v2, .ref v3, .ref v4, .ref v5, .ref v6, .int 0, .ref v7, .ref v8, .int 0, .ref v9, .ref v10, .int 0, .int 0, .int 0, .int 0, .long 0, .int 0, .int 0])), (j0, .inr (0, [.int 67108864, .ref rj, .int 0, .int 0]))] sz) := by
  refine Met.ofW (cc := cX12_pass) (maxL := 5) (ret := (some .int)) (by decide) rfl ?_
  intro p e s m args below meth c s₁ B hml hv
  obtain ⟨rfl, hsz, hP, hK, hD0, hfx⟩ := hv
  have hx := B.exec
  have hb := B.bytes
  have hr := B.returns
  have hts := atoms_spec (ws := wX12_pass) B.pre
  have hkw : ∀ w ∈ kw, w.before _ s = true := fun w h => hts w (List.mem_cons_of_mem _ h)
  have hown : s.vm.findClass RX12 = some m.cls := findClass_of_methodNamed B.named
  have hlocks := B.notSynchronized
  subst hsz
  have hD := hD0.self (sz := s.heap.size)
  generalize hAe : va_A [(h0, .inr (9, [.ref t0, .ref xm1, .ref a0, .ref w0, .ref k0, .ref e0, .ref xm2, .ref xm3, .ref xm4, .ref xm5, .ref j0, .ref j1, .ref j2, .int 0, .int 0, .int 0, .int (-1), .int 1])), (e0, .inr (4, [.ref v1, .ref v2, .ref v3, .ref v4, .ref v5, .ref v6, .int 0, .ref v7, .ref v8, .int 0, .ref v9, .ref v10, .int 0, .int 0, .int 0, .int 0, .long 0, .int 0, .int 0])), (j0, .inr (0, [.int 67108864, .ref rj, .int 0, .int 0]))] s.heap.size = A at hD ⊢
  have hA : ∀ q : Nat, s.heap.size ≤ q → A q := fun q h => by rw [← hAe]; exact Or.inr h
  have hS : va_S A s.heap s.heap [] := va_S.rf
  have hP : va_P (dC, dI) classes [(h0, .inr (9, [.ref t0, .ref xm1, .ref a0, .ref w0, .ref k0, .ref e0, .ref xm2, .ref xm3, .ref xm4, .ref xm5, .ref j0, .ref j1, .ref j2, .int 0, .int 0, .int 0, .int (-1), .int 1])), (e0, .inr (4, [.ref v1, .ref v2, .ref v3, .ref v4, .ref v5, .ref v6, .int 0, .ref v7, .ref v8, .int 0, .ref v9, .ref v10, .int 0, .int 0, .int 0, .int 0, .long 0, .int 0, .int 0])), (j0, .inr (0, [.int 67108864, .ref rj, .int 0, .int 0]))] s.heap := hP
  have hl := lv_entry ([.ref h0, .long t1]) (n := 5) (Nat.le_of_ble_eq_true rfl)
  rw [lg_entry_eq]
  generalize (lg_sl ([.ref h0, .long t1]) ++ List.replicate (5 - (lg_sl ([.ref h0, .long t1])).length) Slot.unset).toArray = ls at hl ⊢
  have hl : lv_has ls 5 [(0, .ref h0), (1, .long t1)] := hl
  refine lv_lload_n hx hb dX12_pass_0 rfl (lv_at hl 1 rfl) ?_
  refine lv_lconst (v := 0) hx hb dX12_pass_1 (by decide) ?_
  refine W.lcmp hx hb dX12_pass_2 ?_
  refine lv_topi (fun x1 ex1 => ?_)
  refine lv_if_lt (tgt := 29) hx hb dX12_pass_3 (by decide) (fun c_3_0 => ?_) (fun c_3_0 => ?_)
  · refine lv_iconst (v := (-1)) hx hb dX12_pass_29 (by decide) ?_
    have hP9 := hP.sub (ws' := []) [] rfl
    have hD9 := hD.sub (ws' := []) [] (by decide) rfl
    have hK9 := hK.sub (tys' := []) [] rfl
    refine W.widen (k := 0) (n := 0) (Nat.le_of_ble_eq_true rfl) (Nat.le_of_ble_eq_true rfl) ?_
    exact W.iret (v := (-1)) hx hb hr (fun t ht hW => ⟨⟨(-1), (), rfl, (by first | (rw [ps, if_pos (by rw [← ex1]; exact c_3_0)]; done) | (rw [ps, if_neg (by rw [← ex1]; exact c_3_0), if_neg (by rw [← ex2]; exact c_26_0)]; done)), by rw [ht]; exact hP9, va_K.moved hW.alike hK9, hD9⟩, hS.F ht⟩) hS.2.2 dX12_pass_30
  · refine lv_aload_n hx hb dX12_pass_6 rfl (lv_at hl 0 rfl) ?_
    refine va_get (D := (dC, dI)) (ci := 9) (v := .int 1) (C := RX12) (T := TX12) (N := 18) hx hb hkw kin_X12 hown hK hP 0 rfl rfl 17 (by decide) (hkw _ m_127) (fun _ h9 => h9) rfl dX12_pass_7 ?_
    refine lv_if_eq (tgt := 29) hx hb dX12_pass_10 (by decide) (fun c_10_0 => absurd c_10_0 (by decide)) (fun c_10_0 => ?_)
    refine lv_lload_n hx hb dX12_pass_13 rfl (lv_at hl 1 rfl) ?_
    refine lv_ldc2 (v := 4503599627370496) hx hb hown (hkw _ m_153) dX12_pass_14 ?_
    refine lv_aload_n hx hb dX12_pass_17 rfl (lv_at hl 0 rfl) ?_
    refine va_get (D := (dC, dI)) (ci := 9) (v := .ref e0) (C := RX12) (T := TX12) (N := 18) hx hb hkw kin_X12 hown hK hP 0 rfl rfl 5 (by decide) (hkw _ m_149) (fun _ h9 => h9) rfl dX12_pass_18 ?_
    refine va_get (D := (dC, dI)) (ci := 4) (v := .long 0) (C := RX4) (T := TX4) (N := 19) hx hb hkw kin_X4 hown hK hP 1 rfl rfl 16 (by decide) (hkw _ m_154) (fun _ h9 => h9) rfl dX12_pass_21 ?_
    refine lv_lsub hx hb dX12_pass_24 ?_
    refine lv_topl (nm_r (e' := 4503599627370496) (by decide) ?_)
    refine W.lcmp hx hb dX12_pass_25 ?_
    refine lv_topi (fun x2 ex2 => ?_)
    refine lv_if_le (tgt := 31) hx hb dX12_pass_26 (by decide) (fun c_26_0 => ?_) (fun c_26_0 => ?_)
    · refine lv_aload_n hx hb dX12_pass_31 rfl (lv_at hl 0 rfl) ?_
      refine va_get (D := (dC, dI)) (ci := 9) (v := .ref e0) (C := RX12) (T := TX12) (N := 18) hx hb hkw kin_X12 hown hK hP 0 rfl rfl 5 (by decide) (hkw _ m_149) (fun _ h9 => h9) rfl dX12_pass_32 ?_
      refine lv_dup hx hb dX12_pass_35 rfl ?_
      refine va_get (D := (dC, dI)) (ci := 4) (v := .long 0) (C := RX4) (T := TX4) (N := 19) hx hb hkw kin_X4 hown hK hP 1 rfl rfl 16 (by decide) (hkw _ m_154) (fun _ h9 => h9) rfl dX12_pass_36 ?_
      refine lv_lload_n hx hb dX12_pass_39 rfl (lv_at hl 1 rfl) ?_
      refine lv_ladd hx hb dX12_pass_40 ?_
      refine lv_topl (fun x3 ex3 => ?_)
      refine va_put (D := (dC, dI)) (ci := 4) (v := .long x3) (ty := .long) (C := RX4) (T := TX4) (N := 19) hx hb hkw kin_X4 tyX4 tyX4_ok nmX4 hown hK hP hD hS 1 rfl rfl 16 (by decide) (hkw _ m_154) (fun _ h9 => h9) rfl (by decide +kernel) rfl rfl (Nat.le_of_ble_eq_true rfl) dX12_pass_41 (fun H locs hP hD hS => ?_)
      have hP : va_P (dC, dI) classes [(h0, .inr (9, [.ref t0, .ref xm1, .ref a0, .ref w0, .ref k0, .ref e0, .ref xm2, .ref xm3, .ref xm4, .ref xm5, .ref j0, .ref j1, .ref j2, .int 0, .int 0, .int 0, .int (-1), .int 1])), (e0, .inr (4, [.ref v1, .ref v2, .ref v3, .ref v4, .ref v5, .ref v6, .int 0, .ref v7, .ref v8, .int 0, .ref v9, .ref v10, .int 0, .int 0, .int 0, .int 0, .long x3, .int 0, .int 0])), (j0, .inr (0, [.int 67108864, .ref rj, .int 0, .int 0]))] H := hP
      have hD : va_D A [(h0, .inr (9, [.ref t0, .ref xm1, .ref a0, .ref w0, .ref k0, .ref e0, .ref xm2, .ref xm3, .ref xm4, .ref xm5, .ref j0, .ref j1, .ref j2, .int 0, .int 0, .int 0, .int (-1), .int 1])), (e0, .inr (4, [.ref v1, .ref v2, .ref v3, .ref v4, .ref v5, .ref v6, .int 0, .ref v7, .ref v8, .int 0, .ref v9, .ref v10, .int 0, .int 0, .int 0, .int 0, .long x3, .int 0, .int 0])), (j0, .inr (0, [.int 67108864, .ref rj, .int 0, .int 0]))] := hD
      refine lv_aload_n hx hb dX12_pass_44 rfl (lv_at hl 0 rfl) ?_
      refine va_get (D := (dC, dI)) (ci := 9) (v := .ref j0) (C := RX12) (T := TX12) (N := 18) hx hb hkw kin_X12 hown hK hP 0 rfl rfl 10 (by decide) (hkw _ m_151) (fun _ h9 => h9) rfl dX12_pass_45 ?_
      refine va_get (D := (dC, dI)) (ci := 0) (v := .int 0) (C := RX1) (T := TX1) (N := 4) hx hb hkw kin_X1 hown hK hP 2 rfl rfl 2 (by decide) (hkw _ m_104) (fun _ h9 => h9) rfl dX12_pass_48 ?_
      refine lv_istore_n (lv' := [(3, .int 0), (0, .ref h0), (1, .long t1)]) hx hb dX12_pass_51 rfl hl (by decide) rfl (fun ls hl => ?_)
      refine lv_aload_n hx hb dX12_pass_52 rfl (lv_at hl 1 rfl) ?_
      have hPc := hP.sub (ws' := [(h0, .inr (9, [.ref t0, .ref xm1, .ref a0, .ref w0, .ref k0, .ref e0, .ref xm2, .ref xm3, .ref xm4, .ref xm5, .ref j0, .ref j1, .ref j2, .int 0, .int 0, .int 0, .int (-1), .int 1])), (e0, .inr (4, [.ref v1, .ref v2, .ref v3, .ref v4, .ref v5, .ref v6, .int 0, .ref v7, .ref v8, .int 0, .ref v9, .ref v10, .int 0, .int 0, .int 0, .int 0, .long x3, .int 0, .int 0]))]) [0, 1] rfl
      have hDc := hD.sub (ws' := [(h0, .inr (9, [.ref t0, .ref xm1, .ref a0, .ref w0, .ref k0, .ref e0, .ref xm2, .ref xm3, .ref xm4, .ref xm5, .ref j0, .ref j1, .ref j2, .int 0, .int 0, .int 0, .int (-1), .int 1])), (e0, .inr (4, [.ref v1, .ref v2, .ref v3, .ref v4, .ref v5, .ref v6, .int 0, .ref v7, .ref v8, .int 0, .ref v9, .ref v10, .int 0, .int 0, .int 0, .int 0, .long x3, .int 0, .int 0]))]) [0, 1] (by decide) rfl
      have hKc := hK.sub (tys' := []) [] rfl
      have hFc := va_free (wc := [(h0, .inr (9, [.ref t0, .ref xm1, .ref a0, .ref w0, .ref k0, .ref e0, .ref xm2, .ref xm3, .ref xm4, .ref xm5, .ref j0, .ref j1, .ref j2, .int 0, .int 0, .int 0, .int (-1), .int 1])), (e0, .inr (4, [.ref v1, .ref v2, .ref v3, .ref v4, .ref v5, .ref v6, .int 0, .ref v7, .ref v8, .int 0, .ref v9, .ref v10, .int 0, .int 0, .int 0, .int 0, .long x3, .int 0, .int 0]))]) hD hS hA [0, 1] rfl
      refine va_calli (va_runV (As := []) (rest := []) ⟨hx, hb, hml, hown, hkw⟩ (c_KS_expire l dC dI H.size h0 t0 xm1 a0 w0 k0 e0 xm2 xm3 xm4 xm5 j0 j1 j2 v1 v2 v3 v4 v5 v6 v7 v8 v9 v10 x3) (callVv 0 hkw (kwI m_155) rfl rfl rfl (hkw _ m_122) (hkw _ m_156) (hkw _ m_157) (hkw _ m_158) (by decide +kernel) ⟨Nat.le_of_ble_eq_true rfl, Nat.le_of_ble_eq_true rfl⟩) ⟨fbW, va_recv hK hP (ci := 9) (q0 := 0) rfl rfl, pW_in hPc hKc hDc hfx⟩ rfl rfl hl.1 rfl (lv_room (Nat.le_of_ble_eq_true rfl)) dX12_pass_53 ⟨Nat.le_of_ble_eq_true rfl, Nat.le_of_ble_eq_true rfl⟩) hS (fun q _ h => hFc q h) hFc (fun r4 u t H1 locs ht hvm hw hB hz1 hk1 hS => ?_)
      obtain ⟨hP1, hK1, hD1⟩ := hB
      rw [ht] at hP1
      have hK1 := va_K.moved hvm.symm hK1
      obtain ⟨hP, hD⟩ := va_join (wr := [(j0, .inr (0, [.int 67108864, .ref rj, .int 0, .int 0]))]) (w1 := [(h0, .inr (9, [.ref t0, .ref xm1, .ref a0, .ref w0, .ref k0, .ref e0, .ref xm2, .ref xm3, .ref xm4, .ref xm5, .ref j0, .ref j1, .ref j2, .int 0, .int 0, .int 0, .int (-1), .int 1]))]) hP hD [0, 1] [2] rfl rfl (by decide) (by decide) hk1 hFc hP1 hD1
      have hK := (hK.sub (tys' := []) [] rfl).app hK1
      generalize H1 = H at hP hS ⊢
      have hP : va_P (dC, dI) classes [(j0, .inr (0, [.int 67108864, .ref rj, .int 0, .int 0])), (h0, .inr (9, [.ref t0, .ref xm1, .ref a0, .ref w0, .ref k0, .ref e0, .ref xm2, .ref xm3, .ref xm4, .ref xm5, .ref j0, .ref j1, .ref j2, .int 0, .int 0, .int 0, .int (-1), .int 1]))] H := hP
      have hD : va_D A [(j0, .inr (0, [.int 67108864, .ref rj, .int 0, .int 0])), (h0, .inr (9, [.ref t0, .ref xm1, .ref a0, .ref w0, .ref k0, .ref e0, .ref xm2, .ref xm3, .ref xm4, .ref xm5, .ref j0, .ref j1, .ref j2, .int 0, .int 0, .int 0, .int (-1), .int 1]))] := hD
      have hK : va_K (dC, dI) classes [] s := hK
      have hw5 := hw
      try dsimp only at hw5
      subst hw5
      refine lv_istore (lv' := [(4, .int 0), (3, .int 0), (0, .ref h0), (1, .long t1)]) hx hb dX12_pass_56 hl (by decide) rfl (fun ls hl => ?_)
      refine lv_aload_n hx hb dX12_pass_58 rfl (lv_at hl 2 rfl) ?_
      refine lv_iload_n hx hb dX12_pass_59 rfl (lv_at hl 1 rfl) ?_
      have hPc := hP.sub (ws' := [(h0, .inr (9, [.ref t0, .ref xm1, .ref a0, .ref w0, .ref k0, .ref e0, .ref xm2, .ref xm3, .ref xm4, .ref xm5, .ref j0, .ref j1, .ref j2, .int 0, .int 0, .int 0, .int (-1), .int 1])), (j0, .inr (0, [.int 67108864, .ref rj, .int 0, .int 0]))]) [1, 0] rfl
      have hDc := hD.sub (ws' := [(h0, .inr (9, [.ref t0, .ref xm1, .ref a0, .ref w0, .ref k0, .ref e0, .ref xm2, .ref xm3, .ref xm4, .ref xm5, .ref j0, .ref j1, .ref j2, .int 0, .int 0, .int 0, .int (-1), .int 1])), (j0, .inr (0, [.int 67108864, .ref rj, .int 0, .int 0]))]) [1, 0] (by decide) rfl
      have hKc := hK.sub (tys' := []) [] rfl
      have hFc := va_free (wc := [(h0, .inr (9, [.ref t0, .ref xm1, .ref a0, .ref w0, .ref k0, .ref e0, .ref xm2, .ref xm3, .ref xm4, .ref xm5, .ref j0, .ref j1, .ref j2, .int 0, .int 0, .int 0, .int (-1), .int 1])), (j0, .inr (0, [.int 67108864, .ref rj, .int 0, .int 0]))]) hD hS hA [1, 0] rfl
      refine va_callv (va_runV (As := [.int 0]) (rest := []) ⟨hx, hb, hml, hown, hkw⟩ (c_KS_burn l dC dI H.size h0 t0 xm1 a0 w0 k0 e0 xm2 xm3 xm4 xm5 j0 j1 j2 rj) (callVv 1 hkw (kwI m_159) rfl rfl rfl (hkw _ m_122) (hkw _ m_160) (hkw _ m_161) (hkw _ m_162) (by decide +kernel) ⟨Nat.le_of_ble_eq_true rfl, Nat.le_of_ble_eq_true rfl⟩) ⟨fbW, va_recv hK hP (ci := 9) (q0 := 1) rfl rfl, pW_in hPc hKc hDc hfx⟩ rfl rfl hl.1 rfl (lv_room (Nat.le_of_ble_eq_true rfl)) dX12_pass_60 ⟨Nat.le_of_ble_eq_true rfl, Nat.le_of_ble_eq_true rfl⟩) hS (fun q _ h => hFc q h) hFc (fun u t H1 locs ht hvm hw hB hz1 hk1 hS => ?_)
      obtain ⟨hP1, hK1, hD1⟩ := hB
      rw [ht] at hP1
      have hK1 := va_K.moved hvm.symm hK1
      obtain ⟨hP, hD⟩ := va_join (wr := []) (w1 := [(h0, .inr (9, [.ref t0, .ref xm1, .ref a0, .ref w0, .ref k0, .ref e0, .ref xm2, .ref xm3, .ref xm4, .ref xm5, .ref j0, .ref j1, .ref j2, .int 0, .int 0, .int 0, .int (-1), .int 1]))]) hP hD [1, 0] [] rfl rfl (by decide) (by decide) hk1 hFc hP1 hD1
      have hK := (hK.sub (tys' := []) [] rfl).app hK1
      generalize H1 = H at hP hS ⊢
      have hP : va_P (dC, dI) classes [(h0, .inr (9, [.ref t0, .ref xm1, .ref a0, .ref w0, .ref k0, .ref e0, .ref xm2, .ref xm3, .ref xm4, .ref xm5, .ref j0, .ref j1, .ref j2, .int 0, .int 0, .int 0, .int (-1), .int 1]))] H := hP
      have hD : va_D A [(h0, .inr (9, [.ref t0, .ref xm1, .ref a0, .ref w0, .ref k0, .ref e0, .ref xm2, .ref xm3, .ref xm4, .ref xm5, .ref j0, .ref j1, .ref j2, .int 0, .int 0, .int 0, .int (-1), .int 1]))] := hD
      have hK : va_K (dC, dI) classes [] s := hK
      have hw6 := hw
      try dsimp only at hw6
      refine lv_aload_n hx hb dX12_pass_63 rfl (lv_at hl 2 rfl) ?_
      refine va_get (D := (dC, dI)) (ci := 9) (v := .int 1) (C := RX12) (T := TX12) (N := 18) hx hb hkw kin_X12 hown hK hP 0 rfl rfl 17 (by decide) (hkw _ m_127) (fun _ h9 => h9) rfl dX12_pass_64 ?_
      refine lv_if_eq (tgt := 75) hx hb dX12_pass_67 (by decide) (fun c_67_0 => absurd c_67_0 (by decide)) (fun c_67_0 => ?_)
      refine lv_iload hx hb dX12_pass_70 (lv_at hl 0 rfl) ?_
      refine lv_goto (tgt := 76) hx hb dX12_pass_72 (by decide) ?_
      have hP9 := hP.sub (ws' := []) [] rfl
      have hD9 := hD.sub (ws' := []) [] (by decide) rfl
      have hK9 := hK.sub (tys' := []) [] rfl
      refine W.widen (k := 0) (n := 0) (Nat.le_of_ble_eq_true rfl) (Nat.le_of_ble_eq_true rfl) ?_
      exact W.iret (v := 0) hx hb hr (fun t ht hW => ⟨⟨0, (), rfl, by rw [ps, if_neg (by rw [← ex1]; exact c_3_0), if_pos (by rw [← ex2]; exact c_26_0)], by rw [ht]; exact hP9, va_K.moved hW.alike hK9, hD9⟩, hS.F ht⟩) hS.2.2 dX12_pass_76
    · refine lv_iconst (v := (-1)) hx hb dX12_pass_29 (by decide) ?_
      have hP9 := hP.sub (ws' := []) [] rfl
      have hD9 := hD.sub (ws' := []) [] (by decide) rfl
      have hK9 := hK.sub (tys' := []) [] rfl
      refine W.widen (k := 0) (n := 0) (Nat.le_of_ble_eq_true rfl) (Nat.le_of_ble_eq_true rfl) ?_
      exact W.iret (v := (-1)) hx hb hr (fun t ht hW => ⟨⟨(-1), (), rfl, (by first | (rw [ps, if_pos (by rw [← ex1]; exact c_3_0)]; done) | (rw [ps, if_neg (by rw [← ex1]; exact c_3_0), if_neg (by rw [← ex2]; exact c_26_0)]; done)), by rw [ht]; exact hP9, va_K.moved hW.alike hK9, hD9⟩, hS.F ht⟩) hS.2.2 dX12_pass_30

set_option maxHeartbeats 4000000 in
set_option maxRecDepth 100000 in
/-- now, fresh -/
theorem c_KS_now (l : Launch) (dC : Nat → ClassId) (dI : Nat → Nat → Nat) (sz : Nat) (h0 : Nat) (t0 : Nat) (xm1 : Nat) (a0 : Nat) (w0 : Nat) (k0 : Nat) (e0 : Nat) (xm2 : Nat) (xm3 : Nat) (xm4 : Nat) (xm5 : Nat) (j0 : Nat) (j1 : Nat) (j2 : Nat) (v1 : Nat) (v2 : Nat) (v3 : Nat) (v4 : Nat) (v5 : Nat) (v6 : Nat) (v7 : Nat) (v8 : Nat) (v9 : Nat) (v10 : Nat) : Met l yX12_now wX12_now ({ frames := 0, cells := 0, slots := 0, locals := 0 }) (va_Pc [.ref h0] (pW (dC, dI) [(h0, .inr (9, [.ref t0, .ref xm1, .ref a0, .ref w0, .ref k0, .ref e0, .ref xm2, .ref xm3, .ref xm4, .ref xm5, .ref j0, .ref j1, .ref j2, .int 0, .int 0, .int 0, .int (-1), .int 1])), (e0, .inr (4, [.ref v1, .ref v2, .ref v3, .ref v4, .ref v5, .ref v6, .int 0, .ref v7, .ref v8, .int 0, .ref v9, .ref v10, .int 0, .int 0, .int 0, .int 0, .long 0, .int 0, .int 0]))] [] sz)) (va_Ql (fun (r : Int64) (_u : Unit) => r = 0) (fun (_u : Unit) (t : State) => bW (dC, dI) [] [] (va_A [(h0, .inr (9, [.ref t0, .ref xm1, .ref a0, .ref w0, .ref k0, .ref e0, .ref xm2, .ref xm3, .ref xm4, .ref xm5, .ref j0, .ref j1, .ref j2, .int 0, .int 0, .int 0, .int (-1), .int 1])), (e0, .inr (4, [.ref v1, .ref v2, .ref v3, .ref v4, .ref v5, .ref v6, .int 0, .ref v7, .ref v8, .int 0, .ref v9, .ref v10, .int 0, .int 0, .int 0, .int 0, .long 0, .int 0, .int 0]))] sz) t) (va_A [(h0, .inr (9, [.ref t0, .ref xm1, .ref a0, .ref w0, .ref k0, .ref e0, .ref xm2, .ref xm3, .ref xm4, .ref xm5, .ref j0, .ref j1, .ref j2, .int 0, .int 0, .int 0, .int (-1), .int 1])), (e0, .inr (4, [.ref v1, .ref v2, .ref v3, .ref v4, .ref v5, .ref v6, .int 0, .ref v7, .ref v8, .int 0, .ref v9, .ref v10, .int 0, .int 0, .int 0, .int 0, .long 0, .int 0, .int 0]))] sz)) 0 0 (va_A [(h0, .inr (9, [.ref t0, .ref xm1, .ref a0, .ref w0, .ref k0, .ref e0, .ref xm2, .ref xm3, .ref xm4, .ref xm5, .ref j0, .ref j1, .ref j2, .int 0, .int 0, .int 0, .int (-1), .int 1])), (e0, .inr (4, [.ref v1, .ref v2, .ref v3, .ref v4, .ref v5, .ref v6, .int 0, .ref v7, .ref v8, .int 0, .ref v9, .ref v10, .int 0, .int 0, .int 0, .int 0, .long 0, .int 0, .int 0]))] sz) := by
  refine Met.ofW (cc := cX12_now) (maxL := 1) (ret := (some .long)) (by decide) rfl ?_
  intro p e s m args below meth c s₁ B hml hv
  obtain ⟨rfl, hsz, hP, hK, hD0, hfx⟩ := hv
  have hx := B.exec
  have hb := B.bytes
  have hr := B.returns
  have hts := atoms_spec (ws := wX12_now) B.pre
  have hkw : ∀ w ∈ kw, w.before _ s = true := fun w h => hts w (List.mem_cons_of_mem _ h)
  have hown : s.vm.findClass RX12 = some m.cls := findClass_of_methodNamed B.named
  have hlocks := B.notSynchronized
  subst hsz
  have hD := hD0.self (sz := s.heap.size)
  generalize hAe : va_A [(h0, .inr (9, [.ref t0, .ref xm1, .ref a0, .ref w0, .ref k0, .ref e0, .ref xm2, .ref xm3, .ref xm4, .ref xm5, .ref j0, .ref j1, .ref j2, .int 0, .int 0, .int 0, .int (-1), .int 1])), (e0, .inr (4, [.ref v1, .ref v2, .ref v3, .ref v4, .ref v5, .ref v6, .int 0, .ref v7, .ref v8, .int 0, .ref v9, .ref v10, .int 0, .int 0, .int 0, .int 0, .long 0, .int 0, .int 0]))] s.heap.size = A at hD ⊢
  have hA : ∀ q : Nat, s.heap.size ≤ q → A q := fun q h => by rw [← hAe]; exact Or.inr h
  have hS : va_S A s.heap s.heap [] := va_S.rf
  have hP : va_P (dC, dI) classes [(h0, .inr (9, [.ref t0, .ref xm1, .ref a0, .ref w0, .ref k0, .ref e0, .ref xm2, .ref xm3, .ref xm4, .ref xm5, .ref j0, .ref j1, .ref j2, .int 0, .int 0, .int 0, .int (-1), .int 1])), (e0, .inr (4, [.ref v1, .ref v2, .ref v3, .ref v4, .ref v5, .ref v6, .int 0, .ref v7, .ref v8, .int 0, .ref v9, .ref v10, .int 0, .int 0, .int 0, .int 0, .long 0, .int 0, .int 0]))] s.heap := hP
  have hl := lv_entry ([.ref h0]) (n := 1) (Nat.le_of_ble_eq_true rfl)
  rw [lg_entry_eq]
  generalize (lg_sl ([.ref h0]) ++ List.replicate (1 - (lg_sl ([.ref h0])).length) Slot.unset).toArray = ls at hl ⊢
  have hl : lv_has ls 1 [(0, .ref h0)] := hl
  refine lv_aload_n hx hb dX12_now_0 rfl (lv_at hl 0 rfl) ?_
  refine va_get (D := (dC, dI)) (ci := 9) (v := .ref e0) (C := RX12) (T := TX12) (N := 18) hx hb hkw kin_X12 hown hK hP 0 rfl rfl 5 (by decide) (hkw _ m_149) (fun _ h9 => h9) rfl dX12_now_1 ?_
  refine va_get (D := (dC, dI)) (ci := 4) (v := .long 0) (C := RX4) (T := TX4) (N := 19) hx hb hkw kin_X4 hown hK hP 1 rfl rfl 16 (by decide) (hkw _ m_154) (fun _ h9 => h9) rfl dX12_now_4 ?_
  have hP9 := hP.sub (ws' := []) [] rfl
  have hD9 := hD.sub (ws' := []) [] (by decide) rfl
  have hK9 := hK.sub (tys' := []) [] rfl
  refine W.widen (k := 0) (n := 0) (Nat.le_of_ble_eq_true rfl) (Nat.le_of_ble_eq_true rfl) ?_
  exact W.lret (v := 0) hx hb hr (fun t ht hW => ⟨⟨0, (), rfl, rfl, by rw [ht]; exact hP9, va_K.moved hW.alike hK9, hD9⟩, hS.F ht⟩) hS.2.2 dX12_now_7

set_option maxHeartbeats 4000000 in
set_option maxRecDepth 100000 in
/-- fuse, fresh -/
theorem c_KS_fuse (l : Launch) (dC : Nat → ClassId) (dI : Nat → Nat → Nat) (sz : Nat) (h0 : Nat) (t0 : Nat) (xm1 : Nat) (a0 : Nat) (w0 : Nat) (k0 : Nat) (e0 : Nat) (xm2 : Nat) (xm3 : Nat) (xm4 : Nat) (xm5 : Nat) (j0 : Nat) (j1 : Nat) (j2 : Nat) (p0 : Int32) : Met l yX12_fuse wX12_fuse ({ frames := 0, cells := 0, slots := 0, locals := 0 }) (va_Pc [.ref h0, .int p0] (pW (dC, dI) [(h0, .inr (9, [.ref t0, .ref xm1, .ref a0, .ref w0, .ref k0, .ref e0, .ref xm2, .ref xm3, .ref xm4, .ref xm5, .ref j0, .ref j1, .ref j2, .int 0, .int 0, .int 0, .int (-1), .int 1]))] [] sz)) (va_Qv (fun (_u : Unit) => True) (fun (_u : Unit) (t : State) => bW (dC, dI) [] [] (va_A [(h0, .inr (9, [.ref t0, .ref xm1, .ref a0, .ref w0, .ref k0, .ref e0, .ref xm2, .ref xm3, .ref xm4, .ref xm5, .ref j0, .ref j1, .ref j2, .int 0, .int 0, .int 0, .int (-1), .int 1]))] sz) t) (va_A [(h0, .inr (9, [.ref t0, .ref xm1, .ref a0, .ref w0, .ref k0, .ref e0, .ref xm2, .ref xm3, .ref xm4, .ref xm5, .ref j0, .ref j1, .ref j2, .int 0, .int 0, .int 0, .int (-1), .int 1]))] sz)) 0 0 (va_A [(h0, .inr (9, [.ref t0, .ref xm1, .ref a0, .ref w0, .ref k0, .ref e0, .ref xm2, .ref xm3, .ref xm4, .ref xm5, .ref j0, .ref j1, .ref j2, .int 0, .int 0, .int 0, .int (-1), .int 1]))] sz) := by
  refine Met.ofW (cc := cX12_fuse) (maxL := 2) (ret := none) (by decide) rfl ?_
  intro p e s m args below meth c s₁ B hml hv
  obtain ⟨rfl, hsz, hP, hK, hD0, hfx⟩ := hv
  have hx := B.exec
  have hb := B.bytes
  have hr := B.returns
  have hts := atoms_spec (ws := wX12_fuse) B.pre
  have hkw : ∀ w ∈ kw, w.before _ s = true := fun w h => hts w (List.mem_cons_of_mem _ h)
  have hown : s.vm.findClass RX12 = some m.cls := findClass_of_methodNamed B.named
  have hlocks := B.notSynchronized
  subst hsz
  have hD := hD0.self (sz := s.heap.size)
  generalize hAe : va_A [(h0, .inr (9, [.ref t0, .ref xm1, .ref a0, .ref w0, .ref k0, .ref e0, .ref xm2, .ref xm3, .ref xm4, .ref xm5, .ref j0, .ref j1, .ref j2, .int 0, .int 0, .int 0, .int (-1), .int 1]))] s.heap.size = A at hD ⊢
  have hA : ∀ q : Nat, s.heap.size ≤ q → A q := fun q h => by rw [← hAe]; exact Or.inr h
  have hS : va_S A s.heap s.heap [] := va_S.rf
  have hP : va_P (dC, dI) classes [(h0, .inr (9, [.ref t0, .ref xm1, .ref a0, .ref w0, .ref k0, .ref e0, .ref xm2, .ref xm3, .ref xm4, .ref xm5, .ref j0, .ref j1, .ref j2, .int 0, .int 0, .int 0, .int (-1), .int 1]))] s.heap := hP
  have hl := lv_entry ([.ref h0, .int p0]) (n := 2) (Nat.le_of_ble_eq_true rfl)
  rw [lg_entry_eq]
  generalize (lg_sl ([.ref h0, .int p0]) ++ List.replicate (2 - (lg_sl ([.ref h0, .int p0])).length) Slot.unset).toArray = ls at hl ⊢
  have hl : lv_has ls 2 [(0, .ref h0), (1, .int p0)] := hl
  refine lv_aload_n hx hb dX12_fuse_0 rfl (lv_at hl 0 rfl) ?_
  refine lv_iload_n hx hb dX12_fuse_1 rfl (lv_at hl 1 rfl) ?_
  refine lv_if_ge (tgt := 9) hx hb dX12_fuse_2 (by decide) (fun c_2_0 => ?_) (fun c_2_0 => ?_)
  · refine lv_iload_n hx hb dX12_fuse_9 rfl (lv_at hl 1 rfl) ?_
    refine va_put (D := (dC, dI)) (ci := 9) (v := .int p0) (ty := .int) (C := RX12) (T := TX12) (N := 18) hx hb hkw kin_X12 tyX12 tyX12_ok nmX12 hown hK hP hD hS 0 rfl rfl 16 (by decide) (hkw _ m_152) (fun _ h9 => h9) rfl (by decide +kernel) rfl rfl (Nat.le_of_ble_eq_true rfl) dX12_fuse_10 (fun H locs hP hD hS => ?_)
    have hP : va_P (dC, dI) classes [(h0, .inr (9, [.ref t0, .ref xm1, .ref a0, .ref w0, .ref k0, .ref e0, .ref xm2, .ref xm3, .ref xm4, .ref xm5, .ref j0, .ref j1, .ref j2, .int 0, .int 0, .int 0, .int p0, .int 1]))] H := hP
    have hD : va_D A [(h0, .inr (9, [.ref t0, .ref xm1, .ref a0, .ref w0, .ref k0, .ref e0, .ref xm2, .ref xm3, .ref xm4, .ref xm5, .ref j0, .ref j1, .ref j2, .int 0, .int 0, .int 0, .int p0, .int 1]))] := hD
    have hP9 := hP.sub (ws' := []) [] rfl
    have hD9 := hD.sub (ws' := []) [] (by decide) rfl
    have hK9 := hK.sub (tys' := []) [] rfl
    refine W.widen (k := 0) (n := 0) (Nat.le_of_ble_eq_true rfl) (Nat.le_of_ble_eq_true rfl) ?_
    exact W.vret hx hb hr (fun t ht hW => ⟨⟨(), rfl, trivial, by rw [ht]; exact hP9, va_K.moved hW.alike hK9, hD9⟩, hS.F ht⟩) hS.2.2 dX12_fuse_13
  · refine lv_iconst (v := (-1)) hx hb dX12_fuse_5 (by decide) ?_
    refine lv_goto (tgt := 10) hx hb dX12_fuse_6 (by decide) ?_
    refine va_put (D := (dC, dI)) (ci := 9) (v := .int (-1)) (ty := .int) (C := RX12) (T := TX12) (N := 18) hx hb hkw kin_X12 tyX12 tyX12_ok nmX12 hown hK hP hD hS 0 rfl rfl 16 (by decide) (hkw _ m_152) (fun _ h9 => h9) rfl (by decide +kernel) rfl rfl (Nat.le_of_ble_eq_true rfl) dX12_fuse_10 (fun H locs hP hD hS => ?_)
    have hP : va_P (dC, dI) classes [(h0, .inr (9, [.ref t0, .ref xm1, .ref a0, .ref w0, .ref k0, .ref e0, .ref xm2, .ref xm3, .ref xm4, .ref xm5, .ref j0, .ref j1, .ref j2, .int 0, .int 0, .int 0, .int (-1), .int 1]))] H := hP
    have hD : va_D A [(h0, .inr (9, [.ref t0, .ref xm1, .ref a0, .ref w0, .ref k0, .ref e0, .ref xm2, .ref xm3, .ref xm4, .ref xm5, .ref j0, .ref j1, .ref j2, .int 0, .int 0, .int 0, .int (-1), .int 1]))] := hD
    have hP9 := hP.sub (ws' := []) [] rfl
    have hD9 := hD.sub (ws' := []) [] (by decide) rfl
    have hK9 := hK.sub (tys' := []) [] rfl
    refine W.widen (k := 0) (n := 0) (Nat.le_of_ble_eq_true rfl) (Nat.le_of_ble_eq_true rfl) ?_
    exact W.vret hx hb hr (fun t ht hW => ⟨⟨(), rfl, trivial, by rw [ht]; exact hP9, va_K.moved hW.alike hK9, hD9⟩, hS.F ht⟩) hS.2.2 dX12_fuse_13

set_option maxHeartbeats 4000000 in
set_option maxRecDepth 100000 in
/-- restart, fresh -/
theorem c_KS_restart (l : Launch) (dC : Nat → ClassId) (dI : Nat → Nat → Nat) (sz : Nat) (h0 : Nat) (t0 : Nat) (xm1 : Nat) (a0 : Nat) (w0 : Nat) (k0 : Nat) (e0 : Nat) (xm2 : Nat) (xm3 : Nat) (xm4 : Nat) (xm5 : Nat) (j0 : Nat) (j1 : Nat) (j2 : Nat) : Met l yX12_restart wX12_restart ({ frames := 0, cells := 0, slots := 0, locals := 0 }) (va_Pc [.ref h0] (pW (dC, dI) [(h0, .inr (9, [.ref t0, .ref xm1, .ref a0, .ref w0, .ref k0, .ref e0, .ref xm2, .ref xm3, .ref xm4, .ref xm5, .ref j0, .ref j1, .ref j2, .int 0, .int 0, .int 0, .int (-1), .int 1]))] [] sz)) (va_Qi (fun (r : Int32) (_u : Unit) => r = -1) (fun (_u : Unit) (t : State) => bW (dC, dI) [] [] (va_A [(h0, .inr (9, [.ref t0, .ref xm1, .ref a0, .ref w0, .ref k0, .ref e0, .ref xm2, .ref xm3, .ref xm4, .ref xm5, .ref j0, .ref j1, .ref j2, .int 0, .int 0, .int 0, .int (-1), .int 1]))] sz) t) (va_A [(h0, .inr (9, [.ref t0, .ref xm1, .ref a0, .ref w0, .ref k0, .ref e0, .ref xm2, .ref xm3, .ref xm4, .ref xm5, .ref j0, .ref j1, .ref j2, .int 0, .int 0, .int 0, .int (-1), .int 1]))] sz)) 0 0 (va_A [(h0, .inr (9, [.ref t0, .ref xm1, .ref a0, .ref w0, .ref k0, .ref e0, .ref xm2, .ref xm3, .ref xm4, .ref xm5, .ref j0, .ref j1, .ref j2, .int 0, .int 0, .int 0, .int (-1), .int 1]))] sz) := by
  refine Met.ofW (cc := cX12_restart) (maxL := 6) (ret := (some .int)) (by decide) rfl ?_
  intro p e s m args below meth c s₁ B hml hv
  obtain ⟨rfl, hsz, hP, hK, hD0, hfx⟩ := hv
  have hx := B.exec
  have hb := B.bytes
  have hr := B.returns
  have hts := atoms_spec (ws := wX12_restart) B.pre
  have hkw : ∀ w ∈ kw, w.before _ s = true := fun w h => hts w (List.mem_cons_of_mem _ h)
  have hown : s.vm.findClass RX12 = some m.cls := findClass_of_methodNamed B.named
  have hlocks := B.notSynchronized
  subst hsz
  have hD := hD0.self (sz := s.heap.size)
  generalize hAe : va_A [(h0, .inr (9, [.ref t0, .ref xm1, .ref a0, .ref w0, .ref k0, .ref e0, .ref xm2, .ref xm3, .ref xm4, .ref xm5, .ref j0, .ref j1, .ref j2, .int 0, .int 0, .int 0, .int (-1), .int 1]))] s.heap.size = A at hD ⊢
  have hA : ∀ q : Nat, s.heap.size ≤ q → A q := fun q h => by rw [← hAe]; exact Or.inr h
  have hS : va_S A s.heap s.heap [] := va_S.rf
  have hP : va_P (dC, dI) classes [(h0, .inr (9, [.ref t0, .ref xm1, .ref a0, .ref w0, .ref k0, .ref e0, .ref xm2, .ref xm3, .ref xm4, .ref xm5, .ref j0, .ref j1, .ref j2, .int 0, .int 0, .int 0, .int (-1), .int 1]))] s.heap := hP
  have hl := lv_entry ([.ref h0]) (n := 6) (Nat.le_of_ble_eq_true rfl)
  rw [lg_entry_eq]
  generalize (lg_sl ([.ref h0]) ++ List.replicate (6 - (lg_sl ([.ref h0])).length) Slot.unset).toArray = ls at hl ⊢
  have hl : lv_has ls 6 [(0, .ref h0)] := hl
  refine lv_aload_n hx hb dX12_restart_0 rfl (lv_at hl 0 rfl) ?_
  refine va_get (D := (dC, dI)) (ci := 9) (v := .int 1) (C := RX12) (T := TX12) (N := 18) hx hb hkw kin_X12 hown hK hP 0 rfl rfl 17 (by decide) (hkw _ m_127) (fun _ h9 => h9) rfl dX12_restart_1 ?_
  refine lv_if_eq (tgt := 9) hx hb dX12_restart_4 (by decide) (fun c_4_0 => absurd c_4_0 (by decide)) (fun c_4_0 => ?_)
  refine lv_iconst (v := (-1)) hx hb dX12_restart_7 (by decide) ?_
  have hP9 := hP.sub (ws' := []) [] rfl
  have hD9 := hD.sub (ws' := []) [] (by decide) rfl
  have hK9 := hK.sub (tys' := []) [] rfl
  refine W.widen (k := 0) (n := 0) (Nat.le_of_ble_eq_true rfl) (Nat.le_of_ble_eq_true rfl) ?_
  exact W.iret (v := (-1)) hx hb hr (fun t ht hW => ⟨⟨(-1), (), rfl, rfl, by rw [ht]; exact hP9, va_K.moved hW.alike hK9, hD9⟩, hS.F ht⟩) hS.2.2 dX12_restart_8

set_option maxHeartbeats 4000000 in
set_option maxRecDepth 100000 in
/-- rewrite, fresh -/
theorem c_KS_rewrite (l : Launch) (dC : Nat → ClassId) (dI : Nat → Nat → Nat) (sz : Nat) (h0 : Nat) (t0 : Nat) (xm1 : Nat) (a0 : Nat) (w0 : Nat) (k0 : Nat) (e0 : Nat) (xm2 : Nat) (xm3 : Nat) (xm4 : Nat) (xm5 : Nat) (j0 : Nat) (j1 : Nat) (j2 : Nat) (v1 : Nat) (v2 : Nat) (v3 : Nat) (v4 : Nat) (v5 : Nat) (v6 : Nat) (v7 : Nat) (v8 : Nat) (v9 : Nat) (v10 : Nat) (rj : Nat) (rk : Nat) : Met l yX12_rewrite wX12_rewrite ({ frames := 1, cells := 0, slots := 0, locals := 20 }) (va_Pc [.ref h0] (pW (dC, dI) [(h0, .inr (9, [.ref t0, .ref xm1, .ref a0, .ref w0, .ref k0, .ref e0, .ref xm2, .ref xm3, .ref xm4, .ref xm5, .ref j0, .ref j1, .ref j2, .int 0, .int 0, .int 0, .int (-1), .int 1])), (e0, .inr (4, [.ref v1, .ref v2, .ref v3, .ref v4, .ref v5, .ref v6, .int 0, .ref v7, .ref v8, .int 0, .ref v9, .ref v10, .int 0, .int 0, .int 0, .int 0, .long 0, .int 0, .int 0])), (j0, .inr (0, [.int 67108864, .ref rj, .int 0, .int 0])), (j1, .inr (0, [.int 67108864, .ref rk, .int 0, .int 0]))] [] sz)) (va_Qi (fun (r : Int32) (_u : Unit) => r = 0) (fun (_u : Unit) (t : State) => bW (dC, dI) [] [] (va_A [(h0, .inr (9, [.ref t0, .ref xm1, .ref a0, .ref w0, .ref k0, .ref e0, .ref xm2, .ref xm3, .ref xm4, .ref xm5, .ref j0, .ref j1, .ref j2, .int 0, .int 0, .int 0, .int (-1), .int 1])), (e0, .inr (4, [.ref v1, .ref v2, .ref v3, .ref v4, .ref v5, .ref v6, .int 0, .ref v7, .ref v8, .int 0, .ref v9, .ref v10, .int 0, .int 0, .int 0, .int 0, .long 0, .int 0, .int 0])), (j0, .inr (0, [.int 67108864, .ref rj, .int 0, .int 0])), (j1, .inr (0, [.int 67108864, .ref rk, .int 0, .int 0]))] sz) t) (va_A [(h0, .inr (9, [.ref t0, .ref xm1, .ref a0, .ref w0, .ref k0, .ref e0, .ref xm2, .ref xm3, .ref xm4, .ref xm5, .ref j0, .ref j1, .ref j2, .int 0, .int 0, .int 0, .int (-1), .int 1])), (e0, .inr (4, [.ref v1, .ref v2, .ref v3, .ref v4, .ref v5, .ref v6, .int 0, .ref v7, .ref v8, .int 0, .ref v9, .ref v10, .int 0, .int 0, .int 0, .int 0, .long 0, .int 0, .int 0])), (j0, .inr (0, [.int 67108864, .ref rj, .int 0, .int 0])), (j1, .inr (0, [.int 67108864, .ref rk, .int 0, .int 0]))] sz)) 0 0 (va_A [(h0, .inr (9, [.ref t0, .ref xm1, .ref a0, .ref w0, .ref k0, .ref e0, .ref xm2, .ref xm3, .ref xm4, .ref xm5, .ref j0, .ref j1, .ref j2, .int 0, .int 0, .int 0, .int (-1), .int 1])), (e0, .inr (4, [.ref v1, .ref v2, .ref v3, .ref v4, .ref v5, .ref v6, .int 0, .ref v7, .ref v8, .int 0, .ref v9, .ref v10, .int 0, .int 0, .int 0, .int 0, .long 0, .int 0, .int 0])), (j0, .inr (0, [.int 67108864, .ref rj, .int 0, .int 0])), (j1, .inr (0, [.int 67108864, .ref rk, .int 0, .int 0]))] sz) := by
  refine Met.ofW (cc := cX12_rewrite) (maxL := 2) (ret := (some .int)) (by decide) rfl ?_
  intro p e s m args below meth c s₁ B hml hv
  obtain ⟨rfl, hsz, hP, hK, hD0, hfx⟩ := hv
  have hx := B.exec
  have hb := B.bytes
  have hr := B.returns
  have hts := atoms_spec (ws := wX12_rewrite) B.pre
  have hkw : ∀ w ∈ kw, w.before _ s = true := fun w h => hts w (List.mem_cons_of_mem _ h)
  have hown : s.vm.findClass RX12 = some m.cls := findClass_of_methodNamed B.named
  have hlocks := B.notSynchronized
  subst hsz
  have hD := hD0.self (sz := s.heap.size)
  generalize hAe : va_A [(h0, .inr (9, [.ref t0, .ref xm1, .ref a0, .ref w0, .ref k0, .ref e0, .ref xm2, .ref xm3, .ref xm4, .ref xm5, .ref j0, .ref j1, .ref j2, .int 0, .int 0, .int 0, .int (-1), .int 1])), (e0, .inr (4, [.ref v1, .ref v2, .ref v3, .ref v4, .ref v5, .ref v6, .int 0, .ref v7, .ref v8, .int 0, .ref v9, .ref v10, .int 0, .int 0, .int 0, .int 0, .long 0, .int 0, .int 0])), (j0, .inr (0, [.int 67108864, .ref rj, .int 0, .int 0])), (j1, .inr (0, [.int 67108864, .ref rk, .int 0, .int 0]))] s.heap.size = A at hD ⊢
  have hA : ∀ q : Nat, s.heap.size ≤ q → A q := fun q h => by rw [← hAe]; exact Or.inr h
  have hS : va_S A s.heap s.heap [] := va_S.rf
  have hP : va_P (dC, dI) classes [(h0, .inr (9, [.ref t0, .ref xm1, .ref a0, .ref w0, .ref k0, .ref e0, .ref xm2, .ref xm3, .ref xm4, .ref xm5, .ref j0, .ref j1, .ref j2, .int 0, .int 0, .int 0, .int (-1), .int 1])), (e0, .inr (4, [.ref v1, .ref v2, .ref v3, .ref v4, .ref v5, .ref v6, .int 0, .ref v7, .ref v8, .int 0, .ref v9, .ref v10, .int 0, .int 0, .int 0, .int 0, .long 0, .int 0, .int 0])), (j0, .inr (0, [.int 67108864, .ref rj, .int 0, .int 0])), (j1, .inr (0, [.int 67108864, .ref rk, .int 0, .int 0]))] s.heap := hP
  have hl := lv_entry ([.ref h0]) (n := 2) (Nat.le_of_ble_eq_true rfl)
  rw [lg_entry_eq]
  generalize (lg_sl ([.ref h0]) ++ List.replicate (2 - (lg_sl ([.ref h0])).length) Slot.unset).toArray = ls at hl ⊢
  have hl : lv_has ls 2 [(0, .ref h0)] := hl
  refine lv_aload_n hx hb dX12_rewrite_0 rfl (lv_at hl 0 rfl) ?_
  refine va_get (D := (dC, dI)) (ci := 9) (v := .int 1) (C := RX12) (T := TX12) (N := 18) hx hb hkw kin_X12 hown hK hP 0 rfl rfl 17 (by decide) (hkw _ m_127) (fun _ h9 => h9) rfl dX12_rewrite_1 ?_
  refine lv_if_ne (tgt := 9) hx hb dX12_rewrite_4 (by decide) (fun c_4_0 => ?_) (fun c_4_0 => absurd c_4_0 (by decide))
  refine lv_aload_n hx hb dX12_rewrite_9 rfl (lv_at hl 0 rfl) ?_
  refine va_get (D := (dC, dI)) (ci := 9) (v := .ref j1) (C := RX12) (T := TX12) (N := 18) hx hb hkw kin_X12 hown hK hP 0 rfl rfl 11 (by decide) (hkw _ m_163) (fun _ h9 => h9) rfl dX12_rewrite_10 ?_
  have hPc := hP.sub (ws' := [(j1, .inr (0, [.int 67108864, .ref rk, .int 0, .int 0]))]) [3] rfl
  have hDc := hD.sub (ws' := [(j1, .inr (0, [.int 67108864, .ref rk, .int 0, .int 0]))]) [3] (by decide) rfl
  have hKc := hK.sub (tys' := []) [] rfl
  have hFc := va_free (wc := [(j1, .inr (0, [.int 67108864, .ref rk, .int 0, .int 0]))]) hD hS hA [3] rfl
  refine va_callv (va_runV (As := []) (rest := []) ⟨hx, hb, hml, hown, hkw⟩ (c_By_empty l dC dI s.heap.size j1 rk 67108864 0 0) (callVv 0 hkw (kwI m_38) rfl rfl rfl (hkw _ m_9) (hkw _ m_132) (hkw _ m_40) (hkw _ m_41) (by decide +kernel) ⟨Nat.le_of_ble_eq_true rfl, Nat.le_of_ble_eq_true rfl⟩) ⟨fbW, va_recv hK hP (ci := 0) (q0 := 3) rfl rfl, pW_in hPc hKc hDc hfx⟩ rfl rfl hl.1 rfl (lv_room (Nat.le_of_ble_eq_true rfl)) dX12_rewrite_13 ⟨Nat.le_of_ble_eq_true rfl, Nat.le_of_ble_eq_true rfl⟩) hS (fun q _ h => hFc q h) hFc (fun u t H1 locs ht hvm hw hB hz1 hk1 hS => ?_)
  obtain ⟨hP1, hK1, hD1⟩ := hB
  rw [ht] at hP1
  have hK1 := va_K.moved hvm.symm hK1
  obtain ⟨hP, hD⟩ := va_join (wr := [(h0, .inr (9, [.ref t0, .ref xm1, .ref a0, .ref w0, .ref k0, .ref e0, .ref xm2, .ref xm3, .ref xm4, .ref xm5, .ref j0, .ref j1, .ref j2, .int 0, .int 0, .int 0, .int (-1), .int 1])), (e0, .inr (4, [.ref v1, .ref v2, .ref v3, .ref v4, .ref v5, .ref v6, .int 0, .ref v7, .ref v8, .int 0, .ref v9, .ref v10, .int 0, .int 0, .int 0, .int 0, .long 0, .int 0, .int 0])), (j0, .inr (0, [.int 67108864, .ref rj, .int 0, .int 0]))]) (w1 := [(j1, .inr (0, [.int 67108864, .ref rk, .int 0, .int 0]))]) hP hD [3] [0, 1, 2] rfl rfl (by decide) (by decide) hk1 hFc hP1 hD1
  have hK := (hK.sub (tys' := []) [] rfl).app hK1
  generalize H1 = H at hP hS ⊢
  have hP : va_P (dC, dI) classes [(h0, .inr (9, [.ref t0, .ref xm1, .ref a0, .ref w0, .ref k0, .ref e0, .ref xm2, .ref xm3, .ref xm4, .ref xm5, .ref j0, .ref j1, .ref j2, .int 0, .int 0, .int 0, .int (-1), .int 1])), (e0, .inr (4, [.ref v1, .ref v2, .ref v3, .ref v4, .ref v5, .ref v6, .int 0, .ref v7, .ref v8, .int 0, .ref v9, .ref v10, .int 0, .int 0, .int 0, .int 0, .long 0, .int 0, .int 0])), (j0, .inr (0, [.int 67108864, .ref rj, .int 0, .int 0])), (j1, .inr (0, [.int 67108864, .ref rk, .int 0, .int 0]))] H := hP
  have hD : va_D A [(h0, .inr (9, [.ref t0, .ref xm1, .ref a0, .ref w0, .ref k0, .ref e0, .ref xm2, .ref xm3, .ref xm4, .ref xm5, .ref j0, .ref j1, .ref j2, .int 0, .int 0, .int 0, .int (-1), .int 1])), (e0, .inr (4, [.ref v1, .ref v2, .ref v3, .ref v4, .ref v5, .ref v6, .int 0, .ref v7, .ref v8, .int 0, .ref v9, .ref v10, .int 0, .int 0, .int 0, .int 0, .long 0, .int 0, .int 0])), (j0, .inr (0, [.int 67108864, .ref rj, .int 0, .int 0])), (j1, .inr (0, [.int 67108864, .ref rk, .int 0, .int 0]))] := hD
  have hK : va_K (dC, dI) classes [] s := hK
  have hw1 := hw
  try dsimp only at hw1
  refine lv_iconst (v := 0) hx hb dX12_rewrite_16 (by decide) ?_
  refine lv_istore_n (lv' := [(1, .int 0), (0, .ref h0)]) hx hb dX12_rewrite_17 rfl hl (by decide) rfl (fun ls hl => ?_)
  refine lv_iload_n hx hb dX12_rewrite_18 rfl (lv_at hl 0 rfl) ?_
  refine lv_aload_n hx hb dX12_rewrite_19 rfl (lv_at hl 1 rfl) ?_
  refine va_get (D := (dC, dI)) (ci := 9) (v := .ref e0) (C := RX12) (T := TX12) (N := 18) hx hb hkw kin_X12 hown hK hP 0 rfl rfl 5 (by decide) (hkw _ m_149) (fun _ h9 => h9) rfl dX12_rewrite_20 ?_
  refine va_get (D := (dC, dI)) (ci := 4) (v := .int 0) (C := RX4) (T := TX4) (N := 19) hx hb hkw kin_X4 hown hK hP 1 rfl rfl 13 (by decide) (hkw _ m_164) (fun _ h9 => h9) rfl dX12_rewrite_23 ?_
  refine lv_icmp_ge (tgt := 55) hx hb dX12_rewrite_26 (by decide) (fun c_26_0 => ?_) (fun c_26_0 => absurd c_26_0 (by decide))
  refine lv_aload_n hx hb dX12_rewrite_55 rfl (lv_at hl 1 rfl) ?_
  refine va_get (D := (dC, dI)) (ci := 9) (v := .int (-1)) (C := RX12) (T := TX12) (N := 18) hx hb hkw kin_X12 hown hK hP 0 rfl rfl 16 (by decide) (hkw _ m_152) (fun _ h9 => h9) rfl dX12_rewrite_56 ?_
  refine lv_if_lt (tgt := 87) hx hb dX12_rewrite_59 (by decide) (fun c_59_0 => ?_) (fun c_59_0 => absurd c_59_0 (by decide))
  refine lv_aload_n hx hb dX12_rewrite_87 rfl (lv_at hl 1 rfl) ?_
  refine va_get (D := (dC, dI)) (ci := 9) (v := .int (-1)) (C := RX12) (T := TX12) (N := 18) hx hb hkw kin_X12 hown hK hP 0 rfl rfl 16 (by decide) (hkw _ m_152) (fun _ h9 => h9) rfl dX12_rewrite_88 ?_
  refine lv_if_lt (tgt := 110) hx hb dX12_rewrite_91 (by decide) (fun c_91_0 => ?_) (fun c_91_0 => absurd c_91_0 (by decide))
  refine lv_aload_n hx hb dX12_rewrite_110 rfl (lv_at hl 1 rfl) ?_
  refine va_get (D := (dC, dI)) (ci := 9) (v := .ref j0) (C := RX12) (T := TX12) (N := 18) hx hb hkw kin_X12 hown hK hP 0 rfl rfl 10 (by decide) (hkw _ m_151) (fun _ h9 => h9) rfl dX12_rewrite_111 ?_
  refine lv_astore_n (lv' := [(1, .ref j0), (0, .ref h0)]) hx hb dX12_rewrite_114 rfl hl (by decide) rfl (fun ls hl => ?_)
  refine lv_aload_n hx hb dX12_rewrite_115 rfl (lv_at hl 1 rfl) ?_
  refine lv_aload_n hx hb dX12_rewrite_116 rfl (lv_at hl 1 rfl) ?_
  refine va_get (D := (dC, dI)) (ci := 9) (v := .ref j1) (C := RX12) (T := TX12) (N := 18) hx hb hkw kin_X12 hown hK hP 0 rfl rfl 11 (by decide) (hkw _ m_163) (fun _ h9 => h9) rfl dX12_rewrite_117 ?_
  refine va_put (D := (dC, dI)) (ci := 9) (v := .ref j1) (ty := .object "KeySteward$Bytes") (C := RX12) (T := TX12) (N := 18) hx hb hkw kin_X12 tyX12 tyX12_ok nmX12 hown hK hP hD hS 0 rfl rfl 10 (by decide) (hkw _ m_151) (fun _ h9 => h9) rfl (by decide +kernel) rfl rfl (Nat.le_of_ble_eq_true rfl) dX12_rewrite_120 (fun H locs hP hD hS => ?_)
  have hP : va_P (dC, dI) classes [(h0, .inr (9, [.ref t0, .ref xm1, .ref a0, .ref w0, .ref k0, .ref e0, .ref xm2, .ref xm3, .ref xm4, .ref xm5, .ref j1, .ref j1, .ref j2, .int 0, .int 0, .int 0, .int (-1), .int 1])), (e0, .inr (4, [.ref v1, .ref v2, .ref v3, .ref v4, .ref v5, .ref v6, .int 0, .ref v7, .ref v8, .int 0, .ref v9, .ref v10, .int 0, .int 0, .int 0, .int 0, .long 0, .int 0, .int 0])), (j0, .inr (0, [.int 67108864, .ref rj, .int 0, .int 0])), (j1, .inr (0, [.int 67108864, .ref rk, .int 0, .int 0]))] H := hP
  have hD : va_D A [(h0, .inr (9, [.ref t0, .ref xm1, .ref a0, .ref w0, .ref k0, .ref e0, .ref xm2, .ref xm3, .ref xm4, .ref xm5, .ref j1, .ref j1, .ref j2, .int 0, .int 0, .int 0, .int (-1), .int 1])), (e0, .inr (4, [.ref v1, .ref v2, .ref v3, .ref v4, .ref v5, .ref v6, .int 0, .ref v7, .ref v8, .int 0, .ref v9, .ref v10, .int 0, .int 0, .int 0, .int 0, .long 0, .int 0, .int 0])), (j0, .inr (0, [.int 67108864, .ref rj, .int 0, .int 0])), (j1, .inr (0, [.int 67108864, .ref rk, .int 0, .int 0]))] := hD
  refine lv_aload_n hx hb dX12_rewrite_123 rfl (lv_at hl 1 rfl) ?_
  refine lv_aload_n hx hb dX12_rewrite_124 rfl (lv_at hl 0 rfl) ?_
  refine va_put (D := (dC, dI)) (ci := 9) (v := .ref j0) (ty := .object "KeySteward$Bytes") (C := RX12) (T := TX12) (N := 18) hx hb hkw kin_X12 tyX12 tyX12_ok nmX12 hown hK hP hD hS 0 rfl rfl 11 (by decide) (hkw _ m_163) (fun _ h9 => h9) rfl (by decide +kernel) rfl rfl (Nat.le_of_ble_eq_true rfl) dX12_rewrite_125 (fun H locs hP hD hS => ?_)
  have hP : va_P (dC, dI) classes [(h0, .inr (9, [.ref t0, .ref xm1, .ref a0, .ref w0, .ref k0, .ref e0, .ref xm2, .ref xm3, .ref xm4, .ref xm5, .ref j1, .ref j0, .ref j2, .int 0, .int 0, .int 0, .int (-1), .int 1])), (e0, .inr (4, [.ref v1, .ref v2, .ref v3, .ref v4, .ref v5, .ref v6, .int 0, .ref v7, .ref v8, .int 0, .ref v9, .ref v10, .int 0, .int 0, .int 0, .int 0, .long 0, .int 0, .int 0])), (j0, .inr (0, [.int 67108864, .ref rj, .int 0, .int 0])), (j1, .inr (0, [.int 67108864, .ref rk, .int 0, .int 0]))] H := hP
  have hD : va_D A [(h0, .inr (9, [.ref t0, .ref xm1, .ref a0, .ref w0, .ref k0, .ref e0, .ref xm2, .ref xm3, .ref xm4, .ref xm5, .ref j1, .ref j0, .ref j2, .int 0, .int 0, .int 0, .int (-1), .int 1])), (e0, .inr (4, [.ref v1, .ref v2, .ref v3, .ref v4, .ref v5, .ref v6, .int 0, .ref v7, .ref v8, .int 0, .ref v9, .ref v10, .int 0, .int 0, .int 0, .int 0, .long 0, .int 0, .int 0])), (j0, .inr (0, [.int 67108864, .ref rj, .int 0, .int 0])), (j1, .inr (0, [.int 67108864, .ref rk, .int 0, .int 0]))] := hD
  refine lv_aload_n hx hb dX12_rewrite_128 rfl (lv_at hl 1 rfl) ?_
  refine va_get (D := (dC, dI)) (ci := 9) (v := .ref j1) (C := RX12) (T := TX12) (N := 18) hx hb hkw kin_X12 hown hK hP 0 rfl rfl 10 (by decide) (hkw _ m_151) (fun _ h9 => h9) rfl dX12_rewrite_129 ?_
  refine va_get (D := (dC, dI)) (ci := 0) (v := .int 0) (C := RX1) (T := TX1) (N := 4) hx hb hkw kin_X1 hown hK hP 3 rfl rfl 2 (by decide) (hkw _ m_104) (fun _ h9 => h9) rfl dX12_rewrite_132 ?_
  have hP9 := hP.sub (ws' := []) [] rfl
  have hD9 := hD.sub (ws' := []) [] (by decide) rfl
  have hK9 := hK.sub (tys' := []) [] rfl
  refine W.widen (k := 0) (n := 0) (Nat.le_of_ble_eq_true rfl) (Nat.le_of_ble_eq_true rfl) ?_
  exact W.iret (v := 0) hx hb hr (fun t ht hW => ⟨⟨0, (), rfl, rfl, by rw [ht]; exact hP9, va_K.moved hW.alike hK9, hD9⟩, hS.F ht⟩) hS.2.2 dX12_rewrite_135

set_option maxHeartbeats 4000000 in
set_option maxRecDepth 100000 in
/-- log, fresh -/
theorem c_KS_log (l : Launch) (dC : Nat → ClassId) (dI : Nat → Nat → Nat) (sz : Nat) (h0 : Nat) (t0 : Nat) (xm1 : Nat) (a0 : Nat) (w0 : Nat) (k0 : Nat) (e0 : Nat) (xm2 : Nat) (xm3 : Nat) (xm4 : Nat) (xm5 : Nat) (j0 : Nat) (j1 : Nat) (j2 : Nat) (rj : Nat) : Met l yX12_log wX12_log ({ frames := 0, cells := 0, slots := 0, locals := 0 }) (va_Pc [.ref h0] (pW (dC, dI) [(h0, .inr (9, [.ref t0, .ref xm1, .ref a0, .ref w0, .ref k0, .ref e0, .ref xm2, .ref xm3, .ref xm4, .ref xm5, .ref j0, .ref j1, .ref j2, .int 0, .int 0, .int 0, .int (-1), .int 1])), (j0, .inr (0, [.int 67108864, .ref rj, .int 0, .int 0]))] [] sz)) (va_Qi (fun (r : Int32) (_u : Unit) => r = 0) (fun (_u : Unit) (t : State) => bW (dC, dI) [] [] (va_A [(h0, .inr (9, [.ref t0, .ref xm1, .ref a0, .ref w0, .ref k0, .ref e0, .ref xm2, .ref xm3, .ref xm4, .ref xm5, .ref j0, .ref j1, .ref j2, .int 0, .int 0, .int 0, .int (-1), .int 1])), (j0, .inr (0, [.int 67108864, .ref rj, .int 0, .int 0]))] sz) t) (va_A [(h0, .inr (9, [.ref t0, .ref xm1, .ref a0, .ref w0, .ref k0, .ref e0, .ref xm2, .ref xm3, .ref xm4, .ref xm5, .ref j0, .ref j1, .ref j2, .int 0, .int 0, .int 0, .int (-1), .int 1])), (j0, .inr (0, [.int 67108864, .ref rj, .int 0, .int 0]))] sz)) 0 0 (va_A [(h0, .inr (9, [.ref t0, .ref xm1, .ref a0, .ref w0, .ref k0, .ref e0, .ref xm2, .ref xm3, .ref xm4, .ref xm5, .ref j0, .ref j1, .ref j2, .int 0, .int 0, .int 0, .int (-1), .int 1])), (j0, .inr (0, [.int 67108864, .ref rj, .int 0, .int 0]))] sz) := by
  refine Met.ofW (cc := cX12_log) (maxL := 1) (ret := (some .int)) (by decide) rfl ?_
  intro p e s m args below meth c s₁ B hml hv
  obtain ⟨rfl, hsz, hP, hK, hD0, hfx⟩ := hv
  have hx := B.exec
  have hb := B.bytes
  have hr := B.returns
  have hts := atoms_spec (ws := wX12_log) B.pre
  have hkw : ∀ w ∈ kw, w.before _ s = true := fun w h => hts w (List.mem_cons_of_mem _ h)
  have hown : s.vm.findClass RX12 = some m.cls := findClass_of_methodNamed B.named
  have hlocks := B.notSynchronized
  subst hsz
  have hD := hD0.self (sz := s.heap.size)
  generalize hAe : va_A [(h0, .inr (9, [.ref t0, .ref xm1, .ref a0, .ref w0, .ref k0, .ref e0, .ref xm2, .ref xm3, .ref xm4, .ref xm5, .ref j0, .ref j1, .ref j2, .int 0, .int 0, .int 0, .int (-1), .int 1])), (j0, .inr (0, [.int 67108864, .ref rj, .int 0, .int 0]))] s.heap.size = A at hD ⊢
  have hA : ∀ q : Nat, s.heap.size ≤ q → A q := fun q h => by rw [← hAe]; exact Or.inr h
  have hS : va_S A s.heap s.heap [] := va_S.rf
  have hP : va_P (dC, dI) classes [(h0, .inr (9, [.ref t0, .ref xm1, .ref a0, .ref w0, .ref k0, .ref e0, .ref xm2, .ref xm3, .ref xm4, .ref xm5, .ref j0, .ref j1, .ref j2, .int 0, .int 0, .int 0, .int (-1), .int 1])), (j0, .inr (0, [.int 67108864, .ref rj, .int 0, .int 0]))] s.heap := hP
  have hl := lv_entry ([.ref h0]) (n := 1) (Nat.le_of_ble_eq_true rfl)
  rw [lg_entry_eq]
  generalize (lg_sl ([.ref h0]) ++ List.replicate (1 - (lg_sl ([.ref h0])).length) Slot.unset).toArray = ls at hl ⊢
  have hl : lv_has ls 1 [(0, .ref h0)] := hl
  refine lv_aload_n hx hb dX12_log_0 rfl (lv_at hl 0 rfl) ?_
  refine va_get (D := (dC, dI)) (ci := 9) (v := .ref j0) (C := RX12) (T := TX12) (N := 18) hx hb hkw kin_X12 hown hK hP 0 rfl rfl 10 (by decide) (hkw _ m_151) (fun _ h9 => h9) rfl dX12_log_1 ?_
  refine va_get (D := (dC, dI)) (ci := 0) (v := .int 0) (C := RX1) (T := TX1) (N := 4) hx hb hkw kin_X1 hown hK hP 1 rfl rfl 2 (by decide) (hkw _ m_104) (fun _ h9 => h9) rfl dX12_log_4 ?_
  have hP9 := hP.sub (ws' := []) [] rfl
  have hD9 := hD.sub (ws' := []) [] (by decide) rfl
  have hK9 := hK.sub (tys' := []) [] rfl
  refine W.widen (k := 0) (n := 0) (Nat.le_of_ble_eq_true rfl) (Nat.le_of_ble_eq_true rfl) ?_
  exact W.iret (v := 0) hx hb hr (fun t ht hW => ⟨⟨0, (), rfl, rfl, by rw [ht]; exact hP9, va_K.moved hW.alike hK9, hD9⟩, hS.F ht⟩) hS.2.2 dX12_log_7

set_option maxHeartbeats 4000000 in
set_option maxRecDepth 100000 in
/-- tear, fresh -/
theorem c_KS_tear (l : Launch) (dC : Nat → ClassId) (dI : Nat → Nat → Nat) (sz : Nat) (h0 : Nat) (t0 : Nat) (xm1 : Nat) (a0 : Nat) (w0 : Nat) (k0 : Nat) (e0 : Nat) (xm2 : Nat) (xm3 : Nat) (xm4 : Nat) (xm5 : Nat) (j0 : Nat) (j1 : Nat) (j2 : Nat) (p0 : Int32) : Met l yX12_tear wX12_tear ({ frames := 0, cells := 0, slots := 0, locals := 0 }) (va_Pc [.ref h0, .int p0] (pW (dC, dI) [(h0, .inr (9, [.ref t0, .ref xm1, .ref a0, .ref w0, .ref k0, .ref e0, .ref xm2, .ref xm3, .ref xm4, .ref xm5, .ref j0, .ref j1, .ref j2, .int 0, .int 0, .int 0, .int (-1), .int 1]))] [] sz)) (va_Qi (fun (r : Int32) (_u : Unit) => r = 0) (fun (_u : Unit) (t : State) => bW (dC, dI) [] [] (va_A [(h0, .inr (9, [.ref t0, .ref xm1, .ref a0, .ref w0, .ref k0, .ref e0, .ref xm2, .ref xm3, .ref xm4, .ref xm5, .ref j0, .ref j1, .ref j2, .int 0, .int 0, .int 0, .int (-1), .int 1]))] sz) t) (va_A [(h0, .inr (9, [.ref t0, .ref xm1, .ref a0, .ref w0, .ref k0, .ref e0, .ref xm2, .ref xm3, .ref xm4, .ref xm5, .ref j0, .ref j1, .ref j2, .int 0, .int 0, .int 0, .int (-1), .int 1]))] sz)) 0 0 (va_A [(h0, .inr (9, [.ref t0, .ref xm1, .ref a0, .ref w0, .ref k0, .ref e0, .ref xm2, .ref xm3, .ref xm4, .ref xm5, .ref j0, .ref j1, .ref j2, .int 0, .int 0, .int 0, .int (-1), .int 1]))] sz) := by
  refine Met.ofW (cc := cX12_tear) (maxL := 2) (ret := (some .boolean)) (by decide) rfl ?_
  intro p e s m args below meth c s₁ B hml hv
  obtain ⟨rfl, hsz, hP, hK, hD0, hfx⟩ := hv
  have hx := B.exec
  have hb := B.bytes
  have hr := B.returns
  have hts := atoms_spec (ws := wX12_tear) B.pre
  have hkw : ∀ w ∈ kw, w.before _ s = true := fun w h => hts w (List.mem_cons_of_mem _ h)
  have hown : s.vm.findClass RX12 = some m.cls := findClass_of_methodNamed B.named
  have hlocks := B.notSynchronized
  subst hsz
  have hD := hD0.self (sz := s.heap.size)
  generalize hAe : va_A [(h0, .inr (9, [.ref t0, .ref xm1, .ref a0, .ref w0, .ref k0, .ref e0, .ref xm2, .ref xm3, .ref xm4, .ref xm5, .ref j0, .ref j1, .ref j2, .int 0, .int 0, .int 0, .int (-1), .int 1]))] s.heap.size = A at hD ⊢
  have hA : ∀ q : Nat, s.heap.size ≤ q → A q := fun q h => by rw [← hAe]; exact Or.inr h
  have hS : va_S A s.heap s.heap [] := va_S.rf
  have hP : va_P (dC, dI) classes [(h0, .inr (9, [.ref t0, .ref xm1, .ref a0, .ref w0, .ref k0, .ref e0, .ref xm2, .ref xm3, .ref xm4, .ref xm5, .ref j0, .ref j1, .ref j2, .int 0, .int 0, .int 0, .int (-1), .int 1]))] s.heap := hP
  have hl := lv_entry ([.ref h0, .int p0]) (n := 2) (Nat.le_of_ble_eq_true rfl)
  rw [lg_entry_eq]
  generalize (lg_sl ([.ref h0, .int p0]) ++ List.replicate (2 - (lg_sl ([.ref h0, .int p0])).length) Slot.unset).toArray = ls at hl ⊢
  have hl : lv_has ls 2 [(0, .ref h0), (1, .int p0)] := hl
  refine lv_aload_n hx hb dX12_tear_0 rfl (lv_at hl 0 rfl) ?_
  refine va_get (D := (dC, dI)) (ci := 9) (v := .int 1) (C := RX12) (T := TX12) (N := 18) hx hb hkw kin_X12 hown hK hP 0 rfl rfl 17 (by decide) (hkw _ m_127) (fun _ h9 => h9) rfl dX12_tear_1 ?_
  refine lv_if_ne (tgt := 22) hx hb dX12_tear_4 (by decide) (fun c_4_0 => ?_) (fun c_4_0 => absurd c_4_0 (by decide))
  refine lv_iconst (v := 0) hx hb dX12_tear_22 (by decide) ?_
  have hP9 := hP.sub (ws' := []) [] rfl
  have hD9 := hD.sub (ws' := []) [] (by decide) rfl
  have hK9 := hK.sub (tys' := []) [] rfl
  refine W.widen (k := 0) (n := 0) (Nat.le_of_ble_eq_true rfl) (Nat.le_of_ble_eq_true rfl) ?_
  exact W.zret (v := 0) (ty := .boolean) hx hb hr rfl (fun t ht hW => ⟨⟨0, (), rfl, rfl, by rw [ht]; exact hP9, va_K.moved hW.alike hK9, hD9⟩, hS.F ht⟩) hS.2.2 dX12_tear_23

set_option maxHeartbeats 4000000 in
set_option maxRecDepth 100000 in
/-- isUp, fresh -/
theorem c_KS_isUp (l : Launch) (dC : Nat → ClassId) (dI : Nat → Nat → Nat) (sz : Nat) (h0 : Nat) (t0 : Nat) (xm1 : Nat) (a0 : Nat) (w0 : Nat) (k0 : Nat) (e0 : Nat) (xm2 : Nat) (xm3 : Nat) (xm4 : Nat) (xm5 : Nat) (j0 : Nat) (j1 : Nat) (j2 : Nat) : Met l yX12_isUp wX12_isUp ({ frames := 0, cells := 0, slots := 0, locals := 0 }) (va_Pc [.ref h0] (pW (dC, dI) [(h0, .inr (9, [.ref t0, .ref xm1, .ref a0, .ref w0, .ref k0, .ref e0, .ref xm2, .ref xm3, .ref xm4, .ref xm5, .ref j0, .ref j1, .ref j2, .int 0, .int 0, .int 0, .int (-1), .int 1]))] [] sz)) (va_Qi (fun (r : Int32) (_u : Unit) => r = 1) (fun (_u : Unit) (t : State) => bW (dC, dI) [] [] (va_A [(h0, .inr (9, [.ref t0, .ref xm1, .ref a0, .ref w0, .ref k0, .ref e0, .ref xm2, .ref xm3, .ref xm4, .ref xm5, .ref j0, .ref j1, .ref j2, .int 0, .int 0, .int 0, .int (-1), .int 1]))] sz) t) (va_A [(h0, .inr (9, [.ref t0, .ref xm1, .ref a0, .ref w0, .ref k0, .ref e0, .ref xm2, .ref xm3, .ref xm4, .ref xm5, .ref j0, .ref j1, .ref j2, .int 0, .int 0, .int 0, .int (-1), .int 1]))] sz)) 0 0 (va_A [(h0, .inr (9, [.ref t0, .ref xm1, .ref a0, .ref w0, .ref k0, .ref e0, .ref xm2, .ref xm3, .ref xm4, .ref xm5, .ref j0, .ref j1, .ref j2, .int 0, .int 0, .int 0, .int (-1), .int 1]))] sz) := by
  refine Met.ofW (cc := cX12_isUp) (maxL := 1) (ret := (some .boolean)) (by decide) rfl ?_
  intro p e s m args below meth c s₁ B hml hv
  obtain ⟨rfl, hsz, hP, hK, hD0, hfx⟩ := hv
  have hx := B.exec
  have hb := B.bytes
  have hr := B.returns
  have hts := atoms_spec (ws := wX12_isUp) B.pre
  have hkw : ∀ w ∈ kw, w.before _ s = true := fun w h => hts w (List.mem_cons_of_mem _ h)
  have hown : s.vm.findClass RX12 = some m.cls := findClass_of_methodNamed B.named
  have hlocks := B.notSynchronized
  subst hsz
  have hD := hD0.self (sz := s.heap.size)
  generalize hAe : va_A [(h0, .inr (9, [.ref t0, .ref xm1, .ref a0, .ref w0, .ref k0, .ref e0, .ref xm2, .ref xm3, .ref xm4, .ref xm5, .ref j0, .ref j1, .ref j2, .int 0, .int 0, .int 0, .int (-1), .int 1]))] s.heap.size = A at hD ⊢
  have hA : ∀ q : Nat, s.heap.size ≤ q → A q := fun q h => by rw [← hAe]; exact Or.inr h
  have hS : va_S A s.heap s.heap [] := va_S.rf
  have hP : va_P (dC, dI) classes [(h0, .inr (9, [.ref t0, .ref xm1, .ref a0, .ref w0, .ref k0, .ref e0, .ref xm2, .ref xm3, .ref xm4, .ref xm5, .ref j0, .ref j1, .ref j2, .int 0, .int 0, .int 0, .int (-1), .int 1]))] s.heap := hP
  have hl := lv_entry ([.ref h0]) (n := 1) (Nat.le_of_ble_eq_true rfl)
  rw [lg_entry_eq]
  generalize (lg_sl ([.ref h0]) ++ List.replicate (1 - (lg_sl ([.ref h0])).length) Slot.unset).toArray = ls at hl ⊢
  have hl : lv_has ls 1 [(0, .ref h0)] := hl
  refine lv_aload_n hx hb dX12_isUp_0 rfl (lv_at hl 0 rfl) ?_
  refine va_get (D := (dC, dI)) (ci := 9) (v := .int 1) (C := RX12) (T := TX12) (N := 18) hx hb hkw kin_X12 hown hK hP 0 rfl rfl 17 (by decide) (hkw _ m_127) (fun _ h9 => h9) rfl dX12_isUp_1 ?_
  have hP9 := hP.sub (ws' := []) [] rfl
  have hD9 := hD.sub (ws' := []) [] (by decide) rfl
  have hK9 := hK.sub (tys' := []) [] rfl
  refine W.widen (k := 0) (n := 0) (Nat.le_of_ble_eq_true rfl) (Nat.le_of_ble_eq_true rfl) ?_
  exact W.zret (v := 1) (ty := .boolean) hx hb hr rfl (fun t ht hW => ⟨⟨1, (), rfl, rfl, by rw [ht]; exact hP9, va_K.moved hW.alike hK9, hD9⟩, hS.F ht⟩) hS.2.2 dX12_isUp_4

set_option maxHeartbeats 4000000 in
set_option maxRecDepth 100000 in
/-- total_0, fresh -/
theorem c_KS_total_0 (l : Launch) (dC : Nat → ClassId) (dI : Nat → Nat → Nat) (sz : Nat) (h0 : Nat) (t0 : Nat) (xm1 : Nat) (a0 : Nat) (w0 : Nat) (k0 : Nat) (e0 : Nat) (xm2 : Nat) (xm3 : Nat) (xm4 : Nat) (xm5 : Nat) (j0 : Nat) (j1 : Nat) (j2 : Nat) (v1 : Nat) (v2 : Nat) (v3 : Nat) (v4 : Nat) (v5 : Nat) (v6 : Nat) (v7 : Nat) (v8 : Nat) (v9 : Nat) (v10 : Nat) : Met l yX12_total wX12_total ({ frames := 0, cells := 0, slots := 0, locals := 0 }) (va_Pc [.ref h0, .int 0] (pW (dC, dI) [(h0, .inr (9, [.ref t0, .ref xm1, .ref a0, .ref w0, .ref k0, .ref e0, .ref xm2, .ref xm3, .ref xm4, .ref xm5, .ref j0, .ref j1, .ref j2, .int 0, .int 0, .int 0, .int (-1), .int 1])), (e0, .inr (4, [.ref v1, .ref v2, .ref v3, .ref v4, .ref v5, .ref v6, .int 0, .ref v7, .ref v8, .int 0, .ref v9, .ref v10, .int 0, .int 0, .int 0, .int 0, .long 0, .int 0, .int 0]))] [] sz)) (va_Qi (fun (r : Int32) (_u : Unit) => r = 0) (fun (_u : Unit) (t : State) => bW (dC, dI) [] [] (va_A [(h0, .inr (9, [.ref t0, .ref xm1, .ref a0, .ref w0, .ref k0, .ref e0, .ref xm2, .ref xm3, .ref xm4, .ref xm5, .ref j0, .ref j1, .ref j2, .int 0, .int 0, .int 0, .int (-1), .int 1])), (e0, .inr (4, [.ref v1, .ref v2, .ref v3, .ref v4, .ref v5, .ref v6, .int 0, .ref v7, .ref v8, .int 0, .ref v9, .ref v10, .int 0, .int 0, .int 0, .int 0, .long 0, .int 0, .int 0]))] sz) t) (va_A [(h0, .inr (9, [.ref t0, .ref xm1, .ref a0, .ref w0, .ref k0, .ref e0, .ref xm2, .ref xm3, .ref xm4, .ref xm5, .ref j0, .ref j1, .ref j2, .int 0, .int 0, .int 0, .int (-1), .int 1])), (e0, .inr (4, [.ref v1, .ref v2, .ref v3, .ref v4, .ref v5, .ref v6, .int 0, .ref v7, .ref v8, .int 0, .ref v9, .ref v10, .int 0, .int 0, .int 0, .int 0, .long 0, .int 0, .int 0]))] sz)) 0 0 (va_A [(h0, .inr (9, [.ref t0, .ref xm1, .ref a0, .ref w0, .ref k0, .ref e0, .ref xm2, .ref xm3, .ref xm4, .ref xm5, .ref j0, .ref j1, .ref j2, .int 0, .int 0, .int 0, .int (-1), .int 1])), (e0, .inr (4, [.ref v1, .ref v2, .ref v3, .ref v4, .ref v5, .ref v6, .int 0, .ref v7, .ref v8, .int 0, .ref v9, .ref v10, .int 0, .int 0, .int 0, .int 0, .long 0, .int 0, .int 0]))] sz) := by
  refine Met.ofW (cc := cX12_total) (maxL := 2) (ret := (some .int)) (by decide) rfl ?_
  intro p e s m args below meth c s₁ B hml hv
  obtain ⟨rfl, hsz, hP, hK, hD0, hfx⟩ := hv
  have hx := B.exec
  have hb := B.bytes
  have hr := B.returns
  have hts := atoms_spec (ws := wX12_total) B.pre
  have hkw : ∀ w ∈ kw, w.before _ s = true := fun w h => hts w (List.mem_cons_of_mem _ h)
  have hown : s.vm.findClass RX12 = some m.cls := findClass_of_methodNamed B.named
  have hlocks := B.notSynchronized
  subst hsz
  have hD := hD0.self (sz := s.heap.size)
  generalize hAe : va_A [(h0, .inr (9, [.ref t0, .ref xm1, .ref a0, .ref w0, .ref k0, .ref e0, .ref xm2, .ref xm3, .ref xm4, .ref xm5, .ref j0, .ref j1, .ref j2, .int 0, .int 0, .int 0, .int (-1), .int 1])), (e0, .inr (4, [.ref v1, .ref v2, .ref v3, .ref v4, .ref v5, .ref v6, .int 0, .ref v7, .ref v8, .int 0, .ref v9, .ref v10, .int 0, .int 0, .int 0, .int 0, .long 0, .int 0, .int 0]))] s.heap.size = A at hD ⊢
  have hA : ∀ q : Nat, s.heap.size ≤ q → A q := fun q h => by rw [← hAe]; exact Or.inr h
  have hS : va_S A s.heap s.heap [] := va_S.rf
  have hP : va_P (dC, dI) classes [(h0, .inr (9, [.ref t0, .ref xm1, .ref a0, .ref w0, .ref k0, .ref e0, .ref xm2, .ref xm3, .ref xm4, .ref xm5, .ref j0, .ref j1, .ref j2, .int 0, .int 0, .int 0, .int (-1), .int 1])), (e0, .inr (4, [.ref v1, .ref v2, .ref v3, .ref v4, .ref v5, .ref v6, .int 0, .ref v7, .ref v8, .int 0, .ref v9, .ref v10, .int 0, .int 0, .int 0, .int 0, .long 0, .int 0, .int 0]))] s.heap := hP
  have hl := lv_entry ([.ref h0, .int 0]) (n := 2) (Nat.le_of_ble_eq_true rfl)
  rw [lg_entry_eq]
  generalize (lg_sl ([.ref h0, .int 0]) ++ List.replicate (2 - (lg_sl ([.ref h0, .int 0])).length) Slot.unset).toArray = ls at hl ⊢
  have hl : lv_has ls 2 [(0, .ref h0), (1, .int 0)] := hl
  refine lv_iload_n hx hb dX12_total_0 rfl (lv_at hl 1 rfl) ?_
  refine lv_if_lt (tgt := 9) hx hb dX12_total_1 (by decide) (fun c_1_0 => absurd c_1_0 (by decide)) (fun c_1_0 => ?_)
  refine lv_iload_n hx hb dX12_total_4 rfl (lv_at hl 1 rfl) ?_
  refine lv_iconst (v := 2) hx hb dX12_total_5 (by decide) ?_
  refine lv_icmp_le (tgt := 11) hx hb dX12_total_6 (by decide) (fun c_6_0 => ?_) (fun c_6_0 => absurd c_6_0 (by decide))
  refine lv_aload_n hx hb dX12_total_11 rfl (lv_at hl 0 rfl) ?_
  refine va_get (D := (dC, dI)) (ci := 9) (v := .int 1) (C := RX12) (T := TX12) (N := 18) hx hb hkw kin_X12 hown hK hP 0 rfl rfl 17 (by decide) (hkw _ m_127) (fun _ h9 => h9) rfl dX12_total_12 ?_
  refine lv_if_ne (tgt := 20) hx hb dX12_total_15 (by decide) (fun c_15_0 => ?_) (fun c_15_0 => absurd c_15_0 (by decide))
  refine lv_iload_n hx hb dX12_total_20 rfl (lv_at hl 1 rfl) ?_
  refine lv_if_ne (tgt := 34) hx hb dX12_total_21 (by decide) (fun c_21_0 => absurd c_21_0 (by decide)) (fun c_21_0 => ?_)
  refine lv_aload_n hx hb dX12_total_24 rfl (lv_at hl 0 rfl) ?_
  refine va_get (D := (dC, dI)) (ci := 9) (v := .ref e0) (C := RX12) (T := TX12) (N := 18) hx hb hkw kin_X12 hown hK hP 0 rfl rfl 5 (by decide) (hkw _ m_149) (fun _ h9 => h9) rfl dX12_total_25 ?_
  refine va_get (D := (dC, dI)) (ci := 4) (v := .int 0) (C := RX4) (T := TX4) (N := 19) hx hb hkw kin_X4 hown hK hP 1 rfl rfl 13 (by decide) (hkw _ m_164) (fun _ h9 => h9) rfl dX12_total_28 ?_
  refine lv_goto (tgt := 56) hx hb dX12_total_31 (by decide) ?_
  have hP9 := hP.sub (ws' := []) [] rfl
  have hD9 := hD.sub (ws' := []) [] (by decide) rfl
  have hK9 := hK.sub (tys' := []) [] rfl
  refine W.widen (k := 0) (n := 0) (Nat.le_of_ble_eq_true rfl) (Nat.le_of_ble_eq_true rfl) ?_
  exact W.iret (v := 0) hx hb hr (fun t ht hW => ⟨⟨0, (), rfl, rfl, by rw [ht]; exact hP9, va_K.moved hW.alike hK9, hD9⟩, hS.F ht⟩) hS.2.2 dX12_total_56

set_option maxHeartbeats 4000000 in
set_option maxRecDepth 100000 in
/-- total_1, fresh -/
theorem c_KS_total_1 (l : Launch) (dC : Nat → ClassId) (dI : Nat → Nat → Nat) (sz : Nat) (h0 : Nat) (t0 : Nat) (xm1 : Nat) (a0 : Nat) (w0 : Nat) (k0 : Nat) (e0 : Nat) (xm2 : Nat) (xm3 : Nat) (xm4 : Nat) (xm5 : Nat) (j0 : Nat) (j1 : Nat) (j2 : Nat) (v1 : Nat) (v2 : Nat) (v3 : Nat) (v4 : Nat) (v5 : Nat) (v6 : Nat) (v7 : Nat) (v8 : Nat) (v9 : Nat) (v10 : Nat) : Met l yX12_total wX12_total ({ frames := 0, cells := 0, slots := 0, locals := 0 }) (va_Pc [.ref h0, .int 1] (pW (dC, dI) [(h0, .inr (9, [.ref t0, .ref xm1, .ref a0, .ref w0, .ref k0, .ref e0, .ref xm2, .ref xm3, .ref xm4, .ref xm5, .ref j0, .ref j1, .ref j2, .int 0, .int 0, .int 0, .int (-1), .int 1])), (e0, .inr (4, [.ref v1, .ref v2, .ref v3, .ref v4, .ref v5, .ref v6, .int 0, .ref v7, .ref v8, .int 0, .ref v9, .ref v10, .int 0, .int 0, .int 0, .int 0, .long 0, .int 0, .int 0]))] [] sz)) (va_Qi (fun (r : Int32) (_u : Unit) => r = 0) (fun (_u : Unit) (t : State) => bW (dC, dI) [] [] (va_A [(h0, .inr (9, [.ref t0, .ref xm1, .ref a0, .ref w0, .ref k0, .ref e0, .ref xm2, .ref xm3, .ref xm4, .ref xm5, .ref j0, .ref j1, .ref j2, .int 0, .int 0, .int 0, .int (-1), .int 1])), (e0, .inr (4, [.ref v1, .ref v2, .ref v3, .ref v4, .ref v5, .ref v6, .int 0, .ref v7, .ref v8, .int 0, .ref v9, .ref v10, .int 0, .int 0, .int 0, .int 0, .long 0, .int 0, .int 0]))] sz) t) (va_A [(h0, .inr (9, [.ref t0, .ref xm1, .ref a0, .ref w0, .ref k0, .ref e0, .ref xm2, .ref xm3, .ref xm4, .ref xm5, .ref j0, .ref j1, .ref j2, .int 0, .int 0, .int 0, .int (-1), .int 1])), (e0, .inr (4, [.ref v1, .ref v2, .ref v3, .ref v4, .ref v5, .ref v6, .int 0, .ref v7, .ref v8, .int 0, .ref v9, .ref v10, .int 0, .int 0, .int 0, .int 0, .long 0, .int 0, .int 0]))] sz)) 0 0 (va_A [(h0, .inr (9, [.ref t0, .ref xm1, .ref a0, .ref w0, .ref k0, .ref e0, .ref xm2, .ref xm3, .ref xm4, .ref xm5, .ref j0, .ref j1, .ref j2, .int 0, .int 0, .int 0, .int (-1), .int 1])), (e0, .inr (4, [.ref v1, .ref v2, .ref v3, .ref v4, .ref v5, .ref v6, .int 0, .ref v7, .ref v8, .int 0, .ref v9, .ref v10, .int 0, .int 0, .int 0, .int 0, .long 0, .int 0, .int 0]))] sz) := by
  refine Met.ofW (cc := cX12_total) (maxL := 2) (ret := (some .int)) (by decide) rfl ?_
  intro p e s m args below meth c s₁ B hml hv
  obtain ⟨rfl, hsz, hP, hK, hD0, hfx⟩ := hv
  have hx := B.exec
  have hb := B.bytes
  have hr := B.returns
  have hts := atoms_spec (ws := wX12_total) B.pre
  have hkw : ∀ w ∈ kw, w.before _ s = true := fun w h => hts w (List.mem_cons_of_mem _ h)
  have hown : s.vm.findClass RX12 = some m.cls := findClass_of_methodNamed B.named
  have hlocks := B.notSynchronized
  subst hsz
  have hD := hD0.self (sz := s.heap.size)
  generalize hAe : va_A [(h0, .inr (9, [.ref t0, .ref xm1, .ref a0, .ref w0, .ref k0, .ref e0, .ref xm2, .ref xm3, .ref xm4, .ref xm5, .ref j0, .ref j1, .ref j2, .int 0, .int 0, .int 0, .int (-1), .int 1])), (e0, .inr (4, [.ref v1, .ref v2, .ref v3, .ref v4, .ref v5, .ref v6, .int 0, .ref v7, .ref v8, .int 0, .ref v9, .ref v10, .int 0, .int 0, .int 0, .int 0, .long 0, .int 0, .int 0]))] s.heap.size = A at hD ⊢
  have hA : ∀ q : Nat, s.heap.size ≤ q → A q := fun q h => by rw [← hAe]; exact Or.inr h
  have hS : va_S A s.heap s.heap [] := va_S.rf
  have hP : va_P (dC, dI) classes [(h0, .inr (9, [.ref t0, .ref xm1, .ref a0, .ref w0, .ref k0, .ref e0, .ref xm2, .ref xm3, .ref xm4, .ref xm5, .ref j0, .ref j1, .ref j2, .int 0, .int 0, .int 0, .int (-1), .int 1])), (e0, .inr (4, [.ref v1, .ref v2, .ref v3, .ref v4, .ref v5, .ref v6, .int 0, .ref v7, .ref v8, .int 0, .ref v9, .ref v10, .int 0, .int 0, .int 0, .int 0, .long 0, .int 0, .int 0]))] s.heap := hP
  have hl := lv_entry ([.ref h0, .int 1]) (n := 2) (Nat.le_of_ble_eq_true rfl)
  rw [lg_entry_eq]
  generalize (lg_sl ([.ref h0, .int 1]) ++ List.replicate (2 - (lg_sl ([.ref h0, .int 1])).length) Slot.unset).toArray = ls at hl ⊢
  have hl : lv_has ls 2 [(0, .ref h0), (1, .int 1)] := hl
  refine lv_iload_n hx hb dX12_total_0 rfl (lv_at hl 1 rfl) ?_
  refine lv_if_lt (tgt := 9) hx hb dX12_total_1 (by decide) (fun c_1_0 => absurd c_1_0 (by decide)) (fun c_1_0 => ?_)
  refine lv_iload_n hx hb dX12_total_4 rfl (lv_at hl 1 rfl) ?_
  refine lv_iconst (v := 2) hx hb dX12_total_5 (by decide) ?_
  refine lv_icmp_le (tgt := 11) hx hb dX12_total_6 (by decide) (fun c_6_0 => ?_) (fun c_6_0 => absurd c_6_0 (by decide))
  refine lv_aload_n hx hb dX12_total_11 rfl (lv_at hl 0 rfl) ?_
  refine va_get (D := (dC, dI)) (ci := 9) (v := .int 1) (C := RX12) (T := TX12) (N := 18) hx hb hkw kin_X12 hown hK hP 0 rfl rfl 17 (by decide) (hkw _ m_127) (fun _ h9 => h9) rfl dX12_total_12 ?_
  refine lv_if_ne (tgt := 20) hx hb dX12_total_15 (by decide) (fun c_15_0 => ?_) (fun c_15_0 => absurd c_15_0 (by decide))
  refine lv_iload_n hx hb dX12_total_20 rfl (lv_at hl 1 rfl) ?_
  refine lv_if_ne (tgt := 34) hx hb dX12_total_21 (by decide) (fun c_21_0 => ?_) (fun c_21_0 => absurd c_21_0 (by decide))
  refine lv_iload_n hx hb dX12_total_34 rfl (lv_at hl 1 rfl) ?_
  refine lv_iconst (v := 1) hx hb dX12_total_35 (by decide) ?_
  refine lv_icmp_ne (tgt := 49) hx hb dX12_total_36 (by decide) (fun c_36_0 => absurd c_36_0 (by decide)) (fun c_36_0 => ?_)
  refine lv_aload_n hx hb dX12_total_39 rfl (lv_at hl 0 rfl) ?_
  refine va_get (D := (dC, dI)) (ci := 9) (v := .ref e0) (C := RX12) (T := TX12) (N := 18) hx hb hkw kin_X12 hown hK hP 0 rfl rfl 5 (by decide) (hkw _ m_149) (fun _ h9 => h9) rfl dX12_total_40 ?_
  refine va_get (D := (dC, dI)) (ci := 4) (v := .int 0) (C := RX4) (T := TX4) (N := 19) hx hb hkw kin_X4 hown hK hP 1 rfl rfl 14 (by decide) (hkw _ m_165) (fun _ h9 => h9) rfl dX12_total_43 ?_
  refine lv_goto (tgt := 56) hx hb dX12_total_46 (by decide) ?_
  have hP9 := hP.sub (ws' := []) [] rfl
  have hD9 := hD.sub (ws' := []) [] (by decide) rfl
  have hK9 := hK.sub (tys' := []) [] rfl
  refine W.widen (k := 0) (n := 0) (Nat.le_of_ble_eq_true rfl) (Nat.le_of_ble_eq_true rfl) ?_
  exact W.iret (v := 0) hx hb hr (fun t ht hW => ⟨⟨0, (), rfl, rfl, by rw [ht]; exact hP9, va_K.moved hW.alike hK9, hD9⟩, hS.F ht⟩) hS.2.2 dX12_total_56

set_option maxHeartbeats 4000000 in
set_option maxRecDepth 100000 in
/-- total_2, fresh -/
theorem c_KS_total_2 (l : Launch) (dC : Nat → ClassId) (dI : Nat → Nat → Nat) (sz : Nat) (h0 : Nat) (t0 : Nat) (xm1 : Nat) (a0 : Nat) (w0 : Nat) (k0 : Nat) (e0 : Nat) (xm2 : Nat) (xm3 : Nat) (xm4 : Nat) (xm5 : Nat) (j0 : Nat) (j1 : Nat) (j2 : Nat) (v1 : Nat) (v2 : Nat) (v3 : Nat) (v4 : Nat) (v5 : Nat) (v6 : Nat) (v7 : Nat) (v8 : Nat) (v9 : Nat) (v10 : Nat) : Met l yX12_total wX12_total ({ frames := 0, cells := 0, slots := 0, locals := 0 }) (va_Pc [.ref h0, .int 2] (pW (dC, dI) [(h0, .inr (9, [.ref t0, .ref xm1, .ref a0, .ref w0, .ref k0, .ref e0, .ref xm2, .ref xm3, .ref xm4, .ref xm5, .ref j0, .ref j1, .ref j2, .int 0, .int 0, .int 0, .int (-1), .int 1])), (e0, .inr (4, [.ref v1, .ref v2, .ref v3, .ref v4, .ref v5, .ref v6, .int 0, .ref v7, .ref v8, .int 0, .ref v9, .ref v10, .int 0, .int 0, .int 0, .int 0, .long 0, .int 0, .int 0]))] [] sz)) (va_Qi (fun (r : Int32) (_u : Unit) => r = 0) (fun (_u : Unit) (t : State) => bW (dC, dI) [] [] (va_A [(h0, .inr (9, [.ref t0, .ref xm1, .ref a0, .ref w0, .ref k0, .ref e0, .ref xm2, .ref xm3, .ref xm4, .ref xm5, .ref j0, .ref j1, .ref j2, .int 0, .int 0, .int 0, .int (-1), .int 1])), (e0, .inr (4, [.ref v1, .ref v2, .ref v3, .ref v4, .ref v5, .ref v6, .int 0, .ref v7, .ref v8, .int 0, .ref v9, .ref v10, .int 0, .int 0, .int 0, .int 0, .long 0, .int 0, .int 0]))] sz) t) (va_A [(h0, .inr (9, [.ref t0, .ref xm1, .ref a0, .ref w0, .ref k0, .ref e0, .ref xm2, .ref xm3, .ref xm4, .ref xm5, .ref j0, .ref j1, .ref j2, .int 0, .int 0, .int 0, .int (-1), .int 1])), (e0, .inr (4, [.ref v1, .ref v2, .ref v3, .ref v4, .ref v5, .ref v6, .int 0, .ref v7, .ref v8, .int 0, .ref v9, .ref v10, .int 0, .int 0, .int 0, .int 0, .long 0, .int 0, .int 0]))] sz)) 0 0 (va_A [(h0, .inr (9, [.ref t0, .ref xm1, .ref a0, .ref w0, .ref k0, .ref e0, .ref xm2, .ref xm3, .ref xm4, .ref xm5, .ref j0, .ref j1, .ref j2, .int 0, .int 0, .int 0, .int (-1), .int 1])), (e0, .inr (4, [.ref v1, .ref v2, .ref v3, .ref v4, .ref v5, .ref v6, .int 0, .ref v7, .ref v8, .int 0, .ref v9, .ref v10, .int 0, .int 0, .int 0, .int 0, .long 0, .int 0, .int 0]))] sz) := by
  refine Met.ofW (cc := cX12_total) (maxL := 2) (ret := (some .int)) (by decide) rfl ?_
  intro p e s m args below meth c s₁ B hml hv
  obtain ⟨rfl, hsz, hP, hK, hD0, hfx⟩ := hv
  have hx := B.exec
  have hb := B.bytes
  have hr := B.returns
  have hts := atoms_spec (ws := wX12_total) B.pre
  have hkw : ∀ w ∈ kw, w.before _ s = true := fun w h => hts w (List.mem_cons_of_mem _ h)
  have hown : s.vm.findClass RX12 = some m.cls := findClass_of_methodNamed B.named
  have hlocks := B.notSynchronized
  subst hsz
  have hD := hD0.self (sz := s.heap.size)
  generalize hAe : va_A [(h0, .inr (9, [.ref t0, .ref xm1, .ref a0, .ref w0, .ref k0, .ref e0, .ref xm2, .ref xm3, .ref xm4, .ref xm5, .ref j0, .ref j1, .ref j2, .int 0, .int 0, .int 0, .int (-1), .int 1])), (e0, .inr (4, [.ref v1, .ref v2, .ref v3, .ref v4, .ref v5, .ref v6, .int 0, .ref v7, .ref v8, .int 0, .ref v9, .ref v10, .int 0, .int 0, .int 0, .int 0, .long 0, .int 0, .int 0]))] s.heap.size = A at hD ⊢
  have hA : ∀ q : Nat, s.heap.size ≤ q → A q := fun q h => by rw [← hAe]; exact Or.inr h
  have hS : va_S A s.heap s.heap [] := va_S.rf
  have hP : va_P (dC, dI) classes [(h0, .inr (9, [.ref t0, .ref xm1, .ref a0, .ref w0, .ref k0, .ref e0, .ref xm2, .ref xm3, .ref xm4, .ref xm5, .ref j0, .ref j1, .ref j2, .int 0, .int 0, .int 0, .int (-1), .int 1])), (e0, .inr (4, [.ref v1, .ref v2, .ref v3, .ref v4, .ref v5, .ref v6, .int 0, .ref v7, .ref v8, .int 0, .ref v9, .ref v10, .int 0, .int 0, .int 0, .int 0, .long 0, .int 0, .int 0]))] s.heap := hP
  have hl := lv_entry ([.ref h0, .int 2]) (n := 2) (Nat.le_of_ble_eq_true rfl)
  rw [lg_entry_eq]
  generalize (lg_sl ([.ref h0, .int 2]) ++ List.replicate (2 - (lg_sl ([.ref h0, .int 2])).length) Slot.unset).toArray = ls at hl ⊢
  have hl : lv_has ls 2 [(0, .ref h0), (1, .int 2)] := hl
  refine lv_iload_n hx hb dX12_total_0 rfl (lv_at hl 1 rfl) ?_
  refine lv_if_lt (tgt := 9) hx hb dX12_total_1 (by decide) (fun c_1_0 => absurd c_1_0 (by decide)) (fun c_1_0 => ?_)
  refine lv_iload_n hx hb dX12_total_4 rfl (lv_at hl 1 rfl) ?_
  refine lv_iconst (v := 2) hx hb dX12_total_5 (by decide) ?_
  refine lv_icmp_le (tgt := 11) hx hb dX12_total_6 (by decide) (fun c_6_0 => ?_) (fun c_6_0 => absurd c_6_0 (by decide))
  refine lv_aload_n hx hb dX12_total_11 rfl (lv_at hl 0 rfl) ?_
  refine va_get (D := (dC, dI)) (ci := 9) (v := .int 1) (C := RX12) (T := TX12) (N := 18) hx hb hkw kin_X12 hown hK hP 0 rfl rfl 17 (by decide) (hkw _ m_127) (fun _ h9 => h9) rfl dX12_total_12 ?_
  refine lv_if_ne (tgt := 20) hx hb dX12_total_15 (by decide) (fun c_15_0 => ?_) (fun c_15_0 => absurd c_15_0 (by decide))
  refine lv_iload_n hx hb dX12_total_20 rfl (lv_at hl 1 rfl) ?_
  refine lv_if_ne (tgt := 34) hx hb dX12_total_21 (by decide) (fun c_21_0 => ?_) (fun c_21_0 => absurd c_21_0 (by decide))
  refine lv_iload_n hx hb dX12_total_34 rfl (lv_at hl 1 rfl) ?_
  refine lv_iconst (v := 1) hx hb dX12_total_35 (by decide) ?_
  refine lv_icmp_ne (tgt := 49) hx hb dX12_total_36 (by decide) (fun c_36_0 => ?_) (fun c_36_0 => absurd c_36_0 (by decide))
  refine lv_aload_n hx hb dX12_total_49 rfl (lv_at hl 0 rfl) ?_
  refine va_get (D := (dC, dI)) (ci := 9) (v := .ref e0) (C := RX12) (T := TX12) (N := 18) hx hb hkw kin_X12 hown hK hP 0 rfl rfl 5 (by decide) (hkw _ m_149) (fun _ h9 => h9) rfl dX12_total_50 ?_
  refine va_get (D := (dC, dI)) (ci := 4) (v := .int 0) (C := RX4) (T := TX4) (N := 19) hx hb hkw kin_X4 hown hK hP 1 rfl rfl 15 (by decide) (hkw _ m_150) (fun _ h9 => h9) rfl dX12_total_53 ?_
  have hP9 := hP.sub (ws' := []) [] rfl
  have hD9 := hD.sub (ws' := []) [] (by decide) rfl
  have hK9 := hK.sub (tys' := []) [] rfl
  refine W.widen (k := 0) (n := 0) (Nat.le_of_ble_eq_true rfl) (Nat.le_of_ble_eq_true rfl) ?_
  exact W.iret (v := 0) hx hb hr (fun t ht hW => ⟨⟨0, (), rfl, rfl, by rw [ht]; exact hP9, va_K.moved hW.alike hK9, hD9⟩, hS.F ht⟩) hS.2.2 dX12_total_56

set_option maxHeartbeats 4000000 in
set_option maxRecDepth 100000 in
/-- total_out, fresh -/
theorem c_KS_total_out (l : Launch) (dC : Nat → ClassId) (dI : Nat → Nat → Nat) (sz : Nat) (h0 : Nat) (t0 : Nat) (xm1 : Nat) (a0 : Nat) (w0 : Nat) (k0 : Nat) (e0 : Nat) (xm2 : Nat) (xm3 : Nat) (xm4 : Nat) (xm5 : Nat) (j0 : Nat) (j1 : Nat) (j2 : Nat) (p0 : Int32) (ho : p0 < 0 ∨ 2 < p0) : Met l yX12_total wX12_total ({ frames := 0, cells := 0, slots := 0, locals := 0 }) (va_Pc [.ref h0, .int p0] (pW (dC, dI) [(h0, .inr (9, [.ref t0, .ref xm1, .ref a0, .ref w0, .ref k0, .ref e0, .ref xm2, .ref xm3, .ref xm4, .ref xm5, .ref j0, .ref j1, .ref j2, .int 0, .int 0, .int 0, .int (-1), .int 1]))] [] sz)) (va_Qi (fun (r : Int32) (_u : Unit) => r = -1) (fun (_u : Unit) (t : State) => bW (dC, dI) [] [] (va_A [(h0, .inr (9, [.ref t0, .ref xm1, .ref a0, .ref w0, .ref k0, .ref e0, .ref xm2, .ref xm3, .ref xm4, .ref xm5, .ref j0, .ref j1, .ref j2, .int 0, .int 0, .int 0, .int (-1), .int 1]))] sz) t) (va_A [(h0, .inr (9, [.ref t0, .ref xm1, .ref a0, .ref w0, .ref k0, .ref e0, .ref xm2, .ref xm3, .ref xm4, .ref xm5, .ref j0, .ref j1, .ref j2, .int 0, .int 0, .int 0, .int (-1), .int 1]))] sz)) 0 0 (va_A [(h0, .inr (9, [.ref t0, .ref xm1, .ref a0, .ref w0, .ref k0, .ref e0, .ref xm2, .ref xm3, .ref xm4, .ref xm5, .ref j0, .ref j1, .ref j2, .int 0, .int 0, .int 0, .int (-1), .int 1]))] sz) := by
  refine Met.ofW (cc := cX12_total) (maxL := 2) (ret := (some .int)) (by decide) rfl ?_
  intro p e s m args below meth c s₁ B hml hv
  obtain ⟨rfl, hsz, hP, hK, hD0, hfx⟩ := hv
  have hx := B.exec
  have hb := B.bytes
  have hr := B.returns
  have hts := atoms_spec (ws := wX12_total) B.pre
  have hkw : ∀ w ∈ kw, w.before _ s = true := fun w h => hts w (List.mem_cons_of_mem _ h)
  have hown : s.vm.findClass RX12 = some m.cls := findClass_of_methodNamed B.named
  have hlocks := B.notSynchronized
  subst hsz
  have hD := hD0.self (sz := s.heap.size)
  generalize hAe : va_A [(h0, .inr (9, [.ref t0, .ref xm1, .ref a0, .ref w0, .ref k0, .ref e0, .ref xm2, .ref xm3, .ref xm4, .ref xm5, .ref j0, .ref j1, .ref j2, .int 0, .int 0, .int 0, .int (-1), .int 1]))] s.heap.size = A at hD ⊢
  have hA : ∀ q : Nat, s.heap.size ≤ q → A q := fun q h => by rw [← hAe]; exact Or.inr h
  have hS : va_S A s.heap s.heap [] := va_S.rf
  have hP : va_P (dC, dI) classes [(h0, .inr (9, [.ref t0, .ref xm1, .ref a0, .ref w0, .ref k0, .ref e0, .ref xm2, .ref xm3, .ref xm4, .ref xm5, .ref j0, .ref j1, .ref j2, .int 0, .int 0, .int 0, .int (-1), .int 1]))] s.heap := hP
  have hl := lv_entry ([.ref h0, .int p0]) (n := 2) (Nat.le_of_ble_eq_true rfl)
  rw [lg_entry_eq]
  generalize (lg_sl ([.ref h0, .int p0]) ++ List.replicate (2 - (lg_sl ([.ref h0, .int p0])).length) Slot.unset).toArray = ls at hl ⊢
  have hl : lv_has ls 2 [(0, .ref h0), (1, .int p0)] := hl
  refine lv_iload_n hx hb dX12_total_0 rfl (lv_at hl 1 rfl) ?_
  refine lv_if_lt (tgt := 9) hx hb dX12_total_1 (by decide) (fun c_1_0 => ?_) (fun c_1_0 => ?_)
  · refine lv_iconst (v := (-1)) hx hb dX12_total_9 (by decide) ?_
    have hP9 := hP.sub (ws' := []) [] rfl
    have hD9 := hD.sub (ws' := []) [] (by decide) rfl
    have hK9 := hK.sub (tys' := []) [] rfl
    refine W.widen (k := 0) (n := 0) (Nat.le_of_ble_eq_true rfl) (Nat.le_of_ble_eq_true rfl) ?_
    exact W.iret (v := (-1)) hx hb hr (fun t ht hW => ⟨⟨(-1), (), rfl, rfl, by rw [ht]; exact hP9, va_K.moved hW.alike hK9, hD9⟩, hS.F ht⟩) hS.2.2 dX12_total_10
  · refine lv_iload_n hx hb dX12_total_4 rfl (lv_at hl 1 rfl) ?_
    refine lv_iconst (v := 2) hx hb dX12_total_5 (by decide) ?_
    refine lv_icmp_le (tgt := 11) hx hb dX12_total_6 (by decide) (fun c_6_0 => absurd c_6_0 (dead_le2 ho c_1_0)) (fun c_6_0 => ?_)
    refine lv_iconst (v := (-1)) hx hb dX12_total_9 (by decide) ?_
    have hP9 := hP.sub (ws' := []) [] rfl
    have hD9 := hD.sub (ws' := []) [] (by decide) rfl
    have hK9 := hK.sub (tys' := []) [] rfl
    refine W.widen (k := 0) (n := 0) (Nat.le_of_ble_eq_true rfl) (Nat.le_of_ble_eq_true rfl) ?_
    exact W.iret (v := (-1)) hx hb hr (fun t ht hW => ⟨⟨(-1), (), rfl, rfl, by rw [ht]; exact hP9, va_K.moved hW.alike hK9, hD9⟩, hS.F ht⟩) hS.2.2 dX12_total_10

set_option maxHeartbeats 4000000 in
set_option maxRecDepth 100000 in
/-- crash, fresh -/
theorem c_KS_crash (l : Launch) (dC : Nat → ClassId) (dI : Nat → Nat → Nat) (sz : Nat) (h0 : Nat) (t0 : Nat) (xm1 : Nat) (a0 : Nat) (w0 : Nat) (k0 : Nat) (e0 : Nat) (xm2 : Nat) (xm3 : Nat) (xm4 : Nat) (xm5 : Nat) (j0 : Nat) (j1 : Nat) (j2 : Nat) (ka : ClassId) (fa : Nat → Option Nat) (c0 : Nat) (i0 : Nat) (o0 : Nat) (b0 : Nat) (y0 : Nat) (z0 : Nat) (ri0 : Nat) (ro0 : Nat) (rb0 : Nat) (c1 : Nat) (i1 : Nat) (o1 : Nat) (b1 : Nat) (y1 : Nat) (z1 : Nat) (ri1 : Nat) (ro1 : Nat) (rb1 : Nat) (c2 : Nat) (i2 : Nat) (o2 : Nat) (b2 : Nat) (y2 : Nat) (z2 : Nat) (ri2 : Nat) (ro2 : Nat) (rb2 : Nat) (c3 : Nat) (i3 : Nat) (o3 : Nat) (b3 : Nat) (y3 : Nat) (z3 : Nat) (ri3 : Nat) (ro3 : Nat) (rb3 : Nat) (v1 : Nat) (v2 : Nat) (v3 : Nat) (v4 : Nat) (v5 : Nat) (v6 : Nat) (v7 : Nat) (v8 : Nat) (v9 : Nat) (v10 : Nat) (s1 : Nat) (s2 : Nat) (s3 : Nat) (s4 : Nat) (kh : ClassId) (gh : Nat → Int32) (hc0 : fa 0 = some c0) (hc1 : fa 1 = some c1) (hc2 : fa 2 = some c2) (hc3 : fa 3 = some c3) : Met l yX12_crash wX12_crash ({ frames := 4, cells := 0, slots := 0, locals := 84 }) (va_Pc [.ref h0] (pW (dC, dI) [(h0, .inr (9, [.ref t0, .ref xm1, .ref a0, .ref w0, .ref k0, .ref e0, .ref xm2, .ref xm3, .ref xm4, .ref xm5, .ref j0, .ref j1, .ref j2, .int 0, .int 0, .int 0, .int (-1), .int 1])), (a0, .inl (ka, 4, .inr (.inr (.inr (.inr fa))))), (c0, .inr (1, [.int 1, .ref i0, .ref o0, .ref b0, .int 0, .int 0, .int 0, .int 0, .ref y0, .int 0, .ref z0, .int 0])), (i0, .inr (0, [.int 131076, .ref ri0, .int 0, .int 0])), (o0, .inr (0, [.int 65536, .ref ro0, .int 0, .int 0])), (b0, .inr (0, [.int 67108864, .ref rb0, .int 0, .int 0])), (c1, .inr (1, [.int 1, .ref i1, .ref o1, .ref b1, .int 0, .int 0, .int 0, .int 0, .ref y1, .int 0, .ref z1, .int 0])), (i1, .inr (0, [.int 131076, .ref ri1, .int 0, .int 0])), (o1, .inr (0, [.int 65536, .ref ro1, .int 0, .int 0])), (b1, .inr (0, [.int 67108864, .ref rb1, .int 0, .int 0])), (c2, .inr (1, [.int 1, .ref i2, .ref o2, .ref b2, .int 0, .int 0, .int 0, .int 0, .ref y2, .int 0, .ref z2, .int 0])), (i2, .inr (0, [.int 131076, .ref ri2, .int 0, .int 0])), (o2, .inr (0, [.int 65536, .ref ro2, .int 0, .int 0])), (b2, .inr (0, [.int 67108864, .ref rb2, .int 0, .int 0])), (c3, .inr (1, [.int 1, .ref i3, .ref o3, .ref b3, .int 0, .int 0, .int 0, .int 0, .ref y3, .int 0, .ref z3, .int 0])), (i3, .inr (0, [.int 131076, .ref ri3, .int 0, .int 0])), (o3, .inr (0, [.int 65536, .ref ro3, .int 0, .int 0])), (b3, .inr (0, [.int 67108864, .ref rb3, .int 0, .int 0])), (e0, .inr (4, [.ref v1, .ref v2, .ref v3, .ref v4, .ref v5, .ref v6, .int 0, .ref v7, .ref v8, .int 0, .ref v9, .ref v10, .int 0, .int 0, .int 0, .int 0, .long 0, .int 0, .int 0])), (w0, .inr (2, [.ref s1, .ref s2, .ref s3, .ref s4, .int 0])), (s4, .inl (kh, 1024, .inl gh))] [(ka, .object "KeySteward$Connection"), (kh, .int)] sz)) (va_Qi (fun (r : Int32) (_u : Unit) => r = 1) (fun (_u : Unit) (t : State) => bW (dC, dI) [] [] (va_A [(h0, .inr (9, [.ref t0, .ref xm1, .ref a0, .ref w0, .ref k0, .ref e0, .ref xm2, .ref xm3, .ref xm4, .ref xm5, .ref j0, .ref j1, .ref j2, .int 0, .int 0, .int 0, .int (-1), .int 1])), (a0, .inl (ka, 4, .inr (.inr (.inr (.inr fa))))), (c0, .inr (1, [.int 1, .ref i0, .ref o0, .ref b0, .int 0, .int 0, .int 0, .int 0, .ref y0, .int 0, .ref z0, .int 0])), (i0, .inr (0, [.int 131076, .ref ri0, .int 0, .int 0])), (o0, .inr (0, [.int 65536, .ref ro0, .int 0, .int 0])), (b0, .inr (0, [.int 67108864, .ref rb0, .int 0, .int 0])), (c1, .inr (1, [.int 1, .ref i1, .ref o1, .ref b1, .int 0, .int 0, .int 0, .int 0, .ref y1, .int 0, .ref z1, .int 0])), (i1, .inr (0, [.int 131076, .ref ri1, .int 0, .int 0])), (o1, .inr (0, [.int 65536, .ref ro1, .int 0, .int 0])), (b1, .inr (0, [.int 67108864, .ref rb1, .int 0, .int 0])), (c2, .inr (1, [.int 1, .ref i2, .ref o2, .ref b2, .int 0, .int 0, .int 0, .int 0, .ref y2, .int 0, .ref z2, .int 0])), (i2, .inr (0, [.int 131076, .ref ri2, .int 0, .int 0])), (o2, .inr (0, [.int 65536, .ref ro2, .int 0, .int 0])), (b2, .inr (0, [.int 67108864, .ref rb2, .int 0, .int 0])), (c3, .inr (1, [.int 1, .ref i3, .ref o3, .ref b3, .int 0, .int 0, .int 0, .int 0, .ref y3, .int 0, .ref z3, .int 0])), (i3, .inr (0, [.int 131076, .ref ri3, .int 0, .int 0])), (o3, .inr (0, [.int 65536, .ref ro3, .int 0, .int 0])), (b3, .inr (0, [.int 67108864, .ref rb3, .int 0, .int 0])), (e0, .inr (4, [.ref v1, .ref v2, .ref v3, .ref v4, .ref v5, .ref v6, .int 0, .ref v7, .ref v8, .int 0, .ref v9, .ref v10, .int 0, .int 0, .int 0, .int 0, .long 0, .int 0, .int 0])), (w0, .inr (2, [.ref s1, .ref s2, .ref s3, .ref s4, .int 0])), (s4, .inl (kh, 1024, .inl gh))] sz) t) (va_A [(h0, .inr (9, [.ref t0, .ref xm1, .ref a0, .ref w0, .ref k0, .ref e0, .ref xm2, .ref xm3, .ref xm4, .ref xm5, .ref j0, .ref j1, .ref j2, .int 0, .int 0, .int 0, .int (-1), .int 1])), (a0, .inl (ka, 4, .inr (.inr (.inr (.inr fa))))), (c0, .inr (1, [.int 1, .ref i0, .ref o0, .ref b0, .int 0, .int 0, .int 0, .int 0, .ref y0, .int 0, .ref z0, .int 0])), (i0, .inr (0, [.int 131076, .ref ri0, .int 0, .int 0])), (o0, .inr (0, [.int 65536, .ref ro0, .int 0, .int 0])), (b0, .inr (0, [.int 67108864, .ref rb0, .int 0, .int 0])), (c1, .inr (1, [.int 1, .ref i1, .ref o1, .ref b1, .int 0, .int 0, .int 0, .int 0, .ref y1, .int 0, .ref z1, .int 0])), (i1, .inr (0, [.int 131076, .ref ri1, .int 0, .int 0])), (o1, .inr (0, [.int 65536, .ref ro1, .int 0, .int 0])), (b1, .inr (0, [.int 67108864, .ref rb1, .int 0, .int 0])), (c2, .inr (1, [.int 1, .ref i2, .ref o2, .ref b2, .int 0, .int 0, .int 0, .int 0, .ref y2, .int 0, .ref z2, .int 0])), (i2, .inr (0, [.int 131076, .ref ri2, .int 0, .int 0])), (o2, .inr (0, [.int 65536, .ref ro2, .int 0, .int 0])), (b2, .inr (0, [.int 67108864, .ref rb2, .int 0, .int 0])), (c3, .inr (1, [.int 1, .ref i3, .ref o3, .ref b3, .int 0, .int 0, .int 0, .int 0, .ref y3, .int 0, .ref z3, .int 0])), (i3, .inr (0, [.int 131076, .ref ri3, .int 0, .int 0])), (o3, .inr (0, [.int 65536, .ref ro3, .int 0, .int 0])), (b3, .inr (0, [.int 67108864, .ref rb3, .int 0, .int 0])), (e0, .inr (4, [.ref v1, .ref v2, .ref v3, .ref v4, .ref v5, .ref v6, .int 0, .ref v7, .ref v8, .int 0, .ref v9, .ref v10, .int 0, .int 0, .int 0, .int 0, .long 0, .int 0, .int 0])), (w0, .inr (2, [.ref s1, .ref s2, .ref s3, .ref s4, .int 0])), (s4, .inl (kh, 1024, .inl gh))] sz)) 0 0 (va_A [(h0, .inr (9, [.ref t0, .ref xm1, .ref a0, .ref w0, .ref k0, .ref e0, .ref xm2, .ref xm3, .ref xm4, .ref xm5, .ref j0, .ref j1, .ref j2, .int 0, .int 0, .int 0, .int (-1), .int 1])), (a0, .inl (ka, 4, .inr (.inr (.inr (.inr fa))))), (c0, .inr (1, [.int 1, .ref i0, .ref o0, .ref b0, .int 0, .int 0, .int 0, .int 0, .ref y0, .int 0, .ref z0, .int 0])), (i0, .inr (0, [.int 131076, .ref ri0, .int 0, .int 0])), (o0, .inr (0, [.int 65536, .ref ro0, .int 0, .int 0])), (b0, .inr (0, [.int 67108864, .ref rb0, .int 0, .int 0])), (c1, .inr (1, [.int 1, .ref i1, .ref o1, .ref b1, .int 0, .int 0, .int 0, .int 0, .ref y1, .int 0, .ref z1, .int 0])), (i1, .inr (0, [.int 131076, .ref ri1, .int 0, .int 0])), (o1, .inr (0, [.int 65536, .ref ro1, .int 0, .int 0])), (b1, .inr (0, [.int 67108864, .ref rb1, .int 0, .int 0])), (c2, .inr (1, [.int 1, .ref i2, .ref o2, .ref b2, .int 0, .int 0, .int 0, .int 0, .ref y2, .int 0, .ref z2, .int 0])), (i2, .inr (0, [.int 131076, .ref ri2, .int 0, .int 0])), (o2, .inr (0, [.int 65536, .ref ro2, .int 0, .int 0])), (b2, .inr (0, [.int 67108864, .ref rb2, .int 0, .int 0])), (c3, .inr (1, [.int 1, .ref i3, .ref o3, .ref b3, .int 0, .int 0, .int 0, .int 0, .ref y3, .int 0, .ref z3, .int 0])), (i3, .inr (0, [.int 131076, .ref ri3, .int 0, .int 0])), (o3, .inr (0, [.int 65536, .ref ro3, .int 0, .int 0])), (b3, .inr (0, [.int 67108864, .ref rb3, .int 0, .int 0])), (e0, .inr (4, [.ref v1, .ref v2, .ref v3, .ref v4, .ref v5, .ref v6, .int 0, .ref v7, .ref v8, .int 0, .ref v9, .ref v10, .int 0, .int 0, .int 0, .int 0, .long 0, .int 0, .int 0])), (w0, .inr (2, [.ref s1, .ref s2, .ref s3, .ref s4, .int 0])), (s4, .inl (kh, 1024, .inl gh))] sz) := by
  refine Met.ofW (cc := cX12_crash) (maxL := 1) (ret := (some .boolean)) (by decide) rfl ?_
  intro p e s m args below meth c s₁ B hml hv
  obtain ⟨rfl, hsz, hP, hK, hD0, hfx⟩ := hv
  have hx := B.exec
  have hb := B.bytes
  have hr := B.returns
  have hts := atoms_spec (ws := wX12_crash) B.pre
  have hkw : ∀ w ∈ kw, w.before _ s = true := fun w h => hts w (List.mem_cons_of_mem _ h)
  have hown : s.vm.findClass RX12 = some m.cls := findClass_of_methodNamed B.named
  have hlocks := B.notSynchronized
  subst hsz
  have hD := hD0.self (sz := s.heap.size)
  generalize hAe : va_A [(h0, .inr (9, [.ref t0, .ref xm1, .ref a0, .ref w0, .ref k0, .ref e0, .ref xm2, .ref xm3, .ref xm4, .ref xm5, .ref j0, .ref j1, .ref j2, .int 0, .int 0, .int 0, .int (-1), .int 1])), (a0, .inl (ka, 4, .inr (.inr (.inr (.inr fa))))), (c0, .inr (1, [.int 1, .ref i0, .ref o0, .ref b0, .int 0, .int 0, .int 0, .int 0, .ref y0, .int 0, .ref z0, .int 0])), (i0, .inr (0, [.int 131076, .ref ri0, .int 0, .int 0])), (o0, .inr (0, [.int 65536, .ref ro0, .int 0, .int 0])), (b0, .inr (0, [.int 67108864, .ref rb0, .int 0, .int 0])), (c1, .inr (1, [.int 1, .ref i1, .ref o1, .ref b1, .int 0, .int 0, .int 0, .int 0, .ref y1, .int 0, .ref z1, .int 0])), (i1, .inr (0, [.int 131076, .ref ri1, .int 0, .int 0])), (o1, .inr (0, [.int 65536, .ref ro1, .int 0, .int 0])), (b1, .inr (0, [.int 67108864, .ref rb1, .int 0, .int 0])), (c2, .inr (1, [.int 1, .ref i2, .ref o2, .ref b2, .int 0, .int 0, .int 0, .int 0, .ref y2, .int 0, .ref z2, .int 0])), (i2, .inr (0, [.int 131076, .ref ri2, .int 0, .int 0])), (o2, .inr (0, [.int 65536, .ref ro2, .int 0, .int 0])), (b2, .inr (0, [.int 67108864, .ref rb2, .int 0, .int 0])), (c3, .inr (1, [.int 1, .ref i3, .ref o3, .ref b3, .int 0, .int 0, .int 0, .int 0, .ref y3, .int 0, .ref z3, .int 0])), (i3, .inr (0, [.int 131076, .ref ri3, .int 0, .int 0])), (o3, .inr (0, [.int 65536, .ref ro3, .int 0, .int 0])), (b3, .inr (0, [.int 67108864, .ref rb3, .int 0, .int 0])), (e0, .inr (4, [.ref v1, .ref v2, .ref v3, .ref v4, .ref v5, .ref v6, .int 0, .ref v7, .ref v8, .int 0, .ref v9, .ref v10, .int 0, .int 0, .int 0, .int 0, .long 0, .int 0, .int 0])), (w0, .inr (2, [.ref s1, .ref s2, .ref s3, .ref s4, .int 0])), (s4, .inl (kh, 1024, .inl gh))] s.heap.size = A at hD ⊢
  have hA : ∀ q : Nat, s.heap.size ≤ q → A q := fun q h => by rw [← hAe]; exact Or.inr h
  have hS : va_S A s.heap s.heap [] := va_S.rf
  have hP : va_P (dC, dI) classes [(h0, .inr (9, [.ref t0, .ref xm1, .ref a0, .ref w0, .ref k0, .ref e0, .ref xm2, .ref xm3, .ref xm4, .ref xm5, .ref j0, .ref j1, .ref j2, .int 0, .int 0, .int 0, .int (-1), .int 1])), (a0, .inl (ka, 4, .inr (.inr (.inr (.inr fa))))), (c0, .inr (1, [.int 1, .ref i0, .ref o0, .ref b0, .int 0, .int 0, .int 0, .int 0, .ref y0, .int 0, .ref z0, .int 0])), (i0, .inr (0, [.int 131076, .ref ri0, .int 0, .int 0])), (o0, .inr (0, [.int 65536, .ref ro0, .int 0, .int 0])), (b0, .inr (0, [.int 67108864, .ref rb0, .int 0, .int 0])), (c1, .inr (1, [.int 1, .ref i1, .ref o1, .ref b1, .int 0, .int 0, .int 0, .int 0, .ref y1, .int 0, .ref z1, .int 0])), (i1, .inr (0, [.int 131076, .ref ri1, .int 0, .int 0])), (o1, .inr (0, [.int 65536, .ref ro1, .int 0, .int 0])), (b1, .inr (0, [.int 67108864, .ref rb1, .int 0, .int 0])), (c2, .inr (1, [.int 1, .ref i2, .ref o2, .ref b2, .int 0, .int 0, .int 0, .int 0, .ref y2, .int 0, .ref z2, .int 0])), (i2, .inr (0, [.int 131076, .ref ri2, .int 0, .int 0])), (o2, .inr (0, [.int 65536, .ref ro2, .int 0, .int 0])), (b2, .inr (0, [.int 67108864, .ref rb2, .int 0, .int 0])), (c3, .inr (1, [.int 1, .ref i3, .ref o3, .ref b3, .int 0, .int 0, .int 0, .int 0, .ref y3, .int 0, .ref z3, .int 0])), (i3, .inr (0, [.int 131076, .ref ri3, .int 0, .int 0])), (o3, .inr (0, [.int 65536, .ref ro3, .int 0, .int 0])), (b3, .inr (0, [.int 67108864, .ref rb3, .int 0, .int 0])), (e0, .inr (4, [.ref v1, .ref v2, .ref v3, .ref v4, .ref v5, .ref v6, .int 0, .ref v7, .ref v8, .int 0, .ref v9, .ref v10, .int 0, .int 0, .int 0, .int 0, .long 0, .int 0, .int 0])), (w0, .inr (2, [.ref s1, .ref s2, .ref s3, .ref s4, .int 0])), (s4, .inl (kh, 1024, .inl gh))] s.heap := hP
  have hl := lv_entry ([.ref h0]) (n := 1) (Nat.le_of_ble_eq_true rfl)
  rw [lg_entry_eq]
  generalize (lg_sl ([.ref h0]) ++ List.replicate (1 - (lg_sl ([.ref h0])).length) Slot.unset).toArray = ls at hl ⊢
  have hl : lv_has ls 1 [(0, .ref h0)] := hl
  refine lv_aload_n hx hb dX12_crash_0 rfl (lv_at hl 0 rfl) ?_
  refine va_get (D := (dC, dI)) (ci := 9) (v := .int 1) (C := RX12) (T := TX12) (N := 18) hx hb hkw kin_X12 hown hK hP 0 rfl rfl 17 (by decide) (hkw _ m_127) (fun _ h9 => h9) rfl dX12_crash_1 ?_
  refine lv_if_ne (tgt := 9) hx hb dX12_crash_4 (by decide) (fun c_4_0 => ?_) (fun c_4_0 => absurd c_4_0 (by decide))
  refine lv_aload_n hx hb dX12_crash_9 rfl (lv_at hl 0 rfl) ?_
  have hPc := hP.sub (ws' := [(h0, .inr (9, [.ref t0, .ref xm1, .ref a0, .ref w0, .ref k0, .ref e0, .ref xm2, .ref xm3, .ref xm4, .ref xm5, .ref j0, .ref j1, .ref j2, .int 0, .int 0, .int 0, .int (-1), .int 1])), (a0, .inl (ka, 4, .inr (.inr (.inr (.inr fa))))), (c0, .inr (1, [.int 1, .ref i0, .ref o0, .ref b0, .int 0, .int 0, .int 0, .int 0, .ref y0, .int 0, .ref z0, .int 0])), (i0, .inr (0, [.int 131076, .ref ri0, .int 0, .int 0])), (o0, .inr (0, [.int 65536, .ref ro0, .int 0, .int 0])), (b0, .inr (0, [.int 67108864, .ref rb0, .int 0, .int 0])), (c1, .inr (1, [.int 1, .ref i1, .ref o1, .ref b1, .int 0, .int 0, .int 0, .int 0, .ref y1, .int 0, .ref z1, .int 0])), (i1, .inr (0, [.int 131076, .ref ri1, .int 0, .int 0])), (o1, .inr (0, [.int 65536, .ref ro1, .int 0, .int 0])), (b1, .inr (0, [.int 67108864, .ref rb1, .int 0, .int 0])), (c2, .inr (1, [.int 1, .ref i2, .ref o2, .ref b2, .int 0, .int 0, .int 0, .int 0, .ref y2, .int 0, .ref z2, .int 0])), (i2, .inr (0, [.int 131076, .ref ri2, .int 0, .int 0])), (o2, .inr (0, [.int 65536, .ref ro2, .int 0, .int 0])), (b2, .inr (0, [.int 67108864, .ref rb2, .int 0, .int 0])), (c3, .inr (1, [.int 1, .ref i3, .ref o3, .ref b3, .int 0, .int 0, .int 0, .int 0, .ref y3, .int 0, .ref z3, .int 0])), (i3, .inr (0, [.int 131076, .ref ri3, .int 0, .int 0])), (o3, .inr (0, [.int 65536, .ref ro3, .int 0, .int 0])), (b3, .inr (0, [.int 67108864, .ref rb3, .int 0, .int 0])), (e0, .inr (4, [.ref v1, .ref v2, .ref v3, .ref v4, .ref v5, .ref v6, .int 0, .ref v7, .ref v8, .int 0, .ref v9, .ref v10, .int 0, .int 0, .int 0, .int 0, .long 0, .int 0, .int 0])), (w0, .inr (2, [.ref s1, .ref s2, .ref s3, .ref s4, .int 0])), (s4, .inl (kh, 1024, .inl gh))]) [0, 1, 2, 3, 4, 5, 6, 7, 8, 9, 10, 11, 12, 13, 14, 15, 16, 17, 18, 19, 20] rfl
  have hDc := hD.sub (ws' := [(h0, .inr (9, [.ref t0, .ref xm1, .ref a0, .ref w0, .ref k0, .ref e0, .ref xm2, .ref xm3, .ref xm4, .ref xm5, .ref j0, .ref j1, .ref j2, .int 0, .int 0, .int 0, .int (-1), .int 1])), (a0, .inl (ka, 4, .inr (.inr (.inr (.inr fa))))), (c0, .inr (1, [.int 1, .ref i0, .ref o0, .ref b0, .int 0, .int 0, .int 0, .int 0, .ref y0, .int 0, .ref z0, .int 0])), (i0, .inr (0, [.int 131076, .ref ri0, .int 0, .int 0])), (o0, .inr (0, [.int 65536, .ref ro0, .int 0, .int 0])), (b0, .inr (0, [.int 67108864, .ref rb0, .int 0, .int 0])), (c1, .inr (1, [.int 1, .ref i1, .ref o1, .ref b1, .int 0, .int 0, .int 0, .int 0, .ref y1, .int 0, .ref z1, .int 0])), (i1, .inr (0, [.int 131076, .ref ri1, .int 0, .int 0])), (o1, .inr (0, [.int 65536, .ref ro1, .int 0, .int 0])), (b1, .inr (0, [.int 67108864, .ref rb1, .int 0, .int 0])), (c2, .inr (1, [.int 1, .ref i2, .ref o2, .ref b2, .int 0, .int 0, .int 0, .int 0, .ref y2, .int 0, .ref z2, .int 0])), (i2, .inr (0, [.int 131076, .ref ri2, .int 0, .int 0])), (o2, .inr (0, [.int 65536, .ref ro2, .int 0, .int 0])), (b2, .inr (0, [.int 67108864, .ref rb2, .int 0, .int 0])), (c3, .inr (1, [.int 1, .ref i3, .ref o3, .ref b3, .int 0, .int 0, .int 0, .int 0, .ref y3, .int 0, .ref z3, .int 0])), (i3, .inr (0, [.int 131076, .ref ri3, .int 0, .int 0])), (o3, .inr (0, [.int 65536, .ref ro3, .int 0, .int 0])), (b3, .inr (0, [.int 67108864, .ref rb3, .int 0, .int 0])), (e0, .inr (4, [.ref v1, .ref v2, .ref v3, .ref v4, .ref v5, .ref v6, .int 0, .ref v7, .ref v8, .int 0, .ref v9, .ref v10, .int 0, .int 0, .int 0, .int 0, .long 0, .int 0, .int 0])), (w0, .inr (2, [.ref s1, .ref s2, .ref s3, .ref s4, .int 0])), (s4, .inl (kh, 1024, .inl gh))]) [0, 1, 2, 3, 4, 5, 6, 7, 8, 9, 10, 11, 12, 13, 14, 15, 16, 17, 18, 19, 20] (by decide) rfl
  have hKc := hK.sub (tys' := [(ka, .object "KeySteward$Connection"), (kh, .int)]) [0, 1] rfl
  have hFc := va_free (wc := [(h0, .inr (9, [.ref t0, .ref xm1, .ref a0, .ref w0, .ref k0, .ref e0, .ref xm2, .ref xm3, .ref xm4, .ref xm5, .ref j0, .ref j1, .ref j2, .int 0, .int 0, .int 0, .int (-1), .int 1])), (a0, .inl (ka, 4, .inr (.inr (.inr (.inr fa))))), (c0, .inr (1, [.int 1, .ref i0, .ref o0, .ref b0, .int 0, .int 0, .int 0, .int 0, .ref y0, .int 0, .ref z0, .int 0])), (i0, .inr (0, [.int 131076, .ref ri0, .int 0, .int 0])), (o0, .inr (0, [.int 65536, .ref ro0, .int 0, .int 0])), (b0, .inr (0, [.int 67108864, .ref rb0, .int 0, .int 0])), (c1, .inr (1, [.int 1, .ref i1, .ref o1, .ref b1, .int 0, .int 0, .int 0, .int 0, .ref y1, .int 0, .ref z1, .int 0])), (i1, .inr (0, [.int 131076, .ref ri1, .int 0, .int 0])), (o1, .inr (0, [.int 65536, .ref ro1, .int 0, .int 0])), (b1, .inr (0, [.int 67108864, .ref rb1, .int 0, .int 0])), (c2, .inr (1, [.int 1, .ref i2, .ref o2, .ref b2, .int 0, .int 0, .int 0, .int 0, .ref y2, .int 0, .ref z2, .int 0])), (i2, .inr (0, [.int 131076, .ref ri2, .int 0, .int 0])), (o2, .inr (0, [.int 65536, .ref ro2, .int 0, .int 0])), (b2, .inr (0, [.int 67108864, .ref rb2, .int 0, .int 0])), (c3, .inr (1, [.int 1, .ref i3, .ref o3, .ref b3, .int 0, .int 0, .int 0, .int 0, .ref y3, .int 0, .ref z3, .int 0])), (i3, .inr (0, [.int 131076, .ref ri3, .int 0, .int 0])), (o3, .inr (0, [.int 65536, .ref ro3, .int 0, .int 0])), (b3, .inr (0, [.int 67108864, .ref rb3, .int 0, .int 0])), (e0, .inr (4, [.ref v1, .ref v2, .ref v3, .ref v4, .ref v5, .ref v6, .int 0, .ref v7, .ref v8, .int 0, .ref v9, .ref v10, .int 0, .int 0, .int 0, .int 0, .long 0, .int 0, .int 0])), (w0, .inr (2, [.ref s1, .ref s2, .ref s3, .ref s4, .int 0])), (s4, .inl (kh, 1024, .inl gh))]) hD hS hA [0, 1, 2, 3, 4, 5, 6, 7, 8, 9, 10, 11, 12, 13, 14, 15, 16, 17, 18, 19, 20] rfl
  refine va_callv (va_runV (As := []) (rest := []) ⟨hx, hb, hml, hown, hkw⟩ (c_KS_halt l dC dI s.heap.size h0 t0 xm1 a0 w0 k0 e0 xm2 xm3 xm4 xm5 j0 j1 j2 ka fa c0 i0 o0 b0 y0 z0 ri0 ro0 rb0 c1 i1 o1 b1 y1 z1 ri1 ro1 rb1 c2 i2 o2 b2 y2 z2 ri2 ro2 rb2 c3 i3 o3 b3 y3 z3 ri3 ro3 rb3 v1 v2 v3 v4 v5 v6 v7 v8 v9 v10 s1 s2 s3 s4 kh gh hc0 hc1 hc2 hc3) (callVv 0 hkw (kwI m_186) rfl rfl rfl (hkw _ m_122) (hkw _ m_187) (hkw _ m_188) (hkw _ m_189) (by decide +kernel) ⟨Nat.le_of_ble_eq_true rfl, Nat.le_of_ble_eq_true rfl⟩) ⟨fbW, va_recv hK hP (ci := 9) (q0 := 0) rfl rfl, pW_in hPc hKc hDc hfx⟩ rfl rfl hl.1 rfl (lv_room (Nat.le_of_ble_eq_true rfl)) dX12_crash_10 ⟨Nat.le_of_ble_eq_true rfl, Nat.le_of_ble_eq_true rfl⟩) hS (fun q _ h => hFc q h) hFc (fun u t H1 locs ht hvm hw hB hz1 hk1 hS => ?_)
  obtain ⟨hP1, hK1, hD1⟩ := hB
  rw [ht] at hP1
  have hK1 := va_K.moved hvm.symm hK1
  obtain ⟨hP, hD⟩ := va_join (wr := []) (w1 := []) hP hD [0, 1, 2, 3, 4, 5, 6, 7, 8, 9, 10, 11, 12, 13, 14, 15, 16, 17, 18, 19, 20] [] rfl rfl (by decide) (by decide) hk1 hFc hP1 hD1
  have hK := (hK.sub (tys' := []) [] rfl).app hK1
  generalize H1 = H at hP hS ⊢
  have hP : va_P (dC, dI) classes [] H := hP
  have hD : va_D A [] := hD
  have hK : va_K (dC, dI) classes [] s := hK
  have hw1 := hw
  try dsimp only at hw1
  refine lv_iconst (v := 1) hx hb dX12_crash_13 (by decide) ?_
  have hP9 := hP.sub (ws' := []) [] rfl
  have hD9 := hD.sub (ws' := []) [] (by decide) rfl
  have hK9 := hK.sub (tys' := []) [] rfl
  refine W.widen (k := 0) (n := 0) (Nat.le_of_ble_eq_true rfl) (Nat.le_of_ble_eq_true rfl) ?_
  exact W.zret (v := 1) (ty := .boolean) hx hb hr rfl (fun t ht hW => ⟨⟨1, (), rfl, rfl, by rw [ht]; exact hP9, va_K.moved hW.alike hK9, hD9⟩, hS.F ht⟩) hS.2.2 dX12_crash_14
