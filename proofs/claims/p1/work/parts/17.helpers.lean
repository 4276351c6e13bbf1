set_option maxHeartbeats 4000000 in
set_option maxRecDepth 100000 in
/-- the law's outAt(0, ..) -/
theorem c_LA_outAt_0 (l : Launch) (hlt : l.stackTraces = false) (dC : Nat → ClassId) (dI : Nat → Nat → Nat) (sz : Nat) (h0 : Nat) (t0 : Nat) (xm1 : Nat) (a0 : Nat) (w0 : Nat) (k0 : Nat) (e0 : Nat) (xm2 : Nat) (xm3 : Nat) (xm4 : Nat) (xm5 : Nat) (j0 : Nat) (j1 : Nat) (j2 : Nat) (ka : ClassId) (fa : Nat → Option Nat) (c0 : Nat) (i0 : Nat) (o0 : Nat) (b0 : Nat) (y0 : Nat) (z0 : Nat) (ro0 : Nat) (p1 : Int32) (o9 : Nat) (ko : ClassId) (go : Nat → Int64) (hc0 : fa 0 = some c0) : Met l yL_outAt (Cond.codeWith yL_outAt cL_outAt 5 (some .int) [(0, 10, 13, 13)] :: lk) ({ frames := 7, cells := 1, slots := 6, locals := 113 }) (va_Pc [.ref h0, .int 0, .int p1, .ref o9] (pX (dC, dI) [(h0, .inr (9, [.ref t0, .ref xm1, .ref a0, .ref w0, .ref k0, .ref e0, .ref xm2, .ref xm3, .ref xm4, .ref xm5, .ref j0, .ref j1, .ref j2, .int 0, .int 0, .int 0, .int (-1), .int 1])), (a0, .inl (ka, 4, .inr (.inr (.inr (.inr fa))))), (c0, .inr (1, [.int 1, .ref i0, .ref o0, .ref b0, .int 0, .int 0, .int 0, .int 0, .ref y0, .int 0, .ref z0, .int 0])), (o0, .inr (0, [.int 65536, .ref ro0, .int 0, .int 0])), (o9, .inl (ko, 1, .inr (.inl go)))] [(ka, .object "KeySteward$Connection"), (ko, .long)] sz)) (va_Qi (fun (r : Int32) (_u : Unit) => r = 1) (fun (_u : Unit) (t : State) => bW (dC, dI) [] [] (va_A [(h0, .inr (9, [.ref t0, .ref xm1, .ref a0, .ref w0, .ref k0, .ref e0, .ref xm2, .ref xm3, .ref xm4, .ref xm5, .ref j0, .ref j1, .ref j2, .int 0, .int 0, .int 0, .int (-1), .int 1])), (a0, .inl (ka, 4, .inr (.inr (.inr (.inr fa))))), (c0, .inr (1, [.int 1, .ref i0, .ref o0, .ref b0, .int 0, .int 0, .int 0, .int 0, .ref y0, .int 0, .ref z0, .int 0])), (o0, .inr (0, [.int 65536, .ref ro0, .int 0, .int 0])), (o9, .inl (ko, 1, .inr (.inl go)))] sz) t) (va_A [(h0, .inr (9, [.ref t0, .ref xm1, .ref a0, .ref w0, .ref k0, .ref e0, .ref xm2, .ref xm3, .ref xm4, .ref xm5, .ref j0, .ref j1, .ref j2, .int 0, .int 0, .int 0, .int (-1), .int 1])), (a0, .inl (ka, 4, .inr (.inr (.inr (.inr fa))))), (c0, .inr (1, [.int 1, .ref i0, .ref o0, .ref b0, .int 0, .int 0, .int 0, .int 0, .ref y0, .int 0, .ref z0, .int 0])), (o0, .inr (0, [.int 65536, .ref ro0, .int 0, .int 0])), (o9, .inl (ko, 1, .inr (.inl go)))] sz)) 1 6 (va_A [(h0, .inr (9, [.ref t0, .ref xm1, .ref a0, .ref w0, .ref k0, .ref e0, .ref xm2, .ref xm3, .ref xm4, .ref xm5, .ref j0, .ref j1, .ref j2, .int 0, .int 0, .int 0, .int (-1), .int 1])), (a0, .inl (ka, 4, .inr (.inr (.inr (.inr fa))))), (c0, .inr (1, [.int 1, .ref i0, .ref o0, .ref b0, .int 0, .int 0, .int 0, .int 0, .ref y0, .int 0, .ref z0, .int 0])), (o0, .inr (0, [.int 65536, .ref ro0, .int 0, .int 0])), (o9, .inl (ko, 1, .inr (.inl go)))] sz) := by
  refine va_MetW (cc := cL_outAt) (maxL := 5) (ret := (some .int)) (hh := [(0, 10, 13, 13)]) (by decide) rfl ?_
  intro p e s m args below meth c s₁ B hml hv
  obtain ⟨rfl, hsz, hP, hK, hD0, hfx, hU, hN, hF⟩ := hv
  have hx := B.exec
  have hb := B.bytes
  have hr := B.returns
  have hts := atoms_spec (ws := (Cond.codeWith yL_outAt cL_outAt 5 (some .int) [(0, 10, 13, 13)] :: lk)) B.pre
  have hkw : ∀ w ∈ lk, w.before _ s = true := fun w h => hts w (List.mem_cons_of_mem _ h)
  have htab := vx_table (x := yL_outAt) B (hts _ List.mem_cons_self)
  have hown : s.vm.findClass RL = some m.cls := findClass_of_methodNamed B.named
  have hlocks := B.notSynchronized
  subst hsz
  have hD := hD0.self (sz := s.heap.size)
  generalize hAe : va_A [(h0, .inr (9, [.ref t0, .ref xm1, .ref a0, .ref w0, .ref k0, .ref e0, .ref xm2, .ref xm3, .ref xm4, .ref xm5, .ref j0, .ref j1, .ref j2, .int 0, .int 0, .int 0, .int (-1), .int 1])), (a0, .inl (ka, 4, .inr (.inr (.inr (.inr fa))))), (c0, .inr (1, [.int 1, .ref i0, .ref o0, .ref b0, .int 0, .int 0, .int 0, .int 0, .ref y0, .int 0, .ref z0, .int 0])), (o0, .inr (0, [.int 65536, .ref ro0, .int 0, .int 0])), (o9, .inl (ko, 1, .inr (.inl go)))] s.heap.size = A at hD hU hN ⊢
  have hA : ∀ q : Nat, s.heap.size ≤ q → A q := fun q h => by rw [← hAe]; exact Or.inr h
  have hS : va_S A s.heap s.heap [] := va_S.rf
  have hP : va_P (dC, dI) classes [(h0, .inr (9, [.ref t0, .ref xm1, .ref a0, .ref w0, .ref k0, .ref e0, .ref xm2, .ref xm3, .ref xm4, .ref xm5, .ref j0, .ref j1, .ref j2, .int 0, .int 0, .int 0, .int (-1), .int 1])), (a0, .inl (ka, 4, .inr (.inr (.inr (.inr fa))))), (c0, .inr (1, [.int 1, .ref i0, .ref o0, .ref b0, .int 0, .int 0, .int 0, .int 0, .ref y0, .int 0, .ref z0, .int 0])), (o0, .inr (0, [.int 65536, .ref ro0, .int 0, .int 0])), (o9, .inl (ko, 1, .inr (.inl go)))] s.heap := hP
  have hl := lv_entry ([.ref h0, .int 0, .int p1, .ref o9]) (n := 5) (Nat.le_of_ble_eq_true rfl)
  rw [lg_entry_eq]
  generalize (lg_sl ([.ref h0, .int 0, .int p1, .ref o9]) ++ List.replicate (5 - (lg_sl ([.ref h0, .int 0, .int p1, .ref o9])).length) Slot.unset).toArray = ls at hl ⊢
  have hl : lv_has ls 5 [(0, .ref h0), (1, .int 0), (2, .int p1), (3, .ref o9)] := hl
  refine lv_aload_n hx hb dL_outAt_0 rfl (lv_at hl 3 rfl) ?_
  refine lv_iconst (v := 0) hx hb dL_outAt_1 (by decide) ?_
  refine lv_aload_n hx hb dL_outAt_2 rfl (lv_at hl 0 rfl) ?_
  refine lv_iload_n hx hb dL_outAt_3 rfl (lv_at hl 1 rfl) ?_
  refine lv_iload_n hx hb dL_outAt_4 rfl (lv_at hl 2 rfl) ?_
  have hPc := hP.sub (ws' := [(h0, .inr (9, [.ref t0, .ref xm1, .ref a0, .ref w0, .ref k0, .ref e0, .ref xm2, .ref xm3, .ref xm4, .ref xm5, .ref j0, .ref j1, .ref j2, .int 0, .int 0, .int 0, .int (-1), .int 1])), (a0, .inl (ka, 4, .inr (.inr (.inr (.inr fa))))), (c0, .inr (1, [.int 1, .ref i0, .ref o0, .ref b0, .int 0, .int 0, .int 0, .int 0, .ref y0, .int 0, .ref z0, .int 0])), (o0, .inr (0, [.int 65536, .ref ro0, .int 0, .int 0]))]) [0, 1, 2, 3] rfl
  have hDc := hD.sub (ws' := [(h0, .inr (9, [.ref t0, .ref xm1, .ref a0, .ref w0, .ref k0, .ref e0, .ref xm2, .ref xm3, .ref xm4, .ref xm5, .ref j0, .ref j1, .ref j2, .int 0, .int 0, .int 0, .int (-1), .int 1])), (a0, .inl (ka, 4, .inr (.inr (.inr (.inr fa))))), (c0, .inr (1, [.int 1, .ref i0, .ref o0, .ref b0, .int 0, .int 0, .int 0, .int 0, .ref y0, .int 0, .ref z0, .int 0])), (o0, .inr (0, [.int 65536, .ref ro0, .int 0, .int 0]))]) [0, 1, 2, 3] (by decide) rfl
  have hKc := hK.sub (tys' := [(ka, .object "KeySteward$Connection")]) [0] rfl
  have hFc := va_free (wc := [(h0, .inr (9, [.ref t0, .ref xm1, .ref a0, .ref w0, .ref k0, .ref e0, .ref xm2, .ref xm3, .ref xm4, .ref xm5, .ref j0, .ref j1, .ref j2, .int 0, .int 0, .int 0, .int (-1), .int 1])), (a0, .inl (ka, 4, .inr (.inr (.inr (.inr fa))))), (c0, .inr (1, [.int 1, .ref i0, .ref o0, .ref b0, .int 0, .int 0, .int 0, .int 0, .ref y0, .int 0, .ref z0, .int 0])), (o0, .inr (0, [.int 65536, .ref ro0, .int 0, .int 0]))]) hD hS hA [0, 1, 2, 3] rfl
  refine vx_calli (vx_runV (As := [.int 0, .int p1]) (rest := [.int 0, .ref o9]) ⟨hx, hb, hml, hown, hkw⟩ (c_KS_outAt_0 l hlt dC dI s.heap.size h0 t0 xm1 a0 w0 k0 e0 xm2 xm3 xm4 xm5 j0 j1 j2 ka fa c0 i0 o0 b0 y0 z0 ro0 p1 hc0) (callVv 2 hkw (lkX n_0) rfl rfl rfl (hkw _ n_1) (hkw _ n_2) (hkw _ n_3) (hkw _ n_4) (by decide +kernel) ⟨Nat.le_of_ble_eq_true rfl, Nat.le_of_ble_eq_true rfl⟩) ⟨fbX, va_recv hK hP (ci := 9) (q0 := 0) rfl rfl, pX_in hPc hKc hDc hfx hS hFc hU hN hF⟩ rfl rfl hl.1 rfl (lv_room (Nat.le_of_ble_eq_true rfl)) dL_outAt_5 ⟨Nat.le_of_ble_eq_true rfl, Nat.le_of_ble_eq_true rfl⟩) hS (fun q _ h => hFc q h) hFc (fun q _ h => hFc q h) (fun E ce q9 u t H1 locs ht hvm hpx hE hz1 hk1 hS hce hv hcl => ?_) (fun r u t H1 locs ht hvm hw => absurd hw id)
  obtain rfl : E = _ := hE
  refine lx_catch (own := RL) (name := "java/util/NoSuchElementException") hown { startPc := 0, endPc := 10, handlerPc := 13, catchType := 13 } [] (by rw [htab]; rfl) rfl (by decide) (hkw _ n_5) (va_Nw.use rfl hF.2.2.2) hce hv hcl ?_
  have hP : va_P (dC, dI) classes [] H1 := fun k q h => by simp at h
  have hD : va_D A [] := ⟨fun i j p q h => by simp at h, fun k q h => by simp at h⟩
  have hK := hK.sub (tys' := []) [] rfl
  generalize H1 = H at hP hS ⊢
  refine lv_astore (lv' := [(4, .ref q9), (0, .ref h0), (1, .int 0), (2, .int p1), (3, .ref o9)]) hx hb dL_outAt_13 hl (by decide) rfl (fun ls hl => ?_)
  refine lv_iconst (v := 1) hx hb dL_outAt_15 (by decide) ?_
  have hP9 := hP.sub (ws' := []) [] rfl
  have hD9 := hD.sub (ws' := []) [] (by decide) rfl
  have hK9 := hK.sub (tys' := []) [] rfl
  refine W.widen (k := 1) (n := 6) (Nat.le_of_ble_eq_true rfl) (Nat.le_of_ble_eq_true rfl) ?_
  exact W.iret (v := 1) hx hb hr (fun t ht hW => ⟨⟨1, (), rfl, rfl, by rw [ht]; exact hP9, va_K.moved hW.alike hK9, hD9⟩, hS.F ht⟩) hS.2.2 dL_outAt_16

set_option maxHeartbeats 4000000 in
set_option maxRecDepth 100000 in
/-- the law's outAt(1, ..) -/
theorem c_LA_outAt_1 (l : Launch) (hlt : l.stackTraces = false) (dC : Nat → ClassId) (dI : Nat → Nat → Nat) (sz : Nat) (h0 : Nat) (t0 : Nat) (xm1 : Nat) (a0 : Nat) (w0 : Nat) (k0 : Nat) (e0 : Nat) (xm2 : Nat) (xm3 : Nat) (xm4 : Nat) (xm5 : Nat) (j0 : Nat) (j1 : Nat) (j2 : Nat) (ka : ClassId) (fa : Nat → Option Nat) (c1 : Nat) (i1 : Nat) (o1 : Nat) (b1 : Nat) (y1 : Nat) (z1 : Nat) (ro1 : Nat) (p1 : Int32) (o9 : Nat) (ko : ClassId) (go : Nat → Int64) (hc1 : fa 1 = some c1) : Met l yL_outAt (Cond.codeWith yL_outAt cL_outAt 5 (some .int) [(0, 10, 13, 13)] :: lk) ({ frames := 7, cells := 1, slots := 6, locals := 113 }) (va_Pc [.ref h0, .int 1, .int p1, .ref o9] (pX (dC, dI) [(h0, .inr (9, [.ref t0, .ref xm1, .ref a0, .ref w0, .ref k0, .ref e0, .ref xm2, .ref xm3, .ref xm4, .ref xm5, .ref j0, .ref j1, .ref j2, .int 0, .int 0, .int 0, .int (-1), .int 1])), (a0, .inl (ka, 4, .inr (.inr (.inr (.inr fa))))), (c1, .inr (1, [.int 1, .ref i1, .ref o1, .ref b1, .int 0, .int 0, .int 0, .int 0, .ref y1, .int 0, .ref z1, .int 0])), (o1, .inr (0, [.int 65536, .ref ro1, .int 0, .int 0])), (o9, .inl (ko, 1, .inr (.inl go)))] [(ka, .object "KeySteward$Connection"), (ko, .long)] sz)) (va_Qi (fun (r : Int32) (_u : Unit) => r = 1) (fun (_u : Unit) (t : State) => bW (dC, dI) [] [] (va_A [(h0, .inr (9, [.ref t0, .ref xm1, .ref a0, .ref w0, .ref k0, .ref e0, .ref xm2, .ref xm3, .ref xm4, .ref xm5, .ref j0, .ref j1, .ref j2, .int 0, .int 0, .int 0, .int (-1), .int 1])), (a0, .inl (ka, 4, .inr (.inr (.inr (.inr fa))))), (c1, .inr (1, [.int 1, .ref i1, .ref o1, .ref b1, .int 0, .int 0, .int 0, .int 0, .ref y1, .int 0, .ref z1, .int 0])), (o1, .inr (0, [.int 65536, .ref ro1, .int 0, .int 0])), (o9, .inl (ko, 1, .inr (.inl go)))] sz) t) (va_A [(h0, .inr (9, [.ref t0, .ref xm1, .ref a0, .ref w0, .ref k0, .ref e0, .ref xm2, .ref xm3, .ref xm4, .ref xm5, .ref j0, .ref j1, .ref j2, .int 0, .int 0, .int 0, .int (-1), .int 1])), (a0, .inl (ka, 4, .inr (.inr (.inr (.inr fa))))), (c1, .inr (1, [.int 1, .ref i1, .ref o1, .ref b1, .int 0, .int 0, .int 0, .int 0, .ref y1, .int 0, .ref z1, .int 0])), (o1, .inr (0, [.int 65536, .ref ro1, .int 0, .int 0])), (o9, .inl (ko, 1, .inr (.inl go)))] sz)) 1 6 (va_A [(h0, .inr (9, [.ref t0, .ref xm1, .ref a0, .ref w0, .ref k0, .ref e0, .ref xm2, .ref xm3, .ref xm4, .ref xm5, .ref j0, .ref j1, .ref j2, .int 0, .int 0, .int 0, .int (-1), .int 1])), (a0, .inl (ka, 4, .inr (.inr (.inr (.inr fa))))), (c1, .inr (1, [.int 1, .ref i1, .ref o1, .ref b1, .int 0, .int 0, .int 0, .int 0, .ref y1, .int 0, .ref z1, .int 0])), (o1, .inr (0, [.int 65536, .ref ro1, .int 0, .int 0])), (o9, .inl (ko, 1, .inr (.inl go)))] sz) := by
  refine va_MetW (cc := cL_outAt) (maxL := 5) (ret := (some .int)) (hh := [(0, 10, 13, 13)]) (by decide) rfl ?_
  intro p e s m args below meth c s₁ B hml hv
  obtain ⟨rfl, hsz, hP, hK, hD0, hfx, hU, hN, hF⟩ := hv
  have hx := B.exec
  have hb := B.bytes
  have hr := B.returns
  have hts := atoms_spec (ws := (Cond.codeWith yL_outAt cL_outAt 5 (some .int) [(0, 10, 13, 13)] :: lk)) B.pre
  have hkw : ∀ w ∈ lk, w.before _ s = true := fun w h => hts w (List.mem_cons_of_mem _ h)
  have htab := vx_table (x := yL_outAt) B (hts _ List.mem_cons_self)
  have hown : s.vm.findClass RL = some m.cls := findClass_of_methodNamed B.named
  have hlocks := B.notSynchronized
  subst hsz
  have hD := hD0.self (sz := s.heap.size)
  generalize hAe : va_A [(h0, .inr (9, [.ref t0, .ref xm1, .ref a0, .ref w0, .ref k0, .ref e0, .ref xm2, .ref xm3, .ref xm4, .ref xm5, .ref j0, .ref j1, .ref j2, .int 0, .int 0, .int 0, .int (-1), .int 1])), (a0, .inl (ka, 4, .inr (.inr (.inr (.inr fa))))), (c1, .inr (1, [.int 1, .ref i1, .ref o1, .ref b1, .int 0, .int 0, .int 0, .int 0, .ref y1, .int 0, .ref z1, .int 0])), (o1, .inr (0, [.int 65536, .ref ro1, .int 0, .int 0])), (o9, .inl (ko, 1, .inr (.inl go)))] s.heap.size = A at hD hU hN ⊢
  have hA : ∀ q : Nat, s.heap.size ≤ q → A q := fun q h => by rw [← hAe]; exact Or.inr h
  have hS : va_S A s.heap s.heap [] := va_S.rf
  have hP : va_P (dC, dI) classes [(h0, .inr (9, [.ref t0, .ref xm1, .ref a0, .ref w0, .ref k0, .ref e0, .ref xm2, .ref xm3, .ref xm4, .ref xm5, .ref j0, .ref j1, .ref j2, .int 0, .int 0, .int 0, .int (-1), .int 1])), (a0, .inl (ka, 4, .inr (.inr (.inr (.inr fa))))), (c1, .inr (1, [.int 1, .ref i1, .ref o1, .ref b1, .int 0, .int 0, .int 0, .int 0, .ref y1, .int 0, .ref z1, .int 0])), (o1, .inr (0, [.int 65536, .ref ro1, .int 0, .int 0])), (o9, .inl (ko, 1, .inr (.inl go)))] s.heap := hP
  have hl := lv_entry ([.ref h0, .int 1, .int p1, .ref o9]) (n := 5) (Nat.le_of_ble_eq_true rfl)
  rw [lg_entry_eq]
  generalize (lg_sl ([.ref h0, .int 1, .int p1, .ref o9]) ++ List.replicate (5 - (lg_sl ([.ref h0, .int 1, .int p1, .ref o9])).length) Slot.unset).toArray = ls at hl ⊢
  have hl : lv_has ls 5 [(0, .ref h0), (1, .int 1), (2, .int p1), (3, .ref o9)] := hl
  refine lv_aload_n hx hb dL_outAt_0 rfl (lv_at hl 3 rfl) ?_
  refine lv_iconst (v := 0) hx hb dL_outAt_1 (by decide) ?_
  refine lv_aload_n hx hb dL_outAt_2 rfl (lv_at hl 0 rfl) ?_
  refine lv_iload_n hx hb dL_outAt_3 rfl (lv_at hl 1 rfl) ?_
  refine lv_iload_n hx hb dL_outAt_4 rfl (lv_at hl 2 rfl) ?_
  have hPc := hP.sub (ws' := [(h0, .inr (9, [.ref t0, .ref xm1, .ref a0, .ref w0, .ref k0, .ref e0, .ref xm2, .ref xm3, .ref xm4, .ref xm5, .ref j0, .ref j1, .ref j2, .int 0, .int 0, .int 0, .int (-1), .int 1])), (a0, .inl (ka, 4, .inr (.inr (.inr (.inr fa))))), (c1, .inr (1, [.int 1, .ref i1, .ref o1, .ref b1, .int 0, .int 0, .int 0, .int 0, .ref y1, .int 0, .ref z1, .int 0])), (o1, .inr (0, [.int 65536, .ref ro1, .int 0, .int 0]))]) [0, 1, 2, 3] rfl
  have hDc := hD.sub (ws' := [(h0, .inr (9, [.ref t0, .ref xm1, .ref a0, .ref w0, .ref k0, .ref e0, .ref xm2, .ref xm3, .ref xm4, .ref xm5, .ref j0, .ref j1, .ref j2, .int 0, .int 0, .int 0, .int (-1), .int 1])), (a0, .inl (ka, 4, .inr (.inr (.inr (.inr fa))))), (c1, .inr (1, [.int 1, .ref i1, .ref o1, .ref b1, .int 0, .int 0, .int 0, .int 0, .ref y1, .int 0, .ref z1, .int 0])), (o1, .inr (0, [.int 65536, .ref ro1, .int 0, .int 0]))]) [0, 1, 2, 3] (by decide) rfl
  have hKc := hK.sub (tys' := [(ka, .object "KeySteward$Connection")]) [0] rfl
  have hFc := va_free (wc := [(h0, .inr (9, [.ref t0, .ref xm1, .ref a0, .ref w0, .ref k0, .ref e0, .ref xm2, .ref xm3, .ref xm4, .ref xm5, .ref j0, .ref j1, .ref j2, .int 0, .int 0, .int 0, .int (-1), .int 1])), (a0, .inl (ka, 4, .inr (.inr (.inr (.inr fa))))), (c1, .inr (1, [.int 1, .ref i1, .ref o1, .ref b1, .int 0, .int 0, .int 0, .int 0, .ref y1, .int 0, .ref z1, .int 0])), (o1, .inr (0, [.int 65536, .ref ro1, .int 0, .int 0]))]) hD hS hA [0, 1, 2, 3] rfl
  refine vx_calli (vx_runV (As := [.int 1, .int p1]) (rest := [.int 0, .ref o9]) ⟨hx, hb, hml, hown, hkw⟩ (c_KS_outAt_1 l hlt dC dI s.heap.size h0 t0 xm1 a0 w0 k0 e0 xm2 xm3 xm4 xm5 j0 j1 j2 ka fa c1 i1 o1 b1 y1 z1 ro1 p1 hc1) (callVv 2 hkw (lkX n_0) rfl rfl rfl (hkw _ n_1) (hkw _ n_2) (hkw _ n_3) (hkw _ n_4) (by decide +kernel) ⟨Nat.le_of_ble_eq_true rfl, Nat.le_of_ble_eq_true rfl⟩) ⟨fbX, va_recv hK hP (ci := 9) (q0 := 0) rfl rfl, pX_in hPc hKc hDc hfx hS hFc hU hN hF⟩ rfl rfl hl.1 rfl (lv_room (Nat.le_of_ble_eq_true rfl)) dL_outAt_5 ⟨Nat.le_of_ble_eq_true rfl, Nat.le_of_ble_eq_true rfl⟩) hS (fun q _ h => hFc q h) hFc (fun q _ h => hFc q h) (fun E ce q9 u t H1 locs ht hvm hpx hE hz1 hk1 hS hce hv hcl => ?_) (fun r u t H1 locs ht hvm hw => absurd hw id)
  obtain rfl : E = _ := hE
  refine lx_catch (own := RL) (name := "java/util/NoSuchElementException") hown { startPc := 0, endPc := 10, handlerPc := 13, catchType := 13 } [] (by rw [htab]; rfl) rfl (by decide) (hkw _ n_5) (va_Nw.use rfl hF.2.2.2) hce hv hcl ?_
  have hP : va_P (dC, dI) classes [] H1 := fun k q h => by simp at h
  have hD : va_D A [] := ⟨fun i j p q h => by simp at h, fun k q h => by simp at h⟩
  have hK := hK.sub (tys' := []) [] rfl
  generalize H1 = H at hP hS ⊢
  refine lv_astore (lv' := [(4, .ref q9), (0, .ref h0), (1, .int 1), (2, .int p1), (3, .ref o9)]) hx hb dL_outAt_13 hl (by decide) rfl (fun ls hl => ?_)
  refine lv_iconst (v := 1) hx hb dL_outAt_15 (by decide) ?_
  have hP9 := hP.sub (ws' := []) [] rfl
  have hD9 := hD.sub (ws' := []) [] (by decide) rfl
  have hK9 := hK.sub (tys' := []) [] rfl
  refine W.widen (k := 1) (n := 6) (Nat.le_of_ble_eq_true rfl) (Nat.le_of_ble_eq_true rfl) ?_
  exact W.iret (v := 1) hx hb hr (fun t ht hW => ⟨⟨1, (), rfl, rfl, by rw [ht]; exact hP9, va_K.moved hW.alike hK9, hD9⟩, hS.F ht⟩) hS.2.2 dL_outAt_16

set_option maxHeartbeats 4000000 in
set_option maxRecDepth 100000 in
/-- the law's outAt(2, ..) -/
theorem c_LA_outAt_2 (l : Launch) (hlt : l.stackTraces = false) (dC : Nat → ClassId) (dI : Nat → Nat → Nat) (sz : Nat) (h0 : Nat) (t0 : Nat) (xm1 : Nat) (a0 : Nat) (w0 : Nat) (k0 : Nat) (e0 : Nat) (xm2 : Nat) (xm3 : Nat) (xm4 : Nat) (xm5 : Nat) (j0 : Nat) (j1 : Nat) (j2 : Nat) (ka : ClassId) (fa : Nat → Option Nat) (c2 : Nat) (i2 : Nat) (o2 : Nat) (b2 : Nat) (y2 : Nat) (z2 : Nat) (ro2 : Nat) (p1 : Int32) (o9 : Nat) (ko : ClassId) (go : Nat → Int64) (hc2 : fa 2 = some c2) : Met l yL_outAt (Cond.codeWith yL_outAt cL_outAt 5 (some .int) [(0, 10, 13, 13)] :: lk) ({ frames := 7, cells := 1, slots := 6, locals := 113 }) (va_Pc [.ref h0, .int 2, .int p1, .ref o9] (pX (dC, dI) [(h0, .inr (9, [.ref t0, .ref xm1, .ref a0, .ref w0, .ref k0, .ref e0, .ref xm2, .ref xm3, .ref xm4, .ref xm5, .ref j0, .ref j1, .ref j2, .int 0, .int 0, .int 0, .int (-1), .int 1])), (a0, .inl (ka, 4, .inr (.inr (.inr (.inr fa))))), (c2, .inr (1, [.int 1, .ref i2, .ref o2, .ref b2, .int 0, .int 0, .int 0, .int 0, .ref y2, .int 0, .ref z2, .int 0])), (o2, .inr (0, [.int 65536, .ref ro2, .int 0, .int 0])), (o9, .inl (ko, 1, .inr (.inl go)))] [(ka, .object "KeySteward$Connection"), (ko, .long)] sz)) (va_Qi (fun (r : Int32) (_u : Unit) => r = 1) (fun (_u : Unit) (t : State) => bW (dC, dI) [] [] (va_A [(h0, .inr (9, [.ref t0, .ref xm1, .ref a0, .ref w0, .ref k0, .ref e0, .ref xm2, .ref xm3, .ref xm4, .ref xm5, .ref j0, .ref j1, .ref j2, .int 0, .int 0, .int 0, .int (-1), .int 1])), (a0, .inl (ka, 4, .inr (.inr (.inr (.inr fa))))), (c2, .inr (1, [.int 1, .ref i2, .ref o2, .ref b2, .int 0, .int 0, .int 0, .int 0, .ref y2, .int 0, .ref z2, .int 0])), (o2, .inr (0, [.int 65536, .ref ro2, .int 0, .int 0])), (o9, .inl (ko, 1, .inr (.inl go)))] sz) t) (va_A [(h0, .inr (9, [.ref t0, .ref xm1, .ref a0, .ref w0, .ref k0, .ref e0, .ref xm2, .ref xm3, .ref xm4, .ref xm5, .ref j0, .ref j1, .ref j2, .int 0, .int 0, .int 0, .int (-1), .int 1])), (a0, .inl (ka, 4, .inr (.inr (.inr (.inr fa))))), (c2, .inr (1, [.int 1, .ref i2, .ref o2, .ref b2, .int 0, .int 0, .int 0, .int 0, .ref y2, .int 0, .ref z2, .int 0])), (o2, .inr (0, [.int 65536, .ref ro2, .int 0, .int 0])), (o9, .inl (ko, 1, .inr (.inl go)))] sz)) 1 6 (va_A [(h0, .inr (9, [.ref t0, .ref xm1, .ref a0, .ref w0, .ref k0, .ref e0, .ref xm2, .ref xm3, .ref xm4, .ref xm5, .ref j0, .ref j1, .ref j2, .int 0, .int 0, .int 0, .int (-1), .int 1])), (a0, .inl (ka, 4, .inr (.inr (.inr (.inr fa))))), (c2, .inr (1, [.int 1, .ref i2, .ref o2, .ref b2, .int 0, .int 0, .int 0, .int 0, .ref y2, .int 0, .ref z2, .int 0])), (o2, .inr (0, [.int 65536, .ref ro2, .int 0, .int 0])), (o9, .inl (ko, 1, .inr (.inl go)))] sz) := by
  refine va_MetW (cc := cL_outAt) (maxL := 5) (ret := (some .int)) (hh := [(0, 10, 13, 13)]) (by decide) rfl ?_
  intro p e s m args below meth c s₁ B hml hv
  obtain ⟨rfl, hsz, hP, hK, hD0, hfx, hU, hN, hF⟩ := hv
  have hx := B.exec
  have hb := B.bytes
  have hr := B.returns
  have hts := atoms_spec (ws := (Cond.codeWith yL_outAt cL_outAt 5 (some .int) [(0, 10, 13, 13)] :: lk)) B.pre
  have hkw : ∀ w ∈ lk, w.before _ s = true := fun w h => hts w (List.mem_cons_of_mem _ h)
  have htab := vx_table (x := yL_outAt) B (hts _ List.mem_cons_self)
  have hown : s.vm.findClass RL = some m.cls := findClass_of_methodNamed B.named
  have hlocks := B.notSynchronized
  subst hsz
  have hD := hD0.self (sz := s.heap.size)
  generalize hAe : va_A [(h0, .inr (9, [.ref t0, .ref xm1, .ref a0, .ref w0, .ref k0, .ref e0, .ref xm2, .ref xm3, .ref xm4, .ref xm5, .ref j0, .ref j1, .ref j2, .int 0, .int 0, .int 0, .int (-1), .int 1])), (a0, .inl (ka, 4, .inr (.inr (.inr (.inr fa))))), (c2, .inr (1, [.int 1, .ref i2, .ref o2, .ref b2, .int 0, .int 0, .int 0, .int 0, .ref y2, .int 0, .ref z2, .int 0])), (o2, .inr (0, [.int 65536, .ref ro2, .int 0, .int 0])), (o9, .inl (ko, 1, .inr (.inl go)))] s.heap.size = A at hD hU hN ⊢
  have hA : ∀ q : Nat, s.heap.size ≤ q → A q := fun q h => by rw [← hAe]; exact Or.inr h
  have hS : va_S A s.heap s.heap [] := va_S.rf
  have hP : va_P (dC, dI) classes [(h0, .inr (9, [.ref t0, .ref xm1, .ref a0, .ref w0, .ref k0, .ref e0, .ref xm2, .ref xm3, .ref xm4, .ref xm5, .ref j0, .ref j1, .ref j2, .int 0, .int 0, .int 0, .int (-1), .int 1])), (a0, .inl (ka, 4, .inr (.inr (.inr (.inr fa))))), (c2, .inr (1, [.int 1, .ref i2, .ref o2, .ref b2, .int 0, .int 0, .int 0, .int 0, .ref y2, .int 0, .ref z2, .int 0])), (o2, .inr (0, [.int 65536, .ref ro2, .int 0, .int 0])), (o9, .inl (ko, 1, .inr (.inl go)))] s.heap := hP
  have hl := lv_entry ([.ref h0, .int 2, .int p1, .ref o9]) (n := 5) (Nat.le_of_ble_eq_true rfl)
  rw [lg_entry_eq]
  generalize (lg_sl ([.ref h0, .int 2, .int p1, .ref o9]) ++ List.replicate (5 - (lg_sl ([.ref h0, .int 2, .int p1, .ref o9])).length) Slot.unset).toArray = ls at hl ⊢
  have hl : lv_has ls 5 [(0, .ref h0), (1, .int 2), (2, .int p1), (3, .ref o9)] := hl
  refine lv_aload_n hx hb dL_outAt_0 rfl (lv_at hl 3 rfl) ?_
  refine lv_iconst (v := 0) hx hb dL_outAt_1 (by decide) ?_
  refine lv_aload_n hx hb dL_outAt_2 rfl (lv_at hl 0 rfl) ?_
  refine lv_iload_n hx hb dL_outAt_3 rfl (lv_at hl 1 rfl) ?_
  refine lv_iload_n hx hb dL_outAt_4 rfl (lv_at hl 2 rfl) ?_
  have hPc := hP.sub (ws' := [(h0, .inr (9, [.ref t0, .ref xm1, .ref a0, .ref w0, .ref k0, .ref e0, .ref xm2, .ref xm3, .ref xm4, .ref xm5, .ref j0, .ref j1, .ref j2, .int 0, .int 0, .int 0, .int (-1), .int 1])), (a0, .inl (ka, 4, .inr (.inr (.inr (.inr fa))))), (c2, .inr (1, [.int 1, .ref i2, .ref o2, .ref b2, .int 0, .int 0, .int 0, .int 0, .ref y2, .int 0, .ref z2, .int 0])), (o2, .inr (0, [.int 65536, .ref ro2, .int 0, .int 0]))]) [0, 1, 2, 3] rfl
  have hDc := hD.sub (ws' := [(h0, .inr (9, [.ref t0, .ref xm1, .ref a0, .ref w0, .ref k0, .ref e0, .ref xm2, .ref xm3, .ref xm4, .ref xm5, .ref j0, .ref j1, .ref j2, .int 0, .int 0, .int 0, .int (-1), .int 1])), (a0, .inl (ka, 4, .inr (.inr (.inr (.inr fa))))), (c2, .inr (1, [.int 1, .ref i2, .ref o2, .ref b2, .int 0, .int 0, .int 0, .int 0, .ref y2, .int 0, .ref z2, .int 0])), (o2, .inr (0, [.int 65536, .ref ro2, .int 0, .int 0]))]) [0, 1, 2, 3] (by decide) rfl
  have hKc := hK.sub (tys' := [(ka, .object "KeySteward$Connection")]) [0] rfl
  have hFc := va_free (wc := [(h0, .inr (9, [.ref t0, .ref xm1, .ref a0, .ref w0, .ref k0, .ref e0, .ref xm2, .ref xm3, .ref xm4, .ref xm5, .ref j0, .ref j1, .ref j2, .int 0, .int 0, .int 0, .int (-1), .int 1])), (a0, .inl (ka, 4, .inr (.inr (.inr (.inr fa))))), (c2, .inr (1, [.int 1, .ref i2, .ref o2, .ref b2, .int 0, .int 0, .int 0, .int 0, .ref y2, .int 0, .ref z2, .int 0])), (o2, .inr (0, [.int 65536, .ref ro2, .int 0, .int 0]))]) hD hS hA [0, 1, 2, 3] rfl
  refine vx_calli (vx_runV (As := [.int 2, .int p1]) (rest := [.int 0, .ref o9]) ⟨hx, hb, hml, hown, hkw⟩ (c_KS_outAt_2 l hlt dC dI s.heap.size h0 t0 xm1 a0 w0 k0 e0 xm2 xm3 xm4 xm5 j0 j1 j2 ka fa c2 i2 o2 b2 y2 z2 ro2 p1 hc2) (callVv 2 hkw (lkX n_0) rfl rfl rfl (hkw _ n_1) (hkw _ n_2) (hkw _ n_3) (hkw _ n_4) (by decide +kernel) ⟨Nat.le_of_ble_eq_true rfl, Nat.le_of_ble_eq_true rfl⟩) ⟨fbX, va_recv hK hP (ci := 9) (q0 := 0) rfl rfl, pX_in hPc hKc hDc hfx hS hFc hU hN hF⟩ rfl rfl hl.1 rfl (lv_room (Nat.le_of_ble_eq_true rfl)) dL_outAt_5 ⟨Nat.le_of_ble_eq_true rfl, Nat.le_of_ble_eq_true rfl⟩) hS (fun q _ h => hFc q h) hFc (fun q _ h => hFc q h) (fun E ce q9 u t H1 locs ht hvm hpx hE hz1 hk1 hS hce hv hcl => ?_) (fun r u t H1 locs ht hvm hw => absurd hw id)
  obtain rfl : E = _ := hE
  refine lx_catch (own := RL) (name := "java/util/NoSuchElementException") hown { startPc := 0, endPc := 10, handlerPc := 13, catchType := 13 } [] (by rw [htab]; rfl) rfl (by decide) (hkw _ n_5) (va_Nw.use rfl hF.2.2.2) hce hv hcl ?_
  have hP : va_P (dC, dI) classes [] H1 := fun k q h => by simp at h
  have hD : va_D A [] := ⟨fun i j p q h => by simp at h, fun k q h => by simp at h⟩
  have hK := hK.sub (tys' := []) [] rfl
  generalize H1 = H at hP hS ⊢
  refine lv_astore (lv' := [(4, .ref q9), (0, .ref h0), (1, .int 2), (2, .int p1), (3, .ref o9)]) hx hb dL_outAt_13 hl (by decide) rfl (fun ls hl => ?_)
  refine lv_iconst (v := 1) hx hb dL_outAt_15 (by decide) ?_
  have hP9 := hP.sub (ws' := []) [] rfl
  have hD9 := hD.sub (ws' := []) [] (by decide) rfl
  have hK9 := hK.sub (tys' := []) [] rfl
  refine W.widen (k := 1) (n := 6) (Nat.le_of_ble_eq_true rfl) (Nat.le_of_ble_eq_true rfl) ?_
  exact W.iret (v := 1) hx hb hr (fun t ht hW => ⟨⟨1, (), rfl, rfl, by rw [ht]; exact hP9, va_K.moved hW.alike hK9, hD9⟩, hS.F ht⟩) hS.2.2 dL_outAt_16

set_option maxHeartbeats 4000000 in
set_option maxRecDepth 100000 in
/-- the law's outAt(3, ..) -/
theorem c_LA_outAt_3 (l : Launch) (hlt : l.stackTraces = false) (dC : Nat → ClassId) (dI : Nat → Nat → Nat) (sz : Nat) (h0 : Nat) (t0 : Nat) (xm1 : Nat) (a0 : Nat) (w0 : Nat) (k0 : Nat) (e0 : Nat) (xm2 : Nat) (xm3 : Nat) (xm4 : Nat) (xm5 : Nat) (j0 : Nat) (j1 : Nat) (j2 : Nat) (ka : ClassId) (fa : Nat → Option Nat) (c3 : Nat) (i3 : Nat) (o3 : Nat) (b3 : Nat) (y3 : Nat) (z3 : Nat) (ro3 : Nat) (p1 : Int32) (o9 : Nat) (ko : ClassId) (go : Nat → Int64) (hc3 : fa 3 = some c3) : Met l yL_outAt (Cond.codeWith yL_outAt cL_outAt 5 (some .int) [(0, 10, 13, 13)] :: lk) ({ frames := 7, cells := 1, slots := 6, locals := 113 }) (va_Pc [.ref h0, .int 3, .int p1, .ref o9] (pX (dC, dI) [(h0, .inr (9, [.ref t0, .ref xm1, .ref a0, .ref w0, .ref k0, .ref e0, .ref xm2, .ref xm3, .ref xm4, .ref xm5, .ref j0, .ref j1, .ref j2, .int 0, .int 0, .int 0, .int (-1), .int 1])), (a0, .inl (ka, 4, .inr (.inr (.inr (.inr fa))))), (c3, .inr (1, [.int 1, .ref i3, .ref o3, .ref b3, .int 0, .int 0, .int 0, .int 0, .ref y3, .int 0, .ref z3, .int 0])), (o3, .inr (0, [.int 65536, .ref ro3, .int 0, .int 0])), (o9, .inl (ko, 1, .inr (.inl go)))] [(ka, .object "KeySteward$Connection"), (ko, .long)] sz)) (va_Qi (fun (r : Int32) (_u : Unit) => r = 1) (fun (_u : Unit) (t : State) => bW (dC, dI) [] [] (va_A [(h0, .inr (9, [.ref t0, .ref xm1, .ref a0, .ref w0, .ref k0, .ref e0, .ref xm2, .ref xm3, .ref xm4, .ref xm5, .ref j0, .ref j1, .ref j2, .int 0, .int 0, .int 0, .int (-1), .int 1])), (a0, .inl (ka, 4, .inr (.inr (.inr (.inr fa))))), (c3, .inr (1, [.int 1, .ref i3, .ref o3, .ref b3, .int 0, .int 0, .int 0, .int 0, .ref y3, .int 0, .ref z3, .int 0])), (o3, .inr (0, [.int 65536, .ref ro3, .int 0, .int 0])), (o9, .inl (ko, 1, .inr (.inl go)))] sz) t) (va_A [(h0, .inr (9, [.ref t0, .ref xm1, .ref a0, .ref w0, .ref k0, .ref e0, .ref xm2, .ref xm3, .ref xm4, .ref xm5, .ref j0, .ref j1, .ref j2, .int 0, .int 0, .int 0, .int (-1), .int 1])), (a0, .inl (ka, 4, .inr (.inr (.inr (.inr fa))))), (c3, .inr (1, [.int 1, .ref i3, .ref o3, .ref b3, .int 0, .int 0, .int 0, .int 0, .ref y3, .int 0, .ref z3, .int 0])), (o3, .inr (0, [.int 65536, .ref ro3, .int 0, .int 0])), (o9, .inl (ko, 1, .inr (.inl go)))] sz)) 1 6 (va_A [(h0, .inr (9, [.ref t0, .ref xm1, .ref a0, .ref w0, .ref k0, .ref e0, .ref xm2, .ref xm3, .ref xm4, .ref xm5, .ref j0, .ref j1, .ref j2, .int 0, .int 0, .int 0, .int (-1), .int 1])), (a0, .inl (ka, 4, .inr (.inr (.inr (.inr fa))))), (c3, .inr (1, [.int 1, .ref i3, .ref o3, .ref b3, .int 0, .int 0, .int 0, .int 0, .ref y3, .int 0, .ref z3, .int 0])), (o3, .inr (0, [.int 65536, .ref ro3, .int 0, .int 0])), (o9, .inl (ko, 1, .inr (.inl go)))] sz) := by
  refine va_MetW (cc := cL_outAt) (maxL := 5) (ret := (some .int)) (hh := [(0, 10, 13, 13)]) (by decide) rfl ?_
  intro p e s m args below meth c s₁ B hml hv
  obtain ⟨rfl, hsz, hP, hK, hD0, hfx, hU, hN, hF⟩ := hv
  have hx := B.exec
  have hb := B.bytes
  have hr := B.returns
  have hts := atoms_spec (ws := (Cond.codeWith yL_outAt cL_outAt 5 (some .int) [(0, 10, 13, 13)] :: lk)) B.pre
  have hkw : ∀ w ∈ lk, w.before _ s = true := fun w h => hts w (List.mem_cons_of_mem _ h)
  have htab := vx_table (x := yL_outAt) B (hts _ List.mem_cons_self)
  have hown : s.vm.findClass RL = some m.cls := findClass_of_methodNamed B.named
  have hlocks := B.notSynchronized
  subst hsz
  have hD := hD0.self (sz := s.heap.size)
  generalize hAe : va_A [(h0, .inr (9, [.ref t0, .ref xm1, .ref a0, .ref w0, .ref k0, .ref e0, .ref xm2, .ref xm3, .ref xm4, .ref xm5, .ref j0, .ref j1, .ref j2, .int 0, .int 0, .int 0, .int (-1), .int 1])), (a0, .inl (ka, 4, .inr (.inr (.inr (.inr fa))))), (c3, .inr (1, [.int 1, .ref i3, .ref o3, .ref b3, .int 0, .int 0, .int 0, .int 0, .ref y3, .int 0, .ref z3, .int 0])), (o3, .inr (0, [.int 65536, .ref ro3, .int 0, .int 0])), (o9, .inl (ko, 1, .inr (.inl go)))] s.heap.size = A at hD hU hN ⊢
  have hA : ∀ q : Nat, s.heap.size ≤ q → A q := fun q h => by rw [← hAe]; exact Or.inr h
  have hS : va_S A s.heap s.heap [] := va_S.rf
  have hP : va_P (dC, dI) classes [(h0, .inr (9, [.ref t0, .ref xm1, .ref a0, .ref w0, .ref k0, .ref e0, .ref xm2, .ref xm3, .ref xm4, .ref xm5, .ref j0, .ref j1, .ref j2, .int 0, .int 0, .int 0, .int (-1), .int 1])), (a0, .inl (ka, 4, .inr (.inr (.inr (.inr fa))))), (c3, .inr (1, [.int 1, .ref i3, .ref o3, .ref b3, .int 0, .int 0, .int 0, .int 0, .ref y3, .int 0, .ref z3, .int 0])), (o3, .inr (0, [.int 65536, .ref ro3, .int 0, .int 0])), (o9, .inl (ko, 1, .inr (.inl go)))] s.heap := hP
  have hl := lv_entry ([.ref h0, .int 3, .int p1, .ref o9]) (n := 5) (Nat.le_of_ble_eq_true rfl)
  rw [lg_entry_eq]
  generalize (lg_sl ([.ref h0, .int 3, .int p1, .ref o9]) ++ List.replicate (5 - (lg_sl ([.ref h0, .int 3, .int p1, .ref o9])).length) Slot.unset).toArray = ls at hl ⊢
  have hl : lv_has ls 5 [(0, .ref h0), (1, .int 3), (2, .int p1), (3, .ref o9)] := hl
  refine lv_aload_n hx hb dL_outAt_0 rfl (lv_at hl 3 rfl) ?_
  refine lv_iconst (v := 0) hx hb dL_outAt_1 (by decide) ?_
  refine lv_aload_n hx hb dL_outAt_2 rfl (lv_at hl 0 rfl) ?_
  refine lv_iload_n hx hb dL_outAt_3 rfl (lv_at hl 1 rfl) ?_
  refine lv_iload_n hx hb dL_outAt_4 rfl (lv_at hl 2 rfl) ?_
  have hPc := hP.sub (ws' := [(h0, .inr (9, [.ref t0, .ref xm1, .ref a0, .ref w0, .ref k0, .ref e0, .ref xm2, .ref xm3, .ref xm4, .ref xm5, .ref j0, .ref j1, .ref j2, .int 0, .int 0, .int 0, .int (-1), .int 1])), (a0, .inl (ka, 4, .inr (.inr (.inr (.inr fa))))), (c3, .inr (1, [.int 1, .ref i3, .ref o3, .ref b3, .int 0, .int 0, .int 0, .int 0, .ref y3, .int 0, .ref z3, .int 0])), (o3, .inr (0, [.int 65536, .ref ro3, .int 0, .int 0]))]) [0, 1, 2, 3] rfl
  have hDc := hD.sub (ws' := [(h0, .inr (9, [.ref t0, .ref xm1, .ref a0, .ref w0, .ref k0, .ref e0, .ref xm2, .ref xm3, .ref xm4, .ref xm5, .ref j0, .ref j1, .ref j2, .int 0, .int 0, .int 0, .int (-1), .int 1])), (a0, .inl (ka, 4, .inr (.inr (.inr (.inr fa))))), (c3, .inr (1, [.int 1, .ref i3, .ref o3, .ref b3, .int 0, .int 0, .int 0, .int 0, .ref y3, .int 0, .ref z3, .int 0])), (o3, .inr (0, [.int 65536, .ref ro3, .int 0, .int 0]))]) [0, 1, 2, 3] (by decide) rfl
  have hKc := hK.sub (tys' := [(ka, .object "KeySteward$Connection")]) [0] rfl
  have hFc := va_free (wc := [(h0, .inr (9, [.ref t0, .ref xm1, .ref a0, .ref w0, .ref k0, .ref e0, .ref xm2, .ref xm3, .ref xm4, .ref xm5, .ref j0, .ref j1, .ref j2, .int 0, .int 0, .int 0, .int (-1), .int 1])), (a0, .inl (ka, 4, .inr (.inr (.inr (.inr fa))))), (c3, .inr (1, [.int 1, .ref i3, .ref o3, .ref b3, .int 0, .int 0, .int 0, .int 0, .ref y3, .int 0, .ref z3, .int 0])), (o3, .inr (0, [.int 65536, .ref ro3, .int 0, .int 0]))]) hD hS hA [0, 1, 2, 3] rfl
  refine vx_calli (vx_runV (As := [.int 3, .int p1]) (rest := [.int 0, .ref o9]) ⟨hx, hb, hml, hown, hkw⟩ (c_KS_outAt_3 l hlt dC dI s.heap.size h0 t0 xm1 a0 w0 k0 e0 xm2 xm3 xm4 xm5 j0 j1 j2 ka fa c3 i3 o3 b3 y3 z3 ro3 p1 hc3) (callVv 2 hkw (lkX n_0) rfl rfl rfl (hkw _ n_1) (hkw _ n_2) (hkw _ n_3) (hkw _ n_4) (by decide +kernel) ⟨Nat.le_of_ble_eq_true rfl, Nat.le_of_ble_eq_true rfl⟩) ⟨fbX, va_recv hK hP (ci := 9) (q0 := 0) rfl rfl, pX_in hPc hKc hDc hfx hS hFc hU hN hF⟩ rfl rfl hl.1 rfl (lv_room (Nat.le_of_ble_eq_true rfl)) dL_outAt_5 ⟨Nat.le_of_ble_eq_true rfl, Nat.le_of_ble_eq_true rfl⟩) hS (fun q _ h => hFc q h) hFc (fun q _ h => hFc q h) (fun E ce q9 u t H1 locs ht hvm hpx hE hz1 hk1 hS hce hv hcl => ?_) (fun r u t H1 locs ht hvm hw => absurd hw id)
  obtain rfl : E = _ := hE
  refine lx_catch (own := RL) (name := "java/util/NoSuchElementException") hown { startPc := 0, endPc := 10, handlerPc := 13, catchType := 13 } [] (by rw [htab]; rfl) rfl (by decide) (hkw _ n_5) (va_Nw.use rfl hF.2.2.2) hce hv hcl ?_
  have hP : va_P (dC, dI) classes [] H1 := fun k q h => by simp at h
  have hD : va_D A [] := ⟨fun i j p q h => by simp at h, fun k q h => by simp at h⟩
  have hK := hK.sub (tys' := []) [] rfl
  generalize H1 = H at hP hS ⊢
  refine lv_astore (lv' := [(4, .ref q9), (0, .ref h0), (1, .int 3), (2, .int p1), (3, .ref o9)]) hx hb dL_outAt_13 hl (by decide) rfl (fun ls hl => ?_)
  refine lv_iconst (v := 1) hx hb dL_outAt_15 (by decide) ?_
  have hP9 := hP.sub (ws' := []) [] rfl
  have hD9 := hD.sub (ws' := []) [] (by decide) rfl
  have hK9 := hK.sub (tys' := []) [] rfl
  refine W.widen (k := 1) (n := 6) (Nat.le_of_ble_eq_true rfl) (Nat.le_of_ble_eq_true rfl) ?_
  exact W.iret (v := 1) hx hb hr (fun t ht hW => ⟨⟨1, (), rfl, rfl, by rw [ht]; exact hP9, va_K.moved hW.alike hK9, hD9⟩, hS.F ht⟩) hS.2.2 dL_outAt_16

set_option maxHeartbeats 4000000 in
set_option maxRecDepth 100000 in
/-- the law's outAt of none -/
theorem c_LA_outAt_out (l : Launch) (hlt : l.stackTraces = false) (dC : Nat → ClassId) (dI : Nat → Nat → Nat) (sz : Nat) (h0 : Nat) (t0 : Nat) (xm1 : Nat) (a0 : Nat) (w0 : Nat) (k0 : Nat) (e0 : Nat) (xm2 : Nat) (xm3 : Nat) (xm4 : Nat) (xm5 : Nat) (j0 : Nat) (j1 : Nat) (j2 : Nat) (ka : ClassId) (fa : Nat → Option Nat) (p0 : Int32) (p1 : Int32) (o9 : Nat) (ko : ClassId) (go : Nat → Int64) (ho : p0 < 0 ∨ 4 ≤ p0) : Met l yL_outAt (Cond.codeWith yL_outAt cL_outAt 5 (some .int) [(0, 10, 13, 13)] :: lk) ({ frames := 7, cells := 1, slots := 6, locals := 113 }) (va_Pc [.ref h0, .int p0, .int p1, .ref o9] (pX (dC, dI) [(h0, .inr (9, [.ref t0, .ref xm1, .ref a0, .ref w0, .ref k0, .ref e0, .ref xm2, .ref xm3, .ref xm4, .ref xm5, .ref j0, .ref j1, .ref j2, .int 0, .int 0, .int 0, .int (-1), .int 1])), (a0, .inl (ka, 4, .inr (.inr (.inr (.inr fa))))), (o9, .inl (ko, 1, .inr (.inl go)))] [(ka, .object "KeySteward$Connection"), (ko, .long)] sz)) (va_Qi (fun (r : Int32) (_u : Unit) => r = 1) (fun (_u : Unit) (t : State) => bW (dC, dI) [] [] (va_A [(h0, .inr (9, [.ref t0, .ref xm1, .ref a0, .ref w0, .ref k0, .ref e0, .ref xm2, .ref xm3, .ref xm4, .ref xm5, .ref j0, .ref j1, .ref j2, .int 0, .int 0, .int 0, .int (-1), .int 1])), (a0, .inl (ka, 4, .inr (.inr (.inr (.inr fa))))), (o9, .inl (ko, 1, .inr (.inl go)))] sz) t) (va_A [(h0, .inr (9, [.ref t0, .ref xm1, .ref a0, .ref w0, .ref k0, .ref e0, .ref xm2, .ref xm3, .ref xm4, .ref xm5, .ref j0, .ref j1, .ref j2, .int 0, .int 0, .int 0, .int (-1), .int 1])), (a0, .inl (ka, 4, .inr (.inr (.inr (.inr fa))))), (o9, .inl (ko, 1, .inr (.inl go)))] sz)) 1 6 (va_A [(h0, .inr (9, [.ref t0, .ref xm1, .ref a0, .ref w0, .ref k0, .ref e0, .ref xm2, .ref xm3, .ref xm4, .ref xm5, .ref j0, .ref j1, .ref j2, .int 0, .int 0, .int 0, .int (-1), .int 1])), (a0, .inl (ka, 4, .inr (.inr (.inr (.inr fa))))), (o9, .inl (ko, 1, .inr (.inl go)))] sz) := by
  refine va_MetW (cc := cL_outAt) (maxL := 5) (ret := (some .int)) (hh := [(0, 10, 13, 13)]) (by decide) rfl ?_
  intro p e s m args below meth c s₁ B hml hv
  obtain ⟨rfl, hsz, hP, hK, hD0, hfx, hU, hN, hF⟩ := hv
  have hx := B.exec
  have hb := B.bytes
  have hr := B.returns
  have hts := atoms_spec (ws := (Cond.codeWith yL_outAt cL_outAt 5 (some .int) [(0, 10, 13, 13)] :: lk)) B.pre
  have hkw : ∀ w ∈ lk, w.before _ s = true := fun w h => hts w (List.mem_cons_of_mem _ h)
  have htab := vx_table (x := yL_outAt) B (hts _ List.mem_cons_self)
  have hown : s.vm.findClass RL = some m.cls := findClass_of_methodNamed B.named
  have hlocks := B.notSynchronized
  subst hsz
  have hD := hD0.self (sz := s.heap.size)
  generalize hAe : va_A [(h0, .inr (9, [.ref t0, .ref xm1, .ref a0, .ref w0, .ref k0, .ref e0, .ref xm2, .ref xm3, .ref xm4, .ref xm5, .ref j0, .ref j1, .ref j2, .int 0, .int 0, .int 0, .int (-1), .int 1])), (a0, .inl (ka, 4, .inr (.inr (.inr (.inr fa))))), (o9, .inl (ko, 1, .inr (.inl go)))] s.heap.size = A at hD hU hN ⊢
  have hA : ∀ q : Nat, s.heap.size ≤ q → A q := fun q h => by rw [← hAe]; exact Or.inr h
  have hS : va_S A s.heap s.heap [] := va_S.rf
  have hP : va_P (dC, dI) classes [(h0, .inr (9, [.ref t0, .ref xm1, .ref a0, .ref w0, .ref k0, .ref e0, .ref xm2, .ref xm3, .ref xm4, .ref xm5, .ref j0, .ref j1, .ref j2, .int 0, .int 0, .int 0, .int (-1), .int 1])), (a0, .inl (ka, 4, .inr (.inr (.inr (.inr fa))))), (o9, .inl (ko, 1, .inr (.inl go)))] s.heap := hP
  have hl := lv_entry ([.ref h0, .int p0, .int p1, .ref o9]) (n := 5) (Nat.le_of_ble_eq_true rfl)
  rw [lg_entry_eq]
  generalize (lg_sl ([.ref h0, .int p0, .int p1, .ref o9]) ++ List.replicate (5 - (lg_sl ([.ref h0, .int p0, .int p1, .ref o9])).length) Slot.unset).toArray = ls at hl ⊢
  have hl : lv_has ls 5 [(0, .ref h0), (1, .int p0), (2, .int p1), (3, .ref o9)] := hl
  refine lv_aload_n hx hb dL_outAt_0 rfl (lv_at hl 3 rfl) ?_
  refine lv_iconst (v := 0) hx hb dL_outAt_1 (by decide) ?_
  refine lv_aload_n hx hb dL_outAt_2 rfl (lv_at hl 0 rfl) ?_
  refine lv_iload_n hx hb dL_outAt_3 rfl (lv_at hl 1 rfl) ?_
  refine lv_iload_n hx hb dL_outAt_4 rfl (lv_at hl 2 rfl) ?_
  have hPc := hP.sub (ws' := [(h0, .inr (9, [.ref t0, .ref xm1, .ref a0, .ref w0, .ref k0, .ref e0, .ref xm2, .ref xm3, .ref xm4, .ref xm5, .ref j0, .ref j1, .ref j2, .int 0, .int 0, .int 0, .int (-1), .int 1])), (a0, .inl (ka, 4, .inr (.inr (.inr (.inr fa)))))]) [0, 1] rfl
  have hDc := hD.sub (ws' := [(h0, .inr (9, [.ref t0, .ref xm1, .ref a0, .ref w0, .ref k0, .ref e0, .ref xm2, .ref xm3, .ref xm4, .ref xm5, .ref j0, .ref j1, .ref j2, .int 0, .int 0, .int 0, .int (-1), .int 1])), (a0, .inl (ka, 4, .inr (.inr (.inr (.inr fa)))))]) [0, 1] (by decide) rfl
  have hKc := hK.sub (tys' := [(ka, .object "KeySteward$Connection")]) [0] rfl
  have hFc := va_free (wc := [(h0, .inr (9, [.ref t0, .ref xm1, .ref a0, .ref w0, .ref k0, .ref e0, .ref xm2, .ref xm3, .ref xm4, .ref xm5, .ref j0, .ref j1, .ref j2, .int 0, .int 0, .int 0, .int (-1), .int 1])), (a0, .inl (ka, 4, .inr (.inr (.inr (.inr fa)))))]) hD hS hA [0, 1] rfl
  refine vx_calli (vx_runV (As := [.int p0, .int p1]) (rest := [.int 0, .ref o9]) ⟨hx, hb, hml, hown, hkw⟩ (c_KS_outAt_out l hlt dC dI s.heap.size h0 t0 xm1 a0 w0 k0 e0 xm2 xm3 xm4 xm5 j0 j1 j2 ka fa p0 p1 ho) (callVv 2 hkw (lkX n_0) rfl rfl rfl (hkw _ n_1) (hkw _ n_2) (hkw _ n_3) (hkw _ n_4) (by decide +kernel) ⟨Nat.le_of_ble_eq_true rfl, Nat.le_of_ble_eq_true rfl⟩) ⟨fbX, va_recv hK hP (ci := 9) (q0 := 0) rfl rfl, pX_in hPc hKc hDc hfx hS hFc hU hN hF⟩ rfl rfl hl.1 rfl (lv_room (Nat.le_of_ble_eq_true rfl)) dL_outAt_5 ⟨Nat.le_of_ble_eq_true rfl, Nat.le_of_ble_eq_true rfl⟩) hS (fun q _ h => hFc q h) hFc (fun q _ h => hFc q h) (fun E ce q9 u t H1 locs ht hvm hpx hE hz1 hk1 hS hce hv hcl => ?_) (fun r u t H1 locs ht hvm hw => absurd hw id)
  obtain rfl : E = _ := hE
  refine lx_catch (own := RL) (name := "java/util/NoSuchElementException") hown { startPc := 0, endPc := 10, handlerPc := 13, catchType := 13 } [] (by rw [htab]; rfl) rfl (by decide) (hkw _ n_5) (va_Nw.use rfl hF.2.2.2) hce hv hcl ?_
  have hP : va_P (dC, dI) classes [] H1 := fun k q h => by simp at h
  have hD : va_D A [] := ⟨fun i j p q h => by simp at h, fun k q h => by simp at h⟩
  have hK := hK.sub (tys' := []) [] rfl
  generalize H1 = H at hP hS ⊢
  refine lv_astore (lv' := [(4, .ref q9), (0, .ref h0), (1, .int p0), (2, .int p1), (3, .ref o9)]) hx hb dL_outAt_13 hl (by decide) rfl (fun ls hl => ?_)
  refine lv_iconst (v := 1) hx hb dL_outAt_15 (by decide) ?_
  have hP9 := hP.sub (ws' := []) [] rfl
  have hD9 := hD.sub (ws' := []) [] (by decide) rfl
  have hK9 := hK.sub (tys' := []) [] rfl
  refine W.widen (k := 1) (n := 6) (Nat.le_of_ble_eq_true rfl) (Nat.le_of_ble_eq_true rfl) ?_
  exact W.iret (v := 1) hx hb hr (fun t ht hW => ⟨⟨1, (), rfl, rfl, by rw [ht]; exact hP9, va_K.moved hW.alike hK9, hD9⟩, hS.F ht⟩) hS.2.2 dL_outAt_16

set_option maxHeartbeats 4000000 in
set_option maxRecDepth 100000 in
/-- the law's logAt -/
theorem c_LA_logAt (l : Launch) (hlt : l.stackTraces = false) (dC : Nat → ClassId) (dI : Nat → Nat → Nat) (sz : Nat) (h0 : Nat) (t0 : Nat) (xm1 : Nat) (a0 : Nat) (w0 : Nat) (k0 : Nat) (e0 : Nat) (xm2 : Nat) (xm3 : Nat) (xm4 : Nat) (xm5 : Nat) (j0 : Nat) (j1 : Nat) (j2 : Nat) (rj : Nat) (p0 : Int32) (o9 : Nat) (ko : ClassId) (go : Nat → Int64) : Met l yL_logAt (Cond.codeWith yL_logAt cL_logAt 4 (some .int) [(0, 9, 12, 13)] :: lk) ({ frames := 7, cells := 1, slots := 6, locals := 111 }) (va_Pc [.ref h0, .int p0, .ref o9] (pX (dC, dI) [(h0, .inr (9, [.ref t0, .ref xm1, .ref a0, .ref w0, .ref k0, .ref e0, .ref xm2, .ref xm3, .ref xm4, .ref xm5, .ref j0, .ref j1, .ref j2, .int 0, .int 0, .int 0, .int (-1), .int 1])), (j0, .inr (0, [.int 67108864, .ref rj, .int 0, .int 0])), (o9, .inl (ko, 1, .inr (.inl go)))] [(ko, .long)] sz)) (va_Qi (fun (r : Int32) (_u : Unit) => r = 1) (fun (_u : Unit) (t : State) => bW (dC, dI) [] [] (va_A [(h0, .inr (9, [.ref t0, .ref xm1, .ref a0, .ref w0, .ref k0, .ref e0, .ref xm2, .ref xm3, .ref xm4, .ref xm5, .ref j0, .ref j1, .ref j2, .int 0, .int 0, .int 0, .int (-1), .int 1])), (j0, .inr (0, [.int 67108864, .ref rj, .int 0, .int 0])), (o9, .inl (ko, 1, .inr (.inl go)))] sz) t) (va_A [(h0, .inr (9, [.ref t0, .ref xm1, .ref a0, .ref w0, .ref k0, .ref e0, .ref xm2, .ref xm3, .ref xm4, .ref xm5, .ref j0, .ref j1, .ref j2, .int 0, .int 0, .int 0, .int (-1), .int 1])), (j0, .inr (0, [.int 67108864, .ref rj, .int 0, .int 0])), (o9, .inl (ko, 1, .inr (.inl go)))] sz)) 1 6 (va_A [(h0, .inr (9, [.ref t0, .ref xm1, .ref a0, .ref w0, .ref k0, .ref e0, .ref xm2, .ref xm3, .ref xm4, .ref xm5, .ref j0, .ref j1, .ref j2, .int 0, .int 0, .int 0, .int (-1), .int 1])), (j0, .inr (0, [.int 67108864, .ref rj, .int 0, .int 0])), (o9, .inl (ko, 1, .inr (.inl go)))] sz) := by
  refine va_MetW (cc := cL_logAt) (maxL := 4) (ret := (some .int)) (hh := [(0, 9, 12, 13)]) (by decide) rfl ?_
  intro p e s m args below meth c s₁ B hml hv
  obtain ⟨rfl, hsz, hP, hK, hD0, hfx, hU, hN, hF⟩ := hv
  have hx := B.exec
  have hb := B.bytes
  have hr := B.returns
  have hts := atoms_spec (ws := (Cond.codeWith yL_logAt cL_logAt 4 (some .int) [(0, 9, 12, 13)] :: lk)) B.pre
  have hkw : ∀ w ∈ lk, w.before _ s = true := fun w h => hts w (List.mem_cons_of_mem _ h)
  have htab := vx_table (x := yL_logAt) B (hts _ List.mem_cons_self)
  have hown : s.vm.findClass RL = some m.cls := findClass_of_methodNamed B.named
  have hlocks := B.notSynchronized
  subst hsz
  have hD := hD0.self (sz := s.heap.size)
  generalize hAe : va_A [(h0, .inr (9, [.ref t0, .ref xm1, .ref a0, .ref w0, .ref k0, .ref e0, .ref xm2, .ref xm3, .ref xm4, .ref xm5, .ref j0, .ref j1, .ref j2, .int 0, .int 0, .int 0, .int (-1), .int 1])), (j0, .inr (0, [.int 67108864, .ref rj, .int 0, .int 0])), (o9, .inl (ko, 1, .inr (.inl go)))] s.heap.size = A at hD hU hN ⊢
  have hA : ∀ q : Nat, s.heap.size ≤ q → A q := fun q h => by rw [← hAe]; exact Or.inr h
  have hS : va_S A s.heap s.heap [] := va_S.rf
  have hP : va_P (dC, dI) classes [(h0, .inr (9, [.ref t0, .ref xm1, .ref a0, .ref w0, .ref k0, .ref e0, .ref xm2, .ref xm3, .ref xm4, .ref xm5, .ref j0, .ref j1, .ref j2, .int 0, .int 0, .int 0, .int (-1), .int 1])), (j0, .inr (0, [.int 67108864, .ref rj, .int 0, .int 0])), (o9, .inl (ko, 1, .inr (.inl go)))] s.heap := hP
  have hl := lv_entry ([.ref h0, .int p0, .ref o9]) (n := 4) (Nat.le_of_ble_eq_true rfl)
  rw [lg_entry_eq]
  generalize (lg_sl ([.ref h0, .int p0, .ref o9]) ++ List.replicate (4 - (lg_sl ([.ref h0, .int p0, .ref o9])).length) Slot.unset).toArray = ls at hl ⊢
  have hl : lv_has ls 4 [(0, .ref h0), (1, .int p0), (2, .ref o9)] := hl
  refine lv_aload_n hx hb dL_logAt_0 rfl (lv_at hl 2 rfl) ?_
  refine lv_iconst (v := 0) hx hb dL_logAt_1 (by decide) ?_
  refine lv_aload_n hx hb dL_logAt_2 rfl (lv_at hl 0 rfl) ?_
  refine lv_iload_n hx hb dL_logAt_3 rfl (lv_at hl 1 rfl) ?_
  have hPc := hP.sub (ws' := [(h0, .inr (9, [.ref t0, .ref xm1, .ref a0, .ref w0, .ref k0, .ref e0, .ref xm2, .ref xm3, .ref xm4, .ref xm5, .ref j0, .ref j1, .ref j2, .int 0, .int 0, .int 0, .int (-1), .int 1])), (j0, .inr (0, [.int 67108864, .ref rj, .int 0, .int 0]))]) [0, 1] rfl
  have hDc := hD.sub (ws' := [(h0, .inr (9, [.ref t0, .ref xm1, .ref a0, .ref w0, .ref k0, .ref e0, .ref xm2, .ref xm3, .ref xm4, .ref xm5, .ref j0, .ref j1, .ref j2, .int 0, .int 0, .int 0, .int (-1), .int 1])), (j0, .inr (0, [.int 67108864, .ref rj, .int 0, .int 0]))]) [0, 1] (by decide) rfl
  have hKc := hK.sub (tys' := []) [] rfl
  have hFc := va_free (wc := [(h0, .inr (9, [.ref t0, .ref xm1, .ref a0, .ref w0, .ref k0, .ref e0, .ref xm2, .ref xm3, .ref xm4, .ref xm5, .ref j0, .ref j1, .ref j2, .int 0, .int 0, .int 0, .int (-1), .int 1])), (j0, .inr (0, [.int 67108864, .ref rj, .int 0, .int 0]))]) hD hS hA [0, 1] rfl
  refine vx_calli (vx_runV (As := [.int p0]) (rest := [.int 0, .ref o9]) ⟨hx, hb, hml, hown, hkw⟩ (c_KS_logAt l hlt dC dI s.heap.size h0 t0 xm1 a0 w0 k0 e0 xm2 xm3 xm4 xm5 j0 j1 j2 rj p0) (callVv 1 hkw (lkX n_6) rfl rfl rfl (hkw _ n_1) (hkw _ n_7) (hkw _ n_8) (hkw _ n_9) (by decide +kernel) ⟨Nat.le_of_ble_eq_true rfl, Nat.le_of_ble_eq_true rfl⟩) ⟨fbX, va_recv hK hP (ci := 9) (q0 := 0) rfl rfl, pX_in hPc hKc hDc hfx hS hFc hU hN hF⟩ rfl rfl hl.1 rfl (lv_room (Nat.le_of_ble_eq_true rfl)) dL_logAt_4 ⟨Nat.le_of_ble_eq_true rfl, Nat.le_of_ble_eq_true rfl⟩) hS (fun q _ h => hFc q h) hFc (fun q _ h => hFc q h) (fun E ce q9 u t H1 locs ht hvm hpx hE hz1 hk1 hS hce hv hcl => ?_) (fun r u t H1 locs ht hvm hw => absurd hw id)
  obtain rfl : E = _ := hE
  refine lx_catch (own := RL) (name := "java/util/NoSuchElementException") hown { startPc := 0, endPc := 9, handlerPc := 12, catchType := 13 } [] (by rw [htab]; rfl) rfl (by decide) (hkw _ n_5) (va_Nw.use rfl hF.2.2.2) hce hv hcl ?_
  have hP : va_P (dC, dI) classes [] H1 := fun k q h => by simp at h
  have hD : va_D A [] := ⟨fun i j p q h => by simp at h, fun k q h => by simp at h⟩
  have hK := hK.sub (tys' := []) [] rfl
  generalize H1 = H at hP hS ⊢
  refine lv_astore_n (lv' := [(3, .ref q9), (0, .ref h0), (1, .int p0), (2, .ref o9)]) hx hb dL_logAt_12 rfl hl (by decide) rfl (fun ls hl => ?_)
  refine lv_iconst (v := 1) hx hb dL_logAt_13 (by decide) ?_
  have hP9 := hP.sub (ws' := []) [] rfl
  have hD9 := hD.sub (ws' := []) [] (by decide) rfl
  have hK9 := hK.sub (tys' := []) [] rfl
  refine W.widen (k := 1) (n := 6) (Nat.le_of_ble_eq_true rfl) (Nat.le_of_ble_eq_true rfl) ?_
  exact W.iret (v := 1) hx hb hr (fun t ht hW => ⟨⟨1, (), rfl, rfl, by rw [ht]; exact hP9, va_K.moved hW.alike hK9, hD9⟩, hS.F ht⟩) hS.2.2 dL_logAt_14
