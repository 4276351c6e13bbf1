set_option maxHeartbeats 4000000 in
set_option maxRecDepth 100000 in
/-- Bytes(most): a row of 64 -/
theorem c_By_init (l : Launch) (dC : Nat → ClassId) (dI : Nat → Nat → Nat) (sz : Nat) (h0 : Nat) (mv : Int32) : Met l yX1_init wX1_init ({ frames := 1, cells := 1, slots := 64, locals := 12 }) (va_Pc [.ref h0, .int mv] (pW (dC, dI) [(h0, .inr (0, [.int 0, .null, .int 0, .int 0]))] [] sz)) (va_Qv (fun ((q, k) : Nat × ClassId) => True) (fun ((q, k) : Nat × ClassId) (t : State) => bW (dC, dI) [(h0, .inr (0, [.int mv, .ref q, .int 0, .int 0])), (q, .inl (k, 64, .inl (fun _ => 0)))] [(k, .byte)] (va_A [(h0, .inr (0, [.int 0, .null, .int 0, .int 0]))] sz) t) (va_A [(h0, .inr (0, [.int 0, .null, .int 0, .int 0]))] sz)) 1 64 (va_A [(h0, .inr (0, [.int 0, .null, .int 0, .int 0]))] sz) := by
  refine Met.ofW (cc := cX1_init) (maxL := 2) (ret := none) (by decide) rfl ?_
  intro p e s m args below meth c s₁ B hml hv
  obtain ⟨rfl, hsz, hP, hK, hD0, hfx⟩ := hv
  have hx := B.exec
  have hb := B.bytes
  have hr := B.returns
  have hts := atoms_spec (ws := wX1_init) B.pre
  have hkw : ∀ w ∈ kw, w.before _ s = true := fun w h => hts w (List.mem_cons_of_mem _ h)
  have hown : s.vm.findClass RX1 = some m.cls := findClass_of_methodNamed B.named
  have hlocks := B.notSynchronized
  have hin : meth.name = "<init>" := (name_of_methodNamed B.named B.method).1
  subst hsz
  have hD := hD0.self (sz := s.heap.size)
  generalize hAe : va_A [(h0, .inr (0, [.int 0, .null, .int 0, .int 0]))] s.heap.size = A at hD ⊢
  have hA : ∀ q : Nat, s.heap.size ≤ q → A q := fun q h => by rw [← hAe]; exact Or.inr h
  have hS : va_S A s.heap s.heap [] := va_S.rf
  have hP : va_P (dC, dI) classes [(h0, .inr (0, [.int 0, .null, .int 0, .int 0]))] s.heap := hP
  have hl := lv_entry ([.ref h0, .int mv]) (n := 2) (Nat.le_of_ble_eq_true rfl)
  rw [lg_entry_eq]
  generalize (lg_sl ([.ref h0, .int mv]) ++ List.replicate (2 - (lg_sl ([.ref h0, .int mv])).length) Slot.unset).toArray = ls at hl ⊢
  have hl : lv_has ls 2 [(0, .ref h0), (1, .int mv)] := hl
  refine lv_aload_n hx hb dX1_init_0 rfl (lv_at hl 0 rfl) ?_
  refine W.objInit hx hb hown (hkw _ m_0) (hkw _ m_1) (hkw _ m_2) rfl (by rw [hml]; exact hl.1) rfl dX1_init_1 (Nat.le_of_ble_eq_true rfl) (Nat.le_of_ble_eq_true rfl) ?_
  refine W.eq (g2 := F0 m 4 ls []) rfl ?_
  refine lv_aload_n hx hb dX1_init_4 rfl (lv_at hl 0 rfl) ?_
  refine lv_bipush (v := 64) hx hb dX1_init_5 (by decide) ?_
  refine va_newa (atype := .byte) (a0 := (64, .inl (fun _ => 0))) (N' := 64) (n := 64) (ty := .byte) hx hb (hkw _ m_3) rfl hK hP hD hS hA (fun _ => rfl) (by decide) (by decide) (by decide) (Nat.le_of_ble_eq_true rfl) (Nat.le_of_ble_eq_true rfl) dX1_init_7 (fun q1 k2 H hK hP hD hS => ?_)
  have hP : va_P (dC, dI) classes [(h0, .inr (0, [.int 0, .null, .int 0, .int 0])), (q1, .inl (k2, 64, .inl (fun _ => 0)))] H := hP
  have hD : va_D A [(h0, .inr (0, [.int 0, .null, .int 0, .int 0])), (q1, .inl (k2, 64, .inl (fun _ => 0)))] := hD
  have hK : va_K (dC, dI) classes [(k2, .byte)] s := hK
  refine W.widen (k := 1) (n := 64) (by decide) (by decide) ?_
  refine va_put (D := (dC, dI)) (ci := 0) (v := .ref q1) (ty := .array .byte) (C := RX1) (T := TX1) (N := 4) hx hb hkw kin_X1 tyX1 tyX1_ok nmX1 hown hK hP hD hS 0 rfl rfl 1 (by decide) (hkw _ m_4) (fun _ h9 => h9) rfl (by decide +kernel) rfl rfl (Nat.le_of_ble_eq_true rfl) dX1_init_9 (fun H locs hP hD hS => ?_)
  have hP : va_P (dC, dI) classes [(h0, .inr (0, [.int 0, .ref q1, .int 0, .int 0])), (q1, .inl (k2, 64, .inl (fun _ => 0)))] H := hP
  have hD : va_D A [(h0, .inr (0, [.int 0, .ref q1, .int 0, .int 0])), (q1, .inl (k2, 64, .inl (fun _ => 0)))] := hD
  refine lv_aload_n hx hb dX1_init_12 rfl (lv_at hl 0 rfl) ?_
  refine lv_iload_n hx hb dX1_init_13 rfl (lv_at hl 1 rfl) ?_
  refine va_putF (D := (dC, dI)) (ci := 0) (v := .int mv) (ty := .int) (C := RX1) (T := TX1) (N := 4) hx hb hkw kin_X1 tyX1 tyX1_ok nmX1 hown hK hP hD hS 0 rfl rfl 0 (by decide) (hkw _ m_5) (fun _ h9 => h9) rfl hin rfl (by decide +kernel) rfl rfl (Nat.le_of_ble_eq_true rfl) dX1_init_14 (fun H locs hP hD hS => ?_)
  have hP : va_P (dC, dI) classes [(h0, .inr (0, [.int mv, .ref q1, .int 0, .int 0])), (q1, .inl (k2, 64, .inl (fun _ => 0)))] H := hP
  have hD : va_D A [(h0, .inr (0, [.int mv, .ref q1, .int 0, .int 0])), (q1, .inl (k2, 64, .inl (fun _ => 0)))] := hD
  have hP9 := hP.sub (ws' := [(h0, .inr (0, [.int mv, .ref q1, .int 0, .int 0])), (q1, .inl (k2, 64, .inl (fun _ => 0)))]) [0, 1] rfl
  have hD9 := hD.sub (ws' := [(h0, .inr (0, [.int mv, .ref q1, .int 0, .int 0])), (q1, .inl (k2, 64, .inl (fun _ => 0)))]) [0, 1] (by decide) rfl
  have hK9 := hK.sub (tys' := [(k2, .byte)]) [0] rfl
  refine W.widen (k := 1) (n := 64) (Nat.le_of_ble_eq_true rfl) (Nat.le_of_ble_eq_true rfl) ?_
  exact W.vret hx hb hr (fun t ht hW => ⟨⟨(q1, k2), rfl, trivial, by rw [ht]; exact hP9, va_K.moved hW.alike hK9, hD9⟩, hS.F ht⟩) hS.2.2 dX1_init_17

set_option maxHeartbeats 4000000 in
set_option maxRecDepth 100000 in
/-- empty() -/
theorem c_By_empty (l : Launch) (dC : Nat → ClassId) (dI : Nat → Nat → Nat) (sz : Nat) (h0 : Nat) (h1 : Nat) (mv : Int32) (sv : Int32) (bv : Int32) : Met l yX1_empty wX1_empty ({ frames := 0, cells := 0, slots := 0, locals := 0 }) (va_Pc [.ref h0] (pW (dC, dI) [(h0, .inr (0, [.int mv, .ref h1, .int sv, .int bv]))] [] sz)) (va_Qv (fun (_u : Unit) => True) (fun (_u : Unit) (t : State) => bW (dC, dI) [(h0, .inr (0, [.int mv, .ref h1, .int 0, .int 0]))] [] (va_A [(h0, .inr (0, [.int mv, .ref h1, .int sv, .int bv]))] sz) t) (va_A [(h0, .inr (0, [.int mv, .ref h1, .int sv, .int bv]))] sz)) 0 0 (va_A [(h0, .inr (0, [.int mv, .ref h1, .int sv, .int bv]))] sz) := by
  refine Met.ofW (cc := cX1_empty) (maxL := 1) (ret := none) (by decide) rfl ?_
  intro p e s m args below meth c s₁ B hml hv
  obtain ⟨rfl, hsz, hP, hK, hD0, hfx⟩ := hv
  have hx := B.exec
  have hb := B.bytes
  have hr := B.returns
  have hts := atoms_spec (ws := wX1_empty) B.pre
  have hkw : ∀ w ∈ kw, w.before _ s = true := fun w h => hts w (List.mem_cons_of_mem _ h)
  have hown : s.vm.findClass RX1 = some m.cls := findClass_of_methodNamed B.named
  have hlocks := B.notSynchronized
  subst hsz
  have hD := hD0.self (sz := s.heap.size)
  generalize hAe : va_A [(h0, .inr (0, [.int mv, .ref h1, .int sv, .int bv]))] s.heap.size = A at hD ⊢
  have hA : ∀ q : Nat, s.heap.size ≤ q → A q := fun q h => by rw [← hAe]; exact Or.inr h
  have hS : va_S A s.heap s.heap [] := va_S.rf
  have hP : va_P (dC, dI) classes [(h0, .inr (0, [.int mv, .ref h1, .int sv, .int bv]))] s.heap := hP
  have hl := lv_entry ([.ref h0]) (n := 1) (Nat.le_of_ble_eq_true rfl)
  rw [lg_entry_eq]
  generalize (lg_sl ([.ref h0]) ++ List.replicate (1 - (lg_sl ([.ref h0])).length) Slot.unset).toArray = ls at hl ⊢
  have hl : lv_has ls 1 [(0, .ref h0)] := hl
  refine lv_aload_n hx hb dX1_empty_0 rfl (lv_at hl 0 rfl) ?_
  refine lv_iconst (v := 0) hx hb dX1_empty_1 (by decide) ?_
  refine va_put (D := (dC, dI)) (ci := 0) (v := .int 0) (ty := .int) (C := RX1) (T := TX1) (N := 4) hx hb hkw kin_X1 tyX1 tyX1_ok nmX1 hown hK hP hD hS 0 rfl rfl 2 (by decide) (hkw _ m_6) (fun _ h9 => h9) rfl (by decide +kernel) rfl rfl (Nat.le_of_ble_eq_true rfl) dX1_empty_2 (fun H locs hP hD hS => ?_)
  have hP : va_P (dC, dI) classes [(h0, .inr (0, [.int mv, .ref h1, .int 0, .int bv]))] H := hP
  have hD : va_D A [(h0, .inr (0, [.int mv, .ref h1, .int 0, .int bv]))] := hD
  refine lv_aload_n hx hb dX1_empty_5 rfl (lv_at hl 0 rfl) ?_
  refine lv_iconst (v := 0) hx hb dX1_empty_6 (by decide) ?_
  refine va_put (D := (dC, dI)) (ci := 0) (v := .int 0) (ty := .boolean) (C := RX1) (T := TX1) (N := 4) hx hb hkw kin_X1 tyX1 tyX1_ok nmX1 hown hK hP hD hS 0 rfl rfl 3 (by decide) (hkw _ m_7) (fun _ h9 => h9) rfl (by decide +kernel) rfl rfl (Nat.le_of_ble_eq_true rfl) dX1_empty_7 (fun H locs hP hD hS => ?_)
  have hP : va_P (dC, dI) classes [(h0, .inr (0, [.int mv, .ref h1, .int 0, .int 0]))] H := hP
  have hD : va_D A [(h0, .inr (0, [.int mv, .ref h1, .int 0, .int 0]))] := hD
  have hP9 := hP.sub (ws' := [(h0, .inr (0, [.int mv, .ref h1, .int 0, .int 0]))]) [0] rfl
  have hD9 := hD.sub (ws' := [(h0, .inr (0, [.int mv, .ref h1, .int 0, .int 0]))]) [0] (by decide) rfl
  have hK9 := hK.sub (tys' := []) [] rfl
  refine W.widen (k := 0) (n := 0) (Nat.le_of_ble_eq_true rfl) (Nat.le_of_ble_eq_true rfl) ?_
  exact W.vret hx hb hr (fun t ht hW => ⟨⟨(), rfl, trivial, by rw [ht]; exact hP9, va_K.moved hW.alike hK9, hD9⟩, hS.F ht⟩) hS.2.2 dX1_empty_10

set_option maxHeartbeats 4000000 in
set_option maxRecDepth 100000 in
/-- room(4) at 0 -/
theorem c_By_room_0 (l : Launch) (dC : Nat → ClassId) (dI : Nat → Nat → Nat) (sz : Nat) (h0 : Nat) (h1 : Nat) (kc : ClassId) (g0 : Nat → Int32) : Met l yX1_room wX1_room ({ frames := 0, cells := 0, slots := 0, locals := 0 }) (va_Pc [.ref h0, .int 4] (pW (dC, dI) [(h0, .inr (0, [.int 65540, .ref h1, .int 0, .int 0])), (h1, .inl (kc, 64, .inl g0))] [(kc, .byte)] sz)) (va_Qi (fun (r : Int32) (_u : Unit) => r = 1) (fun (_u : Unit) (t : State) => bW (dC, dI) [(h0, .inr (0, [.int 65540, .ref h1, .int 0, .int 0])), (h1, .inl (kc, 64, .inl g0))] [(kc, .byte)] (va_A [(h0, .inr (0, [.int 65540, .ref h1, .int 0, .int 0])), (h1, .inl (kc, 64, .inl g0))] sz) t) (va_A [(h0, .inr (0, [.int 65540, .ref h1, .int 0, .int 0])), (h1, .inl (kc, 64, .inl g0))] sz)) 0 0 (va_A [(h0, .inr (0, [.int 65540, .ref h1, .int 0, .int 0])), (h1, .inl (kc, 64, .inl g0))] sz) := by
  refine Met.ofW (cc := cX1_room) (maxL := 3) (ret := (some .boolean)) (by decide) rfl ?_
  intro p e s m args below meth c s₁ B hml hv
  obtain ⟨rfl, hsz, hP, hK, hD0, hfx⟩ := hv
  have hx := B.exec
  have hb := B.bytes
  have hr := B.returns
  have hts := atoms_spec (ws := wX1_room) B.pre
  have hkw : ∀ w ∈ kw, w.before _ s = true := fun w h => hts w (List.mem_cons_of_mem _ h)
  have hown : s.vm.findClass RX1 = some m.cls := findClass_of_methodNamed B.named
  have hlocks := B.notSynchronized
  subst hsz
  have hD := hD0.self (sz := s.heap.size)
  generalize hAe : va_A [(h0, .inr (0, [.int 65540, .ref h1, .int 0, .int 0])), (h1, .inl (kc, 64, .inl g0))] s.heap.size = A at hD ⊢
  have hA : ∀ q : Nat, s.heap.size ≤ q → A q := fun q h => by rw [← hAe]; exact Or.inr h
  have hS : va_S A s.heap s.heap [] := va_S.rf
  have hP : va_P (dC, dI) classes [(h0, .inr (0, [.int 65540, .ref h1, .int 0, .int 0])), (h1, .inl (kc, 64, .inl g0))] s.heap := hP
  have hl := lv_entry ([.ref h0, .int 4]) (n := 3) (Nat.le_of_ble_eq_true rfl)
  rw [lg_entry_eq]
  generalize (lg_sl ([.ref h0, .int 4]) ++ List.replicate (3 - (lg_sl ([.ref h0, .int 4])).length) Slot.unset).toArray = ls at hl ⊢
  have hl : lv_has ls 3 [(0, .ref h0), (1, .int 4)] := hl
  refine lv_aload_n hx hb dX1_room_0 rfl (lv_at hl 0 rfl) ?_
  refine va_get (D := (dC, dI)) (ci := 0) (v := .int 0) (C := RX1) (T := TX1) (N := 4) hx hb hkw kin_X1 hown hK hP 0 rfl rfl 3 (by decide) (hkw _ m_7) (fun _ h9 => h9) rfl dX1_room_1 ?_
  refine lv_if_eq (tgt := 9) hx hb dX1_room_4 (by decide) (fun c_4_0 => ?_) (fun c_4_0 => absurd c_4_0 (by decide))
  refine lv_iload_n hx hb dX1_room_9 rfl (lv_at hl 1 rfl) ?_
  refine lv_if_lt (tgt := 26) hx hb dX1_room_10 (by decide) (fun c_10_0 => absurd c_10_0 (by decide)) (fun c_10_0 => ?_)
  refine lv_iload_n hx hb dX1_room_13 rfl (lv_at hl 1 rfl) ?_
  refine lv_aload_n hx hb dX1_room_14 rfl (lv_at hl 0 rfl) ?_
  refine va_get (D := (dC, dI)) (ci := 0) (v := .int 65540) (C := RX1) (T := TX1) (N := 4) hx hb hkw kin_X1 hown hK hP 0 rfl rfl 0 (by decide) (hkw _ m_5) (fun _ h9 => h9) rfl dX1_room_15 ?_
  refine lv_aload_n hx hb dX1_room_18 rfl (lv_at hl 0 rfl) ?_
  refine va_get (D := (dC, dI)) (ci := 0) (v := .int 0) (C := RX1) (T := TX1) (N := 4) hx hb hkw kin_X1 hown hK hP 0 rfl rfl 2 (by decide) (hkw _ m_6) (fun _ h9 => h9) rfl dX1_room_19 ?_
  refine lv_isub hx hb dX1_room_22 ?_
  refine lv_topi (nm_r (e' := 65540) (by decide) ?_)
  refine lv_icmp_le (tgt := 38) hx hb dX1_room_23 (by decide) (fun c_23_0 => ?_) (fun c_23_0 => absurd c_23_0 (by decide))
  refine lv_aload_n hx hb dX1_room_38 rfl (lv_at hl 0 rfl) ?_
  refine va_get (D := (dC, dI)) (ci := 0) (v := .int 0) (C := RX1) (T := TX1) (N := 4) hx hb hkw kin_X1 hown hK hP 0 rfl rfl 2 (by decide) (hkw _ m_6) (fun _ h9 => h9) rfl dX1_room_39 ?_
  refine lv_iload_n hx hb dX1_room_42 rfl (lv_at hl 1 rfl) ?_
  refine lv_iadd hx hb dX1_room_43 ?_
  refine lv_topi (nm_r (e' := 4) (by decide) ?_)
  refine lv_istore_n (lv' := [(2, .int 4), (0, .ref h0), (1, .int 4)]) hx hb dX1_room_44 rfl hl (by decide) rfl (fun ls hl => ?_)
  refine lv_iload_n hx hb dX1_room_45 rfl (lv_at hl 0 rfl) ?_
  refine lv_aload_n hx hb dX1_room_46 rfl (lv_at hl 1 rfl) ?_
  refine va_get (D := (dC, dI)) (ci := 0) (v := .ref h1) (C := RX1) (T := TX1) (N := 4) hx hb hkw kin_X1 hown hK hP 0 rfl rfl 1 (by decide) (hkw _ m_4) (fun _ h9 => h9) rfl dX1_room_47 ?_
  refine va_alen (v := 64) hx hb hK hP 1 0 rfl rfl rfl dX1_room_50 ?_
  refine lv_icmp_le (tgt := 83) hx hb dX1_room_51 (by decide) (fun c_51_0 => ?_) (fun c_51_0 => absurd c_51_0 (by decide))
  refine lv_iconst (v := 1) hx hb dX1_room_83 (by decide) ?_
  have hP9 := hP.sub (ws' := [(h0, .inr (0, [.int 65540, .ref h1, .int 0, .int 0])), (h1, .inl (kc, 64, .inl g0))]) [0, 1] rfl
  have hD9 := hD.sub (ws' := [(h0, .inr (0, [.int 65540, .ref h1, .int 0, .int 0])), (h1, .inl (kc, 64, .inl g0))]) [0, 1] (by decide) rfl
  have hK9 := hK.sub (tys' := [(kc, .byte)]) [0] rfl
  refine W.widen (k := 0) (n := 0) (Nat.le_of_ble_eq_true rfl) (Nat.le_of_ble_eq_true rfl) ?_
  exact W.zret (v := 1) (ty := .boolean) hx hb hr rfl (fun t ht hW => ⟨⟨1, (), rfl, rfl, by rw [ht]; exact hP9, va_K.moved hW.alike hK9, hD9⟩, hS.F ht⟩) hS.2.2 dX1_room_84

set_option maxHeartbeats 4000000 in
set_option maxRecDepth 100000 in
/-- room(4) at 4 -/
theorem c_By_room_4 (l : Launch) (dC : Nat → ClassId) (dI : Nat → Nat → Nat) (sz : Nat) (h0 : Nat) (h1 : Nat) (kc : ClassId) (g0 : Nat → Int32) : Met l yX1_room wX1_room ({ frames := 0, cells := 0, slots := 0, locals := 0 }) (va_Pc [.ref h0, .int 4] (pW (dC, dI) [(h0, .inr (0, [.int 65540, .ref h1, .int 4, .int 0])), (h1, .inl (kc, 64, .inl g0))] [(kc, .byte)] sz)) (va_Qi (fun (r : Int32) (_u : Unit) => r = 1) (fun (_u : Unit) (t : State) => bW (dC, dI) [(h0, .inr (0, [.int 65540, .ref h1, .int 4, .int 0])), (h1, .inl (kc, 64, .inl g0))] [(kc, .byte)] (va_A [(h0, .inr (0, [.int 65540, .ref h1, .int 4, .int 0])), (h1, .inl (kc, 64, .inl g0))] sz) t) (va_A [(h0, .inr (0, [.int 65540, .ref h1, .int 4, .int 0])), (h1, .inl (kc, 64, .inl g0))] sz)) 0 0 (va_A [(h0, .inr (0, [.int 65540, .ref h1, .int 4, .int 0])), (h1, .inl (kc, 64, .inl g0))] sz) := by
  refine Met.ofW (cc := cX1_room) (maxL := 3) (ret := (some .boolean)) (by decide) rfl ?_
  intro p e s m args below meth c s₁ B hml hv
  obtain ⟨rfl, hsz, hP, hK, hD0, hfx⟩ := hv
  have hx := B.exec
  have hb := B.bytes
  have hr := B.returns
  have hts := atoms_spec (ws := wX1_room) B.pre
  have hkw : ∀ w ∈ kw, w.before _ s = true := fun w h => hts w (List.mem_cons_of_mem _ h)
  have hown : s.vm.findClass RX1 = some m.cls := findClass_of_methodNamed B.named
  have hlocks := B.notSynchronized
  subst hsz
  have hD := hD0.self (sz := s.heap.size)
  generalize hAe : va_A [(h0, .inr (0, [.int 65540, .ref h1, .int 4, .int 0])), (h1, .inl (kc, 64, .inl g0))] s.heap.size = A at hD ⊢
  have hA : ∀ q : Nat, s.heap.size ≤ q → A q := fun q h => by rw [← hAe]; exact Or.inr h
  have hS : va_S A s.heap s.heap [] := va_S.rf
  have hP : va_P (dC, dI) classes [(h0, .inr (0, [.int 65540, .ref h1, .int 4, .int 0])), (h1, .inl (kc, 64, .inl g0))] s.heap := hP
  have hl := lv_entry ([.ref h0, .int 4]) (n := 3) (Nat.le_of_ble_eq_true rfl)
  rw [lg_entry_eq]
  generalize (lg_sl ([.ref h0, .int 4]) ++ List.replicate (3 - (lg_sl ([.ref h0, .int 4])).length) Slot.unset).toArray = ls at hl ⊢
  have hl : lv_has ls 3 [(0, .ref h0), (1, .int 4)] := hl
  refine lv_aload_n hx hb dX1_room_0 rfl (lv_at hl 0 rfl) ?_
  refine va_get (D := (dC, dI)) (ci := 0) (v := .int 0) (C := RX1) (T := TX1) (N := 4) hx hb hkw kin_X1 hown hK hP 0 rfl rfl 3 (by decide) (hkw _ m_7) (fun _ h9 => h9) rfl dX1_room_1 ?_
  refine lv_if_eq (tgt := 9) hx hb dX1_room_4 (by decide) (fun c_4_0 => ?_) (fun c_4_0 => absurd c_4_0 (by decide))
  refine lv_iload_n hx hb dX1_room_9 rfl (lv_at hl 1 rfl) ?_
  refine lv_if_lt (tgt := 26) hx hb dX1_room_10 (by decide) (fun c_10_0 => absurd c_10_0 (by decide)) (fun c_10_0 => ?_)
  refine lv_iload_n hx hb dX1_room_13 rfl (lv_at hl 1 rfl) ?_
  refine lv_aload_n hx hb dX1_room_14 rfl (lv_at hl 0 rfl) ?_
  refine va_get (D := (dC, dI)) (ci := 0) (v := .int 65540) (C := RX1) (T := TX1) (N := 4) hx hb hkw kin_X1 hown hK hP 0 rfl rfl 0 (by decide) (hkw _ m_5) (fun _ h9 => h9) rfl dX1_room_15 ?_
  refine lv_aload_n hx hb dX1_room_18 rfl (lv_at hl 0 rfl) ?_
  refine va_get (D := (dC, dI)) (ci := 0) (v := .int 4) (C := RX1) (T := TX1) (N := 4) hx hb hkw kin_X1 hown hK hP 0 rfl rfl 2 (by decide) (hkw _ m_6) (fun _ h9 => h9) rfl dX1_room_19 ?_
  refine lv_isub hx hb dX1_room_22 ?_
  refine lv_topi (nm_r (e' := 65536) (by decide) ?_)
  refine lv_icmp_le (tgt := 38) hx hb dX1_room_23 (by decide) (fun c_23_0 => ?_) (fun c_23_0 => absurd c_23_0 (by decide))
  refine lv_aload_n hx hb dX1_room_38 rfl (lv_at hl 0 rfl) ?_
  refine va_get (D := (dC, dI)) (ci := 0) (v := .int 4) (C := RX1) (T := TX1) (N := 4) hx hb hkw kin_X1 hown hK hP 0 rfl rfl 2 (by decide) (hkw _ m_6) (fun _ h9 => h9) rfl dX1_room_39 ?_
  refine lv_iload_n hx hb dX1_room_42 rfl (lv_at hl 1 rfl) ?_
  refine lv_iadd hx hb dX1_room_43 ?_
  refine lv_topi (nm_r (e' := 8) (by decide) ?_)
  refine lv_istore_n (lv' := [(2, .int 8), (0, .ref h0), (1, .int 4)]) hx hb dX1_room_44 rfl hl (by decide) rfl (fun ls hl => ?_)
  refine lv_iload_n hx hb dX1_room_45 rfl (lv_at hl 0 rfl) ?_
  refine lv_aload_n hx hb dX1_room_46 rfl (lv_at hl 1 rfl) ?_
  refine va_get (D := (dC, dI)) (ci := 0) (v := .ref h1) (C := RX1) (T := TX1) (N := 4) hx hb hkw kin_X1 hown hK hP 0 rfl rfl 1 (by decide) (hkw _ m_4) (fun _ h9 => h9) rfl dX1_room_47 ?_
  refine va_alen (v := 64) hx hb hK hP 1 0 rfl rfl rfl dX1_room_50 ?_
  refine lv_icmp_le (tgt := 83) hx hb dX1_room_51 (by decide) (fun c_51_0 => ?_) (fun c_51_0 => absurd c_51_0 (by decide))
  refine lv_iconst (v := 1) hx hb dX1_room_83 (by decide) ?_
  have hP9 := hP.sub (ws' := [(h0, .inr (0, [.int 65540, .ref h1, .int 4, .int 0])), (h1, .inl (kc, 64, .inl g0))]) [0, 1] rfl
  have hD9 := hD.sub (ws' := [(h0, .inr (0, [.int 65540, .ref h1, .int 4, .int 0])), (h1, .inl (kc, 64, .inl g0))]) [0, 1] (by decide) rfl
  have hK9 := hK.sub (tys' := [(kc, .byte)]) [0] rfl
  refine W.widen (k := 0) (n := 0) (Nat.le_of_ble_eq_true rfl) (Nat.le_of_ble_eq_true rfl) ?_
  exact W.zret (v := 1) (ty := .boolean) hx hb hr rfl (fun t ht hW => ⟨⟨1, (), rfl, rfl, by rw [ht]; exact hP9, va_K.moved hW.alike hK9, hD9⟩, hS.F ht⟩) hS.2.2 dX1_room_84

set_option maxHeartbeats 4000000 in
set_option maxRecDepth 100000 in
/-- room(4) at 8 -/
theorem c_By_room_8 (l : Launch) (dC : Nat → ClassId) (dI : Nat → Nat → Nat) (sz : Nat) (h0 : Nat) (h1 : Nat) (kc : ClassId) (g0 : Nat → Int32) : Met l yX1_room wX1_room ({ frames := 0, cells := 0, slots := 0, locals := 0 }) (va_Pc [.ref h0, .int 4] (pW (dC, dI) [(h0, .inr (0, [.int 65540, .ref h1, .int 8, .int 0])), (h1, .inl (kc, 64, .inl g0))] [(kc, .byte)] sz)) (va_Qi (fun (r : Int32) (_u : Unit) => r = 1) (fun (_u : Unit) (t : State) => bW (dC, dI) [(h0, .inr (0, [.int 65540, .ref h1, .int 8, .int 0])), (h1, .inl (kc, 64, .inl g0))] [(kc, .byte)] (va_A [(h0, .inr (0, [.int 65540, .ref h1, .int 8, .int 0])), (h1, .inl (kc, 64, .inl g0))] sz) t) (va_A [(h0, .inr (0, [.int 65540, .ref h1, .int 8, .int 0])), (h1, .inl (kc, 64, .inl g0))] sz)) 0 0 (va_A [(h0, .inr (0, [.int 65540, .ref h1, .int 8, .int 0])), (h1, .inl (kc, 64, .inl g0))] sz) := by
  refine Met.ofW (cc := cX1_room) (maxL := 3) (ret := (some .boolean)) (by decide) rfl ?_
  intro p e s m args below meth c s₁ B hml hv
  obtain ⟨rfl, hsz, hP, hK, hD0, hfx⟩ := hv
  have hx := B.exec
  have hb := B.bytes
  have hr := B.returns
  have hts := atoms_spec (ws := wX1_room) B.pre
  have hkw : ∀ w ∈ kw, w.before _ s = true := fun w h => hts w (List.mem_cons_of_mem _ h)
  have hown : s.vm.findClass RX1 = some m.cls := findClass_of_methodNamed B.named
  have hlocks := B.notSynchronized
  subst hsz
  have hD := hD0.self (sz := s.heap.size)
  generalize hAe : va_A [(h0, .inr (0, [.int 65540, .ref h1, .int 8, .int 0])), (h1, .inl (kc, 64, .inl g0))] s.heap.size = A at hD ⊢
  have hA : ∀ q : Nat, s.heap.size ≤ q → A q := fun q h => by rw [← hAe]; exact Or.inr h
  have hS : va_S A s.heap s.heap [] := va_S.rf
  have hP : va_P (dC, dI) classes [(h0, .inr (0, [.int 65540, .ref h1, .int 8, .int 0])), (h1, .inl (kc, 64, .inl g0))] s.heap := hP
  have hl := lv_entry ([.ref h0, .int 4]) (n := 3) (Nat.le_of_ble_eq_true rfl)
  rw [lg_entry_eq]
  generalize (lg_sl ([.ref h0, .int 4]) ++ List.replicate (3 - (lg_sl ([.ref h0, .int 4])).length) Slot.unset).toArray = ls at hl ⊢
  have hl : lv_has ls 3 [(0, .ref h0), (1, .int 4)] := hl
  refine lv_aload_n hx hb dX1_room_0 rfl (lv_at hl 0 rfl) ?_
  refine va_get (D := (dC, dI)) (ci := 0) (v := .int 0) (C := RX1) (T := TX1) (N := 4) hx hb hkw kin_X1 hown hK hP 0 rfl rfl 3 (by decide) (hkw _ m_7) (fun _ h9 => h9) rfl dX1_room_1 ?_
  refine lv_if_eq (tgt := 9) hx hb dX1_room_4 (by decide) (fun c_4_0 => ?_) (fun c_4_0 => absurd c_4_0 (by decide))
  refine lv_iload_n hx hb dX1_room_9 rfl (lv_at hl 1 rfl) ?_
  refine lv_if_lt (tgt := 26) hx hb dX1_room_10 (by decide) (fun c_10_0 => absurd c_10_0 (by decide)) (fun c_10_0 => ?_)
  refine lv_iload_n hx hb dX1_room_13 rfl (lv_at hl 1 rfl) ?_
  refine lv_aload_n hx hb dX1_room_14 rfl (lv_at hl 0 rfl) ?_
  refine va_get (D := (dC, dI)) (ci := 0) (v := .int 65540) (C := RX1) (T := TX1) (N := 4) hx hb hkw kin_X1 hown hK hP 0 rfl rfl 0 (by decide) (hkw _ m_5) (fun _ h9 => h9) rfl dX1_room_15 ?_
  refine lv_aload_n hx hb dX1_room_18 rfl (lv_at hl 0 rfl) ?_
  refine va_get (D := (dC, dI)) (ci := 0) (v := .int 8) (C := RX1) (T := TX1) (N := 4) hx hb hkw kin_X1 hown hK hP 0 rfl rfl 2 (by decide) (hkw _ m_6) (fun _ h9 => h9) rfl dX1_room_19 ?_
  refine lv_isub hx hb dX1_room_22 ?_
  refine lv_topi (nm_r (e' := 65532) (by decide) ?_)
  refine lv_icmp_le (tgt := 38) hx hb dX1_room_23 (by decide) (fun c_23_0 => ?_) (fun c_23_0 => absurd c_23_0 (by decide))
  refine lv_aload_n hx hb dX1_room_38 rfl (lv_at hl 0 rfl) ?_
  refine va_get (D := (dC, dI)) (ci := 0) (v := .int 8) (C := RX1) (T := TX1) (N := 4) hx hb hkw kin_X1 hown hK hP 0 rfl rfl 2 (by decide) (hkw _ m_6) (fun _ h9 => h9) rfl dX1_room_39 ?_
  refine lv_iload_n hx hb dX1_room_42 rfl (lv_at hl 1 rfl) ?_
  refine lv_iadd hx hb dX1_room_43 ?_
  refine lv_topi (nm_r (e' := 12) (by decide) ?_)
  refine lv_istore_n (lv' := [(2, .int 12), (0, .ref h0), (1, .int 4)]) hx hb dX1_room_44 rfl hl (by decide) rfl (fun ls hl => ?_)
  refine lv_iload_n hx hb dX1_room_45 rfl (lv_at hl 0 rfl) ?_
  refine lv_aload_n hx hb dX1_room_46 rfl (lv_at hl 1 rfl) ?_
  refine va_get (D := (dC, dI)) (ci := 0) (v := .ref h1) (C := RX1) (T := TX1) (N := 4) hx hb hkw kin_X1 hown hK hP 0 rfl rfl 1 (by decide) (hkw _ m_4) (fun _ h9 => h9) rfl dX1_room_47 ?_
  refine va_alen (v := 64) hx hb hK hP 1 0 rfl rfl rfl dX1_room_50 ?_
  refine lv_icmp_le (tgt := 83) hx hb dX1_room_51 (by decide) (fun c_51_0 => ?_) (fun c_51_0 => absurd c_51_0 (by decide))
  refine lv_iconst (v := 1) hx hb dX1_room_83 (by decide) ?_
  have hP9 := hP.sub (ws' := [(h0, .inr (0, [.int 65540, .ref h1, .int 8, .int 0])), (h1, .inl (kc, 64, .inl g0))]) [0, 1] rfl
  have hD9 := hD.sub (ws' := [(h0, .inr (0, [.int 65540, .ref h1, .int 8, .int 0])), (h1, .inl (kc, 64, .inl g0))]) [0, 1] (by decide) rfl
  have hK9 := hK.sub (tys' := [(kc, .byte)]) [0] rfl
  refine W.widen (k := 0) (n := 0) (Nat.le_of_ble_eq_true rfl) (Nat.le_of_ble_eq_true rfl) ?_
  exact W.zret (v := 1) (ty := .boolean) hx hb hr rfl (fun t ht hW => ⟨⟨1, (), rfl, rfl, by rw [ht]; exact hP9, va_K.moved hW.alike hK9, hD9⟩, hS.F ht⟩) hS.2.2 dX1_room_84

set_option maxHeartbeats 4000000 in
set_option maxRecDepth 100000 in
/-- room(4) at 12 -/
theorem c_By_room_12 (l : Launch) (dC : Nat → ClassId) (dI : Nat → Nat → Nat) (sz : Nat) (h0 : Nat) (h1 : Nat) (kc : ClassId) (g0 : Nat → Int32) : Met l yX1_room wX1_room ({ frames := 0, cells := 0, slots := 0, locals := 0 }) (va_Pc [.ref h0, .int 4] (pW (dC, dI) [(h0, .inr (0, [.int 65540, .ref h1, .int 12, .int 0])), (h1, .inl (kc, 64, .inl g0))] [(kc, .byte)] sz)) (va_Qi (fun (r : Int32) (_u : Unit) => r = 1) (fun (_u : Unit) (t : State) => bW (dC, dI) [(h0, .inr (0, [.int 65540, .ref h1, .int 12, .int 0])), (h1, .inl (kc, 64, .inl g0))] [(kc, .byte)] (va_A [(h0, .inr (0, [.int 65540, .ref h1, .int 12, .int 0])), (h1, .inl (kc, 64, .inl g0))] sz) t) (va_A [(h0, .inr (0, [.int 65540, .ref h1, .int 12, .int 0])), (h1, .inl (kc, 64, .inl g0))] sz)) 0 0 (va_A [(h0, .inr (0, [.int 65540, .ref h1, .int 12, .int 0])), (h1, .inl (kc, 64, .inl g0))] sz) := by
  refine Met.ofW (cc := cX1_room) (maxL := 3) (ret := (some .boolean)) (by decide) rfl ?_
  intro p e s m args below meth c s₁ B hml hv
  obtain ⟨rfl, hsz, hP, hK, hD0, hfx⟩ := hv
  have hx := B.exec
  have hb := B.bytes
  have hr := B.returns
  have hts := atoms_spec (ws := wX1_room) B.pre
  have hkw : ∀ w ∈ kw, w.before _ s = true := fun w h => hts w (List.mem_cons_of_mem _ h)
  have hown : s.vm.findClass RX1 = some m.cls := findClass_of_methodNamed B.named
  have hlocks := B.notSynchronized
  subst hsz
  have hD := hD0.self (sz := s.heap.size)
  generalize hAe : va_A [(h0, .inr (0, [.int 65540, .ref h1, .int 12, .int 0])), (h1, .inl (kc, 64, .inl g0))] s.heap.size = A at hD ⊢
  have hA : ∀ q : Nat, s.heap.size ≤ q → A q := fun q h => by rw [← hAe]; exact Or.inr h
  have hS : va_S A s.heap s.heap [] := va_S.rf
  have hP : va_P (dC, dI) classes [(h0, .inr (0, [.int 65540, .ref h1, .int 12, .int 0])), (h1, .inl (kc, 64, .inl g0))] s.heap := hP
  have hl := lv_entry ([.ref h0, .int 4]) (n := 3) (Nat.le_of_ble_eq_true rfl)
  rw [lg_entry_eq]
  generalize (lg_sl ([.ref h0, .int 4]) ++ List.replicate (3 - (lg_sl ([.ref h0, .int 4])).length) Slot.unset).toArray = ls at hl ⊢
  have hl : lv_has ls 3 [(0, .ref h0), (1, .int 4)] := hl
  refine lv_aload_n hx hb dX1_room_0 rfl (lv_at hl 0 rfl) ?_
  refine va_get (D := (dC, dI)) (ci := 0) (v := .int 0) (C := RX1) (T := TX1) (N := 4) hx hb hkw kin_X1 hown hK hP 0 rfl rfl 3 (by decide) (hkw _ m_7) (fun _ h9 => h9) rfl dX1_room_1 ?_
  refine lv_if_eq (tgt := 9) hx hb dX1_room_4 (by decide) (fun c_4_0 => ?_) (fun c_4_0 => absurd c_4_0 (by decide))
  refine lv_iload_n hx hb dX1_room_9 rfl (lv_at hl 1 rfl) ?_
  refine lv_if_lt (tgt := 26) hx hb dX1_room_10 (by decide) (fun c_10_0 => absurd c_10_0 (by decide)) (fun c_10_0 => ?_)
  refine lv_iload_n hx hb dX1_room_13 rfl (lv_at hl 1 rfl) ?_
  refine lv_aload_n hx hb dX1_room_14 rfl (lv_at hl 0 rfl) ?_
  refine va_get (D := (dC, dI)) (ci := 0) (v := .int 65540) (C := RX1) (T := TX1) (N := 4) hx hb hkw kin_X1 hown hK hP 0 rfl rfl 0 (by decide) (hkw _ m_5) (fun _ h9 => h9) rfl dX1_room_15 ?_
  refine lv_aload_n hx hb dX1_room_18 rfl (lv_at hl 0 rfl) ?_
  refine va_get (D := (dC, dI)) (ci := 0) (v := .int 12) (C := RX1) (T := TX1) (N := 4) hx hb hkw kin_X1 hown hK hP 0 rfl rfl 2 (by decide) (hkw _ m_6) (fun _ h9 => h9) rfl dX1_room_19 ?_
  refine lv_isub hx hb dX1_room_22 ?_
  refine lv_topi (nm_r (e' := 65528) (by decide) ?_)
  refine lv_icmp_le (tgt := 38) hx hb dX1_room_23 (by decide) (fun c_23_0 => ?_) (fun c_23_0 => absurd c_23_0 (by decide))
  refine lv_aload_n hx hb dX1_room_38 rfl (lv_at hl 0 rfl) ?_
  refine va_get (D := (dC, dI)) (ci := 0) (v := .int 12) (C := RX1) (T := TX1) (N := 4) hx hb hkw kin_X1 hown hK hP 0 rfl rfl 2 (by decide) (hkw _ m_6) (fun _ h9 => h9) rfl dX1_room_39 ?_
  refine lv_iload_n hx hb dX1_room_42 rfl (lv_at hl 1 rfl) ?_
  refine lv_iadd hx hb dX1_room_43 ?_
  refine lv_topi (nm_r (e' := 16) (by decide) ?_)
  refine lv_istore_n (lv' := [(2, .int 16), (0, .ref h0), (1, .int 4)]) hx hb dX1_room_44 rfl hl (by decide) rfl (fun ls hl => ?_)
  refine lv_iload_n hx hb dX1_room_45 rfl (lv_at hl 0 rfl) ?_
  refine lv_aload_n hx hb dX1_room_46 rfl (lv_at hl 1 rfl) ?_
  refine va_get (D := (dC, dI)) (ci := 0) (v := .ref h1) (C := RX1) (T := TX1) (N := 4) hx hb hkw kin_X1 hown hK hP 0 rfl rfl 1 (by decide) (hkw _ m_4) (fun _ h9 => h9) rfl dX1_room_47 ?_
  refine va_alen (v := 64) hx hb hK hP 1 0 rfl rfl rfl dX1_room_50 ?_
  refine lv_icmp_le (tgt := 83) hx hb dX1_room_51 (by decide) (fun c_51_0 => ?_) (fun c_51_0 => absurd c_51_0 (by decide))
  refine lv_iconst (v := 1) hx hb dX1_room_83 (by decide) ?_
  have hP9 := hP.sub (ws' := [(h0, .inr (0, [.int 65540, .ref h1, .int 12, .int 0])), (h1, .inl (kc, 64, .inl g0))]) [0, 1] rfl
  have hD9 := hD.sub (ws' := [(h0, .inr (0, [.int 65540, .ref h1, .int 12, .int 0])), (h1, .inl (kc, 64, .inl g0))]) [0, 1] (by decide) rfl
  have hK9 := hK.sub (tys' := [(kc, .byte)]) [0] rfl
  refine W.widen (k := 0) (n := 0) (Nat.le_of_ble_eq_true rfl) (Nat.le_of_ble_eq_true rfl) ?_
  exact W.zret (v := 1) (ty := .boolean) hx hb hr rfl (fun t ht hW => ⟨⟨1, (), rfl, rfl, by rw [ht]; exact hP9, va_K.moved hW.alike hK9, hD9⟩, hS.F ht⟩) hS.2.2 dX1_room_84

set_option maxHeartbeats 4000000 in
set_option maxRecDepth 100000 in
/-- room(4) at 16 -/
theorem c_By_room_16 (l : Launch) (dC : Nat → ClassId) (dI : Nat → Nat → Nat) (sz : Nat) (h0 : Nat) (h1 : Nat) (kc : ClassId) (g0 : Nat → Int32) : Met l yX1_room wX1_room ({ frames := 0, cells := 0, slots := 0, locals := 0 }) (va_Pc [.ref h0, .int 4] (pW (dC, dI) [(h0, .inr (0, [.int 65540, .ref h1, .int 16, .int 0])), (h1, .inl (kc, 64, .inl g0))] [(kc, .byte)] sz)) (va_Qi (fun (r : Int32) (_u : Unit) => r = 1) (fun (_u : Unit) (t : State) => bW (dC, dI) [(h0, .inr (0, [.int 65540, .ref h1, .int 16, .int 0])), (h1, .inl (kc, 64, .inl g0))] [(kc, .byte)] (va_A [(h0, .inr (0, [.int 65540, .ref h1, .int 16, .int 0])), (h1, .inl (kc, 64, .inl g0))] sz) t) (va_A [(h0, .inr (0, [.int 65540, .ref h1, .int 16, .int 0])), (h1, .inl (kc, 64, .inl g0))] sz)) 0 0 (va_A [(h0, .inr (0, [.int 65540, .ref h1, .int 16, .int 0])), (h1, .inl (kc, 64, .inl g0))] sz) := by
  refine Met.ofW (cc := cX1_room) (maxL := 3) (ret := (some .boolean)) (by decide) rfl ?_
  intro p e s m args below meth c s₁ B hml hv
  obtain ⟨rfl, hsz, hP, hK, hD0, hfx⟩ := hv
  have hx := B.exec
  have hb := B.bytes
  have hr := B.returns
  have hts := atoms_spec (ws := wX1_room) B.pre
  have hkw : ∀ w ∈ kw, w.before _ s = true := fun w h => hts w (List.mem_cons_of_mem _ h)
  have hown : s.vm.findClass RX1 = some m.cls := findClass_of_methodNamed B.named
  have hlocks := B.notSynchronized
  subst hsz
  have hD := hD0.self (sz := s.heap.size)
  generalize hAe : va_A [(h0, .inr (0, [.int 65540, .ref h1, .int 16, .int 0])), (h1, .inl (kc, 64, .inl g0))] s.heap.size = A at hD ⊢
  have hA : ∀ q : Nat, s.heap.size ≤ q → A q := fun q h => by rw [← hAe]; exact Or.inr h
  have hS : va_S A s.heap s.heap [] := va_S.rf
  have hP : va_P (dC, dI) classes [(h0, .inr (0, [.int 65540, .ref h1, .int 16, .int 0])), (h1, .inl (kc, 64, .inl g0))] s.heap := hP
  have hl := lv_entry ([.ref h0, .int 4]) (n := 3) (Nat.le_of_ble_eq_true rfl)
  rw [lg_entry_eq]
  generalize (lg_sl ([.ref h0, .int 4]) ++ List.replicate (3 - (lg_sl ([.ref h0, .int 4])).length) Slot.unset).toArray = ls at hl ⊢
  have hl : lv_has ls 3 [(0, .ref h0), (1, .int 4)] := hl
  refine lv_aload_n hx hb dX1_room_0 rfl (lv_at hl 0 rfl) ?_
  refine va_get (D := (dC, dI)) (ci := 0) (v := .int 0) (C := RX1) (T := TX1) (N := 4) hx hb hkw kin_X1 hown hK hP 0 rfl rfl 3 (by decide) (hkw _ m_7) (fun _ h9 => h9) rfl dX1_room_1 ?_
  refine lv_if_eq (tgt := 9) hx hb dX1_room_4 (by decide) (fun c_4_0 => ?_) (fun c_4_0 => absurd c_4_0 (by decide))
  refine lv_iload_n hx hb dX1_room_9 rfl (lv_at hl 1 rfl) ?_
  refine lv_if_lt (tgt := 26) hx hb dX1_room_10 (by decide) (fun c_10_0 => absurd c_10_0 (by decide)) (fun c_10_0 => ?_)
  refine lv_iload_n hx hb dX1_room_13 rfl (lv_at hl 1 rfl) ?_
  refine lv_aload_n hx hb dX1_room_14 rfl (lv_at hl 0 rfl) ?_
  refine va_get (D := (dC, dI)) (ci := 0) (v := .int 65540) (C := RX1) (T := TX1) (N := 4) hx hb hkw kin_X1 hown hK hP 0 rfl rfl 0 (by decide) (hkw _ m_5) (fun _ h9 => h9) rfl dX1_room_15 ?_
  refine lv_aload_n hx hb dX1_room_18 rfl (lv_at hl 0 rfl) ?_
  refine va_get (D := (dC, dI)) (ci := 0) (v := .int 16) (C := RX1) (T := TX1) (N := 4) hx hb hkw kin_X1 hown hK hP 0 rfl rfl 2 (by decide) (hkw _ m_6) (fun _ h9 => h9) rfl dX1_room_19 ?_
  refine lv_isub hx hb dX1_room_22 ?_
  refine lv_topi (nm_r (e' := 65524) (by decide) ?_)
  refine lv_icmp_le (tgt := 38) hx hb dX1_room_23 (by decide) (fun c_23_0 => ?_) (fun c_23_0 => absurd c_23_0 (by decide))
  refine lv_aload_n hx hb dX1_room_38 rfl (lv_at hl 0 rfl) ?_
  refine va_get (D := (dC, dI)) (ci := 0) (v := .int 16) (C := RX1) (T := TX1) (N := 4) hx hb hkw kin_X1 hown hK hP 0 rfl rfl 2 (by decide) (hkw _ m_6) (fun _ h9 => h9) rfl dX1_room_39 ?_
  refine lv_iload_n hx hb dX1_room_42 rfl (lv_at hl 1 rfl) ?_
  refine lv_iadd hx hb dX1_room_43 ?_
  refine lv_topi (nm_r (e' := 20) (by decide) ?_)
  refine lv_istore_n (lv' := [(2, .int 20), (0, .ref h0), (1, .int 4)]) hx hb dX1_room_44 rfl hl (by decide) rfl (fun ls hl => ?_)
  refine lv_iload_n hx hb dX1_room_45 rfl (lv_at hl 0 rfl) ?_
  refine lv_aload_n hx hb dX1_room_46 rfl (lv_at hl 1 rfl) ?_
  refine va_get (D := (dC, dI)) (ci := 0) (v := .ref h1) (C := RX1) (T := TX1) (N := 4) hx hb hkw kin_X1 hown hK hP 0 rfl rfl 1 (by decide) (hkw _ m_4) (fun _ h9 => h9) rfl dX1_room_47 ?_
  refine va_alen (v := 64) hx hb hK hP 1 0 rfl rfl rfl dX1_room_50 ?_
  refine lv_icmp_le (tgt := 83) hx hb dX1_room_51 (by decide) (fun c_51_0 => ?_) (fun c_51_0 => absurd c_51_0 (by decide))
  refine lv_iconst (v := 1) hx hb dX1_room_83 (by decide) ?_
  have hP9 := hP.sub (ws' := [(h0, .inr (0, [.int 65540, .ref h1, .int 16, .int 0])), (h1, .inl (kc, 64, .inl g0))]) [0, 1] rfl
  have hD9 := hD.sub (ws' := [(h0, .inr (0, [.int 65540, .ref h1, .int 16, .int 0])), (h1, .inl (kc, 64, .inl g0))]) [0, 1] (by decide) rfl
  have hK9 := hK.sub (tys' := [(kc, .byte)]) [0] rfl
  refine W.widen (k := 0) (n := 0) (Nat.le_of_ble_eq_true rfl) (Nat.le_of_ble_eq_true rfl) ?_
  exact W.zret (v := 1) (ty := .boolean) hx hb hr rfl (fun t ht hW => ⟨⟨1, (), rfl, rfl, by rw [ht]; exact hP9, va_K.moved hW.alike hK9, hD9⟩, hS.F ht⟩) hS.2.2 dX1_room_84

set_option maxHeartbeats 4000000 in
set_option maxRecDepth 100000 in
/-- room(0) of an input -/
theorem c_By_roomz (l : Launch) (dC : Nat → ClassId) (dI : Nat → Nat → Nat) (sz : Nat) (h0 : Nat) (h1 : Nat) (kc : ClassId) (g0 : Nat → Int32) : Met l yX1_room wX1_room ({ frames := 0, cells := 0, slots := 0, locals := 0 }) (va_Pc [.ref h0, .int 0] (pW (dC, dI) [(h0, .inr (0, [.int 131076, .ref h1, .int 0, .int 0])), (h1, .inl (kc, 64, .inl g0))] [(kc, .byte)] sz)) (va_Qi (fun (r : Int32) (_u : Unit) => r = 1) (fun (_u : Unit) (t : State) => bW (dC, dI) [(h0, .inr (0, [.int 131076, .ref h1, .int 0, .int 0])), (h1, .inl (kc, 64, .inl g0))] [(kc, .byte)] (va_A [(h0, .inr (0, [.int 131076, .ref h1, .int 0, .int 0])), (h1, .inl (kc, 64, .inl g0))] sz) t) (va_A [(h0, .inr (0, [.int 131076, .ref h1, .int 0, .int 0])), (h1, .inl (kc, 64, .inl g0))] sz)) 0 0 (va_A [(h0, .inr (0, [.int 131076, .ref h1, .int 0, .int 0])), (h1, .inl (kc, 64, .inl g0))] sz) := by
  refine Met.ofW (cc := cX1_room) (maxL := 3) (ret := (some .boolean)) (by decide) rfl ?_
  intro p e s m args below meth c s₁ B hml hv
  obtain ⟨rfl, hsz, hP, hK, hD0, hfx⟩ := hv
  have hx := B.exec
  have hb := B.bytes
  have hr := B.returns
  have hts := atoms_spec (ws := wX1_room) B.pre
  have hkw : ∀ w ∈ kw, w.before _ s = true := fun w h => hts w (List.mem_cons_of_mem _ h)
  have hown : s.vm.findClass RX1 = some m.cls := findClass_of_methodNamed B.named
  have hlocks := B.notSynchronized
  subst hsz
  have hD := hD0.self (sz := s.heap.size)
  generalize hAe : va_A [(h0, .inr (0, [.int 131076, .ref h1, .int 0, .int 0])), (h1, .inl (kc, 64, .inl g0))] s.heap.size = A at hD ⊢
  have hA : ∀ q : Nat, s.heap.size ≤ q → A q := fun q h => by rw [← hAe]; exact Or.inr h
  have hS : va_S A s.heap s.heap [] := va_S.rf
  have hP : va_P (dC, dI) classes [(h0, .inr (0, [.int 131076, .ref h1, .int 0, .int 0])), (h1, .inl (kc, 64, .inl g0))] s.heap := hP
  have hl := lv_entry ([.ref h0, .int 0]) (n := 3) (Nat.le_of_ble_eq_true rfl)
  rw [lg_entry_eq]
  generalize (lg_sl ([.ref h0, .int 0]) ++ List.replicate (3 - (lg_sl ([.ref h0, .int 0])).length) Slot.unset).toArray = ls at hl ⊢
  have hl : lv_has ls 3 [(0, .ref h0), (1, .int 0)] := hl
  refine lv_aload_n hx hb dX1_room_0 rfl (lv_at hl 0 rfl) ?_
  refine va_get (D := (dC, dI)) (ci := 0) (v := .int 0) (C := RX1) (T := TX1) (N := 4) hx hb hkw kin_X1 hown hK hP 0 rfl rfl 3 (by decide) (hkw _ m_7) (fun _ h9 => h9) rfl dX1_room_1 ?_
  refine lv_if_eq (tgt := 9) hx hb dX1_room_4 (by decide) (fun c_4_0 => ?_) (fun c_4_0 => absurd c_4_0 (by decide))
  refine lv_iload_n hx hb dX1_room_9 rfl (lv_at hl 1 rfl) ?_
  refine lv_if_lt (tgt := 26) hx hb dX1_room_10 (by decide) (fun c_10_0 => absurd c_10_0 (by decide)) (fun c_10_0 => ?_)
  refine lv_iload_n hx hb dX1_room_13 rfl (lv_at hl 1 rfl) ?_
  refine lv_aload_n hx hb dX1_room_14 rfl (lv_at hl 0 rfl) ?_
  refine va_get (D := (dC, dI)) (ci := 0) (v := .int 131076) (C := RX1) (T := TX1) (N := 4) hx hb hkw kin_X1 hown hK hP 0 rfl rfl 0 (by decide) (hkw _ m_5) (fun _ h9 => h9) rfl dX1_room_15 ?_
  refine lv_aload_n hx hb dX1_room_18 rfl (lv_at hl 0 rfl) ?_
  refine va_get (D := (dC, dI)) (ci := 0) (v := .int 0) (C := RX1) (T := TX1) (N := 4) hx hb hkw kin_X1 hown hK hP 0 rfl rfl 2 (by decide) (hkw _ m_6) (fun _ h9 => h9) rfl dX1_room_19 ?_
  refine lv_isub hx hb dX1_room_22 ?_
  refine lv_topi (nm_r (e' := 131076) (by decide) ?_)
  refine lv_icmp_le (tgt := 38) hx hb dX1_room_23 (by decide) (fun c_23_0 => ?_) (fun c_23_0 => absurd c_23_0 (by decide))
  refine lv_aload_n hx hb dX1_room_38 rfl (lv_at hl 0 rfl) ?_
  refine va_get (D := (dC, dI)) (ci := 0) (v := .int 0) (C := RX1) (T := TX1) (N := 4) hx hb hkw kin_X1 hown hK hP 0 rfl rfl 2 (by decide) (hkw _ m_6) (fun _ h9 => h9) rfl dX1_room_39 ?_
  refine lv_iload_n hx hb dX1_room_42 rfl (lv_at hl 1 rfl) ?_
  refine lv_iadd hx hb dX1_room_43 ?_
  refine lv_topi (nm_r (e' := 0) (by decide) ?_)
  refine lv_istore_n (lv' := [(2, .int 0), (0, .ref h0), (1, .int 0)]) hx hb dX1_room_44 rfl hl (by decide) rfl (fun ls hl => ?_)
  refine lv_iload_n hx hb dX1_room_45 rfl (lv_at hl 0 rfl) ?_
  refine lv_aload_n hx hb dX1_room_46 rfl (lv_at hl 1 rfl) ?_
  refine va_get (D := (dC, dI)) (ci := 0) (v := .ref h1) (C := RX1) (T := TX1) (N := 4) hx hb hkw kin_X1 hown hK hP 0 rfl rfl 1 (by decide) (hkw _ m_4) (fun _ h9 => h9) rfl dX1_room_47 ?_
  refine va_alen (v := 64) hx hb hK hP 1 0 rfl rfl rfl dX1_room_50 ?_
  refine lv_icmp_le (tgt := 83) hx hb dX1_room_51 (by decide) (fun c_51_0 => ?_) (fun c_51_0 => absurd c_51_0 (by decide))
  refine lv_iconst (v := 1) hx hb dX1_room_83 (by decide) ?_
  have hP9 := hP.sub (ws' := [(h0, .inr (0, [.int 131076, .ref h1, .int 0, .int 0])), (h1, .inl (kc, 64, .inl g0))]) [0, 1] rfl
  have hD9 := hD.sub (ws' := [(h0, .inr (0, [.int 131076, .ref h1, .int 0, .int 0])), (h1, .inl (kc, 64, .inl g0))]) [0, 1] (by decide) rfl
  have hK9 := hK.sub (tys' := [(kc, .byte)]) [0] rfl
  refine W.widen (k := 0) (n := 0) (Nat.le_of_ble_eq_true rfl) (Nat.le_of_ble_eq_true rfl) ?_
  exact W.zret (v := 1) (ty := .boolean) hx hb hr rfl (fun t ht hW => ⟨⟨1, (), rfl, rfl, by rw [ht]; exact hP9, va_K.moved hW.alike hK9, hD9⟩, hS.F ht⟩) hS.2.2 dX1_room_84

set_option maxHeartbeats 4000000 in
set_option maxRecDepth 100000 in
/-- four(n) at 0 -/
theorem c_By_four_0 (l : Launch) (dC : Nat → ClassId) (dI : Nat → Nat → Nat) (sz : Nat) (h0 : Nat) (h1 : Nat) (kc : ClassId) (g0 : Nat → Int32) (nv : Int32) : Met l yX1_four wX1_four ({ frames := 1, cells := 0, slots := 0, locals := 22 }) (va_Pc [.ref h0, .int nv] (pW (dC, dI) [(h0, .inr (0, [.int 65540, .ref h1, .int 0, .int 0])), (h1, .inl (kc, 64, .inl g0))] [(kc, .byte)] sz)) (va_Qv (fun (g9 : (Nat → Int32)) => True) (fun (g9 : (Nat → Int32)) (t : State) => bW (dC, dI) [(h0, .inr (0, [.int 65540, .ref h1, .int 4, .int 0])), (h1, .inl (kc, 64, .inl g9))] [(kc, .byte)] (va_A [(h0, .inr (0, [.int 65540, .ref h1, .int 0, .int 0])), (h1, .inl (kc, 64, .inl g0))] sz) t) (va_A [(h0, .inr (0, [.int 65540, .ref h1, .int 0, .int 0])), (h1, .inl (kc, 64, .inl g0))] sz)) 0 0 (va_A [(h0, .inr (0, [.int 65540, .ref h1, .int 0, .int 0])), (h1, .inl (kc, 64, .inl g0))] sz) := by
  refine Met.ofW (cc := cX1_four) (maxL := 3) (ret := none) (by decide) rfl ?_
  intro p e s m args below meth c s₁ B hml hv
  obtain ⟨rfl, hsz, hP, hK, hD0, hfx⟩ := hv
  have hx := B.exec
  have hb := B.bytes
  have hr := B.returns
  have hts := atoms_spec (ws := wX1_four) B.pre
  have hkw : ∀ w ∈ kw, w.before _ s = true := fun w h => hts w (List.mem_cons_of_mem _ h)
  have hown : s.vm.findClass RX1 = some m.cls := findClass_of_methodNamed B.named
  have hlocks := B.notSynchronized
  subst hsz
  have hD := hD0.self (sz := s.heap.size)
  generalize hAe : va_A [(h0, .inr (0, [.int 65540, .ref h1, .int 0, .int 0])), (h1, .inl (kc, 64, .inl g0))] s.heap.size = A at hD ⊢
  have hA : ∀ q : Nat, s.heap.size ≤ q → A q := fun q h => by rw [← hAe]; exact Or.inr h
  have hS : va_S A s.heap s.heap [] := va_S.rf
  have hP : va_P (dC, dI) classes [(h0, .inr (0, [.int 65540, .ref h1, .int 0, .int 0])), (h1, .inl (kc, 64, .inl g0))] s.heap := hP
  have hl := lv_entry ([.ref h0, .int nv]) (n := 3) (Nat.le_of_ble_eq_true rfl)
  rw [lg_entry_eq]
  generalize (lg_sl ([.ref h0, .int nv]) ++ List.replicate (3 - (lg_sl ([.ref h0, .int nv])).length) Slot.unset).toArray = ls at hl ⊢
  have hl : lv_has ls 3 [(0, .ref h0), (1, .int nv)] := hl
  refine lv_aload_n hx hb dX1_four_0 rfl (lv_at hl 0 rfl) ?_
  refine lv_iconst (v := 4) hx hb dX1_four_1 (by decide) ?_
  have hPc := hP.sub (ws' := [(h0, .inr (0, [.int 65540, .ref h1, .int 0, .int 0])), (h1, .inl (kc, 64, .inl g0))]) [0, 1] rfl
  have hDc := hD.sub (ws' := [(h0, .inr (0, [.int 65540, .ref h1, .int 0, .int 0])), (h1, .inl (kc, 64, .inl g0))]) [0, 1] (by decide) rfl
  have hKc := hK.sub (tys' := [(kc, .byte)]) [0] rfl
  have hFc := va_free (wc := [(h0, .inr (0, [.int 65540, .ref h1, .int 0, .int 0])), (h1, .inl (kc, 64, .inl g0))]) hD hS hA [0, 1] rfl
  refine va_calli (va_runV (As := [.int 4]) (rest := []) ⟨hx, hb, hml, hown, hkw⟩ (c_By_room_0 l dC dI s.heap.size h0 h1 kc g0) (callVv 1 hkw (kwI m_8) rfl rfl rfl (hkw _ m_9) (hkw _ m_10) (hkw _ m_11) (hkw _ m_12) (by decide +kernel) ⟨Nat.le_of_ble_eq_true rfl, Nat.le_of_ble_eq_true rfl⟩) ⟨fbW, va_recv hK hP (ci := 0) (q0 := 0) rfl rfl, pW_in hPc hKc hDc hfx⟩ rfl rfl hl.1 rfl (lv_room (Nat.le_of_ble_eq_true rfl)) dX1_four_2 ⟨Nat.le_of_ble_eq_true rfl, Nat.le_of_ble_eq_true rfl⟩) hS (fun q _ h => hFc q h) hFc (fun r1 u t H1 locs ht hvm hw hB hz1 hk1 hS => ?_)
  obtain ⟨hP1, hK1, hD1⟩ := hB
  rw [ht] at hP1
  have hK1 := va_K.moved hvm.symm hK1
  obtain ⟨hP, hD⟩ := va_join (wr := []) (w1 := [(h0, .inr (0, [.int 65540, .ref h1, .int 0, .int 0])), (h1, .inl (kc, 64, .inl g0))]) hP hD [0, 1] [] rfl rfl (by decide) (by decide) hk1 hFc hP1 hD1
  have hK := (hK.sub (tys' := []) [] rfl).app hK1
  generalize H1 = H at hP hS ⊢
  have hP : va_P (dC, dI) classes [(h0, .inr (0, [.int 65540, .ref h1, .int 0, .int 0])), (h1, .inl (kc, 64, .inl g0))] H := hP
  have hD : va_D A [(h0, .inr (0, [.int 65540, .ref h1, .int 0, .int 0])), (h1, .inl (kc, 64, .inl g0))] := hD
  have hK : va_K (dC, dI) classes [(kc, .byte)] s := hK
  have hw2 := hw
  try dsimp only at hw2
  subst hw2
  refine lv_if_eq (tgt := 52) hx hb dX1_four_5 (by decide) (fun c_5_0 => absurd c_5_0 (by decide)) (fun c_5_0 => ?_)
  refine lv_iconst (v := 0) hx hb dX1_four_8 (by decide) ?_
  refine lv_istore_n (lv' := [(2, .int 0), (0, .ref h0), (1, .int nv)]) hx hb dX1_four_9 rfl hl (by decide) rfl (fun ls hl => ?_)
  refine lv_iload_n hx hb dX1_four_10 rfl (lv_at hl 0 rfl) ?_
  refine lv_iconst (v := 4) hx hb dX1_four_11 (by decide) ?_
  refine lv_icmp_ge (tgt := 42) hx hb dX1_four_12 (by decide) (fun c_12_0 => absurd c_12_0 (by decide)) (fun c_12_0 => ?_)
  refine lv_aload_n hx hb dX1_four_15 rfl (lv_at hl 1 rfl) ?_
  refine va_get (D := (dC, dI)) (ci := 0) (v := .ref h1) (C := RX1) (T := TX1) (N := 4) hx hb hkw kin_X1 hown hK hP 0 rfl rfl 1 (by decide) (hkw _ m_4) (fun _ h9 => h9) rfl dX1_four_16 ?_
  refine lv_aload_n hx hb dX1_four_19 rfl (lv_at hl 1 rfl) ?_
  refine va_get (D := (dC, dI)) (ci := 0) (v := .int 0) (C := RX1) (T := TX1) (N := 4) hx hb hkw kin_X1 hown hK hP 0 rfl rfl 2 (by decide) (hkw _ m_6) (fun _ h9 => h9) rfl dX1_four_20 ?_
  refine lv_iload_n hx hb dX1_four_23 rfl (lv_at hl 0 rfl) ?_
  refine lv_iadd hx hb dX1_four_24 ?_
  refine lv_topi (nm_r (e' := 0) (by decide) ?_)
  refine lv_iload_n hx hb dX1_four_25 rfl (lv_at hl 2 rfl) ?_
  refine lv_bipush (v := 24) hx hb dX1_four_26 (by decide) ?_
  refine lv_bipush (v := 8) hx hb dX1_four_28 (by decide) ?_
  refine lv_iload_n hx hb dX1_four_30 rfl (lv_at hl 0 rfl) ?_
  refine lv_imul hx hb dX1_four_31 ?_
  refine lv_topi (nm_r (e' := 0) (by decide) ?_)
  refine lv_isub hx hb dX1_four_32 ?_
  refine lv_topi (nm_r (e' := 24) (by decide) ?_)
  refine lv_ishr hx hb dX1_four_33 ?_
  refine lv_topi (fun x3 ex3 => ?_)
  obtain ⟨x4, ex4⟩ : ∃ y : Int32, (x3 : Int32).toInt8.toInt32 = y := ⟨_, rfl⟩
  refine lv_i2b hx hb dX1_four_34 ex4 ?_
  refine va_bast hx hb hK hP hD hS 1 0 rfl rfl (by unfold vp_in; decide) dX1_four_35 (fun H locs hP hD hS => ?_)
  obtain ⟨f5, ef5⟩ : ∃ y : Nat → Int32, y = upd g0 (0 : Int32).toNatClampNeg (vp_nar .byte x4) := ⟨_, rfl⟩
  rw [← ef5] at hP hD
  have hP : va_P (dC, dI) classes [(h0, .inr (0, [.int 65540, .ref h1, .int 0, .int 0])), (h1, .inl (kc, 64, .inl f5))] H := hP
  have hD : va_D A [(h0, .inr (0, [.int 65540, .ref h1, .int 0, .int 0])), (h1, .inl (kc, 64, .inl f5))] := hD
  refine lv_iinc (v := 1) (lv' := [(2, .int 1), (0, .ref h0), (1, .int nv)]) hx hb dX1_four_36 hl (k := 0) rfl (by decide) (by decide) rfl (fun ls hl => ?_)
  refine lv_goto (tgt := 10) hx hb dX1_four_39 (by decide) ?_
  refine lv_iload_n hx hb dX1_four_10 rfl (lv_at hl 0 rfl) ?_
  refine lv_iconst (v := 4) hx hb dX1_four_11 (by decide) ?_
  refine lv_icmp_ge (tgt := 42) hx hb dX1_four_12 (by decide) (fun c_12_1 => absurd c_12_1 (by decide)) (fun c_12_1 => ?_)
  refine lv_aload_n hx hb dX1_four_15 rfl (lv_at hl 1 rfl) ?_
  refine va_get (D := (dC, dI)) (ci := 0) (v := .ref h1) (C := RX1) (T := TX1) (N := 4) hx hb hkw kin_X1 hown hK hP 0 rfl rfl 1 (by decide) (hkw _ m_4) (fun _ h9 => h9) rfl dX1_four_16 ?_
  refine lv_aload_n hx hb dX1_four_19 rfl (lv_at hl 1 rfl) ?_
  refine va_get (D := (dC, dI)) (ci := 0) (v := .int 0) (C := RX1) (T := TX1) (N := 4) hx hb hkw kin_X1 hown hK hP 0 rfl rfl 2 (by decide) (hkw _ m_6) (fun _ h9 => h9) rfl dX1_four_20 ?_
  refine lv_iload_n hx hb dX1_four_23 rfl (lv_at hl 0 rfl) ?_
  refine lv_iadd hx hb dX1_four_24 ?_
  refine lv_topi (nm_r (e' := 1) (by decide) ?_)
  refine lv_iload_n hx hb dX1_four_25 rfl (lv_at hl 2 rfl) ?_
  refine lv_bipush (v := 24) hx hb dX1_four_26 (by decide) ?_
  refine lv_bipush (v := 8) hx hb dX1_four_28 (by decide) ?_
  refine lv_iload_n hx hb dX1_four_30 rfl (lv_at hl 0 rfl) ?_
  refine lv_imul hx hb dX1_four_31 ?_
  refine lv_topi (nm_r (e' := 8) (by decide) ?_)
  refine lv_isub hx hb dX1_four_32 ?_
  refine lv_topi (nm_r (e' := 16) (by decide) ?_)
  refine lv_ishr hx hb dX1_four_33 ?_
  refine lv_topi (fun x6 ex6 => ?_)
  obtain ⟨x7, ex7⟩ : ∃ y : Int32, (x6 : Int32).toInt8.toInt32 = y := ⟨_, rfl⟩
  refine lv_i2b hx hb dX1_four_34 ex7 ?_
  refine va_bast hx hb hK hP hD hS 1 0 rfl rfl (by unfold vp_in; decide) dX1_four_35 (fun H locs hP hD hS => ?_)
  obtain ⟨f8, ef8⟩ : ∃ y : Nat → Int32, y = upd f5 (1 : Int32).toNatClampNeg (vp_nar .byte x7) := ⟨_, rfl⟩
  rw [← ef8] at hP hD
  have hP : va_P (dC, dI) classes [(h0, .inr (0, [.int 65540, .ref h1, .int 0, .int 0])), (h1, .inl (kc, 64, .inl f8))] H := hP
  have hD : va_D A [(h0, .inr (0, [.int 65540, .ref h1, .int 0, .int 0])), (h1, .inl (kc, 64, .inl f8))] := hD
  refine lv_iinc (v := 2) (lv' := [(2, .int 2), (0, .ref h0), (1, .int nv)]) hx hb dX1_four_36 hl (k := 0) rfl (by decide) (by decide) rfl (fun ls hl => ?_)
  refine lv_goto (tgt := 10) hx hb dX1_four_39 (by decide) ?_
  refine lv_iload_n hx hb dX1_four_10 rfl (lv_at hl 0 rfl) ?_
  refine lv_iconst (v := 4) hx hb dX1_four_11 (by decide) ?_
  refine lv_icmp_ge (tgt := 42) hx hb dX1_four_12 (by decide) (fun c_12_2 => absurd c_12_2 (by decide)) (fun c_12_2 => ?_)
  refine lv_aload_n hx hb dX1_four_15 rfl (lv_at hl 1 rfl) ?_
  refine va_get (D := (dC, dI)) (ci := 0) (v := .ref h1) (C := RX1) (T := TX1) (N := 4) hx hb hkw kin_X1 hown hK hP 0 rfl rfl 1 (by decide) (hkw _ m_4) (fun _ h9 => h9) rfl dX1_four_16 ?_
  refine lv_aload_n hx hb dX1_four_19 rfl (lv_at hl 1 rfl) ?_
  refine va_get (D := (dC, dI)) (ci := 0) (v := .int 0) (C := RX1) (T := TX1) (N := 4) hx hb hkw kin_X1 hown hK hP 0 rfl rfl 2 (by decide) (hkw _ m_6) (fun _ h9 => h9) rfl dX1_four_20 ?_
  refine lv_iload_n hx hb dX1_four_23 rfl (lv_at hl 0 rfl) ?_
  refine lv_iadd hx hb dX1_four_24 ?_
  refine lv_topi (nm_r (e' := 2) (by decide) ?_)
  refine lv_iload_n hx hb dX1_four_25 rfl (lv_at hl 2 rfl) ?_
  refine lv_bipush (v := 24) hx hb dX1_four_26 (by decide) ?_
  refine lv_bipush (v := 8) hx hb dX1_four_28 (by decide) ?_
  refine lv_iload_n hx hb dX1_four_30 rfl (lv_at hl 0 rfl) ?_
  refine lv_imul hx hb dX1_four_31 ?_
  refine lv_topi (nm_r (e' := 16) (by decide) ?_)
  refine lv_isub hx hb dX1_four_32 ?_
  refine lv_topi (nm_r (e' := 8) (by decide) ?_)
  refine lv_ishr hx hb dX1_four_33 ?_
  refine lv_topi (fun x9 ex9 => ?_)
  obtain ⟨x10, ex10⟩ : ∃ y : Int32, (x9 : Int32).toInt8.toInt32 = y := ⟨_, rfl⟩
  refine lv_i2b hx hb dX1_four_34 ex10 ?_
  refine va_bast hx hb hK hP hD hS 1 0 rfl rfl (by unfold vp_in; decide) dX1_four_35 (fun H locs hP hD hS => ?_)
  obtain ⟨f11, ef11⟩ : ∃ y : Nat → Int32, y = upd f8 (2 : Int32).toNatClampNeg (vp_nar .byte x10) := ⟨_, rfl⟩
  rw [← ef11] at hP hD
  have hP : va_P (dC, dI) classes [(h0, .inr (0, [.int 65540, .ref h1, .int 0, .int 0])), (h1, .inl (kc, 64, .inl f11))] H := hP
  have hD : va_D A [(h0, .inr (0, [.int 65540, .ref h1, .int 0, .int 0])), (h1, .inl (kc, 64, .inl f11))] := hD
  refine lv_iinc (v := 3) (lv' := [(2, .int 3), (0, .ref h0), (1, .int nv)]) hx hb dX1_four_36 hl (k := 0) rfl (by decide) (by decide) rfl (fun ls hl => ?_)
  refine lv_goto (tgt := 10) hx hb dX1_four_39 (by decide) ?_
  refine lv_iload_n hx hb dX1_four_10 rfl (lv_at hl 0 rfl) ?_
  refine lv_iconst (v := 4) hx hb dX1_four_11 (by decide) ?_
  refine lv_icmp_ge (tgt := 42) hx hb dX1_four_12 (by decide) (fun c_12_3 => absurd c_12_3 (by decide)) (fun c_12_3 => ?_)
  refine lv_aload_n hx hb dX1_four_15 rfl (lv_at hl 1 rfl) ?_
  refine va_get (D := (dC, dI)) (ci := 0) (v := .ref h1) (C := RX1) (T := TX1) (N := 4) hx hb hkw kin_X1 hown hK hP 0 rfl rfl 1 (by decide) (hkw _ m_4) (fun _ h9 => h9) rfl dX1_four_16 ?_
  refine lv_aload_n hx hb dX1_four_19 rfl (lv_at hl 1 rfl) ?_
  refine va_get (D := (dC, dI)) (ci := 0) (v := .int 0) (C := RX1) (T := TX1) (N := 4) hx hb hkw kin_X1 hown hK hP 0 rfl rfl 2 (by decide) (hkw _ m_6) (fun _ h9 => h9) rfl dX1_four_20 ?_
  refine lv_iload_n hx hb dX1_four_23 rfl (lv_at hl 0 rfl) ?_
  refine lv_iadd hx hb dX1_four_24 ?_
  refine lv_topi (nm_r (e' := 3) (by decide) ?_)
  refine lv_iload_n hx hb dX1_four_25 rfl (lv_at hl 2 rfl) ?_
  refine lv_bipush (v := 24) hx hb dX1_four_26 (by decide) ?_
  refine lv_bipush (v := 8) hx hb dX1_four_28 (by decide) ?_
  refine lv_iload_n hx hb dX1_four_30 rfl (lv_at hl 0 rfl) ?_
  refine lv_imul hx hb dX1_four_31 ?_
  refine lv_topi (nm_r (e' := 24) (by decide) ?_)
  refine lv_isub hx hb dX1_four_32 ?_
  refine lv_topi (nm_r (e' := 0) (by decide) ?_)
  refine lv_ishr hx hb dX1_four_33 ?_
  refine lv_topi (fun x12 ex12 => ?_)
  obtain ⟨x13, ex13⟩ : ∃ y : Int32, (x12 : Int32).toInt8.toInt32 = y := ⟨_, rfl⟩
  refine lv_i2b hx hb dX1_four_34 ex13 ?_
  refine va_bast hx hb hK hP hD hS 1 0 rfl rfl (by unfold vp_in; decide) dX1_four_35 (fun H locs hP hD hS => ?_)
  obtain ⟨f14, ef14⟩ : ∃ y : Nat → Int32, y = upd f11 (3 : Int32).toNatClampNeg (vp_nar .byte x13) := ⟨_, rfl⟩
  rw [← ef14] at hP hD
  have hP : va_P (dC, dI) classes [(h0, .inr (0, [.int 65540, .ref h1, .int 0, .int 0])), (h1, .inl (kc, 64, .inl f14))] H := hP
  have hD : va_D A [(h0, .inr (0, [.int 65540, .ref h1, .int 0, .int 0])), (h1, .inl (kc, 64, .inl f14))] := hD
  refine lv_iinc (v := 4) (lv' := [(2, .int 4), (0, .ref h0), (1, .int nv)]) hx hb dX1_four_36 hl (k := 0) rfl (by decide) (by decide) rfl (fun ls hl => ?_)
  refine lv_goto (tgt := 10) hx hb dX1_four_39 (by decide) ?_
  refine lv_iload_n hx hb dX1_four_10 rfl (lv_at hl 0 rfl) ?_
  refine lv_iconst (v := 4) hx hb dX1_four_11 (by decide) ?_
  refine lv_icmp_ge (tgt := 42) hx hb dX1_four_12 (by decide) (fun c_12_4 => ?_) (fun c_12_4 => absurd c_12_4 (by decide))
  refine lv_aload_n hx hb dX1_four_42 rfl (lv_at hl 1 rfl) ?_
  refine lv_dup hx hb dX1_four_43 rfl ?_
  refine va_get (D := (dC, dI)) (ci := 0) (v := .int 0) (C := RX1) (T := TX1) (N := 4) hx hb hkw kin_X1 hown hK hP 0 rfl rfl 2 (by decide) (hkw _ m_6) (fun _ h9 => h9) rfl dX1_four_44 ?_
  refine lv_iconst (v := 4) hx hb dX1_four_47 (by decide) ?_
  refine lv_iadd hx hb dX1_four_48 ?_
  refine lv_topi (nm_r (e' := 4) (by decide) ?_)
  refine va_put (D := (dC, dI)) (ci := 0) (v := .int 4) (ty := .int) (C := RX1) (T := TX1) (N := 4) hx hb hkw kin_X1 tyX1 tyX1_ok nmX1 hown hK hP hD hS 0 rfl rfl 2 (by decide) (hkw _ m_6) (fun _ h9 => h9) rfl (by decide +kernel) rfl rfl (Nat.le_of_ble_eq_true rfl) dX1_four_49 (fun H locs hP hD hS => ?_)
  have hP : va_P (dC, dI) classes [(h0, .inr (0, [.int 65540, .ref h1, .int 4, .int 0])), (h1, .inl (kc, 64, .inl f14))] H := hP
  have hD : va_D A [(h0, .inr (0, [.int 65540, .ref h1, .int 4, .int 0])), (h1, .inl (kc, 64, .inl f14))] := hD
  have hP9 := hP.sub (ws' := [(h0, .inr (0, [.int 65540, .ref h1, .int 4, .int 0])), (h1, .inl (kc, 64, .inl f14))]) [0, 1] rfl
  have hD9 := hD.sub (ws' := [(h0, .inr (0, [.int 65540, .ref h1, .int 4, .int 0])), (h1, .inl (kc, 64, .inl f14))]) [0, 1] (by decide) rfl
  have hK9 := hK.sub (tys' := [(kc, .byte)]) [0] rfl
  refine W.widen (k := 0) (n := 0) (Nat.le_of_ble_eq_true rfl) (Nat.le_of_ble_eq_true rfl) ?_
  exact W.vret hx hb hr (fun t ht hW => ⟨⟨(f14), rfl, trivial, by rw [ht]; exact hP9, va_K.moved hW.alike hK9, hD9⟩, hS.F ht⟩) hS.2.2 dX1_four_52

set_option maxHeartbeats 4000000 in
set_option maxRecDepth 100000 in
/-- four(n) at 4 -/
theorem c_By_four_4 (l : Launch) (dC : Nat → ClassId) (dI : Nat → Nat → Nat) (sz : Nat) (h0 : Nat) (h1 : Nat) (kc : ClassId) (g0 : Nat → Int32) (nv : Int32) : Met l yX1_four wX1_four ({ frames := 1, cells := 0, slots := 0, locals := 22 }) (va_Pc [.ref h0, .int nv] (pW (dC, dI) [(h0, .inr (0, [.int 65540, .ref h1, .int 4, .int 0])), (h1, .inl (kc, 64, .inl g0))] [(kc, .byte)] sz)) (va_Qv (fun (g9 : (Nat → Int32)) => True) (fun (g9 : (Nat → Int32)) (t : State) => bW (dC, dI) [(h0, .inr (0, [.int 65540, .ref h1, .int 8, .int 0])), (h1, .inl (kc, 64, .inl g9))] [(kc, .byte)] (va_A [(h0, .inr (0, [.int 65540, .ref h1, .int 4, .int 0])), (h1, .inl (kc, 64, .inl g0))] sz) t) (va_A [(h0, .inr (0, [.int 65540, .ref h1, .int 4, .int 0])), (h1, .inl (kc, 64, .inl g0))] sz)) 0 0 (va_A [(h0, .inr (0, [.int 65540, .ref h1, .int 4, .int 0])), (h1, .inl (kc, 64, .inl g0))] sz) := by
  refine Met.ofW (cc := cX1_four) (maxL := 3) (ret := none) (by decide) rfl ?_
  intro p e s m args below meth c s₁ B hml hv
  obtain ⟨rfl, hsz, hP, hK, hD0, hfx⟩ := hv
  have hx := B.exec
  have hb := B.bytes
  have hr := B.returns
  have hts := atoms_spec (ws := wX1_four) B.pre
  have hkw : ∀ w ∈ kw, w.before _ s = true := fun w h => hts w (List.mem_cons_of_mem _ h)
  have hown : s.vm.findClass RX1 = some m.cls := findClass_of_methodNamed B.named
  have hlocks := B.notSynchronized
  subst hsz
  have hD := hD0.self (sz := s.heap.size)
  generalize hAe : va_A [(h0, .inr (0, [.int 65540, .ref h1, .int 4, .int 0])), (h1, .inl (kc, 64, .inl g0))] s.heap.size = A at hD ⊢
  have hA : ∀ q : Nat, s.heap.size ≤ q → A q := fun q h => by rw [← hAe]; exact Or.inr h
  have hS : va_S A s.heap s.heap [] := va_S.rf
  have hP : va_P (dC, dI) classes [(h0, .inr (0, [.int 65540, .ref h1, .int 4, .int 0])), (h1, .inl (kc, 64, .inl g0))] s.heap := hP
  have hl := lv_entry ([.ref h0, .int nv]) (n := 3) (Nat.le_of_ble_eq_true rfl)
  rw [lg_entry_eq]
  generalize (lg_sl ([.ref h0, .int nv]) ++ List.replicate (3 - (lg_sl ([.ref h0, .int nv])).length) Slot.unset).toArray = ls at hl ⊢
  have hl : lv_has ls 3 [(0, .ref h0), (1, .int nv)] := hl
  refine lv_aload_n hx hb dX1_four_0 rfl (lv_at hl 0 rfl) ?_
  refine lv_iconst (v := 4) hx hb dX1_four_1 (by decide) ?_
  have hPc := hP.sub (ws' := [(h0, .inr (0, [.int 65540, .ref h1, .int 4, .int 0])), (h1, .inl (kc, 64, .inl g0))]) [0, 1] rfl
  have hDc := hD.sub (ws' := [(h0, .inr (0, [.int 65540, .ref h1, .int 4, .int 0])), (h1, .inl (kc, 64, .inl g0))]) [0, 1] (by decide) rfl
  have hKc := hK.sub (tys' := [(kc, .byte)]) [0] rfl
  have hFc := va_free (wc := [(h0, .inr (0, [.int 65540, .ref h1, .int 4, .int 0])), (h1, .inl (kc, 64, .inl g0))]) hD hS hA [0, 1] rfl
  refine va_calli (va_runV (As := [.int 4]) (rest := []) ⟨hx, hb, hml, hown, hkw⟩ (c_By_room_4 l dC dI s.heap.size h0 h1 kc g0) (callVv 1 hkw (kwI m_8) rfl rfl rfl (hkw _ m_9) (hkw _ m_10) (hkw _ m_11) (hkw _ m_12) (by decide +kernel) ⟨Nat.le_of_ble_eq_true rfl, Nat.le_of_ble_eq_true rfl⟩) ⟨fbW, va_recv hK hP (ci := 0) (q0 := 0) rfl rfl, pW_in hPc hKc hDc hfx⟩ rfl rfl hl.1 rfl (lv_room (Nat.le_of_ble_eq_true rfl)) dX1_four_2 ⟨Nat.le_of_ble_eq_true rfl, Nat.le_of_ble_eq_true rfl⟩) hS (fun q _ h => hFc q h) hFc (fun r1 u t H1 locs ht hvm hw hB hz1 hk1 hS => ?_)
  obtain ⟨hP1, hK1, hD1⟩ := hB
  rw [ht] at hP1
  have hK1 := va_K.moved hvm.symm hK1
  obtain ⟨hP, hD⟩ := va_join (wr := []) (w1 := [(h0, .inr (0, [.int 65540, .ref h1, .int 4, .int 0])), (h1, .inl (kc, 64, .inl g0))]) hP hD [0, 1] [] rfl rfl (by decide) (by decide) hk1 hFc hP1 hD1
  have hK := (hK.sub (tys' := []) [] rfl).app hK1
  generalize H1 = H at hP hS ⊢
  have hP : va_P (dC, dI) classes [(h0, .inr (0, [.int 65540, .ref h1, .int 4, .int 0])), (h1, .inl (kc, 64, .inl g0))] H := hP
  have hD : va_D A [(h0, .inr (0, [.int 65540, .ref h1, .int 4, .int 0])), (h1, .inl (kc, 64, .inl g0))] := hD
  have hK : va_K (dC, dI) classes [(kc, .byte)] s := hK
  have hw2 := hw
  try dsimp only at hw2
  subst hw2
  refine lv_if_eq (tgt := 52) hx hb dX1_four_5 (by decide) (fun c_5_0 => absurd c_5_0 (by decide)) (fun c_5_0 => ?_)
  refine lv_iconst (v := 0) hx hb dX1_four_8 (by decide) ?_
  refine lv_istore_n (lv' := [(2, .int 0), (0, .ref h0), (1, .int nv)]) hx hb dX1_four_9 rfl hl (by decide) rfl (fun ls hl => ?_)
  refine lv_iload_n hx hb dX1_four_10 rfl (lv_at hl 0 rfl) ?_
  refine lv_iconst (v := 4) hx hb dX1_four_11 (by decide) ?_
  refine lv_icmp_ge (tgt := 42) hx hb dX1_four_12 (by decide) (fun c_12_0 => absurd c_12_0 (by decide)) (fun c_12_0 => ?_)
  refine lv_aload_n hx hb dX1_four_15 rfl (lv_at hl 1 rfl) ?_
  refine va_get (D := (dC, dI)) (ci := 0) (v := .ref h1) (C := RX1) (T := TX1) (N := 4) hx hb hkw kin_X1 hown hK hP 0 rfl rfl 1 (by decide) (hkw _ m_4) (fun _ h9 => h9) rfl dX1_four_16 ?_
  refine lv_aload_n hx hb dX1_four_19 rfl (lv_at hl 1 rfl) ?_
  refine va_get (D := (dC, dI)) (ci := 0) (v := .int 4) (C := RX1) (T := TX1) (N := 4) hx hb hkw kin_X1 hown hK hP 0 rfl rfl 2 (by decide) (hkw _ m_6) (fun _ h9 => h9) rfl dX1_four_20 ?_
  refine lv_iload_n hx hb dX1_four_23 rfl (lv_at hl 0 rfl) ?_
  refine lv_iadd hx hb dX1_four_24 ?_
  refine lv_topi (nm_r (e' := 4) (by decide) ?_)
  refine lv_iload_n hx hb dX1_four_25 rfl (lv_at hl 2 rfl) ?_
  refine lv_bipush (v := 24) hx hb dX1_four_26 (by decide) ?_
  refine lv_bipush (v := 8) hx hb dX1_four_28 (by decide) ?_
  refine lv_iload_n hx hb dX1_four_30 rfl (lv_at hl 0 rfl) ?_
  refine lv_imul hx hb dX1_four_31 ?_
  refine lv_topi (nm_r (e' := 0) (by decide) ?_)
  refine lv_isub hx hb dX1_four_32 ?_
  refine lv_topi (nm_r (e' := 24) (by decide) ?_)
  refine lv_ishr hx hb dX1_four_33 ?_
  refine lv_topi (fun x3 ex3 => ?_)
  obtain ⟨x4, ex4⟩ : ∃ y : Int32, (x3 : Int32).toInt8.toInt32 = y := ⟨_, rfl⟩
  refine lv_i2b hx hb dX1_four_34 ex4 ?_
  refine va_bast hx hb hK hP hD hS 1 0 rfl rfl (by unfold vp_in; decide) dX1_four_35 (fun H locs hP hD hS => ?_)
  obtain ⟨f5, ef5⟩ : ∃ y : Nat → Int32, y = upd g0 (4 : Int32).toNatClampNeg (vp_nar .byte x4) := ⟨_, rfl⟩
  rw [← ef5] at hP hD
  have hP : va_P (dC, dI) classes [(h0, .inr (0, [.int 65540, .ref h1, .int 4, .int 0])), (h1, .inl (kc, 64, .inl f5))] H := hP
  have hD : va_D A [(h0, .inr (0, [.int 65540, .ref h1, .int 4, .int 0])), (h1, .inl (kc, 64, .inl f5))] := hD
  refine lv_iinc (v := 1) (lv' := [(2, .int 1), (0, .ref h0), (1, .int nv)]) hx hb dX1_four_36 hl (k := 0) rfl (by decide) (by decide) rfl (fun ls hl => ?_)
  refine lv_goto (tgt := 10) hx hb dX1_four_39 (by decide) ?_
  refine lv_iload_n hx hb dX1_four_10 rfl (lv_at hl 0 rfl) ?_
  refine lv_iconst (v := 4) hx hb dX1_four_11 (by decide) ?_
  refine lv_icmp_ge (tgt := 42) hx hb dX1_four_12 (by decide) (fun c_12_1 => absurd c_12_1 (by decide)) (fun c_12_1 => ?_)
  refine lv_aload_n hx hb dX1_four_15 rfl (lv_at hl 1 rfl) ?_
  refine va_get (D := (dC, dI)) (ci := 0) (v := .ref h1) (C := RX1) (T := TX1) (N := 4) hx hb hkw kin_X1 hown hK hP 0 rfl rfl 1 (by decide) (hkw _ m_4) (fun _ h9 => h9) rfl dX1_four_16 ?_
  refine lv_aload_n hx hb dX1_four_19 rfl (lv_at hl 1 rfl) ?_
  refine va_get (D := (dC, dI)) (ci := 0) (v := .int 4) (C := RX1) (T := TX1) (N := 4) hx hb hkw kin_X1 hown hK hP 0 rfl rfl 2 (by decide) (hkw _ m_6) (fun _ h9 => h9) rfl dX1_four_20 ?_
  refine lv_iload_n hx hb dX1_four_23 rfl (lv_at hl 0 rfl) ?_
  refine lv_iadd hx hb dX1_four_24 ?_
  refine lv_topi (nm_r (e' := 5) (by decide) ?_)
  refine lv_iload_n hx hb dX1_four_25 rfl (lv_at hl 2 rfl) ?_
  refine lv_bipush (v := 24) hx hb dX1_four_26 (by decide) ?_
  refine lv_bipush (v := 8) hx hb dX1_four_28 (by decide) ?_
  refine lv_iload_n hx hb dX1_four_30 rfl (lv_at hl 0 rfl) ?_
  refine lv_imul hx hb dX1_four_31 ?_
  refine lv_topi (nm_r (e' := 8) (by decide) ?_)
  refine lv_isub hx hb dX1_four_32 ?_
  refine lv_topi (nm_r (e' := 16) (by decide) ?_)
  refine lv_ishr hx hb dX1_four_33 ?_
  refine lv_topi (fun x6 ex6 => ?_)
  obtain ⟨x7, ex7⟩ : ∃ y : Int32, (x6 : Int32).toInt8.toInt32 = y := ⟨_, rfl⟩
  refine lv_i2b hx hb dX1_four_34 ex7 ?_
  refine va_bast hx hb hK hP hD hS 1 0 rfl rfl (by unfold vp_in; decide) dX1_four_35 (fun H locs hP hD hS => ?_)
  obtain ⟨f8, ef8⟩ : ∃ y : Nat → Int32, y = upd f5 (5 : Int32).toNatClampNeg (vp_nar .byte x7) := ⟨_, rfl⟩
  rw [← ef8] at hP hD
  have hP : va_P (dC, dI) classes [(h0, .inr (0, [.int 65540, .ref h1, .int 4, .int 0])), (h1, .inl (kc, 64, .inl f8))] H := hP
  have hD : va_D A [(h0, .inr (0, [.int 65540, .ref h1, .int 4, .int 0])), (h1, .inl (kc, 64, .inl f8))] := hD
  refine lv_iinc (v := 2) (lv' := [(2, .int 2), (0, .ref h0), (1, .int nv)]) hx hb dX1_four_36 hl (k := 0) rfl (by decide) (by decide) rfl (fun ls hl => ?_)
  refine lv_goto (tgt := 10) hx hb dX1_four_39 (by decide) ?_
  refine lv_iload_n hx hb dX1_four_10 rfl (lv_at hl 0 rfl) ?_
  refine lv_iconst (v := 4) hx hb dX1_four_11 (by decide) ?_
  refine lv_icmp_ge (tgt := 42) hx hb dX1_four_12 (by decide) (fun c_12_2 => absurd c_12_2 (by decide)) (fun c_12_2 => ?_)
  refine lv_aload_n hx hb dX1_four_15 rfl (lv_at hl 1 rfl) ?_
  refine va_get (D := (dC, dI)) (ci := 0) (v := .ref h1) (C := RX1) (T := TX1) (N := 4) hx hb hkw kin_X1 hown hK hP 0 rfl rfl 1 (by decide) (hkw _ m_4) (fun _ h9 => h9) rfl dX1_four_16 ?_
  refine lv_aload_n hx hb dX1_four_19 rfl (lv_at hl 1 rfl) ?_
  refine va_get (D := (dC, dI)) (ci := 0) (v := .int 4) (C := RX1) (T := TX1) (N := 4) hx hb hkw kin_X1 hown hK hP 0 rfl rfl 2 (by decide) (hkw _ m_6) (fun _ h9 => h9) rfl dX1_four_20 ?_
  refine lv_iload_n hx hb dX1_four_23 rfl (lv_at hl 0 rfl) ?_
  refine lv_iadd hx hb dX1_four_24 ?_
  refine lv_topi (nm_r (e' := 6) (by decide) ?_)
  refine lv_iload_n hx hb dX1_four_25 rfl (lv_at hl 2 rfl) ?_
  refine lv_bipush (v := 24) hx hb dX1_four_26 (by decide) ?_
  refine lv_bipush (v := 8) hx hb dX1_four_28 (by decide) ?_
  refine lv_iload_n hx hb dX1_four_30 rfl (lv_at hl 0 rfl) ?_
  refine lv_imul hx hb dX1_four_31 ?_
  refine lv_topi (nm_r (e' := 16) (by decide) ?_)
  refine lv_isub hx hb dX1_four_32 ?_
  refine lv_topi (nm_r (e' := 8) (by decide) ?_)
  refine lv_ishr hx hb dX1_four_33 ?_
  refine lv_topi (fun x9 ex9 => ?_)
  obtain ⟨x10, ex10⟩ : ∃ y : Int32, (x9 : Int32).toInt8.toInt32 = y := ⟨_, rfl⟩
  refine lv_i2b hx hb dX1_four_34 ex10 ?_
  refine va_bast hx hb hK hP hD hS 1 0 rfl rfl (by unfold vp_in; decide) dX1_four_35 (fun H locs hP hD hS => ?_)
  obtain ⟨f11, ef11⟩ : ∃ y : Nat → Int32, y = upd f8 (6 : Int32).toNatClampNeg (vp_nar .byte x10) := ⟨_, rfl⟩
  rw [← ef11] at hP hD
  have hP : va_P (dC, dI) classes [(h0, .inr (0, [.int 65540, .ref h1, .int 4, .int 0])), (h1, .inl (kc, 64, .inl f11))] H := hP
  have hD : va_D A [(h0, .inr (0, [.int 65540, .ref h1, .int 4, .int 0])), (h1, .inl (kc, 64, .inl f11))] := hD
  refine lv_iinc (v := 3) (lv' := [(2, .int 3), (0, .ref h0), (1, .int nv)]) hx hb dX1_four_36 hl (k := 0) rfl (by decide) (by decide) rfl (fun ls hl => ?_)
  refine lv_goto (tgt := 10) hx hb dX1_four_39 (by decide) ?_
  refine lv_iload_n hx hb dX1_four_10 rfl (lv_at hl 0 rfl) ?_
  refine lv_iconst (v := 4) hx hb dX1_four_11 (by decide) ?_
  refine lv_icmp_ge (tgt := 42) hx hb dX1_four_12 (by decide) (fun c_12_3 => absurd c_12_3 (by decide)) (fun c_12_3 => ?_)
  refine lv_aload_n hx hb dX1_four_15 rfl (lv_at hl 1 rfl) ?_
  refine va_get (D := (dC, dI)) (ci := 0) (v := .ref h1) (C := RX1) (T := TX1) (N := 4) hx hb hkw kin_X1 hown hK hP 0 rfl rfl 1 (by decide) (hkw _ m_4) (fun _ h9 => h9) rfl dX1_four_16 ?_
  refine lv_aload_n hx hb dX1_four_19 rfl (lv_at hl 1 rfl) ?_
  refine va_get (D := (dC, dI)) (ci := 0) (v := .int 4) (C := RX1) (T := TX1) (N := 4) hx hb hkw kin_X1 hown hK hP 0 rfl rfl 2 (by decide) (hkw _ m_6) (fun _ h9 => h9) rfl dX1_four_20 ?_
  refine lv_iload_n hx hb dX1_four_23 rfl (lv_at hl 0 rfl) ?_
  refine lv_iadd hx hb dX1_four_24 ?_
  refine lv_topi (nm_r (e' := 7) (by decide) ?_)
  refine lv_iload_n hx hb dX1_four_25 rfl (lv_at hl 2 rfl) ?_
  refine lv_bipush (v := 24) hx hb dX1_four_26 (by decide) ?_
  refine lv_bipush (v := 8) hx hb dX1_four_28 (by decide) ?_
  refine lv_iload_n hx hb dX1_four_30 rfl (lv_at hl 0 rfl) ?_
  refine lv_imul hx hb dX1_four_31 ?_
  refine lv_topi (nm_r (e' := 24) (by decide) ?_)
  refine lv_isub hx hb dX1_four_32 ?_
  refine lv_topi (nm_r (e' := 0) (by decide) ?_)
  refine lv_ishr hx hb dX1_four_33 ?_
  refine lv_topi (fun x12 ex12 => ?_)
  obtain ⟨x13, ex13⟩ : ∃ y : Int32, (x12 : Int32).toInt8.toInt32 = y := ⟨_, rfl⟩
  refine lv_i2b hx hb dX1_four_34 ex13 ?_
  refine va_bast hx hb hK hP hD hS 1 0 rfl rfl (by unfold vp_in; decide) dX1_four_35 (fun H locs hP hD hS => ?_)
  obtain ⟨f14, ef14⟩ : ∃ y : Nat → Int32, y = upd f11 (7 : Int32).toNatClampNeg (vp_nar .byte x13) := ⟨_, rfl⟩
  rw [← ef14] at hP hD
  have hP : va_P (dC, dI) classes [(h0, .inr (0, [.int 65540, .ref h1, .int 4, .int 0])), (h1, .inl (kc, 64, .inl f14))] H := hP
  have hD : va_D A [(h0, .inr (0, [.int 65540, .ref h1, .int 4, .int 0])), (h1, .inl (kc, 64, .inl f14))] := hD
  refine lv_iinc (v := 4) (lv' := [(2, .int 4), (0, .ref h0), (1, .int nv)]) hx hb dX1_four_36 hl (k := 0) rfl (by decide) (by decide) rfl (fun ls hl => ?_)
  refine lv_goto (tgt := 10) hx hb dX1_four_39 (by decide) ?_
  refine lv_iload_n hx hb dX1_four_10 rfl (lv_at hl 0 rfl) ?_
  refine lv_iconst (v := 4) hx hb dX1_four_11 (by decide) ?_
  refine lv_icmp_ge (tgt := 42) hx hb dX1_four_12 (by decide) (fun c_12_4 => ?_) (fun c_12_4 => absurd c_12_4 (by decide))
  refine lv_aload_n hx hb dX1_four_42 rfl (lv_at hl 1 rfl) ?_
  refine lv_dup hx hb dX1_four_43 rfl ?_
  refine va_get (D := (dC, dI)) (ci := 0) (v := .int 4) (C := RX1) (T := TX1) (N := 4) hx hb hkw kin_X1 hown hK hP 0 rfl rfl 2 (by decide) (hkw _ m_6) (fun _ h9 => h9) rfl dX1_four_44 ?_
  refine lv_iconst (v := 4) hx hb dX1_four_47 (by decide) ?_
  refine lv_iadd hx hb dX1_four_48 ?_
  refine lv_topi (nm_r (e' := 8) (by decide) ?_)
  refine va_put (D := (dC, dI)) (ci := 0) (v := .int 8) (ty := .int) (C := RX1) (T := TX1) (N := 4) hx hb hkw kin_X1 tyX1 tyX1_ok nmX1 hown hK hP hD hS 0 rfl rfl 2 (by decide) (hkw _ m_6) (fun _ h9 => h9) rfl (by decide +kernel) rfl rfl (Nat.le_of_ble_eq_true rfl) dX1_four_49 (fun H locs hP hD hS => ?_)
  have hP : va_P (dC, dI) classes [(h0, .inr (0, [.int 65540, .ref h1, .int 8, .int 0])), (h1, .inl (kc, 64, .inl f14))] H := hP
  have hD : va_D A [(h0, .inr (0, [.int 65540, .ref h1, .int 8, .int 0])), (h1, .inl (kc, 64, .inl f14))] := hD
  have hP9 := hP.sub (ws' := [(h0, .inr (0, [.int 65540, .ref h1, .int 8, .int 0])), (h1, .inl (kc, 64, .inl f14))]) [0, 1] rfl
  have hD9 := hD.sub (ws' := [(h0, .inr (0, [.int 65540, .ref h1, .int 8, .int 0])), (h1, .inl (kc, 64, .inl f14))]) [0, 1] (by decide) rfl
  have hK9 := hK.sub (tys' := [(kc, .byte)]) [0] rfl
  refine W.widen (k := 0) (n := 0) (Nat.le_of_ble_eq_true rfl) (Nat.le_of_ble_eq_true rfl) ?_
  exact W.vret hx hb hr (fun t ht hW => ⟨⟨(f14), rfl, trivial, by rw [ht]; exact hP9, va_K.moved hW.alike hK9, hD9⟩, hS.F ht⟩) hS.2.2 dX1_four_52

set_option maxHeartbeats 4000000 in
set_option maxRecDepth 100000 in
/-- four(n) at 8 -/
theorem c_By_four_8 (l : Launch) (dC : Nat → ClassId) (dI : Nat → Nat → Nat) (sz : Nat) (h0 : Nat) (h1 : Nat) (kc : ClassId) (g0 : Nat → Int32) (nv : Int32) : Met l yX1_four wX1_four ({ frames := 1, cells := 0, slots := 0, locals := 22 }) (va_Pc [.ref h0, .int nv] (pW (dC, dI) [(h0, .inr (0, [.int 65540, .ref h1, .int 8, .int 0])), (h1, .inl (kc, 64, .inl g0))] [(kc, .byte)] sz)) (va_Qv (fun (g9 : (Nat → Int32)) => True) (fun (g9 : (Nat → Int32)) (t : State) => bW (dC, dI) [(h0, .inr (0, [.int 65540, .ref h1, .int 12, .int 0])), (h1, .inl (kc, 64, .inl g9))] [(kc, .byte)] (va_A [(h0, .inr (0, [.int 65540, .ref h1, .int 8, .int 0])), (h1, .inl (kc, 64, .inl g0))] sz) t) (va_A [(h0, .inr (0, [.int 65540, .ref h1, .int 8, .int 0])), (h1, .inl (kc, 64, .inl g0))] sz)) 0 0 (va_A [(h0, .inr (0, [.int 65540, .ref h1, .int 8, .int 0])), (h1, .inl (kc, 64, .inl g0))] sz) := by
  refine Met.ofW (cc := cX1_four) (maxL := 3) (ret := none) (by decide) rfl ?_
  intro p e s m args below meth c s₁ B hml hv
  obtain ⟨rfl, hsz, hP, hK, hD0, hfx⟩ := hv
  have hx := B.exec
  have hb := B.bytes
  have hr := B.returns
  have hts := atoms_spec (ws := wX1_four) B.pre
  have hkw : ∀ w ∈ kw, w.before _ s = true := fun w h => hts w (List.mem_cons_of_mem _ h)
  have hown : s.vm.findClass RX1 = some m.cls := findClass_of_methodNamed B.named
  have hlocks := B.notSynchronized
  subst hsz
  have hD := hD0.self (sz := s.heap.size)
  generalize hAe : va_A [(h0, .inr (0, [.int 65540, .ref h1, .int 8, .int 0])), (h1, .inl (kc, 64, .inl g0))] s.heap.size = A at hD ⊢
  have hA : ∀ q : Nat, s.heap.size ≤ q → A q := fun q h => by rw [← hAe]; exact Or.inr h
  have hS : va_S A s.heap s.heap [] := va_S.rf
  have hP : va_P (dC, dI) classes [(h0, .inr (0, [.int 65540, .ref h1, .int 8, .int 0])), (h1, .inl (kc, 64, .inl g0))] s.heap := hP
  have hl := lv_entry ([.ref h0, .int nv]) (n := 3) (Nat.le_of_ble_eq_true rfl)
  rw [lg_entry_eq]
  generalize (lg_sl ([.ref h0, .int nv]) ++ List.replicate (3 - (lg_sl ([.ref h0, .int nv])).length) Slot.unset).toArray = ls at hl ⊢
  have hl : lv_has ls 3 [(0, .ref h0), (1, .int nv)] := hl
  refine lv_aload_n hx hb dX1_four_0 rfl (lv_at hl 0 rfl) ?_
  refine lv_iconst (v := 4) hx hb dX1_four_1 (by decide) ?_
  have hPc := hP.sub (ws' := [(h0, .inr (0, [.int 65540, .ref h1, .int 8, .int 0])), (h1, .inl (kc, 64, .inl g0))]) [0, 1] rfl
  have hDc := hD.sub (ws' := [(h0, .inr (0, [.int 65540, .ref h1, .int 8, .int 0])), (h1, .inl (kc, 64, .inl g0))]) [0, 1] (by decide) rfl
  have hKc := hK.sub (tys' := [(kc, .byte)]) [0] rfl
  have hFc := va_free (wc := [(h0, .inr (0, [.int 65540, .ref h1, .int 8, .int 0])), (h1, .inl (kc, 64, .inl g0))]) hD hS hA [0, 1] rfl
  refine va_calli (va_runV (As := [.int 4]) (rest := []) ⟨hx, hb, hml, hown, hkw⟩ (c_By_room_8 l dC dI s.heap.size h0 h1 kc g0) (callVv 1 hkw (kwI m_8) rfl rfl rfl (hkw _ m_9) (hkw _ m_10) (hkw _ m_11) (hkw _ m_12) (by decide +kernel) ⟨Nat.le_of_ble_eq_true rfl, Nat.le_of_ble_eq_true rfl⟩) ⟨fbW, va_recv hK hP (ci := 0) (q0 := 0) rfl rfl, pW_in hPc hKc hDc hfx⟩ rfl rfl hl.1 rfl (lv_room (Nat.le_of_ble_eq_true rfl)) dX1_four_2 ⟨Nat.le_of_ble_eq_true rfl, Nat.le_of_ble_eq_true rfl⟩) hS (fun q _ h => hFc q h) hFc (fun r1 u t H1 locs ht hvm hw hB hz1 hk1 hS => ?_)
  obtain ⟨hP1, hK1, hD1⟩ := hB
  rw [ht] at hP1
  have hK1 := va_K.moved hvm.symm hK1
  obtain ⟨hP, hD⟩ := va_join (wr := []) (w1 := [(h0, .inr (0, [.int 65540, .ref h1, .int 8, .int 0])), (h1, .inl (kc, 64, .inl g0))]) hP hD [0, 1] [] rfl rfl (by decide) (by decide) hk1 hFc hP1 hD1
  have hK := (hK.sub (tys' := []) [] rfl).app hK1
  generalize H1 = H at hP hS ⊢
  have hP : va_P (dC, dI) classes [(h0, .inr (0, [.int 65540, .ref h1, .int 8, .int 0])), (h1, .inl (kc, 64, .inl g0))] H := hP
  have hD : va_D A [(h0, .inr (0, [.int 65540, .ref h1, .int 8, .int 0])), (h1, .inl (kc, 64, .inl g0))] := hD
  have hK : va_K (dC, dI) classes [(kc, .byte)] s := hK
  have hw2 := hw
  try dsimp only at hw2
  subst hw2
  refine lv_if_eq (tgt := 52) hx hb dX1_four_5 (by decide) (fun c_5_0 => absurd c_5_0 (by decide)) (fun c_5_0 => ?_)
  refine lv_iconst (v := 0) hx hb dX1_four_8 (by decide) ?_
  refine lv_istore_n (lv' := [(2, .int 0), (0, .ref h0), (1, .int nv)]) hx hb dX1_four_9 rfl hl (by decide) rfl (fun ls hl => ?_)
  refine lv_iload_n hx hb dX1_four_10 rfl (lv_at hl 0 rfl) ?_
  refine lv_iconst (v := 4) hx hb dX1_four_11 (by decide) ?_
  refine lv_icmp_ge (tgt := 42) hx hb dX1_four_12 (by decide) (fun c_12_0 => absurd c_12_0 (by decide)) (fun c_12_0 => ?_)
  refine lv_aload_n hx hb dX1_four_15 rfl (lv_at hl 1 rfl) ?_
  refine va_get (D := (dC, dI)) (ci := 0) (v := .ref h1) (C := RX1) (T := TX1) (N := 4) hx hb hkw kin_X1 hown hK hP 0 rfl rfl 1 (by decide) (hkw _ m_4) (fun _ h9 => h9) rfl dX1_four_16 ?_
  refine lv_aload_n hx hb dX1_four_19 rfl (lv_at hl 1 rfl) ?_
  refine va_get (D := (dC, dI)) (ci := 0) (v := .int 8) (C := RX1) (T := TX1) (N := 4) hx hb hkw kin_X1 hown hK hP 0 rfl rfl 2 (by decide) (hkw _ m_6) (fun _ h9 => h9) rfl dX1_four_20 ?_
  refine lv_iload_n hx hb dX1_four_23 rfl (lv_at hl 0 rfl) ?_
  refine lv_iadd hx hb dX1_four_24 ?_
  refine lv_topi (nm_r (e' := 8) (by decide) ?_)
  refine lv_iload_n hx hb dX1_four_25 rfl (lv_at hl 2 rfl) ?_
  refine lv_bipush (v := 24) hx hb dX1_four_26 (by decide) ?_
  refine lv_bipush (v := 8) hx hb dX1_four_28 (by decide) ?_
  refine lv_iload_n hx hb dX1_four_30 rfl (lv_at hl 0 rfl) ?_
  refine lv_imul hx hb dX1_four_31 ?_
  refine lv_topi (nm_r (e' := 0) (by decide) ?_)
  refine lv_isub hx hb dX1_four_32 ?_
  refine lv_topi (nm_r (e' := 24) (by decide) ?_)
  refine lv_ishr hx hb dX1_four_33 ?_
  refine lv_topi (fun x3 ex3 => ?_)
  obtain ⟨x4, ex4⟩ : ∃ y : Int32, (x3 : Int32).toInt8.toInt32 = y := ⟨_, rfl⟩
  refine lv_i2b hx hb dX1_four_34 ex4 ?_
  refine va_bast hx hb hK hP hD hS 1 0 rfl rfl (by unfold vp_in; decide) dX1_four_35 (fun H locs hP hD hS => ?_)
  obtain ⟨f5, ef5⟩ : ∃ y : Nat → Int32, y = upd g0 (8 : Int32).toNatClampNeg (vp_nar .byte x4) := ⟨_, rfl⟩
  rw [← ef5] at hP hD
  have hP : va_P (dC, dI) classes [(h0, .inr (0, [.int 65540, .ref h1, .int 8, .int 0])), (h1, .inl (kc, 64, .inl f5))] H := hP
  have hD : va_D A [(h0, .inr (0, [.int 65540, .ref h1, .int 8, .int 0])), (h1, .inl (kc, 64, .inl f5))] := hD
  refine lv_iinc (v := 1) (lv' := [(2, .int 1), (0, .ref h0), (1, .int nv)]) hx hb dX1_four_36 hl (k := 0) rfl (by decide) (by decide) rfl (fun ls hl => ?_)
  refine lv_goto (tgt := 10) hx hb dX1_four_39 (by decide) ?_
  refine lv_iload_n hx hb dX1_four_10 rfl (lv_at hl 0 rfl) ?_
  refine lv_iconst (v := 4) hx hb dX1_four_11 (by decide) ?_
  refine lv_icmp_ge (tgt := 42) hx hb dX1_four_12 (by decide) (fun c_12_1 => absurd c_12_1 (by decide)) (fun c_12_1 => ?_)
  refine lv_aload_n hx hb dX1_four_15 rfl (lv_at hl 1 rfl) ?_
  refine va_get (D := (dC, dI)) (ci := 0) (v := .ref h1) (C := RX1) (T := TX1) (N := 4) hx hb hkw kin_X1 hown hK hP 0 rfl rfl 1 (by decide) (hkw _ m_4) (fun _ h9 => h9) rfl dX1_four_16 ?_
  refine lv_aload_n hx hb dX1_four_19 rfl (lv_at hl 1 rfl) ?_
  refine va_get (D := (dC, dI)) (ci := 0) (v := .int 8) (C := RX1) (T := TX1) (N := 4) hx hb hkw kin_X1 hown hK hP 0 rfl rfl 2 (by decide) (hkw _ m_6) (fun _ h9 => h9) rfl dX1_four_20 ?_
  refine lv_iload_n hx hb dX1_four_23 rfl (lv_at hl 0 rfl) ?_
  refine lv_iadd hx hb dX1_four_24 ?_
  refine lv_topi (nm_r (e' := 9) (by decide) ?_)
  refine lv_iload_n hx hb dX1_four_25 rfl (lv_at hl 2 rfl) ?_
  refine lv_bipush (v := 24) hx hb dX1_four_26 (by decide) ?_
  refine lv_bipush (v := 8) hx hb dX1_four_28 (by decide) ?_
  refine lv_iload_n hx hb dX1_four_30 rfl (lv_at hl 0 rfl) ?_
  refine lv_imul hx hb dX1_four_31 ?_
  refine lv_topi (nm_r (e' := 8) (by decide) ?_)
  refine lv_isub hx hb dX1_four_32 ?_
  refine lv_topi (nm_r (e' := 16) (by decide) ?_)
  refine lv_ishr hx hb dX1_four_33 ?_
  refine lv_topi (fun x6 ex6 => ?_)
  obtain ⟨x7, ex7⟩ : ∃ y : Int32, (x6 : Int32).toInt8.toInt32 = y := ⟨_, rfl⟩
  refine lv_i2b hx hb dX1_four_34 ex7 ?_
  refine va_bast hx hb hK hP hD hS 1 0 rfl rfl (by unfold vp_in; decide) dX1_four_35 (fun H locs hP hD hS => ?_)
  obtain ⟨f8, ef8⟩ : ∃ y : Nat → Int32, y = upd f5 (9 : Int32).toNatClampNeg (vp_nar .byte x7) := ⟨_, rfl⟩
  rw [← ef8] at hP hD
  have hP : va_P (dC, dI) classes [(h0, .inr (0, [.int 65540, .ref h1, .int 8, .int 0])), (h1, .inl (kc, 64, .inl f8))] H := hP
  have hD : va_D A [(h0, .inr (0, [.int 65540, .ref h1, .int 8, .int 0])), (h1, .inl (kc, 64, .inl f8))] := hD
  refine lv_iinc (v := 2) (lv' := [(2, .int 2), (0, .ref h0), (1, .int nv)]) hx hb dX1_four_36 hl (k := 0) rfl (by decide) (by decide) rfl (fun ls hl => ?_)
  refine lv_goto (tgt := 10) hx hb dX1_four_39 (by decide) ?_
  refine lv_iload_n hx hb dX1_four_10 rfl (lv_at hl 0 rfl) ?_
  refine lv_iconst (v := 4) hx hb dX1_four_11 (by decide) ?_
  refine lv_icmp_ge (tgt := 42) hx hb dX1_four_12 (by decide) (fun c_12_2 => absurd c_12_2 (by decide)) (fun c_12_2 => ?_)
  refine lv_aload_n hx hb dX1_four_15 rfl (lv_at hl 1 rfl) ?_
  refine va_get (D := (dC, dI)) (ci := 0) (v := .ref h1) (C := RX1) (T := TX1) (N := 4) hx hb hkw kin_X1 hown hK hP 0 rfl rfl 1 (by decide) (hkw _ m_4) (fun _ h9 => h9) rfl dX1_four_16 ?_
  refine lv_aload_n hx hb dX1_four_19 rfl (lv_at hl 1 rfl) ?_
  refine va_get (D := (dC, dI)) (ci := 0) (v := .int 8) (C := RX1) (T := TX1) (N := 4) hx hb hkw kin_X1 hown hK hP 0 rfl rfl 2 (by decide) (hkw _ m_6) (fun _ h9 => h9) rfl dX1_four_20 ?_
  refine lv_iload_n hx hb dX1_four_23 rfl (lv_at hl 0 rfl) ?_
  refine lv_iadd hx hb dX1_four_24 ?_
  refine lv_topi (nm_r (e' := 10) (by decide) ?_)
  refine lv_iload_n hx hb dX1_four_25 rfl (lv_at hl 2 rfl) ?_
  refine lv_bipush (v := 24) hx hb dX1_four_26 (by decide) ?_
  refine lv_bipush (v := 8) hx hb dX1_four_28 (by decide) ?_
  refine lv_iload_n hx hb dX1_four_30 rfl (lv_at hl 0 rfl) ?_
  refine lv_imul hx hb dX1_four_31 ?_
  refine lv_topi (nm_r (e' := 16) (by decide) ?_)
  refine lv_isub hx hb dX1_four_32 ?_
  refine lv_topi (nm_r (e' := 8) (by decide) ?_)
  refine lv_ishr hx hb dX1_four_33 ?_
  refine lv_topi (fun x9 ex9 => ?_)
  obtain ⟨x10, ex10⟩ : ∃ y : Int32, (x9 : Int32).toInt8.toInt32 = y := ⟨_, rfl⟩
  refine lv_i2b hx hb dX1_four_34 ex10 ?_
  refine va_bast hx hb hK hP hD hS 1 0 rfl rfl (by unfold vp_in; decide) dX1_four_35 (fun H locs hP hD hS => ?_)
  obtain ⟨f11, ef11⟩ : ∃ y : Nat → Int32, y = upd f8 (10 : Int32).toNatClampNeg (vp_nar .byte x10) := ⟨_, rfl⟩
  rw [← ef11] at hP hD
  have hP : va_P (dC, dI) classes [(h0, .inr (0, [.int 65540, .ref h1, .int 8, .int 0])), (h1, .inl (kc, 64, .inl f11))] H := hP
  have hD : va_D A [(h0, .inr (0, [.int 65540, .ref h1, .int 8, .int 0])), (h1, .inl (kc, 64, .inl f11))] := hD
  refine lv_iinc (v := 3) (lv' := [(2, .int 3), (0, .ref h0), (1, .int nv)]) hx hb dX1_four_36 hl (k := 0) rfl (by decide) (by decide) rfl (fun ls hl => ?_)
  refine lv_goto (tgt := 10) hx hb dX1_four_39 (by decide) ?_
  refine lv_iload_n hx hb dX1_four_10 rfl (lv_at hl 0 rfl) ?_
  refine lv_iconst (v := 4) hx hb dX1_four_11 (by decide) ?_
  refine lv_icmp_ge (tgt := 42) hx hb dX1_four_12 (by decide) (fun c_12_3 => absurd c_12_3 (by decide)) (fun c_12_3 => ?_)
  refine lv_aload_n hx hb dX1_four_15 rfl (lv_at hl 1 rfl) ?_
  refine va_get (D := (dC, dI)) (ci := 0) (v := .ref h1) (C := RX1) (T := TX1) (N := 4) hx hb hkw kin_X1 hown hK hP 0 rfl rfl 1 (by decide) (hkw _ m_4) (fun _ h9 => h9) rfl dX1_four_16 ?_
  refine lv_aload_n hx hb dX1_four_19 rfl (lv_at hl 1 rfl) ?_
  refine va_get (D := (dC, dI)) (ci := 0) (v := .int 8) (C := RX1) (T := TX1) (N := 4) hx hb hkw kin_X1 hown hK hP 0 rfl rfl 2 (by decide) (hkw _ m_6) (fun _ h9 => h9) rfl dX1_four_20 ?_
  refine lv_iload_n hx hb dX1_four_23 rfl (lv_at hl 0 rfl) ?_
  refine lv_iadd hx hb dX1_four_24 ?_
  refine lv_topi (nm_r (e' := 11) (by decide) ?_)
  refine lv_iload_n hx hb dX1_four_25 rfl (lv_at hl 2 rfl) ?_
  refine lv_bipush (v := 24) hx hb dX1_four_26 (by decide) ?_
  refine lv_bipush (v := 8) hx hb dX1_four_28 (by decide) ?_
  refine lv_iload_n hx hb dX1_four_30 rfl (lv_at hl 0 rfl) ?_
  refine lv_imul hx hb dX1_four_31 ?_
  refine lv_topi (nm_r (e' := 24) (by decide) ?_)
  refine lv_isub hx hb dX1_four_32 ?_
  refine lv_topi (nm_r (e' := 0) (by decide) ?_)
  refine lv_ishr hx hb dX1_four_33 ?_
  refine lv_topi (fun x12 ex12 => ?_)
  obtain ⟨x13, ex13⟩ : ∃ y : Int32, (x12 : Int32).toInt8.toInt32 = y := ⟨_, rfl⟩
  refine lv_i2b hx hb dX1_four_34 ex13 ?_
  refine va_bast hx hb hK hP hD hS 1 0 rfl rfl (by unfold vp_in; decide) dX1_four_35 (fun H locs hP hD hS => ?_)
  obtain ⟨f14, ef14⟩ : ∃ y : Nat → Int32, y = upd f11 (11 : Int32).toNatClampNeg (vp_nar .byte x13) := ⟨_, rfl⟩
  rw [← ef14] at hP hD
  have hP : va_P (dC, dI) classes [(h0, .inr (0, [.int 65540, .ref h1, .int 8, .int 0])), (h1, .inl (kc, 64, .inl f14))] H := hP
  have hD : va_D A [(h0, .inr (0, [.int 65540, .ref h1, .int 8, .int 0])), (h1, .inl (kc, 64, .inl f14))] := hD
  refine lv_iinc (v := 4) (lv' := [(2, .int 4), (0, .ref h0), (1, .int nv)]) hx hb dX1_four_36 hl (k := 0) rfl (by decide) (by decide) rfl (fun ls hl => ?_)
  refine lv_goto (tgt := 10) hx hb dX1_four_39 (by decide) ?_
  refine lv_iload_n hx hb dX1_four_10 rfl (lv_at hl 0 rfl) ?_
  refine lv_iconst (v := 4) hx hb dX1_four_11 (by decide) ?_
  refine lv_icmp_ge (tgt := 42) hx hb dX1_four_12 (by decide) (fun c_12_4 => ?_) (fun c_12_4 => absurd c_12_4 (by decide))
  refine lv_aload_n hx hb dX1_four_42 rfl (lv_at hl 1 rfl) ?_
  refine lv_dup hx hb dX1_four_43 rfl ?_
  refine va_get (D := (dC, dI)) (ci := 0) (v := .int 8) (C := RX1) (T := TX1) (N := 4) hx hb hkw kin_X1 hown hK hP 0 rfl rfl 2 (by decide) (hkw _ m_6) (fun _ h9 => h9) rfl dX1_four_44 ?_
  refine lv_iconst (v := 4) hx hb dX1_four_47 (by decide) ?_
  refine lv_iadd hx hb dX1_four_48 ?_
  refine lv_topi (nm_r (e' := 12) (by decide) ?_)
  refine va_put (D := (dC, dI)) (ci := 0) (v := .int 12) (ty := .int) (C := RX1) (T := TX1) (N := 4) hx hb hkw kin_X1 tyX1 tyX1_ok nmX1 hown hK hP hD hS 0 rfl rfl 2 (by decide) (hkw _ m_6) (fun _ h9 => h9) rfl (by decide +kernel) rfl rfl (Nat.le_of_ble_eq_true rfl) dX1_four_49 (fun H locs hP hD hS => ?_)
  have hP : va_P (dC, dI) classes [(h0, .inr (0, [.int 65540, .ref h1, .int 12, .int 0])), (h1, .inl (kc, 64, .inl f14))] H := hP
  have hD : va_D A [(h0, .inr (0, [.int 65540, .ref h1, .int 12, .int 0])), (h1, .inl (kc, 64, .inl f14))] := hD
  have hP9 := hP.sub (ws' := [(h0, .inr (0, [.int 65540, .ref h1, .int 12, .int 0])), (h1, .inl (kc, 64, .inl f14))]) [0, 1] rfl
  have hD9 := hD.sub (ws' := [(h0, .inr (0, [.int 65540, .ref h1, .int 12, .int 0])), (h1, .inl (kc, 64, .inl f14))]) [0, 1] (by decide) rfl
  have hK9 := hK.sub (tys' := [(kc, .byte)]) [0] rfl
  refine W.widen (k := 0) (n := 0) (Nat.le_of_ble_eq_true rfl) (Nat.le_of_ble_eq_true rfl) ?_
  exact W.vret hx hb hr (fun t ht hW => ⟨⟨(f14), rfl, trivial, by rw [ht]; exact hP9, va_K.moved hW.alike hK9, hD9⟩, hS.F ht⟩) hS.2.2 dX1_four_52

set_option maxHeartbeats 4000000 in
set_option maxRecDepth 100000 in
/-- four(n) at 12 -/
theorem c_By_four_12 (l : Launch) (dC : Nat → ClassId) (dI : Nat → Nat → Nat) (sz : Nat) (h0 : Nat) (h1 : Nat) (kc : ClassId) (g0 : Nat → Int32) (nv : Int32) : Met l yX1_four wX1_four ({ frames := 1, cells := 0, slots := 0, locals := 22 }) (va_Pc [.ref h0, .int nv] (pW (dC, dI) [(h0, .inr (0, [.int 65540, .ref h1, .int 12, .int 0])), (h1, .inl (kc, 64, .inl g0))] [(kc, .byte)] sz)) (va_Qv (fun (g9 : (Nat → Int32)) => True) (fun (g9 : (Nat → Int32)) (t : State) => bW (dC, dI) [(h0, .inr (0, [.int 65540, .ref h1, .int 16, .int 0])), (h1, .inl (kc, 64, .inl g9))] [(kc, .byte)] (va_A [(h0, .inr (0, [.int 65540, .ref h1, .int 12, .int 0])), (h1, .inl (kc, 64, .inl g0))] sz) t) (va_A [(h0, .inr (0, [.int 65540, .ref h1, .int 12, .int 0])), (h1, .inl (kc, 64, .inl g0))] sz)) 0 0 (va_A [(h0, .inr (0, [.int 65540, .ref h1, .int 12, .int 0])), (h1, .inl (kc, 64, .inl g0))] sz) := by
  refine Met.ofW (cc := cX1_four) (maxL := 3) (ret := none) (by decide) rfl ?_
  intro p e s m args below meth c s₁ B hml hv
  obtain ⟨rfl, hsz, hP, hK, hD0, hfx⟩ := hv
  have hx := B.exec
  have hb := B.bytes
  have hr := B.returns
  have hts := atoms_spec (ws := wX1_four) B.pre
  have hkw : ∀ w ∈ kw, w.before _ s = true := fun w h => hts w (List.mem_cons_of_mem _ h)
  have hown : s.vm.findClass RX1 = some m.cls := findClass_of_methodNamed B.named
  have hlocks := B.notSynchronized
  subst hsz
  have hD := hD0.self (sz := s.heap.size)
  generalize hAe : va_A [(h0, .inr (0, [.int 65540, .ref h1, .int 12, .int 0])), (h1, .inl (kc, 64, .inl g0))] s.heap.size = A at hD ⊢
  have hA : ∀ q : Nat, s.heap.size ≤ q → A q := fun q h => by rw [← hAe]; exact Or.inr h
  have hS : va_S A s.heap s.heap [] := va_S.rf
  have hP : va_P (dC, dI) classes [(h0, .inr (0, [.int 65540, .ref h1, .int 12, .int 0])), (h1, .inl (kc, 64, .inl g0))] s.heap := hP
  have hl := lv_entry ([.ref h0, .int nv]) (n := 3) (Nat.le_of_ble_eq_true rfl)
  rw [lg_entry_eq]
  generalize (lg_sl ([.ref h0, .int nv]) ++ List.replicate (3 - (lg_sl ([.ref h0, .int nv])).length) Slot.unset).toArray = ls at hl ⊢
  have hl : lv_has ls 3 [(0, .ref h0), (1, .int nv)] := hl
  refine lv_aload_n hx hb dX1_four_0 rfl (lv_at hl 0 rfl) ?_
  refine lv_iconst (v := 4) hx hb dX1_four_1 (by decide) ?_
  have hPc := hP.sub (ws' := [(h0, .inr (0, [.int 65540, .ref h1, .int 12, .int 0])), (h1, .inl (kc, 64, .inl g0))]) [0, 1] rfl
  have hDc := hD.sub (ws' := [(h0, .inr (0, [.int 65540, .ref h1, .int 12, .int 0])), (h1, .inl (kc, 64, .inl g0))]) [0, 1] (by decide) rfl
  have hKc := hK.sub (tys' := [(kc, .byte)]) [0] rfl
  have hFc := va_free (wc := [(h0, .inr (0, [.int 65540, .ref h1, .int 12, .int 0])), (h1, .inl (kc, 64, .inl g0))]) hD hS hA [0, 1] rfl
  refine va_calli (va_runV (As := [.int 4]) (rest := []) ⟨hx, hb, hml, hown, hkw⟩ (c_By_room_12 l dC dI s.heap.size h0 h1 kc g0) (callVv 1 hkw (kwI m_8) rfl rfl rfl (hkw _ m_9) (hkw _ m_10) (hkw _ m_11) (hkw _ m_12) (by decide +kernel) ⟨Nat.le_of_ble_eq_true rfl, Nat.le_of_ble_eq_true rfl⟩) ⟨fbW, va_recv hK hP (ci := 0) (q0 := 0) rfl rfl, pW_in hPc hKc hDc hfx⟩ rfl rfl hl.1 rfl (lv_room (Nat.le_of_ble_eq_true rfl)) dX1_four_2 ⟨Nat.le_of_ble_eq_true rfl, Nat.le_of_ble_eq_true rfl⟩) hS (fun q _ h => hFc q h) hFc (fun r1 u t H1 locs ht hvm hw hB hz1 hk1 hS => ?_)
  obtain ⟨hP1, hK1, hD1⟩ := hB
  rw [ht] at hP1
  have hK1 := va_K.moved hvm.symm hK1
  obtain ⟨hP, hD⟩ := va_join (wr := []) (w1 := [(h0, .inr (0, [.int 65540, .ref h1, .int 12, .int 0])), (h1, .inl (kc, 64, .inl g0))]) hP hD [0, 1] [] rfl rfl (by decide) (by decide) hk1 hFc hP1 hD1
  have hK := (hK.sub (tys' := []) [] rfl).app hK1
  generalize H1 = H at hP hS ⊢
  have hP : va_P (dC, dI) classes [(h0, .inr (0, [.int 65540, .ref h1, .int 12, .int 0])), (h1, .inl (kc, 64, .inl g0))] H := hP
  have hD : va_D A [(h0, .inr (0, [.int 65540, .ref h1, .int 12, .int 0])), (h1, .inl (kc, 64, .inl g0))] := hD
  have hK : va_K (dC, dI) classes [(kc, .byte)] s := hK
  have hw2 := hw
  try dsimp only at hw2
  subst hw2
  refine lv_if_eq (tgt := 52) hx hb dX1_four_5 (by decide) (fun c_5_0 => absurd c_5_0 (by decide)) (fun c_5_0 => ?_)
  refine lv_iconst (v := 0) hx hb dX1_four_8 (by decide) ?_
  refine lv_istore_n (lv' := [(2, .int 0), (0, .ref h0), (1, .int nv)]) hx hb dX1_four_9 rfl hl (by decide) rfl (fun ls hl => ?_)
  refine lv_iload_n hx hb dX1_four_10 rfl (lv_at hl 0 rfl) ?_
  refine lv_iconst (v := 4) hx hb dX1_four_11 (by decide) ?_
  refine lv_icmp_ge (tgt := 42) hx hb dX1_four_12 (by decide) (fun c_12_0 => absurd c_12_0 (by decide)) (fun c_12_0 => ?_)
  refine lv_aload_n hx hb dX1_four_15 rfl (lv_at hl 1 rfl) ?_
  refine va_get (D := (dC, dI)) (ci := 0) (v := .ref h1) (C := RX1) (T := TX1) (N := 4) hx hb hkw kin_X1 hown hK hP 0 rfl rfl 1 (by decide) (hkw _ m_4) (fun _ h9 => h9) rfl dX1_four_16 ?_
  refine lv_aload_n hx hb dX1_four_19 rfl (lv_at hl 1 rfl) ?_
  refine va_get (D := (dC, dI)) (ci := 0) (v := .int 12) (C := RX1) (T := TX1) (N := 4) hx hb hkw kin_X1 hown hK hP 0 rfl rfl 2 (by decide) (hkw _ m_6) (fun _ h9 => h9) rfl dX1_four_20 ?_
  refine lv_iload_n hx hb dX1_four_23 rfl (lv_at hl 0 rfl) ?_
  refine lv_iadd hx hb dX1_four_24 ?_
  refine lv_topi (nm_r (e' := 12) (by decide) ?_)
  refine lv_iload_n hx hb dX1_four_25 rfl (lv_at hl 2 rfl) ?_
  refine lv_bipush (v := 24) hx hb dX1_four_26 (by decide) ?_
  refine lv_bipush (v := 8) hx hb dX1_four_28 (by decide) ?_
  refine lv_iload_n hx hb dX1_four_30 rfl (lv_at hl 0 rfl) ?_
  refine lv_imul hx hb dX1_four_31 ?_
  refine lv_topi (nm_r (e' := 0) (by decide) ?_)
  refine lv_isub hx hb dX1_four_32 ?_
  refine lv_topi (nm_r (e' := 24) (by decide) ?_)
  refine lv_ishr hx hb dX1_four_33 ?_
  refine lv_topi (fun x3 ex3 => ?_)
  obtain ⟨x4, ex4⟩ : ∃ y : Int32, (x3 : Int32).toInt8.toInt32 = y := ⟨_, rfl⟩
  refine lv_i2b hx hb dX1_four_34 ex4 ?_
  refine va_bast hx hb hK hP hD hS 1 0 rfl rfl (by unfold vp_in; decide) dX1_four_35 (fun H locs hP hD hS => ?_)
  obtain ⟨f5, ef5⟩ : ∃ y : Nat → Int32, y = upd g0 (12 : Int32).toNatClampNeg (vp_nar .byte x4) := ⟨_, rfl⟩
  rw [← ef5] at hP hD
  have hP : va_P (dC, dI) classes [(h0, .inr (0, [.int 65540, .ref h1, .int 12, .int 0])), (h1, .inl (kc, 64, .inl f5))] H := hP
  have hD : va_D A [(h0, .inr (0, [.int 65540, .ref h1, .int 12, .int 0])), (h1, .inl (kc, 64, .inl f5))] := hD
  refine lv_iinc (v := 1) (lv' := [(2, .int 1), (0, .ref h0), (1, .int nv)]) hx hb dX1_four_36 hl (k := 0) rfl (by decide) (by decide) rfl (fun ls hl => ?_)
  refine lv_goto (tgt := 10) hx hb dX1_four_39 (by decide) ?_
  refine lv_iload_n hx hb dX1_four_10 rfl (lv_at hl 0 rfl) ?_
  refine lv_iconst (v := 4) hx hb dX1_four_11 (by decide) ?_
  refine lv_icmp_ge (tgt := 42) hx hb dX1_four_12 (by decide) (fun c_12_1 => absurd c_12_1 (by decide)) (fun c_12_1 => ?_)
  refine lv_aload_n hx hb dX1_four_15 rfl (lv_at hl 1 rfl) ?_
  refine va_get (D := (dC, dI)) (ci := 0) (v := .ref h1) (C := RX1) (T := TX1) (N := 4) hx hb hkw kin_X1 hown hK hP 0 rfl rfl 1 (by decide) (hkw _ m_4) (fun _ h9 => h9) rfl dX1_four_16 ?_
  refine lv_aload_n hx hb dX1_four_19 rfl (lv_at hl 1 rfl) ?_
  refine va_get (D := (dC, dI)) (ci := 0) (v := .int 12) (C := RX1) (T := TX1) (N := 4) hx hb hkw kin_X1 hown hK hP 0 rfl rfl 2 (by decide) (hkw _ m_6) (fun _ h9 => h9) rfl dX1_four_20 ?_
  refine lv_iload_n hx hb dX1_four_23 rfl (lv_at hl 0 rfl) ?_
  refine lv_iadd hx hb dX1_four_24 ?_
  refine lv_topi (nm_r (e' := 13) (by decide) ?_)
  refine lv_iload_n hx hb dX1_four_25 rfl (lv_at hl 2 rfl) ?_
  refine lv_bipush (v := 24) hx hb dX1_four_26 (by decide) ?_
  refine lv_bipush (v := 8) hx hb dX1_four_28 (by decide) ?_
  refine lv_iload_n hx hb dX1_four_30 rfl (lv_at hl 0 rfl) ?_
  refine lv_imul hx hb dX1_four_31 ?_
  refine lv_topi (nm_r (e' := 8) (by decide) ?_)
  refine lv_isub hx hb dX1_four_32 ?_
  refine lv_topi (nm_r (e' := 16) (by decide) ?_)
  refine lv_ishr hx hb dX1_four_33 ?_
  refine lv_topi (fun x6 ex6 => ?_)
  obtain ⟨x7, ex7⟩ : ∃ y : Int32, (x6 : Int32).toInt8.toInt32 = y := ⟨_, rfl⟩
  refine lv_i2b hx hb dX1_four_34 ex7 ?_
  refine va_bast hx hb hK hP hD hS 1 0 rfl rfl (by unfold vp_in; decide) dX1_four_35 (fun H locs hP hD hS => ?_)
  obtain ⟨f8, ef8⟩ : ∃ y : Nat → Int32, y = upd f5 (13 : Int32).toNatClampNeg (vp_nar .byte x7) := ⟨_, rfl⟩
  rw [← ef8] at hP hD
  have hP : va_P (dC, dI) classes [(h0, .inr (0, [.int 65540, .ref h1, .int 12, .int 0])), (h1, .inl (kc, 64, .inl f8))] H := hP
  have hD : va_D A [(h0, .inr (0, [.int 65540, .ref h1, .int 12, .int 0])), (h1, .inl (kc, 64, .inl f8))] := hD
  refine lv_iinc (v := 2) (lv' := [(2, .int 2), (0, .ref h0), (1, .int nv)]) hx hb dX1_four_36 hl (k := 0) rfl (by decide) (by decide) rfl (fun ls hl => ?_)
  refine lv_goto (tgt := 10) hx hb dX1_four_39 (by decide) ?_
  refine lv_iload_n hx hb dX1_four_10 rfl (lv_at hl 0 rfl) ?_
  refine lv_iconst (v := 4) hx hb dX1_four_11 (by decide) ?_
  refine lv_icmp_ge (tgt := 42) hx hb dX1_four_12 (by decide) (fun c_12_2 => absurd c_12_2 (by decide)) (fun c_12_2 => ?_)
  refine lv_aload_n hx hb dX1_four_15 rfl (lv_at hl 1 rfl) ?_
  refine va_get (D := (dC, dI)) (ci := 0) (v := .ref h1) (C := RX1) (T := TX1) (N := 4) hx hb hkw kin_X1 hown hK hP 0 rfl rfl 1 (by decide) (hkw _ m_4) (fun _ h9 => h9) rfl dX1_four_16 ?_
  refine lv_aload_n hx hb dX1_four_19 rfl (lv_at hl 1 rfl) ?_
  refine va_get (D := (dC, dI)) (ci := 0) (v := .int 12) (C := RX1) (T := TX1) (N := 4) hx hb hkw kin_X1 hown hK hP 0 rfl rfl 2 (by decide) (hkw _ m_6) (fun _ h9 => h9) rfl dX1_four_20 ?_
  refine lv_iload_n hx hb dX1_four_23 rfl (lv_at hl 0 rfl) ?_
  refine lv_iadd hx hb dX1_four_24 ?_
  refine lv_topi (nm_r (e' := 14) (by decide) ?_)
  refine lv_iload_n hx hb dX1_four_25 rfl (lv_at hl 2 rfl) ?_
  refine lv_bipush (v := 24) hx hb dX1_four_26 (by decide) ?_
  refine lv_bipush (v := 8) hx hb dX1_four_28 (by decide) ?_
  refine lv_iload_n hx hb dX1_four_30 rfl (lv_at hl 0 rfl) ?_
  refine lv_imul hx hb dX1_four_31 ?_
  refine lv_topi (nm_r (e' := 16) (by decide) ?_)
  refine lv_isub hx hb dX1_four_32 ?_
  refine lv_topi (nm_r (e' := 8) (by decide) ?_)
  refine lv_ishr hx hb dX1_four_33 ?_
  refine lv_topi (fun x9 ex9 => ?_)
  obtain ⟨x10, ex10⟩ : ∃ y : Int32, (x9 : Int32).toInt8.toInt32 = y := ⟨_, rfl⟩
  refine lv_i2b hx hb dX1_four_34 ex10 ?_
  refine va_bast hx hb hK hP hD hS 1 0 rfl rfl (by unfold vp_in; decide) dX1_four_35 (fun H locs hP hD hS => ?_)
  obtain ⟨f11, ef11⟩ : ∃ y : Nat → Int32, y = upd f8 (14 : Int32).toNatClampNeg (vp_nar .byte x10) := ⟨_, rfl⟩
  rw [← ef11] at hP hD
  have hP : va_P (dC, dI) classes [(h0, .inr (0, [.int 65540, .ref h1, .int 12, .int 0])), (h1, .inl (kc, 64, .inl f11))] H := hP
  have hD : va_D A [(h0, .inr (0, [.int 65540, .ref h1, .int 12, .int 0])), (h1, .inl (kc, 64, .inl f11))] := hD
  refine lv_iinc (v := 3) (lv' := [(2, .int 3), (0, .ref h0), (1, .int nv)]) hx hb dX1_four_36 hl (k := 0) rfl (by decide) (by decide) rfl (fun ls hl => ?_)
  refine lv_goto (tgt := 10) hx hb dX1_four_39 (by decide) ?_
  refine lv_iload_n hx hb dX1_four_10 rfl (lv_at hl 0 rfl) ?_
  refine lv_iconst (v := 4) hx hb dX1_four_11 (by decide) ?_
  refine lv_icmp_ge (tgt := 42) hx hb dX1_four_12 (by decide) (fun c_12_3 => absurd c_12_3 (by decide)) (fun c_12_3 => ?_)
  refine lv_aload_n hx hb dX1_four_15 rfl (lv_at hl 1 rfl) ?_
  refine va_get (D := (dC, dI)) (ci := 0) (v := .ref h1) (C := RX1) (T := TX1) (N := 4) hx hb hkw kin_X1 hown hK hP 0 rfl rfl 1 (by decide) (hkw _ m_4) (fun _ h9 => h9) rfl dX1_four_16 ?_
  refine lv_aload_n hx hb dX1_four_19 rfl (lv_at hl 1 rfl) ?_
  refine va_get (D := (dC, dI)) (ci := 0) (v := .int 12) (C := RX1) (T := TX1) (N := 4) hx hb hkw kin_X1 hown hK hP 0 rfl rfl 2 (by decide) (hkw _ m_6) (fun _ h9 => h9) rfl dX1_four_20 ?_
  refine lv_iload_n hx hb dX1_four_23 rfl (lv_at hl 0 rfl) ?_
  refine lv_iadd hx hb dX1_four_24 ?_
  refine lv_topi (nm_r (e' := 15) (by decide) ?_)
  refine lv_iload_n hx hb dX1_four_25 rfl (lv_at hl 2 rfl) ?_
  refine lv_bipush (v := 24) hx hb dX1_four_26 (by decide) ?_
  refine lv_bipush (v := 8) hx hb dX1_four_28 (by decide) ?_
  refine lv_iload_n hx hb dX1_four_30 rfl (lv_at hl 0 rfl) ?_
  refine lv_imul hx hb dX1_four_31 ?_
  refine lv_topi (nm_r (e' := 24) (by decide) ?_)
  refine lv_isub hx hb dX1_four_32 ?_
  refine lv_topi (nm_r (e' := 0) (by decide) ?_)
  refine lv_ishr hx hb dX1_four_33 ?_
  refine lv_topi (fun x12 ex12 => ?_)
  obtain ⟨x13, ex13⟩ : ∃ y : Int32, (x12 : Int32).toInt8.toInt32 = y := ⟨_, rfl⟩
  refine lv_i2b hx hb dX1_four_34 ex13 ?_
  refine va_bast hx hb hK hP hD hS 1 0 rfl rfl (by unfold vp_in; decide) dX1_four_35 (fun H locs hP hD hS => ?_)
  obtain ⟨f14, ef14⟩ : ∃ y : Nat → Int32, y = upd f11 (15 : Int32).toNatClampNeg (vp_nar .byte x13) := ⟨_, rfl⟩
  rw [← ef14] at hP hD
  have hP : va_P (dC, dI) classes [(h0, .inr (0, [.int 65540, .ref h1, .int 12, .int 0])), (h1, .inl (kc, 64, .inl f14))] H := hP
  have hD : va_D A [(h0, .inr (0, [.int 65540, .ref h1, .int 12, .int 0])), (h1, .inl (kc, 64, .inl f14))] := hD
  refine lv_iinc (v := 4) (lv' := [(2, .int 4), (0, .ref h0), (1, .int nv)]) hx hb dX1_four_36 hl (k := 0) rfl (by decide) (by decide) rfl (fun ls hl => ?_)
  refine lv_goto (tgt := 10) hx hb dX1_four_39 (by decide) ?_
  refine lv_iload_n hx hb dX1_four_10 rfl (lv_at hl 0 rfl) ?_
  refine lv_iconst (v := 4) hx hb dX1_four_11 (by decide) ?_
  refine lv_icmp_ge (tgt := 42) hx hb dX1_four_12 (by decide) (fun c_12_4 => ?_) (fun c_12_4 => absurd c_12_4 (by decide))
  refine lv_aload_n hx hb dX1_four_42 rfl (lv_at hl 1 rfl) ?_
  refine lv_dup hx hb dX1_four_43 rfl ?_
  refine va_get (D := (dC, dI)) (ci := 0) (v := .int 12) (C := RX1) (T := TX1) (N := 4) hx hb hkw kin_X1 hown hK hP 0 rfl rfl 2 (by decide) (hkw _ m_6) (fun _ h9 => h9) rfl dX1_four_44 ?_
  refine lv_iconst (v := 4) hx hb dX1_four_47 (by decide) ?_
  refine lv_iadd hx hb dX1_four_48 ?_
  refine lv_topi (nm_r (e' := 16) (by decide) ?_)
  refine va_put (D := (dC, dI)) (ci := 0) (v := .int 16) (ty := .int) (C := RX1) (T := TX1) (N := 4) hx hb hkw kin_X1 tyX1 tyX1_ok nmX1 hown hK hP hD hS 0 rfl rfl 2 (by decide) (hkw _ m_6) (fun _ h9 => h9) rfl (by decide +kernel) rfl rfl (Nat.le_of_ble_eq_true rfl) dX1_four_49 (fun H locs hP hD hS => ?_)
  have hP : va_P (dC, dI) classes [(h0, .inr (0, [.int 65540, .ref h1, .int 16, .int 0])), (h1, .inl (kc, 64, .inl f14))] H := hP
  have hD : va_D A [(h0, .inr (0, [.int 65540, .ref h1, .int 16, .int 0])), (h1, .inl (kc, 64, .inl f14))] := hD
  have hP9 := hP.sub (ws' := [(h0, .inr (0, [.int 65540, .ref h1, .int 16, .int 0])), (h1, .inl (kc, 64, .inl f14))]) [0, 1] rfl
  have hD9 := hD.sub (ws' := [(h0, .inr (0, [.int 65540, .ref h1, .int 16, .int 0])), (h1, .inl (kc, 64, .inl f14))]) [0, 1] (by decide) rfl
  have hK9 := hK.sub (tys' := [(kc, .byte)]) [0] rfl
  refine W.widen (k := 0) (n := 0) (Nat.le_of_ble_eq_true rfl) (Nat.le_of_ble_eq_true rfl) ?_
  exact W.vret hx hb hr (fun t ht hW => ⟨⟨(f14), rfl, trivial, by rw [ht]; exact hP9, va_K.moved hW.alike hK9, hD9⟩, hS.F ht⟩) hS.2.2 dX1_four_52

set_option maxHeartbeats 4000000 in
set_option maxRecDepth 100000 in
/-- four(n) at 16 -/
theorem c_By_four_16 (l : Launch) (dC : Nat → ClassId) (dI : Nat → Nat → Nat) (sz : Nat) (h0 : Nat) (h1 : Nat) (kc : ClassId) (g0 : Nat → Int32) (nv : Int32) : Met l yX1_four wX1_four ({ frames := 1, cells := 0, slots := 0, locals := 22 }) (va_Pc [.ref h0, .int nv] (pW (dC, dI) [(h0, .inr (0, [.int 65540, .ref h1, .int 16, .int 0])), (h1, .inl (kc, 64, .inl g0))] [(kc, .byte)] sz)) (va_Qv (fun (g9 : (Nat → Int32)) => True) (fun (g9 : (Nat → Int32)) (t : State) => bW (dC, dI) [(h0, .inr (0, [.int 65540, .ref h1, .int 20, .int 0])), (h1, .inl (kc, 64, .inl g9))] [(kc, .byte)] (va_A [(h0, .inr (0, [.int 65540, .ref h1, .int 16, .int 0])), (h1, .inl (kc, 64, .inl g0))] sz) t) (va_A [(h0, .inr (0, [.int 65540, .ref h1, .int 16, .int 0])), (h1, .inl (kc, 64, .inl g0))] sz)) 0 0 (va_A [(h0, .inr (0, [.int 65540, .ref h1, .int 16, .int 0])), (h1, .inl (kc, 64, .inl g0))] sz) := by
  refine Met.ofW (cc := cX1_four) (maxL := 3) (ret := none) (by decide) rfl ?_
  intro p e s m args below meth c s₁ B hml hv
  obtain ⟨rfl, hsz, hP, hK, hD0, hfx⟩ := hv
  have hx := B.exec
  have hb := B.bytes
  have hr := B.returns
  have hts := atoms_spec (ws := wX1_four) B.pre
  have hkw : ∀ w ∈ kw, w.before _ s = true := fun w h => hts w (List.mem_cons_of_mem _ h)
  have hown : s.vm.findClass RX1 = some m.cls := findClass_of_methodNamed B.named
  have hlocks := B.notSynchronized
  subst hsz
  have hD := hD0.self (sz := s.heap.size)
  generalize hAe : va_A [(h0, .inr (0, [.int 65540, .ref h1, .int 16, .int 0])), (h1, .inl (kc, 64, .inl g0))] s.heap.size = A at hD ⊢
  have hA : ∀ q : Nat, s.heap.size ≤ q → A q := fun q h => by rw [← hAe]; exact Or.inr h
  have hS : va_S A s.heap s.heap [] := va_S.rf
  have hP : va_P (dC, dI) classes [(h0, .inr (0, [.int 65540, .ref h1, .int 16, .int 0])), (h1, .inl (kc, 64, .inl g0))] s.heap := hP
  have hl := lv_entry ([.ref h0, .int nv]) (n := 3) (Nat.le_of_ble_eq_true rfl)
  rw [lg_entry_eq]
  generalize (lg_sl ([.ref h0, .int nv]) ++ List.replicate (3 - (lg_sl ([.ref h0, .int nv])).length) Slot.unset).toArray = ls at hl ⊢
  have hl : lv_has ls 3 [(0, .ref h0), (1, .int nv)] := hl
  refine lv_aload_n hx hb dX1_four_0 rfl (lv_at hl 0 rfl) ?_
  refine lv_iconst (v := 4) hx hb dX1_four_1 (by decide) ?_
  have hPc := hP.sub (ws' := [(h0, .inr (0, [.int 65540, .ref h1, .int 16, .int 0])), (h1, .inl (kc, 64, .inl g0))]) [0, 1] rfl
  have hDc := hD.sub (ws' := [(h0, .inr (0, [.int 65540, .ref h1, .int 16, .int 0])), (h1, .inl (kc, 64, .inl g0))]) [0, 1] (by decide) rfl
  have hKc := hK.sub (tys' := [(kc, .byte)]) [0] rfl
  have hFc := va_free (wc := [(h0, .inr (0, [.int 65540, .ref h1, .int 16, .int 0])), (h1, .inl (kc, 64, .inl g0))]) hD hS hA [0, 1] rfl
  refine va_calli (va_runV (As := [.int 4]) (rest := []) ⟨hx, hb, hml, hown, hkw⟩ (c_By_room_16 l dC dI s.heap.size h0 h1 kc g0) (callVv 1 hkw (kwI m_8) rfl rfl rfl (hkw _ m_9) (hkw _ m_10) (hkw _ m_11) (hkw _ m_12) (by decide +kernel) ⟨Nat.le_of_ble_eq_true rfl, Nat.le_of_ble_eq_true rfl⟩) ⟨fbW, va_recv hK hP (ci := 0) (q0 := 0) rfl rfl, pW_in hPc hKc hDc hfx⟩ rfl rfl hl.1 rfl (lv_room (Nat.le_of_ble_eq_true rfl)) dX1_four_2 ⟨Nat.le_of_ble_eq_true rfl, Nat.le_of_ble_eq_true rfl⟩) hS (fun q _ h => hFc q h) hFc (fun r1 u t H1 locs ht hvm hw hB hz1 hk1 hS => ?_)
  obtain ⟨hP1, hK1, hD1⟩ := hB
  rw [ht] at hP1
  have hK1 := va_K.moved hvm.symm hK1
  obtain ⟨hP, hD⟩ := va_join (wr := []) (w1 := [(h0, .inr (0, [.int 65540, .ref h1, .int 16, .int 0])), (h1, .inl (kc, 64, .inl g0))]) hP hD [0, 1] [] rfl rfl (by decide) (by decide) hk1 hFc hP1 hD1
  have hK := (hK.sub (tys' := []) [] rfl).app hK1
  generalize H1 = H at hP hS ⊢
  have hP : va_P (dC, dI) classes [(h0, .inr (0, [.int 65540, .ref h1, .int 16, .int 0])), (h1, .inl (kc, 64, .inl g0))] H := hP
  have hD : va_D A [(h0, .inr (0, [.int 65540, .ref h1, .int 16, .int 0])), (h1, .inl (kc, 64, .inl g0))] := hD
  have hK : va_K (dC, dI) classes [(kc, .byte)] s := hK
  have hw2 := hw
  try dsimp only at hw2
  subst hw2
  refine lv_if_eq (tgt := 52) hx hb dX1_four_5 (by decide) (fun c_5_0 => absurd c_5_0 (by decide)) (fun c_5_0 => ?_)
  refine lv_iconst (v := 0) hx hb dX1_four_8 (by decide) ?_
  refine lv_istore_n (lv' := [(2, .int 0), (0, .ref h0), (1, .int nv)]) hx hb dX1_four_9 rfl hl (by decide) rfl (fun ls hl => ?_)
  refine lv_iload_n hx hb dX1_four_10 rfl (lv_at hl 0 rfl) ?_
  refine lv_iconst (v := 4) hx hb dX1_four_11 (by decide) ?_
  refine lv_icmp_ge (tgt := 42) hx hb dX1_four_12 (by decide) (fun c_12_0 => absurd c_12_0 (by decide)) (fun c_12_0 => ?_)
  refine lv_aload_n hx hb dX1_four_15 rfl (lv_at hl 1 rfl) ?_
  refine va_get (D := (dC, dI)) (ci := 0) (v := .ref h1) (C := RX1) (T := TX1) (N := 4) hx hb hkw kin_X1 hown hK hP 0 rfl rfl 1 (by decide) (hkw _ m_4) (fun _ h9 => h9) rfl dX1_four_16 ?_
  refine lv_aload_n hx hb dX1_four_19 rfl (lv_at hl 1 rfl) ?_
  refine va_get (D := (dC, dI)) (ci := 0) (v := .int 16) (C := RX1) (T := TX1) (N := 4) hx hb hkw kin_X1 hown hK hP 0 rfl rfl 2 (by decide) (hkw _ m_6) (fun _ h9 => h9) rfl dX1_four_20 ?_
  refine lv_iload_n hx hb dX1_four_23 rfl (lv_at hl 0 rfl) ?_
  refine lv_iadd hx hb dX1_four_24 ?_
  refine lv_topi (nm_r (e' := 16) (by decide) ?_)
  refine lv_iload_n hx hb dX1_four_25 rfl (lv_at hl 2 rfl) ?_
  refine lv_bipush (v := 24) hx hb dX1_four_26 (by decide) ?_
  refine lv_bipush (v := 8) hx hb dX1_four_28 (by decide) ?_
  refine lv_iload_n hx hb dX1_four_30 rfl (lv_at hl 0 rfl) ?_
  refine lv_imul hx hb dX1_four_31 ?_
  refine lv_topi (nm_r (e' := 0) (by decide) ?_)
  refine lv_isub hx hb dX1_four_32 ?_
  refine lv_topi (nm_r (e' := 24) (by decide) ?_)
  refine lv_ishr hx hb dX1_four_33 ?_
  refine lv_topi (fun x3 ex3 => ?_)
  obtain ⟨x4, ex4⟩ : ∃ y : Int32, (x3 : Int32).toInt8.toInt32 = y := ⟨_, rfl⟩
  refine lv_i2b hx hb dX1_four_34 ex4 ?_
  refine va_bast hx hb hK hP hD hS 1 0 rfl rfl (by unfold vp_in; decide) dX1_four_35 (fun H locs hP hD hS => ?_)
  obtain ⟨f5, ef5⟩ : ∃ y : Nat → Int32, y = upd g0 (16 : Int32).toNatClampNeg (vp_nar .byte x4) := ⟨_, rfl⟩
  rw [← ef5] at hP hD
  have hP : va_P (dC, dI) classes [(h0, .inr (0, [.int 65540, .ref h1, .int 16, .int 0])), (h1, .inl (kc, 64, .inl f5))] H := hP
  have hD : va_D A [(h0, .inr (0, [.int 65540, .ref h1, .int 16, .int 0])), (h1, .inl (kc, 64, .inl f5))] := hD
  refine lv_iinc (v := 1) (lv' := [(2, .int 1), (0, .ref h0), (1, .int nv)]) hx hb dX1_four_36 hl (k := 0) rfl (by decide) (by decide) rfl (fun ls hl => ?_)
  refine lv_goto (tgt := 10) hx hb dX1_four_39 (by decide) ?_
  refine lv_iload_n hx hb dX1_four_10 rfl (lv_at hl 0 rfl) ?_
  refine lv_iconst (v := 4) hx hb dX1_four_11 (by decide) ?_
  refine lv_icmp_ge (tgt := 42) hx hb dX1_four_12 (by decide) (fun c_12_1 => absurd c_12_1 (by decide)) (fun c_12_1 => ?_)
  refine lv_aload_n hx hb dX1_four_15 rfl (lv_at hl 1 rfl) ?_
  refine va_get (D := (dC, dI)) (ci := 0) (v := .ref h1) (C := RX1) (T := TX1) (N := 4) hx hb hkw kin_X1 hown hK hP 0 rfl rfl 1 (by decide) (hkw _ m_4) (fun _ h9 => h9) rfl dX1_four_16 ?_
  refine lv_aload_n hx hb dX1_four_19 rfl (lv_at hl 1 rfl) ?_
  refine va_get (D := (dC, dI)) (ci := 0) (v := .int 16) (C := RX1) (T := TX1) (N := 4) hx hb hkw kin_X1 hown hK hP 0 rfl rfl 2 (by decide) (hkw _ m_6) (fun _ h9 => h9) rfl dX1_four_20 ?_
  refine lv_iload_n hx hb dX1_four_23 rfl (lv_at hl 0 rfl) ?_
  refine lv_iadd hx hb dX1_four_24 ?_
  refine lv_topi (nm_r (e' := 17) (by decide) ?_)
  refine lv_iload_n hx hb dX1_four_25 rfl (lv_at hl 2 rfl) ?_
  refine lv_bipush (v := 24) hx hb dX1_four_26 (by decide) ?_
  refine lv_bipush (v := 8) hx hb dX1_four_28 (by decide) ?_
  refine lv_iload_n hx hb dX1_four_30 rfl (lv_at hl 0 rfl) ?_
  refine lv_imul hx hb dX1_four_31 ?_
  refine lv_topi (nm_r (e' := 8) (by decide) ?_)
  refine lv_isub hx hb dX1_four_32 ?_
  refine lv_topi (nm_r (e' := 16) (by decide) ?_)
  refine lv_ishr hx hb dX1_four_33 ?_
  refine lv_topi (fun x6 ex6 => ?_)
  obtain ⟨x7, ex7⟩ : ∃ y : Int32, (x6 : Int32).toInt8.toInt32 = y := ⟨_, rfl⟩
  refine lv_i2b hx hb dX1_four_34 ex7 ?_
  refine va_bast hx hb hK hP hD hS 1 0 rfl rfl (by unfold vp_in; decide) dX1_four_35 (fun H locs hP hD hS => ?_)
  obtain ⟨f8, ef8⟩ : ∃ y : Nat → Int32, y = upd f5 (17 : Int32).toNatClampNeg (vp_nar .byte x7) := ⟨_, rfl⟩
  rw [← ef8] at hP hD
  have hP : va_P (dC, dI) classes [(h0, .inr (0, [.int 65540, .ref h1, .int 16, .int 0])), (h1, .inl (kc, 64, .inl f8))] H := hP
  have hD : va_D A [(h0, .inr (0, [.int 65540, .ref h1, .int 16, .int 0])), (h1, .inl (kc, 64, .inl f8))] := hD
  refine lv_iinc (v := 2) (lv' := [(2, .int 2), (0, .ref h0), (1, .int nv)]) hx hb dX1_four_36 hl (k := 0) rfl (by decide) (by decide) rfl (fun ls hl => ?_)
  refine lv_goto (tgt := 10) hx hb dX1_four_39 (by decide) ?_
  refine lv_iload_n hx hb dX1_four_10 rfl (lv_at hl 0 rfl) ?_
  refine lv_iconst (v := 4) hx hb dX1_four_11 (by decide) ?_
  refine lv_icmp_ge (tgt := 42) hx hb dX1_four_12 (by decide) (fun c_12_2 => absurd c_12_2 (by decide)) (fun c_12_2 => ?_)
  refine lv_aload_n hx hb dX1_four_15 rfl (lv_at hl 1 rfl) ?_
  refine va_get (D := (dC, dI)) (ci := 0) (v := .ref h1) (C := RX1) (T := TX1) (N := 4) hx hb hkw kin_X1 hown hK hP 0 rfl rfl 1 (by decide) (hkw _ m_4) (fun _ h9 => h9) rfl dX1_four_16 ?_
  refine lv_aload_n hx hb dX1_four_19 rfl (lv_at hl 1 rfl) ?_
  refine va_get (D := (dC, dI)) (ci := 0) (v := .int 16) (C := RX1) (T := TX1) (N := 4) hx hb hkw kin_X1 hown hK hP 0 rfl rfl 2 (by decide) (hkw _ m_6) (fun _ h9 => h9) rfl dX1_four_20 ?_
  refine lv_iload_n hx hb dX1_four_23 rfl (lv_at hl 0 rfl) ?_
  refine lv_iadd hx hb dX1_four_24 ?_
  refine lv_topi (nm_r (e' := 18) (by decide) ?_)
  refine lv_iload_n hx hb dX1_four_25 rfl (lv_at hl 2 rfl) ?_
  refine lv_bipush (v := 24) hx hb dX1_four_26 (by decide) ?_
  refine lv_bipush (v := 8) hx hb dX1_four_28 (by decide) ?_
  refine lv_iload_n hx hb dX1_four_30 rfl (lv_at hl 0 rfl) ?_
  refine lv_imul hx hb dX1_four_31 ?_
  refine lv_topi (nm_r (e' := 16) (by decide) ?_)
  refine lv_isub hx hb dX1_four_32 ?_
  refine lv_topi (nm_r (e' := 8) (by decide) ?_)
  refine lv_ishr hx hb dX1_four_33 ?_
  refine lv_topi (fun x9 ex9 => ?_)
  obtain ⟨x10, ex10⟩ : ∃ y : Int32, (x9 : Int32).toInt8.toInt32 = y := ⟨_, rfl⟩
  refine lv_i2b hx hb dX1_four_34 ex10 ?_
  refine va_bast hx hb hK hP hD hS 1 0 rfl rfl (by unfold vp_in; decide) dX1_four_35 (fun H locs hP hD hS => ?_)
  obtain ⟨f11, ef11⟩ : ∃ y : Nat → Int32, y = upd f8 (18 : Int32).toNatClampNeg (vp_nar .byte x10) := ⟨_, rfl⟩
  rw [← ef11] at hP hD
  have hP : va_P (dC, dI) classes [(h0, .inr (0, [.int 65540, .ref h1, .int 16, .int 0])), (h1, .inl (kc, 64, .inl f11))] H := hP
  have hD : va_D A [(h0, .inr (0, [.int 65540, .ref h1, .int 16, .int 0])), (h1, .inl (kc, 64, .inl f11))] := hD
  refine lv_iinc (v := 3) (lv' := [(2, .int 3), (0, .ref h0), (1, .int nv)]) hx hb dX1_four_36 hl (k := 0) rfl (by decide) (by decide) rfl (fun ls hl => ?_)
  refine lv_goto (tgt := 10) hx hb dX1_four_39 (by decide) ?_
  refine lv_iload_n hx hb dX1_four_10 rfl (lv_at hl 0 rfl) ?_
  refine lv_iconst (v := 4) hx hb dX1_four_11 (by decide) ?_
  refine lv_icmp_ge (tgt := 42) hx hb dX1_four_12 (by decide) (fun c_12_3 => absurd c_12_3 (by decide)) (fun c_12_3 => ?_)
  refine lv_aload_n hx hb dX1_four_15 rfl (lv_at hl 1 rfl) ?_
  refine va_get (D := (dC, dI)) (ci := 0) (v := .ref h1) (C := RX1) (T := TX1) (N := 4) hx hb hkw kin_X1 hown hK hP 0 rfl rfl 1 (by decide) (hkw _ m_4) (fun _ h9 => h9) rfl dX1_four_16 ?_
  refine lv_aload_n hx hb dX1_four_19 rfl (lv_at hl 1 rfl) ?_
  refine va_get (D := (dC, dI)) (ci := 0) (v := .int 16) (C := RX1) (T := TX1) (N := 4) hx hb hkw kin_X1 hown hK hP 0 rfl rfl 2 (by decide) (hkw _ m_6) (fun _ h9 => h9) rfl dX1_four_20 ?_
  refine lv_iload_n hx hb dX1_four_23 rfl (lv_at hl 0 rfl) ?_
  refine lv_iadd hx hb dX1_four_24 ?_
  refine lv_topi (nm_r (e' := 19) (by decide) ?_)
  refine lv_iload_n hx hb dX1_four_25 rfl (lv_at hl 2 rfl) ?_
  refine lv_bipush (v := 24) hx hb dX1_four_26 (by decide) ?_
  refine lv_bipush (v := 8) hx hb dX1_four_28 (by decide) ?_
  refine lv_iload_n hx hb dX1_four_30 rfl (lv_at hl 0 rfl) ?_
  refine lv_imul hx hb dX1_four_31 ?_
  refine lv_topi (nm_r (e' := 24) (by decide) ?_)
  refine lv_isub hx hb dX1_four_32 ?_
  refine lv_topi (nm_r (e' := 0) (by decide) ?_)
  refine lv_ishr hx hb dX1_four_33 ?_
  refine lv_topi (fun x12 ex12 => ?_)
  obtain ⟨x13, ex13⟩ : ∃ y : Int32, (x12 : Int32).toInt8.toInt32 = y := ⟨_, rfl⟩
  refine lv_i2b hx hb dX1_four_34 ex13 ?_
  refine va_bast hx hb hK hP hD hS 1 0 rfl rfl (by unfold vp_in; decide) dX1_four_35 (fun H locs hP hD hS => ?_)
  obtain ⟨f14, ef14⟩ : ∃ y : Nat → Int32, y = upd f11 (19 : Int32).toNatClampNeg (vp_nar .byte x13) := ⟨_, rfl⟩
  rw [← ef14] at hP hD
  have hP : va_P (dC, dI) classes [(h0, .inr (0, [.int 65540, .ref h1, .int 16, .int 0])), (h1, .inl (kc, 64, .inl f14))] H := hP
  have hD : va_D A [(h0, .inr (0, [.int 65540, .ref h1, .int 16, .int 0])), (h1, .inl (kc, 64, .inl f14))] := hD
  refine lv_iinc (v := 4) (lv' := [(2, .int 4), (0, .ref h0), (1, .int nv)]) hx hb dX1_four_36 hl (k := 0) rfl (by decide) (by decide) rfl (fun ls hl => ?_)
  refine lv_goto (tgt := 10) hx hb dX1_four_39 (by decide) ?_
  refine lv_iload_n hx hb dX1_four_10 rfl (lv_at hl 0 rfl) ?_
  refine lv_iconst (v := 4) hx hb dX1_four_11 (by decide) ?_
  refine lv_icmp_ge (tgt := 42) hx hb dX1_four_12 (by decide) (fun c_12_4 => ?_) (fun c_12_4 => absurd c_12_4 (by decide))
  refine lv_aload_n hx hb dX1_four_42 rfl (lv_at hl 1 rfl) ?_
  refine lv_dup hx hb dX1_four_43 rfl ?_
  refine va_get (D := (dC, dI)) (ci := 0) (v := .int 16) (C := RX1) (T := TX1) (N := 4) hx hb hkw kin_X1 hown hK hP 0 rfl rfl 2 (by decide) (hkw _ m_6) (fun _ h9 => h9) rfl dX1_four_44 ?_
  refine lv_iconst (v := 4) hx hb dX1_four_47 (by decide) ?_
  refine lv_iadd hx hb dX1_four_48 ?_
  refine lv_topi (nm_r (e' := 20) (by decide) ?_)
  refine va_put (D := (dC, dI)) (ci := 0) (v := .int 20) (ty := .int) (C := RX1) (T := TX1) (N := 4) hx hb hkw kin_X1 tyX1 tyX1_ok nmX1 hown hK hP hD hS 0 rfl rfl 2 (by decide) (hkw _ m_6) (fun _ h9 => h9) rfl (by decide +kernel) rfl rfl (Nat.le_of_ble_eq_true rfl) dX1_four_49 (fun H locs hP hD hS => ?_)
  have hP : va_P (dC, dI) classes [(h0, .inr (0, [.int 65540, .ref h1, .int 20, .int 0])), (h1, .inl (kc, 64, .inl f14))] H := hP
  have hD : va_D A [(h0, .inr (0, [.int 65540, .ref h1, .int 20, .int 0])), (h1, .inl (kc, 64, .inl f14))] := hD
  have hP9 := hP.sub (ws' := [(h0, .inr (0, [.int 65540, .ref h1, .int 20, .int 0])), (h1, .inl (kc, 64, .inl f14))]) [0, 1] rfl
  have hD9 := hD.sub (ws' := [(h0, .inr (0, [.int 65540, .ref h1, .int 20, .int 0])), (h1, .inl (kc, 64, .inl f14))]) [0, 1] (by decide) rfl
  have hK9 := hK.sub (tys' := [(kc, .byte)]) [0] rfl
  refine W.widen (k := 0) (n := 0) (Nat.le_of_ble_eq_true rfl) (Nat.le_of_ble_eq_true rfl) ?_
  exact W.vret hx hb hr (fun t ht hW => ⟨⟨(f14), rfl, trivial, by rw [ht]; exact hP9, va_K.moved hW.alike hK9, hD9⟩, hS.F ht⟩) hS.2.2 dX1_four_52

set_option maxHeartbeats 4000000 in
set_option maxRecDepth 100000 in
/-- append of nothing -/
theorem c_By_append (l : Launch) (dC : Nat → ClassId) (dI : Nat → Nat → Nat) (sz : Nat) (h0 : Nat) (h1 : Nat) (h2 : Nat) (kc : ClassId) (kd : ClassId) (g0 : Nat → Int32) (g1 : Nat → Int32) : Met l yX1_append wX1_append ({ frames := 1, cells := 0, slots := 0, locals := 40 }) (va_Pc [.ref h0, .ref h2, .int 0, .int 0] (pW (dC, dI) [(h0, .inr (0, [.int 131076, .ref h1, .int 0, .int 0])), (h1, .inl (kc, 64, .inl g0)), (h2, .inl (kd, 64, .inl g1))] [(kc, .byte), (kd, .byte)] sz)) (va_Qv (fun (g9 : (Nat → Int32)) => True) (fun (g9 : (Nat → Int32)) (t : State) => bW (dC, dI) [(h0, .inr (0, [.int 131076, .ref h1, .int 0, .int 0])), (h1, .inl (kc, 64, .inl g9)), (h2, .inl (kd, 64, .inl g1))] [(kc, .byte), (kd, .byte)] (va_A [(h0, .inr (0, [.int 131076, .ref h1, .int 0, .int 0])), (h1, .inl (kc, 64, .inl g0)), (h2, .inl (kd, 64, .inl g1))] sz) t) (va_A [(h0, .inr (0, [.int 131076, .ref h1, .int 0, .int 0])), (h1, .inl (kc, 64, .inl g0)), (h2, .inl (kd, 64, .inl g1))] sz)) 0 0 (va_A [(h0, .inr (0, [.int 131076, .ref h1, .int 0, .int 0])), (h1, .inl (kc, 64, .inl g0)), (h2, .inl (kd, 64, .inl g1))] sz) := by
  refine Met.ofW (cc := cX1_append) (maxL := 4) (ret := none) (by decide) rfl ?_
  intro p e s m args below meth c s₁ B hml hv
  obtain ⟨rfl, hsz, hP, hK, hD0, hfx⟩ := hv
  have hx := B.exec
  have hb := B.bytes
  have hr := B.returns
  have hts := atoms_spec (ws := wX1_append) B.pre
  have hkw : ∀ w ∈ kw, w.before _ s = true := fun w h => hts w (List.mem_cons_of_mem _ h)
  have hown : s.vm.findClass RX1 = some m.cls := findClass_of_methodNamed B.named
  have hlocks := B.notSynchronized
  subst hsz
  have hD := hD0.self (sz := s.heap.size)
  generalize hAe : va_A [(h0, .inr (0, [.int 131076, .ref h1, .int 0, .int 0])), (h1, .inl (kc, 64, .inl g0)), (h2, .inl (kd, 64, .inl g1))] s.heap.size = A at hD ⊢
  have hA : ∀ q : Nat, s.heap.size ≤ q → A q := fun q h => by rw [← hAe]; exact Or.inr h
  have hS : va_S A s.heap s.heap [] := va_S.rf
  have hP : va_P (dC, dI) classes [(h0, .inr (0, [.int 131076, .ref h1, .int 0, .int 0])), (h1, .inl (kc, 64, .inl g0)), (h2, .inl (kd, 64, .inl g1))] s.heap := hP
  have hl := lv_entry ([.ref h0, .ref h2, .int 0, .int 0]) (n := 4) (Nat.le_of_ble_eq_true rfl)
  rw [lg_entry_eq]
  generalize (lg_sl ([.ref h0, .ref h2, .int 0, .int 0]) ++ List.replicate (4 - (lg_sl ([.ref h0, .ref h2, .int 0, .int 0])).length) Slot.unset).toArray = ls at hl ⊢
  have hl : lv_has ls 4 [(0, .ref h0), (1, .ref h2), (2, .int 0), (3, .int 0)] := hl
  refine lv_iload_n hx hb dX1_append_0 rfl (lv_at hl 2 rfl) ?_
  refine lv_if_lt (tgt := 24) hx hb dX1_append_1 (by decide) (fun c_1_0 => absurd c_1_0 (by decide)) (fun c_1_0 => ?_)
  refine lv_iload_n hx hb dX1_append_4 rfl (lv_at hl 3 rfl) ?_
  refine lv_if_lt (tgt := 24) hx hb dX1_append_5 (by decide) (fun c_5_0 => absurd c_5_0 (by decide)) (fun c_5_0 => ?_)
  refine lv_iload_n hx hb dX1_append_8 rfl (lv_at hl 3 rfl) ?_
  refine lv_aload_n hx hb dX1_append_9 rfl (lv_at hl 1 rfl) ?_
  refine va_alen (v := 64) hx hb hK hP 2 1 rfl rfl rfl dX1_append_10 ?_
  refine lv_iload_n hx hb dX1_append_11 rfl (lv_at hl 2 rfl) ?_
  refine lv_isub hx hb dX1_append_12 ?_
  refine lv_topi (nm_r (e' := 64) (by decide) ?_)
  refine lv_icmp_gt (tgt := 24) hx hb dX1_append_13 (by decide) (fun c_13_0 => absurd c_13_0 (by decide)) (fun c_13_0 => ?_)
  refine lv_aload_n hx hb dX1_append_16 rfl (lv_at hl 0 rfl) ?_
  refine lv_iload_n hx hb dX1_append_17 rfl (lv_at hl 3 rfl) ?_
  have hPc := hP.sub (ws' := [(h0, .inr (0, [.int 131076, .ref h1, .int 0, .int 0])), (h1, .inl (kc, 64, .inl g0))]) [0, 1] rfl
  have hDc := hD.sub (ws' := [(h0, .inr (0, [.int 131076, .ref h1, .int 0, .int 0])), (h1, .inl (kc, 64, .inl g0))]) [0, 1] (by decide) rfl
  have hKc := hK.sub (tys' := [(kc, .byte)]) [0] rfl
  have hFc := va_free (wc := [(h0, .inr (0, [.int 131076, .ref h1, .int 0, .int 0])), (h1, .inl (kc, 64, .inl g0))]) hD hS hA [0, 1] rfl
  refine va_calli (va_runV (As := [.int 0]) (rest := []) ⟨hx, hb, hml, hown, hkw⟩ (c_By_roomz l dC dI s.heap.size h0 h1 kc g0) (callVv 1 hkw (kwI m_8) rfl rfl rfl (hkw _ m_9) (hkw _ m_10) (hkw _ m_11) (hkw _ m_12) (by decide +kernel) ⟨Nat.le_of_ble_eq_true rfl, Nat.le_of_ble_eq_true rfl⟩) ⟨fbW, va_recv hK hP (ci := 0) (q0 := 0) rfl rfl, pW_in hPc hKc hDc hfx⟩ rfl rfl hl.1 rfl (lv_room (Nat.le_of_ble_eq_true rfl)) dX1_append_18 ⟨Nat.le_of_ble_eq_true rfl, Nat.le_of_ble_eq_true rfl⟩) hS (fun q _ h => hFc q h) hFc (fun r1 u t H1 locs ht hvm hw hB hz1 hk1 hS => ?_)
  obtain ⟨hP1, hK1, hD1⟩ := hB
  rw [ht] at hP1
  have hK1 := va_K.moved hvm.symm hK1
  obtain ⟨hP, hD⟩ := va_join (wr := [(h2, .inl (kd, 64, .inl g1))]) (w1 := [(h0, .inr (0, [.int 131076, .ref h1, .int 0, .int 0])), (h1, .inl (kc, 64, .inl g0))]) hP hD [0, 1] [2] rfl rfl (by decide) (by decide) hk1 hFc hP1 hD1
  have hK := (hK.sub (tys' := [(kd, .byte)]) [1] rfl).app hK1
  generalize H1 = H at hP hS ⊢
  have hP : va_P (dC, dI) classes [(h2, .inl (kd, 64, .inl g1)), (h0, .inr (0, [.int 131076, .ref h1, .int 0, .int 0])), (h1, .inl (kc, 64, .inl g0))] H := hP
  have hD : va_D A [(h2, .inl (kd, 64, .inl g1)), (h0, .inr (0, [.int 131076, .ref h1, .int 0, .int 0])), (h1, .inl (kc, 64, .inl g0))] := hD
  have hK : va_K (dC, dI) classes [(kd, .byte), (kc, .byte)] s := hK
  have hw2 := hw
  try dsimp only at hw2
  subst hw2
  refine lv_if_ne (tgt := 25) hx hb dX1_append_21 (by decide) (fun c_21_0 => ?_) (fun c_21_0 => absurd c_21_0 (by decide))
  refine lv_aload_n hx hb dX1_append_25 rfl (lv_at hl 1 rfl) ?_
  refine lv_iload_n hx hb dX1_append_26 rfl (lv_at hl 2 rfl) ?_
  refine lv_aload_n hx hb dX1_append_27 rfl (lv_at hl 0 rfl) ?_
  refine va_get (D := (dC, dI)) (ci := 0) (v := .ref h1) (C := RX1) (T := TX1) (N := 4) hx hb hkw kin_X1 hown hK hP 1 rfl rfl 1 (by decide) (hkw _ m_4) (fun _ h9 => h9) rfl dX1_append_28 ?_
  refine lv_aload_n hx hb dX1_append_31 rfl (lv_at hl 0 rfl) ?_
  refine va_get (D := (dC, dI)) (ci := 0) (v := .int 0) (C := RX1) (T := TX1) (N := 4) hx hb hkw kin_X1 hown hK hP 1 rfl rfl 2 (by decide) (hkw _ m_6) (fun _ h9 => h9) rfl dX1_append_32 ?_
  refine lv_iload_n hx hb dX1_append_35 rfl (lv_at hl 3 rfl) ?_
  refine va_copyi hx hb (by rw [hml]; exact hl.1.symm) hown (hkw _ m_13) (hkw _ m_14) (hkw _ m_15) (hkw _ m_16) hK hP hD hS 0 2 0 1 rfl rfl rfl rfl rfl (by decide) (by decide) (by decide) (by decide) (by decide) (fun i hi => absurd hi (Nat.not_lt_zero i)) (Nat.le_of_ble_eq_true rfl) (Nat.le_of_ble_eq_true rfl) dX1_append_36 (fun H locs hP hD hS => ?_)
  generalize va_cpy g1 g0 _ _ _ = f3 at hP hD
  have hP : va_P (dC, dI) classes [(h2, .inl (kd, 64, .inl g1)), (h0, .inr (0, [.int 131076, .ref h1, .int 0, .int 0])), (h1, .inl (kc, 64, .inl f3))] H := hP
  have hD : va_D A [(h2, .inl (kd, 64, .inl g1)), (h0, .inr (0, [.int 131076, .ref h1, .int 0, .int 0])), (h1, .inl (kc, 64, .inl f3))] := hD
  refine lv_aload_n hx hb dX1_append_39 rfl (lv_at hl 0 rfl) ?_
  refine lv_dup hx hb dX1_append_40 rfl ?_
  refine va_get (D := (dC, dI)) (ci := 0) (v := .int 0) (C := RX1) (T := TX1) (N := 4) hx hb hkw kin_X1 hown hK hP 1 rfl rfl 2 (by decide) (hkw _ m_6) (fun _ h9 => h9) rfl dX1_append_41 ?_
  refine lv_iload_n hx hb dX1_append_44 rfl (lv_at hl 3 rfl) ?_
  refine lv_iadd hx hb dX1_append_45 ?_
  refine lv_topi (nm_r (e' := 0) (by decide) ?_)
  refine va_put (D := (dC, dI)) (ci := 0) (v := .int 0) (ty := .int) (C := RX1) (T := TX1) (N := 4) hx hb hkw kin_X1 tyX1 tyX1_ok nmX1 hown hK hP hD hS 1 rfl rfl 2 (by decide) (hkw _ m_6) (fun _ h9 => h9) rfl (by decide +kernel) rfl rfl (Nat.le_of_ble_eq_true rfl) dX1_append_46 (fun H locs hP hD hS => ?_)
  have hP : va_P (dC, dI) classes [(h2, .inl (kd, 64, .inl g1)), (h0, .inr (0, [.int 131076, .ref h1, .int 0, .int 0])), (h1, .inl (kc, 64, .inl f3))] H := hP
  have hD : va_D A [(h2, .inl (kd, 64, .inl g1)), (h0, .inr (0, [.int 131076, .ref h1, .int 0, .int 0])), (h1, .inl (kc, 64, .inl f3))] := hD
  have hP9 := hP.sub (ws' := [(h0, .inr (0, [.int 131076, .ref h1, .int 0, .int 0])), (h1, .inl (kc, 64, .inl f3)), (h2, .inl (kd, 64, .inl g1))]) [1, 2, 0] rfl
  have hD9 := hD.sub (ws' := [(h0, .inr (0, [.int 131076, .ref h1, .int 0, .int 0])), (h1, .inl (kc, 64, .inl f3)), (h2, .inl (kd, 64, .inl g1))]) [1, 2, 0] (by decide) rfl
  have hK9 := hK.sub (tys' := [(kc, .byte), (kd, .byte)]) [1, 0] rfl
  refine W.widen (k := 0) (n := 0) (Nat.le_of_ble_eq_true rfl) (Nat.le_of_ble_eq_true rfl) ?_
  exact W.vret hx hb hr (fun t ht hW => ⟨⟨(f3), rfl, trivial, by rw [ht]; exact hP9, va_K.moved hW.alike hK9, hD9⟩, hS.F ht⟩) hS.2.2 dX1_append_49

set_option maxHeartbeats 4000000 in
set_option maxRecDepth 100000 in
/-- drop(0) -/
theorem c_By_drop (l : Launch) (dC : Nat → ClassId) (dI : Nat → Nat → Nat) (sz : Nat) (h0 : Nat) (h1 : Nat) (mv : Int32) (sv : Int32) (bv : Int32) : Met l yX1_drop wX1_drop ({ frames := 0, cells := 0, slots := 0, locals := 0 }) (va_Pc [.ref h0, .int 0] (pW (dC, dI) [(h0, .inr (0, [.int mv, .ref h1, .int sv, .int bv]))] [] sz)) (va_Qv (fun (_u : Unit) => True) (fun (_u : Unit) (t : State) => bW (dC, dI) [(h0, .inr (0, [.int mv, .ref h1, .int sv, .int bv]))] [] (va_A [(h0, .inr (0, [.int mv, .ref h1, .int sv, .int bv]))] sz) t) (va_A [(h0, .inr (0, [.int mv, .ref h1, .int sv, .int bv]))] sz)) 0 0 (va_A [(h0, .inr (0, [.int mv, .ref h1, .int sv, .int bv]))] sz) := by
  refine Met.ofW (cc := cX1_drop) (maxL := 3) (ret := none) (by decide) rfl ?_
  intro p e s m args below meth c s₁ B hml hv
  obtain ⟨rfl, hsz, hP, hK, hD0, hfx⟩ := hv
  have hx := B.exec
  have hb := B.bytes
  have hr := B.returns
  have hts := atoms_spec (ws := wX1_drop) B.pre
  have hkw : ∀ w ∈ kw, w.before _ s = true := fun w h => hts w (List.mem_cons_of_mem _ h)
  have hown : s.vm.findClass RX1 = some m.cls := findClass_of_methodNamed B.named
  have hlocks := B.notSynchronized
  subst hsz
  have hD := hD0.self (sz := s.heap.size)
  generalize hAe : va_A [(h0, .inr (0, [.int mv, .ref h1, .int sv, .int bv]))] s.heap.size = A at hD ⊢
  have hA : ∀ q : Nat, s.heap.size ≤ q → A q := fun q h => by rw [← hAe]; exact Or.inr h
  have hS : va_S A s.heap s.heap [] := va_S.rf
  have hP : va_P (dC, dI) classes [(h0, .inr (0, [.int mv, .ref h1, .int sv, .int bv]))] s.heap := hP
  have hl := lv_entry ([.ref h0, .int 0]) (n := 3) (Nat.le_of_ble_eq_true rfl)
  rw [lg_entry_eq]
  generalize (lg_sl ([.ref h0, .int 0]) ++ List.replicate (3 - (lg_sl ([.ref h0, .int 0])).length) Slot.unset).toArray = ls at hl ⊢
  have hl : lv_has ls 3 [(0, .ref h0), (1, .int 0)] := hl
  refine lv_iload_n hx hb dX1_drop_0 rfl (lv_at hl 1 rfl) ?_
  refine lv_if_gt (tgt := 5) hx hb dX1_drop_1 (by decide) (fun c_1_0 => absurd c_1_0 (by decide)) (fun c_1_0 => ?_)
  have hP9 := hP.sub (ws' := [(h0, .inr (0, [.int mv, .ref h1, .int sv, .int bv]))]) [0] rfl
  have hD9 := hD.sub (ws' := [(h0, .inr (0, [.int mv, .ref h1, .int sv, .int bv]))]) [0] (by decide) rfl
  have hK9 := hK.sub (tys' := []) [] rfl
  refine W.widen (k := 0) (n := 0) (Nat.le_of_ble_eq_true rfl) (Nat.le_of_ble_eq_true rfl) ?_
  exact W.vret hx hb hr (fun t ht hW => ⟨⟨(), rfl, trivial, by rw [ht]; exact hP9, va_K.moved hW.alike hK9, hD9⟩, hS.F ht⟩) hS.2.2 dX1_drop_4

set_option maxHeartbeats 4000000 in
set_option maxRecDepth 100000 in
/-- cut(0) of an empty one -/
theorem c_By_cut (l : Launch) (dC : Nat → ClassId) (dI : Nat → Nat → Nat) (sz : Nat) (h0 : Nat) (h1 : Nat) (mv : Int32) (bv : Int32) : Met l yX1_cut wX1_cut ({ frames := 0, cells := 0, slots := 0, locals := 0 }) (va_Pc [.ref h0, .int 0] (pW (dC, dI) [(h0, .inr (0, [.int mv, .ref h1, .int 0, .int bv]))] [] sz)) (va_Qv (fun (_u : Unit) => True) (fun (_u : Unit) (t : State) => bW (dC, dI) [(h0, .inr (0, [.int mv, .ref h1, .int 0, .int bv]))] [] (va_A [(h0, .inr (0, [.int mv, .ref h1, .int 0, .int bv]))] sz) t) (va_A [(h0, .inr (0, [.int mv, .ref h1, .int 0, .int bv]))] sz)) 0 0 (va_A [(h0, .inr (0, [.int mv, .ref h1, .int 0, .int bv]))] sz) := by
  refine Met.ofW (cc := cX1_cut) (maxL := 2) (ret := none) (by decide) rfl ?_
  intro p e s m args below meth c s₁ B hml hv
  obtain ⟨rfl, hsz, hP, hK, hD0, hfx⟩ := hv
  have hx := B.exec
  have hb := B.bytes
  have hr := B.returns
  have hts := atoms_spec (ws := wX1_cut) B.pre
  have hkw : ∀ w ∈ kw, w.before _ s = true := fun w h => hts w (List.mem_cons_of_mem _ h)
  have hown : s.vm.findClass RX1 = some m.cls := findClass_of_methodNamed B.named
  have hlocks := B.notSynchronized
  subst hsz
  have hD := hD0.self (sz := s.heap.size)
  generalize hAe : va_A [(h0, .inr (0, [.int mv, .ref h1, .int 0, .int bv]))] s.heap.size = A at hD ⊢
  have hA : ∀ q : Nat, s.heap.size ≤ q → A q := fun q h => by rw [← hAe]; exact Or.inr h
  have hS : va_S A s.heap s.heap [] := va_S.rf
  have hP : va_P (dC, dI) classes [(h0, .inr (0, [.int mv, .ref h1, .int 0, .int bv]))] s.heap := hP
  have hl := lv_entry ([.ref h0, .int 0]) (n := 2) (Nat.le_of_ble_eq_true rfl)
  rw [lg_entry_eq]
  generalize (lg_sl ([.ref h0, .int 0]) ++ List.replicate (2 - (lg_sl ([.ref h0, .int 0])).length) Slot.unset).toArray = ls at hl ⊢
  have hl : lv_has ls 2 [(0, .ref h0), (1, .int 0)] := hl
  refine lv_iload_n hx hb dX1_cut_0 rfl (lv_at hl 1 rfl) ?_
  refine lv_if_lt (tgt := 17) hx hb dX1_cut_1 (by decide) (fun c_1_0 => absurd c_1_0 (by decide)) (fun c_1_0 => ?_)
  refine lv_iload_n hx hb dX1_cut_4 rfl (lv_at hl 1 rfl) ?_
  refine lv_aload_n hx hb dX1_cut_5 rfl (lv_at hl 0 rfl) ?_
  refine va_get (D := (dC, dI)) (ci := 0) (v := .int 0) (C := RX1) (T := TX1) (N := 4) hx hb hkw kin_X1 hown hK hP 0 rfl rfl 2 (by decide) (hkw _ m_6) (fun _ h9 => h9) rfl dX1_cut_6 ?_
  refine lv_icmp_ge (tgt := 17) hx hb dX1_cut_9 (by decide) (fun c_9_0 => ?_) (fun c_9_0 => absurd c_9_0 (by decide))
  have hP9 := hP.sub (ws' := [(h0, .inr (0, [.int mv, .ref h1, .int 0, .int bv]))]) [0] rfl
  have hD9 := hD.sub (ws' := [(h0, .inr (0, [.int mv, .ref h1, .int 0, .int bv]))]) [0] (by decide) rfl
  have hK9 := hK.sub (tys' := []) [] rfl
  refine W.widen (k := 0) (n := 0) (Nat.le_of_ble_eq_true rfl) (Nat.le_of_ble_eq_true rfl) ?_
  exact W.vret hx hb hr (fun t ht hW => ⟨⟨(), rfl, trivial, by rw [ht]; exact hP9, va_K.moved hW.alike hK9, hD9⟩, hS.F ht⟩) hS.2.2 dX1_cut_17
