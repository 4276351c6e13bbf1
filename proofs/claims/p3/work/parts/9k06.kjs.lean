/-! Three calls that the second reader takes as one instruction: ordinal(), checkIndex(..), new Value(..). -/
def yOrd : MethodName := ⟨"java/lang/Enum", "ordinal", "()I"⟩
def yOrx : MethodName := ⟨"KeySteward$Command", "ordinal", "()I"⟩
def yChk : MethodName := ⟨"java/lang/String", "checkIndex", "(II)V"⟩
def yPre : MethodName := ⟨"jdk/internal/util/Preconditions", "checkIndex", "(IILjava/util/function/BiFunction;)I"⟩
def yVal : MethodName := ⟨"KeySteward$Value", "<init>", "(LKeySteward$Keys;)V"⟩
/-- their words -/
def kOrW : Prop := Cond.code yOrd prog_17_method_2_code 1 (some .int) ∈ kw ∧ Cond.fieldLink "java/lang/Enum" 7 "java/lang/Enum" "ordinal" "I" ∈ kw ∧ Cond.initialized "java/lang/Enum" ∈ kw ∧ Cond.sameMethod "KeySteward$Command" "java/lang/Enum" "ordinal" "()I" ∈ kw ∧ Cond.selects "KeySteward$Command" yOrx yOrd ∈ kw ∧ Cond.instanceMethod yOrd ∈ kw
def kChW : Prop := (Cond.code yChk prog_22_method_155_code 2 none ∈ kw ∧ Cond.initialized "java/lang/String" ∈ kw ∧ Cond.static yChk ∈ kw ∧ Cond.methodLink "java/lang/StringLatin1" 9 yChk ∈ kw) ∧ Cond.fieldLink "java/lang/String" 1053 "jdk/internal/util/Preconditions" "SIOOBE_FORMATTER" "Ljava/util/function/BiFunction;" ∈ kw ∧ Cond.code yPre prog_29_method_11_code 3 (some .int) ∈ kw ∧ Cond.initialized "jdk/internal/util/Preconditions" ∈ kw ∧ Cond.static yPre ∈ kw ∧ Cond.methodLink "java/lang/String" 1059 yPre ∈ kw
def kVaW : Prop := (Cond.code yVal prog_12_method_1_code 2 none ∈ kw ∧ Cond.initialized RX10 ∈ kw ∧ Cond.instanceMethod yVal ∈ kw ∧ Cond.methodLink "KeySteward$Keys" 120 yVal ∈ kw ∧ Cond.classLink "KeySteward$Keys" 18 RX10 ∈ kw ∧ Cond.instantiable RX10 9 ∈ kw) ∧ Cond.methodLink RX10 3 Lib.objectInit ∈ kw ∧ Cond.instanceMethod Lib.objectInit ∈ kw ∧ Cond.code Lib.objectInit ⟨#[0xb1]⟩ 1 none ∈ kw ∧ Cond.constantLong RX10 9 9223372036854775807 ∈ kw ∧ Cond.fieldLink RX10 11 RX10 "ends" "J" ∈ kw ∧ Cond.fieldLink RX10 17 RX10 "keys" "LKeySteward$Keys;" ∈ kw
theorem dO_0 : decode prog_17_method_2_code 0 = .ok (.aload_n 0, 1) := by decide +kernel
theorem dO_1 : decode prog_17_method_2_code 1 = .ok (.getfield 7, 3) := by decide +kernel
theorem dO_4 : decode prog_17_method_2_code 4 = .ok (.ireturn, 1) := by decide +kernel
theorem dP_0 : decode prog_29_method_11_code 0 = .ok (.iload_n 0, 1) := by decide +kernel
theorem dP_1 : decode prog_29_method_11_code 1 = .ok (.ifCond .lt 8, 3) := by decide +kernel
theorem dP_4 : decode prog_29_method_11_code 4 = .ok (.iload_n 0, 1) := by decide +kernel
theorem dP_5 : decode prog_29_method_11_code 5 = .ok (.iload_n 1, 1) := by decide +kernel
theorem dP_6 : decode prog_29_method_11_code 6 = .ok (.if_icmp .lt 10, 3) := by decide +kernel
theorem dP_16 : decode prog_29_method_11_code 16 = .ok (.iload_n 0, 1) := by decide +kernel
theorem dP_17 : decode prog_29_method_11_code 17 = .ok (.ireturn, 1) := by decide +kernel
theorem dC_0 : decode prog_22_method_155_code 0 = .ok (.iload_n 0, 1) := by decide +kernel
theorem dC_1 : decode prog_22_method_155_code 1 = .ok (.iload_n 1, 1) := by decide +kernel
theorem dC_2 : decode prog_22_method_155_code 2 = .ok (.getstatic 1053, 3) := by decide +kernel
theorem dC_5 : decode prog_22_method_155_code 5 = .ok (.invokestatic 1059, 3) := by decide +kernel
theorem dC_8 : decode prog_22_method_155_code 8 = .ok (.pop, 1) := by decide +kernel
theorem dC_9 : decode prog_22_method_155_code 9 = .ok (.return_, 1) := by decide +kernel
theorem dV_0 : decode prog_12_method_1_code 0 = .ok (.aload_n 0, 1) := by decide +kernel
theorem dV_1 : decode prog_12_method_1_code 1 = .ok (.invokespecial 3, 3) := by decide +kernel
theorem dV_4 : decode prog_12_method_1_code 4 = .ok (.aload_n 0, 1) := by decide +kernel
theorem dV_5 : decode prog_12_method_1_code 5 = .ok (.ldc2_w 9, 3) := by decide +kernel
theorem dV_8 : decode prog_12_method_1_code 8 = .ok (.putfield 11, 3) := by decide +kernel
theorem dV_11 : decode prog_12_method_1_code 11 = .ok (.aload_n 0, 1) := by decide +kernel
theorem dV_12 : decode prog_12_method_1_code 12 = .ok (.aload_n 1, 1) := by decide +kernel
theorem dV_13 : decode prog_12_method_1_code 13 = .ok (.putfield 17, 3) := by decide +kernel
theorem dV_16 : decode prog_12_method_1_code 16 = .ok (.return_, 1) := by decide +kernel
section KJS
variable {l : Launch}
/-- a call that leaves the heap as it is -/
theorem kj_pure {p : Program} {e : Env} {R : Room} {s : State} {m : MethodId} {args : Array Value} {below : List Frame} {meth : Method} {c : Code} {H : Heap} {locs : List Loc} {cells slots : Nat} {Q : State → Prop} {pc : Nat} {ls : Array Slot} {st0 rest : List Value} {v : Option Value}
    (hr : va_Run p l e R s m args below meth c H locs cells slots 0 0 (F0 m pc ls st0) rest (fun st oc t => oc = .returned v ∧ t.heap = st.heap) (fun _ => False)) (kk : W p l e R s m args below meth c H locs cells slots Q (F0 m (pc + 3) ls (v.toList ++ rest))) : W p l e R s m args below meth c H locs cells slots Q (F0 m pc ls st0) := by
  intro T hT X
  obtain ⟨v', st₀, t, T', L, h0, X', hL, e1, e2, ⟨hv, hh⟩, st⟩ := hr T hT X
  cases hv
  have hL0 : L = [] := List.eq_nil_iff_forall_not_mem.mpr fun q hq => hL q hq
  subst hL0
  rw [List.append_nil] at X'
  obtain ⟨t2, a1, b1⟩ := kk T' (by rw [e1, hh, h0]) X'
  exact ⟨t2, st t2 a1, b1⟩
theorem kj_ordM (hw : kOrW) (a : Nat) (v : Int32) : Met l yOrd (Cond.code yOrd prog_17_method_2_code 1 (some .int) :: kw) ({ frames := 0, cells := 0, slots := 0, locals := 0 }) (va_Pc [.ref a] (fun U => va_OF "java/lang/Enum" "ordinal" "I" (.int v) a (fun _ => False) U U.heap)) (fun _ st oc t => oc = .returned (some (.int v)) ∧ t.heap = st.heap) 0 0 (fun _ => False) := by
  refine Met.ofW (cc := prog_17_method_2_code) (maxL := 1) (ret := some .int) (by decide) rfl ?_
  intro p e s m args below meth c s₁ B hml hv
  obtain ⟨rfl, hF⟩ := hv
  have hts := atoms_spec (ws := Cond.code yOrd prog_17_method_2_code 1 (some .int) :: kw) B.pre
  have hkw : ∀ w ∈ kw, w.before _ s = true := fun w h => hts w (List.mem_cons_of_mem _ h)
  have hown : s.vm.findClass "java/lang/Enum" = some m.cls := findClass_of_methodNamed B.named
  have hl := lv_entry ([.ref a]) (n := 1) (Nat.le_of_ble_eq_true rfl)
  rw [lg_entry_eq]
  generalize (lg_sl ([.ref a]) ++ List.replicate (1 - (lg_sl ([.ref a])).length) Slot.unset).toArray = ls at hl ⊢
  have hl : lv_has ls 1 [(0, .ref a)] := hl
  have hx := B.exec
  have hb := B.bytes
  refine lv_aload_n hx hb dO_0 rfl (lv_at hl 0 rfl) ?_
  refine vk_getf hx hb hF (va_S.rf) hown (hkw _ hw.2.1) (fun _ h9 => h9) dO_1 ?_
  exact W.iret hx hb B.returns (fun t ht hW => ⟨rfl, ht⟩) (fun _ h => by cases h) dO_4 B.notSynchronized
theorem kj_preM (i n : Int32) (o : Option Nat) (h0 : ¬ i < 0) (h1 : i < n) : Met l yPre (Cond.code yPre prog_29_method_11_code 3 (some .int) :: kw) ({ frames := 0, cells := 0, slots := 0, locals := 0 }) (va_Pc [.int i, .int n, va_rf o] (fun _ => True)) (fun _ st oc t => oc = .returned (some (.int i)) ∧ t.heap = st.heap) 0 0 (fun _ => False) := by
  refine Met.ofW (cc := prog_29_method_11_code) (maxL := 3) (ret := some .int) (by decide) rfl ?_
  intro p e s m args below meth c s₁ B hml hv
  obtain ⟨rfl, -⟩ := hv
  have hx := B.exec
  have hb := B.bytes
  have go : ∀ (ls : Array Slot), lv_has ls 3 [(0, .int i), (1, .int n), (2, va_rf o)] → W p l e (headSpec (Cond.code yPre prog_29_method_11_code 3 (some .int) :: kw) { frames := 0, cells := 0, slots := 0, locals := 0 }).room s m #[.int i, .int n, va_rf o] below meth c s.heap [] 0 0 (MQ below (fun _ st oc t => oc = .returned (some (.int i)) ∧ t.heap = st.heap) #[.int i, .int n, va_rf o] s 0 0 (fun _ => False)) (F0 m 0 ls []) := by
    intro ls hl
    refine lv_iload_n hx hb dP_0 rfl (lv_at hl 0 rfl) ?_
    refine lv_if_lt hx hb dP_1 rfl (fun h => absurd h h0) (fun _ => ?_)
    refine lv_iload_n hx hb dP_4 rfl (lv_at hl 0 rfl) ?_
    refine lv_iload_n hx hb dP_5 rfl (lv_at hl 1 rfl) ?_
    refine lv_icmp_lt (tgt := 16) hx hb dP_6 rfl (fun _ => ?_) (fun h => absurd h1 h)
    refine lv_iload_n hx hb dP_16 rfl (lv_at hl 0 rfl) ?_
    exact W.iret hx hb B.returns (fun t ht hW => ⟨rfl, ht⟩) (fun _ h => by cases h) dP_17 B.notSynchronized
  cases o with
  | none =>
    have hl := lv_entry ([.int i, .int n, .null]) (n := 3) (Nat.le_of_ble_eq_true rfl)
    rw [show ([Value.int i, Value.int n, va_rf none].toArray) = [Value.int i, Value.int n, Value.null].toArray from rfl, lg_entry_eq]
    exact go _ hl
  | some t =>
    have hl := lv_entry ([.int i, .int n, .ref t]) (n := 3) (Nat.le_of_ble_eq_true rfl)
    rw [show ([Value.int i, Value.int n, va_rf (some t)].toArray) = [Value.int i, Value.int n, Value.ref t].toArray from rfl, lg_entry_eq]
    exact go _ hl
theorem kj_chkM (hw : kChW) (i n : Int32) (h0 : ¬ i < 0) (h1 : i < n) : Met l yChk (Cond.code yChk prog_22_method_155_code 2 none :: kw) ({ frames := 1, cells := 0, slots := 0, locals := 41 }) (va_Pc [.int i, .int n] (fun U => va_Zq "jdk/internal/util/Preconditions" "SIOOBE_FORMATTER" "Ljava/util/function/BiFunction;" (fun _ => False) U U.heap)) (fun _ st oc t => oc = .returned none ∧ t.heap = st.heap) 0 0 (fun _ => False) := by
  obtain ⟨⟨w1, w2, w3, w4⟩, w5, w6, w7, w8, w9⟩ := hw
  refine Met.ofW (cc := prog_22_method_155_code) (maxL := 2) (ret := none) (by decide) rfl ?_
  intro p e s m args below meth c s₁ B hml hv
  obtain ⟨rfl, hZ⟩ := hv
  have hts := atoms_spec (ws := Cond.code yChk prog_22_method_155_code 2 none :: kw) B.pre
  have hkw : ∀ w ∈ kw, w.before _ s = true := fun w h => hts w (List.mem_cons_of_mem _ h)
  have hown : s.vm.findClass "java/lang/String" = some m.cls := findClass_of_methodNamed B.named
  have hl := lv_entry ([.int i, .int n]) (n := 2) (Nat.le_of_ble_eq_true rfl)
  rw [lg_entry_eq]
  generalize (lg_sl ([.int i, .int n]) ++ List.replicate (2 - (lg_sl ([.int i, .int n])).length) Slot.unset).toArray = ls at hl ⊢
  have hl : lv_has ls 2 [(0, .int i), (1, .int n)] := hl
  have hx := B.exec
  have hb := B.bytes
  refine lv_iload_n hx hb dC_0 rfl (lv_at hl 0 rfl) ?_
  refine lv_iload_n hx hb dC_1 rfl (lv_at hl 1 rfl) ?_
  have go : ∀ o : Option Nat, W p l e (headSpec (Cond.code yChk prog_22_method_155_code 2 none :: kw) { frames := 1, cells := 0, slots := 0, locals := 41 }).room s m #[.int i, .int n] below meth c s.heap [] 0 0 (MQ below (fun _ st oc t => oc = .returned none ∧ t.heap = st.heap) #[.int i, .int n] s 0 0 (fun _ => False)) (F0 m 5 ls [va_rf o, .int n, .int i]) := by
    intro o
    have cw : CallB (headSpec (Cond.code yChk prog_22_method_155_code 2 none :: kw) { frames := 1, cells := 0, slots := 0, locals := 41 }).room s #[.int i, .int n] "java/lang/String" 1059 yPre prog_29_method_11_code 3 (some .int) (Cond.code yPre prog_29_method_11_code 3 (some .int) :: kw) { frames := 0, cells := 0, slots := 0, locals := 0 } 0 0 3 ∧ (Cond.static yPre).before #[.int i, .int n] s = true := callSs 3 hkw (kwI w6) rfl rfl rfl (hkw _ w7) (hkw _ w9) (hkw _ w8) ⟨by decide +kernel, by decide +kernel, by decide +kernel⟩ ⟨Nat.le_of_ble_eq_true rfl, Nat.le_of_ble_eq_true rfl⟩
    have hp : PreS s s.heap (va_Pc [.int i, .int n, va_rf o] (fun _ => True)) [.int i, .int n, va_rf o] := ⟨fun _ _ _ _ q => q, fun _ _ _ => ⟨rfl, trivial⟩⟩
    have run := va_runS (g := F0 m 5 ls [va_rf o, .int n, .int i]) (locs := []) (cells := 0) (slots := 0) (e := e) (below := below) (meth := meth) (rest := []) (H := s.heap) ⟨hx, hb, hml, hown, hkw⟩ (kj_preM (l := l) i n o h0 h1) cw hp rfl rfl hl.1 rfl (lv_room (by decide)) dC_5 ⟨Nat.zero_le _, Nat.zero_le _⟩
    refine kj_pure run ?_
    refine lv_pop hx hb dC_8 (by first | rfl | decide) ?_
    exact W.vret hx hb B.returns (fun t ht hW => ⟨rfl, ht⟩) (fun _ h => by cases h) dC_9 B.notSynchronized
  rcases hZ with hZ | ⟨t, hZ⟩
  · exact va_gets hx hb hZ va_S.rf hown (hkw _ w5) (fun _ h9 => h9) dC_2 (go none)
  · exact va_gets hx hb hZ va_S.rf hown (hkw _ w5) (fun _ h9 => h9) dC_2 (go (some t))
def kV0 : List Value := [.null, .int 0, .int 0, .long 0, .int 0, .int 0, .int 0, .int 0, .int 0]
def kV1 (b : Nat) : List Value := [.ref b, .int 0, .int 0, .long 9223372036854775807, .int 0, .int 0, .int 0, .int 0, .int 0]
set_option maxHeartbeats 4000000 in
theorem kj_valM (hw : kVaW) (dC : Nat → ClassId) (dI : Nat → Nat → Nat) (tys : List (ClassId × FieldType)) (a b sz : Nat) : Met l yVal (Cond.code yVal prog_12_method_1_code 2 none :: kw) ({ frames := 1, cells := 0, slots := 0, locals := 41 }) (va_Pc [.ref a, .ref b] (pW (dC, dI) [(a, .inr (11, kV0))] tys sz)) (va_Qv (fun _ : Unit => True) (fun _ t => va_P (dC, dI) classes [(a, .inr (11, kV1 b))] t.heap ∧ va_D (va_A [(a, .inr (11, kV0))] sz) [(a, .inr (11, kV1 b))]) (va_A [(a, .inr (11, kV0))] sz)) 0 0 (va_A [(a, .inr (11, kV0))] sz) := by
  obtain ⟨⟨w1, w2, w3, w4, w5, w6⟩, v1, v2, v3, v4, v5, v6⟩ := hw
  refine Met.ofW (cc := prog_12_method_1_code) (maxL := 2) (ret := none) (by decide) rfl ?_
  intro p e s m args below meth c s₁ B hml hv
  obtain ⟨rfl, hsz, hP, hK, hD0, hfx⟩ := hv
  have hx := B.exec
  have hb := B.bytes
  have hts := atoms_spec (ws := Cond.code yVal prog_12_method_1_code 2 none :: kw) B.pre
  have hkw : ∀ w ∈ kw, w.before _ s = true := fun w h => hts w (List.mem_cons_of_mem _ h)
  have hown : s.vm.findClass RX10 = some m.cls := findClass_of_methodNamed B.named
  have hin : meth.name = "<init>" := (name_of_methodNamed B.named B.method).1
  subst hsz
  have hD := hD0.self (sz := s.heap.size)
  generalize hAe : va_A [(a, .inr (11, kV0))] s.heap.size = A at hD ⊢
  have hS : va_S A s.heap s.heap [] := va_S.rf
  have hl := lv_entry ([.ref a, .ref b]) (n := 2) (Nat.le_of_ble_eq_true rfl)
  rw [lg_entry_eq]
  generalize (lg_sl ([.ref a, .ref b]) ++ List.replicate (2 - (lg_sl ([.ref a, .ref b])).length) Slot.unset).toArray = ls at hl ⊢
  have hl : lv_has ls 2 [(0, .ref a), (1, .ref b)] := hl
  refine lv_aload_n hx hb dV_0 rfl (lv_at hl 0 rfl) ?_
  refine W.objInit hx hb hown (hkw _ v1) (hkw _ v2) (hkw _ v3) rfl (by rw [hml]; exact hl.1) rfl dV_1 (Nat.le_of_ble_eq_true rfl) (Nat.le_of_ble_eq_true rfl) ?_
  refine W.eq (g2 := F0 m 4 ls []) rfl ?_
  refine lv_aload_n hx hb dV_4 rfl (lv_at hl 0 rfl) ?_
  refine lv_ldc2 hx hb hown (hkw _ v4) dV_5 ?_
  refine va_put (D := (dC, dI)) (ci := 11) (v := .long 9223372036854775807) (ty := .long) (C := RX10) (T := TX10) (N := 9) hx hb hkw kin_X10 tyX10 tyX10_ok nmX10 hown hK hP hD hS 0 rfl rfl 3 (by decide) (hkw _ v5) (fun _ h9 => h9) rfl (by decide +kernel) rfl rfl (Nat.le_of_ble_eq_true rfl) dV_8 (fun H locs hP hD hS => ?_)
  refine lv_aload_n hx hb dV_11 rfl (lv_at hl 0 rfl) ?_
  refine lv_aload_n hx hb dV_12 rfl (lv_at hl 1 rfl) ?_
  refine va_putF (D := (dC, dI)) (ci := 11) (v := .ref b) (ty := .object "KeySteward$Keys") (C := RX10) (T := TX10) (N := 9) hx hb hkw kin_X10 tyX10 tyX10_ok nmX10 hown hK hP hD hS 0 rfl rfl 0 (by decide) (hkw _ v6) (fun _ h9 => h9) rfl hin rfl (by decide +kernel) rfl rfl (Nat.le_of_ble_eq_true rfl) dV_13 (fun H locs hP hD hS => ?_)
  exact W.vret hx hb B.returns (fun t ht hW => ⟨⟨(), rfl, trivial, by rw [ht]; exact hP, hD⟩, hS.F ht⟩) hS.2.2 dV_16 B.notSynchronized
end KJS
