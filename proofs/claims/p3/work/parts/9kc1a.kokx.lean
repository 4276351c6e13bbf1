/-! The words of the class's tables, more. -/
section KOKW
theorem lp_1 {q : MethodName × Nat} (h : q ∈ lw_privs_1) : q ∈ lw_privs := (List.mem_append_left _ h)
theorem lp_2 {q : MethodName × Nat} (h : q ∈ lw_privs_2) : q ∈ lw_privs := (List.mem_append_right _ (List.mem_append_left _ h))
theorem lp_3 {q : MethodName × Nat} (h : q ∈ lw_privs_3) : q ∈ lw_privs := (List.mem_append_right _ (List.mem_append_right _ (List.mem_append_left _ h)))
theorem lp_4 {q : MethodName × Nat} (h : q ∈ lw_privs_4) : q ∈ lw_privs := (List.mem_append_right _ (List.mem_append_right _ (List.mem_append_right _ (List.mem_append_left _ h))))
theorem lp_5 {q : MethodName × Nat} (h : q ∈ lw_privs_5) : q ∈ lw_privs := (List.mem_append_right _ (List.mem_append_right _ (List.mem_append_right _ (List.mem_append_right _ (List.mem_append_left _ h)))))
theorem lp_6 {q : MethodName × Nat} (h : q ∈ lw_privs_6) : q ∈ lw_privs := (List.mem_append_right _ (List.mem_append_right _ (List.mem_append_right _ (List.mem_append_right _ (List.mem_append_right _ (List.mem_append_left _ h))))))
theorem lp_7 {q : MethodName × Nat} (h : q ∈ lw_privs_7) : q ∈ lw_privs := (List.mem_append_right _ (List.mem_append_right _ (List.mem_append_right _ (List.mem_append_right _ (List.mem_append_right _ (List.mem_append_right _ (List.mem_append_left _ h)))))))
theorem lp_8 {q : MethodName × Nat} (h : q ∈ lw_privs_8) : q ∈ lw_privs := (List.mem_append_right _ (List.mem_append_right _ (List.mem_append_right _ (List.mem_append_right _ (List.mem_append_right _ (List.mem_append_right _ (List.mem_append_right _ (List.mem_append_left _ h))))))))
def kCX (x : Nat) : Prop := Cond.code (kQQ kYN x).1 (kQQ kYN x).2.1 (kQQ kYN x).2.2.2.1 (kRt (kQQ kYN x).2.2.2.2.1) ∈ kw ∧ Cond.initialized (kQQ kYN x).1.cls ∈ kw ∧ ((kQQ kYN x).1.cls ≠ "java/lang/invoke/MethodHandle" ∧ (kQQ kYN x).1.cls ≠ "java/lang/invoke/VarHandle" ∧ (parseMethodDescriptor (kQQ kYN x).1.desc).map (fun d => d.parameters.length) = some (kQQ kYN x).2.2.1) ∧ (kQQ kYN x).2.2.2.1 ≤ 22
def kVX (x : Nat) : Prop := Cond.instanceMethod (kQQ kYN x).1 ∈ kw ∧ Cond.selects (kCn (kQQ kYN x).2.2.2.2.2) (kQQ kYN x).1 (kQQ kYN x).1 ∈ kw ∧ ((kQQ kYN x).2.2.2.2.2 < 20 → (kQQ kYN x).2.2.2.2.2 < 12 ∧ ¬ (kQQ kYN x).2.2.2.2.2 = 10)
set_option maxRecDepth 100000 in
theorem kcx_20 : kCX 20 := ⟨kw_tab (tl_in (tb_3 (List.mem_of_getElem? (i := 51) rfl))) rfl, kw_tab (tl_in (tb_1 (List.mem_of_getElem? (i := 1) (by decide +kernel)))) rfl, ⟨by decide +kernel, by decide +kernel, by decide +kernel⟩, by decide +kernel⟩
theorem kvx_20 : kVX 20 := ⟨kw_tab (tl_in (tb_3 (List.mem_of_getElem? (i := 50) (by decide +kernel)))) rfl, kw_tab (sl_in (q := (⟨"KeySteward", "connectionOf", "(I)LKeySteward$Connection;"⟩, 18)) (lp_1 (List.mem_of_getElem? (i := 0) (by decide +kernel)))) rfl, by decide +kernel⟩
set_option maxRecDepth 100000 in
theorem kcx_21 : kCX 21 := ⟨kw_tab (tl_in (tb_8 (List.mem_of_getElem? (i := 170) rfl))) rfl, kw_tab (tl_in (tb_1 (List.mem_of_getElem? (i := 1) (by decide +kernel)))) rfl, ⟨by decide +kernel, by decide +kernel, by decide +kernel⟩, by decide +kernel⟩
theorem kvx_21 : kVX 21 := ⟨kw_tab (tl_in (tb_8 (List.mem_of_getElem? (i := 169) (by decide +kernel)))) rfl, kw_tab (sl_in (q := (⟨"KeySteward", "keepRest", "(LKeySteward$Connection;I)V"⟩, 18)) (lp_9 (List.mem_of_getElem? (i := 1) (by decide +kernel)))) rfl, by decide +kernel⟩
set_option maxRecDepth 100000 in
theorem kcx_22 : kCX 22 := ⟨kw_tab (tl_in (tb_8 (List.mem_of_getElem? (i := 155) rfl))) rfl, kw_tab (tl_in (tb_1 (List.mem_of_getElem? (i := 1) (by decide +kernel)))) rfl, ⟨by decide +kernel, by decide +kernel, by decide +kernel⟩, by decide +kernel⟩
theorem kvx_22 : kVX 22 := ⟨kw_tab (tl_in (tb_8 (List.mem_of_getElem? (i := 154) (by decide +kernel)))) rfl, kw_tab (sl_in (q := (⟨"KeySteward", "halt", "()V"⟩, 18)) (lp_9 (List.mem_of_getElem? (i := 0) (by decide +kernel)))) rfl, by decide +kernel⟩
set_option maxRecDepth 100000 in
theorem kcx_23 : kCX 23 := ⟨kw_tab (tl_in (tb_8 (List.mem_of_getElem? (i := 151) rfl))) rfl, kw_tab (tl_in (tb_1 (List.mem_of_getElem? (i := 1) (by decide +kernel)))) rfl, ⟨by decide +kernel, by decide +kernel, by decide +kernel⟩, by decide +kernel⟩
theorem kvx_23 : kVX 23 := ⟨kw_tab (tl_in (tb_8 (List.mem_of_getElem? (i := 150) (by decide +kernel)))) rfl, kw_tab (sl_in (q := (⟨"KeySteward", "burn", "(I)V"⟩, 18)) (lp_8 (List.mem_of_getElem? (i := 15) (by decide +kernel)))) rfl, by decide +kernel⟩
set_option maxRecDepth 100000 in
theorem kcx_24 : kCX 24 := ⟨kw_tab (tl_in (tb_3 (List.mem_of_getElem? (i := 173) rfl))) rfl, kw_tab (tl_in (tb_1 (List.mem_of_getElem? (i := 1) (by decide +kernel)))) rfl, ⟨by decide +kernel, by decide +kernel, by decide +kernel⟩, by decide +kernel⟩
theorem kvx_24 : kVX 24 := ⟨kw_tab (tl_in (tb_3 (List.mem_of_getElem? (i := 172) (by decide +kernel)))) rfl, kw_tab (sl_in (q := (⟨"KeySteward", "ad" ++ "mit", "(LKeySteward$Connection;)I"⟩, 18)) (lp_1 (List.mem_of_getElem? (i := 7) (by decide +kernel)))) rfl, by decide +kernel⟩
set_option maxRecDepth 100000 in
theorem kcx_25 : kCX 25 := ⟨kw_tab (tl_in (tb_3 (List.mem_of_getElem? (i := 216) rfl))) rfl, kw_tab (tl_in (tb_1 (List.mem_of_getElem? (i := 1) (by decide +kernel)))) rfl, ⟨by decide +kernel, by decide +kernel, by decide +kernel⟩, by decide +kernel⟩
theorem kvx_25 : kVX 25 := ⟨kw_tab (tl_in (tb_3 (List.mem_of_getElem? (i := 215) (by decide +kernel)))) rfl, kw_tab (sl_in (q := (⟨"KeySteward", "beginBlock", "(LKeySteward$Connection;)I"⟩, 18)) (lp_1 (List.mem_of_getElem? (i := 8) (by decide +kernel)))) rfl, by decide +kernel⟩
set_option maxRecDepth 100000 in
theorem kcx_26 : kCX 26 := ⟨kw_tab (tl_in (tb_4 (List.mem_of_getElem? (i := 20) rfl))) rfl, kw_tab (tl_in (tb_1 (List.mem_of_getElem? (i := 1) (by decide +kernel)))) rfl, ⟨by decide +kernel, by decide +kernel, by decide +kernel⟩, by decide +kernel⟩
theorem kvx_26 : kVX 26 := ⟨kw_tab (tl_in (tb_4 (List.mem_of_getElem? (i := 19) (by decide +kernel)))) rfl, kw_tab (sl_in (q := (⟨"KeySteward", "nextOfBlock", "()V"⟩, 18)) (lp_1 (List.mem_of_getElem? (i := 10) (by decide +kernel)))) rfl, by decide +kernel⟩
set_option maxRecDepth 100000 in
theorem kcx_27 : kCX 27 := ⟨kw_tab (tl_in (tb_4 (List.mem_of_getElem? (i := 24) rfl))) rfl, kw_tab (tl_in (tb_1 (List.mem_of_getElem? (i := 1) (by decide +kernel)))) rfl, ⟨by decide +kernel, by decide +kernel, by decide +kernel⟩, by decide +kernel⟩
theorem kvx_27 : kVX 27 := ⟨kw_tab (tl_in (tb_4 (List.mem_of_getElem? (i := 23) (by decide +kernel)))) rfl, kw_tab (sl_in (q := (⟨"KeySteward", "perform", "(LKeySteward$Connection;)V"⟩, 18)) (lp_1 (List.mem_of_getElem? (i := 11) (by decide +kernel)))) rfl, by decide +kernel⟩
set_option maxRecDepth 100000 in
theorem kcx_28 : kCX 28 := ⟨kw_tab (tl_in (tb_8 (List.mem_of_getElem? (i := 146) rfl))) rfl, kw_tab (tl_in (tb_1 (List.mem_of_getElem? (i := 1) (by decide +kernel)))) rfl, ⟨by decide +kernel, by decide +kernel, by decide +kernel⟩, by decide +kernel⟩
theorem kvx_28 : kVX 28 := ⟨kw_tab (tl_in (tb_8 (List.mem_of_getElem? (i := 145) (by decide +kernel)))) rfl, kw_tab (sl_in (q := (⟨"KeySteward", "finish", "(LKeySteward$Connection;I)V"⟩, 18)) (lp_8 (List.mem_of_getElem? (i := 14) (by decide +kernel)))) rfl, by decide +kernel⟩
set_option maxRecDepth 100000 in
theorem kcx_29 : kCX 29 := ⟨kw_tab (tl_in (tb_8 (List.mem_of_getElem? (i := 130) rfl))) rfl, kw_tab (tl_in (tb_1 (List.mem_of_getElem? (i := 1) (by decide +kernel)))) rfl, ⟨by decide +kernel, by decide +kernel, by decide +kernel⟩, by decide +kernel⟩
theorem kvx_29 : kVX 29 := ⟨kw_tab (tl_in (tb_8 (List.mem_of_getElem? (i := 129) (by decide +kernel)))) rfl, kw_tab (sl_in (q := (⟨"KeySteward", "note", "()V"⟩, 18)) (lp_8 (List.mem_of_getElem? (i := 12) (by decide +kernel)))) rfl, by decide +kernel⟩
set_option maxRecDepth 100000 in
theorem kcx_30 : kCX 30 := ⟨kw_tab (tl_in (tb_8 (List.mem_of_getElem? (i := 135) rfl))) rfl, kw_tab (tl_in (tb_1 (List.mem_of_getElem? (i := 1) (by decide +kernel)))) rfl, ⟨by decide +kernel, by decide +kernel, by decide +kernel⟩, by decide +kernel⟩
theorem kvx_30 : kVX 30 := ⟨kw_tab (tl_in (tb_8 (List.mem_of_getElem? (i := 134) (by decide +kernel)))) rfl, kw_tab (sl_in (q := (⟨"KeySteward", "noteSet", "()V"⟩, 18)) (lp_8 (List.mem_of_getElem? (i := 13) (by decide +kernel)))) rfl, by decide +kernel⟩
set_option maxRecDepth 100000 in
theorem kcx_31 : kCX 31 := ⟨kw_tab (tl_in (tb_8 (List.mem_of_getElem? (i := 200) rfl))) rfl, kw_tab (tl_in (tb_1 (List.mem_of_getElem? (i := 1) (by decide +kernel)))) rfl, ⟨by decide +kernel, by decide +kernel, by decide +kernel⟩, by decide +kernel⟩
theorem kvx_31 : kVX 31 := ⟨kw_tab (tl_in (tb_8 (List.mem_of_getElem? (i := 199) (by decide +kernel)))) rfl, kw_tab (sl_in (q := (⟨"KeySteward", "expire", "()I"⟩, 18)) (lp_9 (List.mem_of_getElem? (i := 2) (by decide +kernel)))) rfl, by decide +kernel⟩
set_option maxRecDepth 100000 in
theorem kcx_32 : kCX 32 := ⟨kw_tab (tl_in (tb_8 (List.mem_of_getElem? (i := 228) rfl))) rfl, kw_tab (tl_in (tb_1 (List.mem_of_getElem? (i := 1) (by decide +kernel)))) rfl, ⟨by decide +kernel, by decide +kernel, by decide +kernel⟩, by decide +kernel⟩
theorem kvx_32 : kVX 32 := ⟨kw_tab (tl_in (tb_8 (List.mem_of_getElem? (i := 227) (by decide +kernel)))) rfl, kw_tab (sl_in (q := (⟨"KeySteward", "recordEnd", "(I)I"⟩, 18)) (lp_9 (List.mem_of_getElem? (i := 3) (by decide +kernel)))) rfl, by decide +kernel⟩
set_option maxRecDepth 100000 in
theorem kcx_33 : kCX 33 := ⟨kw_tab (tl_in (tb_8 (List.mem_of_getElem? (i := 232) rfl))) rfl, kw_tab (tl_in (tb_1 (List.mem_of_getElem? (i := 1) (by decide +kernel)))) rfl, ⟨by decide +kernel, by decide +kernel, by decide +kernel⟩, by decide +kernel⟩
theorem kvx_33 : kVX 33 := ⟨kw_tab (tl_in (tb_8 (List.mem_of_getElem? (i := 231) (by decide +kernel)))) rfl, kw_tab (sl_in (q := (⟨"KeySteward", "logged", "(I)LKeySteward$Command;"⟩, 18)) (lp_9 (List.mem_of_getElem? (i := 4) (by decide +kernel)))) rfl, by decide +kernel⟩
set_option maxRecDepth 100000 in
theorem kcx_34 : kCX 34 := ⟨kw_tab (tl_in (tb_9 (List.mem_of_getElem? (i := 6) rfl))) rfl, kw_tab (tl_in (tb_1 (List.mem_of_getElem? (i := 1) (by decide +kernel)))) rfl, ⟨by decide +kernel, by decide +kernel, by decide +kernel⟩, by decide +kernel⟩
theorem kvx_34 : kVX 34 := ⟨kw_tab (tl_in (tb_9 (List.mem_of_getElem? (i := 5) (by decide +kernel)))) rfl, kw_tab (sl_in (q := (⟨"KeySteward", "tellKey", "(ILKeySteward$Value;)V"⟩, 18)) (lp_9 (List.mem_of_getElem? (i := 5) (by decide +kernel)))) rfl, by decide +kernel⟩
set_option maxRecDepth 100000 in
theorem kcx_35 : kCX 35 := ⟨kw_tab (tl_in (tb_9 (List.mem_of_getElem? (i := 12) rfl))) rfl, kw_tab (tl_in (tb_1 (List.mem_of_getElem? (i := 1) (by decide +kernel)))) rfl, ⟨by decide +kernel, by decide +kernel, by decide +kernel⟩, by decide +kernel⟩
theorem kvx_35 : kVX 35 := ⟨kw_tab (tl_in (tb_9 (List.mem_of_getElem? (i := 11) (by decide +kernel)))) rfl, kw_tab (sl_in (q := (⟨"KeySteward", "tellPart", "(ILKeySteward$Value;II)V"⟩, 18)) (lp_9 (List.mem_of_getElem? (i := 6) (by decide +kernel)))) rfl, by decide +kernel⟩
set_option maxRecDepth 100000 in
theorem kcx_36 : kCX 36 := ⟨kw_tab (tl_in (tb_8 (List.mem_of_getElem? (i := 60) rfl))) rfl, kw_tab (tl_in (tb_1 (List.mem_of_getElem? (i := 1) (by decide +kernel)))) rfl, ⟨by decide +kernel, by decide +kernel, by decide +kernel⟩, by decide +kernel⟩
theorem kvx_36 : kVX 36 := ⟨kw_tab (tl_in (tb_8 (List.mem_of_getElem? (i := 59) (by decide +kernel)))) rfl, kw_tab (sl_in (q := (⟨"KeySteward", "runOther", "(LKeySteward$Command;LKeySteward$Connection;)V"⟩, 18)) (lp_8 (List.mem_of_getElem? (i := 7) (by decide +kernel)))) rfl, by decide +kernel⟩
set_option maxRecDepth 100000 in
theorem kcx_37 : kCX 37 := ⟨kw_tab (tl_in (tb_8 (List.mem_of_getElem? (i := 101) rfl))) rfl, kw_tab (tl_in (tb_1 (List.mem_of_getElem? (i := 1) (by decide +kernel)))) rfl, ⟨by decide +kernel, by decide +kernel, by decide +kernel⟩, by decide +kernel⟩
theorem kvx_37 : kVX 37 := ⟨kw_tab (tl_in (tb_8 (List.mem_of_getElem? (i := 100) (by decide +kernel)))) rfl, kw_tab (sl_in (q := (⟨"KeySteward", "runBlockWord", "(LKeySteward$Command;LKeySteward$Connection;)V"⟩, 18)) (lp_8 (List.mem_of_getElem? (i := 10) (by decide +kernel)))) rfl, by decide +kernel⟩
set_option maxRecDepth 100000 in
theorem kcx_38 : kCX 38 := ⟨kw_tab (tl_in (tb_8 (List.mem_of_getElem? (i := 90) rfl))) rfl, kw_tab (tl_in (tb_1 (List.mem_of_getElem? (i := 1) (by decide +kernel)))) rfl, ⟨by decide +kernel, by decide +kernel, by decide +kernel⟩, by decide +kernel⟩
theorem kvx_38 : kVX 38 := ⟨kw_tab (tl_in (tb_8 (List.mem_of_getElem? (i := 89) (by decide +kernel)))) rfl, kw_tab (sl_in (q := (⟨"KeySteward", "publish", "()V"⟩, 18)) (lp_8 (List.mem_of_getElem? (i := 9) (by decide +kernel)))) rfl, by decide +kernel⟩
set_option maxRecDepth 100000 in
theorem kcx_40 : kCX 40 := ⟨kw_tab (tl_in (tb_3 (List.mem_of_getElem? (i := 55) rfl))) rfl, kw_tab (tl_in (tb_1 (List.mem_of_getElem? (i := 2) (by decide +kernel)))) rfl, ⟨by decide +kernel, by decide +kernel, by decide +kernel⟩, by decide +kernel⟩
theorem kvx_40 : kVX 40 := ⟨kw_tab (tl_in (tb_3 (List.mem_of_getElem? (i := 53) (by decide +kernel)))) rfl, kw_tab (tl_in (tb_3 (List.mem_of_getElem? (i := 54) (by decide +kernel)))) rfl, by decide +kernel⟩
set_option maxRecDepth 100000 in
theorem kcx_41 : kCX 41 := ⟨kw_tab (tl_in (tb_3 (List.mem_of_getElem? (i := 15) rfl))) rfl, kw_tab (tl_in (tb_1 (List.mem_of_getElem? (i := 2) (by decide +kernel)))) rfl, ⟨by decide +kernel, by decide +kernel, by decide +kernel⟩, by decide +kernel⟩
theorem kvx_41 : kVX 41 := ⟨kw_tab (tl_in (tb_3 (List.mem_of_getElem? (i := 13) (by decide +kernel)))) rfl, kw_tab (tl_in (tb_3 (List.mem_of_getElem? (i := 14) (by decide +kernel)))) rfl, by decide +kernel⟩
set_option maxRecDepth 100000 in
theorem kcx_42 : kCX 42 := ⟨kw_tab (tl_in (tb_8 (List.mem_of_getElem? (i := 236) rfl))) rfl, kw_tab (tl_in (tb_1 (List.mem_of_getElem? (i := 2) (by decide +kernel)))) rfl, ⟨by decide +kernel, by decide +kernel, by decide +kernel⟩, by decide +kernel⟩
theorem kvx_42 : kVX 42 := ⟨kw_tab (tl_in (tb_8 (List.mem_of_getElem? (i := 234) (by decide +kernel)))) rfl, kw_tab (tl_in (tb_8 (List.mem_of_getElem? (i := 235) (by decide +kernel)))) rfl, by decide +kernel⟩
set_option maxRecDepth 100000 in
theorem kcx_43 : kCX 43 := ⟨kw_tab (tl_in (tb_3 (List.mem_of_getElem? (i := 11) rfl))) rfl, kw_tab (tl_in (tb_1 (List.mem_of_getElem? (i := 2) (by decide +kernel)))) rfl, ⟨by decide +kernel, by decide +kernel, by decide +kernel⟩, by decide +kernel⟩
theorem kvx_43 : kVX 43 := ⟨kw_tab (tl_in (tb_3 (List.mem_of_getElem? (i := 9) (by decide +kernel)))) rfl, kw_tab (tl_in (tb_3 (List.mem_of_getElem? (i := 10) (by decide +kernel)))) rfl, by decide +kernel⟩
set_option maxRecDepth 100000 in
theorem kcx_44 : kCX 44 := ⟨kw_tab (tl_in (tb_3 (List.mem_of_getElem? (i := 59) rfl))) rfl, kw_tab (tl_in (tb_1 (List.mem_of_getElem? (i := 2) (by decide +kernel)))) rfl, ⟨by decide +kernel, by decide +kernel, by decide +kernel⟩, by decide +kernel⟩
theorem kvx_44 : kVX 44 := ⟨kw_tab (tl_in (tb_3 (List.mem_of_getElem? (i := 57) (by decide +kernel)))) rfl, kw_tab (tl_in (tb_3 (List.mem_of_getElem? (i := 58) (by decide +kernel)))) rfl, by decide +kernel⟩
set_option maxRecDepth 100000 in
theorem kcx_45 : kCX 45 := ⟨kw_tab (tl_in (tb_8 (List.mem_of_getElem? (i := 174) rfl))) rfl, kw_tab (tl_in (tb_1 (List.mem_of_getElem? (i := 2) (by decide +kernel)))) rfl, ⟨by decide +kernel, by decide +kernel, by decide +kernel⟩, by decide +kernel⟩
theorem kvx_45 : kVX 45 := ⟨kw_tab (tl_in (tb_8 (List.mem_of_getElem? (i := 172) (by decide +kernel)))) rfl, kw_tab (tl_in (tb_8 (List.mem_of_getElem? (i := 173) (by decide +kernel)))) rfl, by decide +kernel⟩
set_option maxRecDepth 100000 in
theorem kcx_46 : kCX 46 := ⟨kw_tab (tl_in (tb_3 (List.mem_of_getElem? (i := 43) rfl))) rfl, kw_tab (tl_in (tb_1 (List.mem_of_getElem? (i := 2) (by decide +kernel)))) rfl, ⟨by decide +kernel, by decide +kernel, by decide +kernel⟩, by decide +kernel⟩
theorem kvx_46 : kVX 46 := ⟨kw_tab (tl_in (tb_3 (List.mem_of_getElem? (i := 41) (by decide +kernel)))) rfl, kw_tab (tl_in (tb_3 (List.mem_of_getElem? (i := 42) (by decide +kernel)))) rfl, by decide +kernel⟩
set_option maxRecDepth 100000 in
theorem kcx_47 : kCX 47 := ⟨kw_tab (tl_in (tb_3 (List.mem_of_getElem? (i := 226) rfl))) rfl, kw_tab (tl_in (tb_1 (List.mem_of_getElem? (i := 2) (by decide +kernel)))) rfl, ⟨by decide +kernel, by decide +kernel, by decide +kernel⟩, by decide +kernel⟩
theorem kvx_47 : kVX 47 := ⟨kw_tab (tl_in (tb_3 (List.mem_of_getElem? (i := 224) (by decide +kernel)))) rfl, kw_tab (tl_in (tb_3 (List.mem_of_getElem? (i := 225) (by decide +kernel)))) rfl, by decide +kernel⟩
set_option maxRecDepth 100000 in
theorem kcx_48 : kCX 48 := ⟨kw_tab (tl_in (tb_5 (List.mem_of_getElem? (i := 205) rfl))) rfl, kw_tab (tl_in (tb_1 (List.mem_of_getElem? (i := 2) (by decide +kernel)))) rfl, ⟨by decide +kernel, by decide +kernel, by decide +kernel⟩, by decide +kernel⟩
theorem kvx_48 : kVX 48 := ⟨kw_tab (tl_in (tb_5 (List.mem_of_getElem? (i := 203) (by decide +kernel)))) rfl, kw_tab (tl_in (tb_5 (List.mem_of_getElem? (i := 204) (by decide +kernel)))) rfl, by decide +kernel⟩
set_option maxRecDepth 100000 in
theorem kcx_49 : kCX 49 := ⟨kw_tab (tl_in (tb_3 (List.mem_of_getElem? (i := 96) rfl))) rfl, kw_tab (tl_in (tb_1 (List.mem_of_getElem? (i := 2) (by decide +kernel)))) rfl, ⟨by decide +kernel, by decide +kernel, by decide +kernel⟩, by decide +kernel⟩
theorem kvx_49 : kVX 49 := ⟨kw_tab (tl_in (tb_3 (List.mem_of_getElem? (i := 94) (by decide +kernel)))) rfl, kw_tab (tl_in (tb_3 (List.mem_of_getElem? (i := 95) (by decide +kernel)))) rfl, by decide +kernel⟩
set_option maxRecDepth 100000 in
theorem kcx_50 : kCX 50 := ⟨kw_tab (tl_in (tb_4 (List.mem_of_getElem? (i := 15) rfl))) rfl, kw_tab (tl_in (tb_1 (List.mem_of_getElem? (i := 2) (by decide +kernel)))) rfl, ⟨by decide +kernel, by decide +kernel, by decide +kernel⟩, by decide +kernel⟩
theorem kvx_50 : kVX 50 := ⟨kw_tab (tl_in (tb_4 (List.mem_of_getElem? (i := 13) (by decide +kernel)))) rfl, kw_tab (tl_in (tb_4 (List.mem_of_getElem? (i := 14) (by decide +kernel)))) rfl, by decide +kernel⟩
set_option maxRecDepth 100000 in
theorem kcx_51 : kCX 51 := ⟨kw_tab (tl_in (tb_5 (List.mem_of_getElem? (i := 136) rfl))) rfl, kw_tab (tl_in (tb_1 (List.mem_of_getElem? (i := 2) (by decide +kernel)))) rfl, ⟨by decide +kernel, by decide +kernel, by decide +kernel⟩, by decide +kernel⟩
theorem kvx_51 : kVX 51 := ⟨kw_tab (tl_in (tb_5 (List.mem_of_getElem? (i := 134) (by decide +kernel)))) rfl, kw_tab (tl_in (tb_5 (List.mem_of_getElem? (i := 135) (by decide +kernel)))) rfl, by decide +kernel⟩
set_option maxRecDepth 100000 in
theorem kcx_52 : kCX 52 := ⟨kw_tab (tl_in (tb_7 (List.mem_of_getElem? (i := 195) rfl))) rfl, kw_tab (tl_in (tb_1 (List.mem_of_getElem? (i := 2) (by decide +kernel)))) rfl, ⟨by decide +kernel, by decide +kernel, by decide +kernel⟩, by decide +kernel⟩
theorem kvx_52 : kVX 52 := ⟨kw_tab (tl_in (tb_7 (List.mem_of_getElem? (i := 193) (by decide +kernel)))) rfl, kw_tab (tl_in (tb_7 (List.mem_of_getElem? (i := 194) (by decide +kernel)))) rfl, by decide +kernel⟩
set_option maxRecDepth 100000 in
theorem kcx_53 : kCX 53 := ⟨kw_tab (tl_in (tb_3 (List.mem_of_getElem? (i := 110) rfl))) rfl, kw_tab (tl_in (tb_1 (List.mem_of_getElem? (i := 2) (by decide +kernel)))) rfl, ⟨by decide +kernel, by decide +kernel, by decide +kernel⟩, by decide +kernel⟩
theorem kvx_53 : kVX 53 := ⟨kw_tab (tl_in (tb_3 (List.mem_of_getElem? (i := 109) (by decide +kernel)))) rfl, kw_tab (sl_in (q := (⟨"KeySteward$Bytes", "spellMark", "(I)V"⟩, 4)) (lp_1 (List.mem_of_getElem? (i := 4) (by decide +kernel)))) rfl, by decide +kernel⟩
set_option maxRecDepth 100000 in
theorem kcx_54 : kCX 54 := ⟨kw_tab (tl_in (tb_3 (List.mem_of_getElem? (i := 156) rfl))) rfl, kw_tab (tl_in (tb_1 (List.mem_of_getElem? (i := 2) (by decide +kernel)))) rfl, ⟨by decide +kernel, by decide +kernel, by decide +kernel⟩, by decide +kernel⟩
theorem kvx_54 : kVX 54 := ⟨kw_tab (tl_in (tb_3 (List.mem_of_getElem? (i := 155) (by decide +kernel)))) rfl, kw_tab (sl_in (q := (⟨"KeySteward$Bytes", "spellEnd", "()V"⟩, 4)) (lp_1 (List.mem_of_getElem? (i := 6) (by decide +kernel)))) rfl, by decide +kernel⟩
set_option maxRecDepth 100000 in
theorem kcx_55 : kCX 55 := ⟨kw_tab (tl_in (tb_3 (List.mem_of_getElem? (i := 114) rfl))) rfl, kw_tab (tl_in (tb_1 (List.mem_of_getElem? (i := 2) (by decide +kernel)))) rfl, ⟨by decide +kernel, by decide +kernel, by decide +kernel⟩, by decide +kernel⟩
theorem kvx_55 : kVX 55 := ⟨kw_tab (tl_in (tb_3 (List.mem_of_getElem? (i := 113) (by decide +kernel)))) rfl, kw_tab (sl_in (q := (⟨"KeySteward$Bytes", "spellText", "(Ljava/lang/String;)V"⟩, 4)) (lp_1 (List.mem_of_getElem? (i := 5) (by decide +kernel)))) rfl, by decide +kernel⟩
set_option maxRecDepth 100000 in
theorem kcx_56 : kCX 56 := ⟨kw_tab (tl_in (tb_3 (List.mem_of_getElem? (i := 234) rfl))) rfl, kw_tab (tl_in (tb_1 (List.mem_of_getElem? (i := 2) (by decide +kernel)))) rfl, ⟨by decide +kernel, by decide +kernel, by decide +kernel⟩, by decide +kernel⟩
theorem kvx_56 : kVX 56 := ⟨kw_tab (tl_in (tb_3 (List.mem_of_getElem? (i := 233) (by decide +kernel)))) rfl, kw_tab (sl_in (q := (⟨"KeySteward$Bytes", "spell", "(JI)V"⟩, 4)) (lp_1 (List.mem_of_getElem? (i := 9) (by decide +kernel)))) rfl, by decide +kernel⟩
set_option maxRecDepth 100000 in
theorem kcx_58 : kCX 58 := ⟨kw_tab (tl_in (tb_4 (List.mem_of_getElem? (i := 99) rfl))) rfl, kw_tab (tl_in (tb_1 (List.mem_of_getElem? (i := 2) (by decide +kernel)))) rfl, ⟨by decide +kernel, by decide +kernel, by decide +kernel⟩, by decide +kernel⟩
theorem kvx_58 : kVX 58 := ⟨kw_tab (tl_in (tb_4 (List.mem_of_getElem? (i := 97) (by decide +kernel)))) rfl, kw_tab (tl_in (tb_4 (List.mem_of_getElem? (i := 98) (by decide +kernel)))) rfl, by decide +kernel⟩
set_option maxRecDepth 100000 in
theorem kcx_59 : kCX 59 := ⟨kw_tab (tl_in (tb_4 (List.mem_of_getElem? (i := 107) rfl))) rfl, kw_tab (tl_in (tb_1 (List.mem_of_getElem? (i := 2) (by decide +kernel)))) rfl, ⟨by decide +kernel, by decide +kernel, by decide +kernel⟩, by decide +kernel⟩
theorem kvx_59 : kVX 59 := ⟨kw_tab (tl_in (tb_4 (List.mem_of_getElem? (i := 105) (by decide +kernel)))) rfl, kw_tab (tl_in (tb_4 (List.mem_of_getElem? (i := 106) (by decide +kernel)))) rfl, by decide +kernel⟩
set_option maxRecDepth 100000 in
theorem kcx_60 : kCX 60 := ⟨kw_tab (tl_in (tb_3 (List.mem_of_getElem? (i := 239) rfl))) rfl, kw_tab (tl_in (tb_1 (List.mem_of_getElem? (i := 2) (by decide +kernel)))) rfl, ⟨by decide +kernel, by decide +kernel, by decide +kernel⟩, by decide +kernel⟩
theorem kvx_60 : kVX 60 := ⟨kw_tab (tl_in (tb_3 (List.mem_of_getElem? (i := 237) (by decide +kernel)))) rfl, kw_tab (tl_in (tb_3 (List.mem_of_getElem? (i := 238) (by decide +kernel)))) rfl, by decide +kernel⟩
set_option maxRecDepth 100000 in
theorem kcx_61 : kCX 61 := ⟨kw_tab (tl_in (tb_3 (List.mem_of_getElem? (i := 221) rfl))) rfl, kw_tab (tl_in (tb_1 (List.mem_of_getElem? (i := 2) (by decide +kernel)))) rfl, ⟨by decide +kernel, by decide +kernel, by decide +kernel⟩, by decide +kernel⟩
theorem kvx_61 : kVX 61 := ⟨kw_tab (tl_in (tb_3 (List.mem_of_getElem? (i := 219) (by decide +kernel)))) rfl, kw_tab (tl_in (tb_3 (List.mem_of_getElem? (i := 220) (by decide +kernel)))) rfl, by decide +kernel⟩
set_option maxRecDepth 100000 in
theorem kcx_63 : kCX 63 := ⟨kw_tab (tl_in (tb_3 (List.mem_of_getElem? (i := 160) rfl))) rfl, kw_tab (tl_in (tb_1 (List.mem_of_getElem? (i := 3) (by decide +kernel)))) rfl, ⟨by decide +kernel, by decide +kernel, by decide +kernel⟩, by decide +kernel⟩
theorem kvx_63 : kVX 63 := ⟨kw_tab (tl_in (tb_3 (List.mem_of_getElem? (i := 158) (by decide +kernel)))) rfl, kw_tab (tl_in (tb_3 (List.mem_of_getElem? (i := 159) (by decide +kernel)))) rfl, by decide +kernel⟩
set_option maxRecDepth 100000 in
theorem kcx_64 : kCX 64 := ⟨kw_tab (tl_in (tb_3 (List.mem_of_getElem? (i := 165) rfl))) rfl, kw_tab (tl_in (tb_1 (List.mem_of_getElem? (i := 3) (by decide +kernel)))) rfl, ⟨by decide +kernel, by decide +kernel, by decide +kernel⟩, by decide +kernel⟩
theorem kvx_64 : kVX 64 := ⟨kw_tab (tl_in (tb_3 (List.mem_of_getElem? (i := 163) (by decide +kernel)))) rfl, kw_tab (tl_in (tb_3 (List.mem_of_getElem? (i := 164) (by decide +kernel)))) rfl, by decide +kernel⟩
set_option maxRecDepth 100000 in
theorem kcx_65 : kCX 65 := ⟨kw_tab (tl_in (tb_3 (List.mem_of_getElem? (i := 169) rfl))) rfl, kw_tab (tl_in (tb_1 (List.mem_of_getElem? (i := 3) (by decide +kernel)))) rfl, ⟨by decide +kernel, by decide +kernel, by decide +kernel⟩, by decide +kernel⟩
theorem kvx_65 : kVX 65 := ⟨kw_tab (tl_in (tb_3 (List.mem_of_getElem? (i := 167) (by decide +kernel)))) rfl, kw_tab (tl_in (tb_3 (List.mem_of_getElem? (i := 168) (by decide +kernel)))) rfl, by decide +kernel⟩
set_option maxRecDepth 100000 in
theorem kcx_66 : kCX 66 := ⟨kw_tab (tl_in (tb_3 (List.mem_of_getElem? (i := 87) rfl))) rfl, kw_tab (tl_in (tb_1 (List.mem_of_getElem? (i := 3) (by decide +kernel)))) rfl, ⟨by decide +kernel, by decide +kernel, by decide +kernel⟩, by decide +kernel⟩
theorem kvx_66 : kVX 66 := ⟨kw_tab (tl_in (tb_3 (List.mem_of_getElem? (i := 85) (by decide +kernel)))) rfl, kw_tab (tl_in (tb_3 (List.mem_of_getElem? (i := 86) (by decide +kernel)))) rfl, by decide +kernel⟩
set_option maxRecDepth 100000 in
theorem kcx_67 : kCX 67 := ⟨kw_tab (tl_in (tb_4 (List.mem_of_getElem? (i := 4) rfl))) rfl, kw_tab (tl_in (tb_1 (List.mem_of_getElem? (i := 3) (by decide +kernel)))) rfl, ⟨by decide +kernel, by decide +kernel, by decide +kernel⟩, by decide +kernel⟩
theorem kvx_67 : kVX 67 := ⟨kw_tab (tl_in (tb_4 (List.mem_of_getElem? (i := 2) (by decide +kernel)))) rfl, kw_tab (tl_in (tb_4 (List.mem_of_getElem? (i := 3) (by decide +kernel)))) rfl, by decide +kernel⟩
set_option maxRecDepth 100000 in
theorem kcx_68 : kCX 68 := ⟨kw_tab (tl_in (tb_8 (List.mem_of_getElem? (i := 112) rfl))) rfl, kw_tab (tl_in (tb_1 (List.mem_of_getElem? (i := 3) (by decide +kernel)))) rfl, ⟨by decide +kernel, by decide +kernel, by decide +kernel⟩, by decide +kernel⟩
theorem kvx_68 : kVX 68 := ⟨kw_tab (tl_in (tb_8 (List.mem_of_getElem? (i := 111) (by decide +kernel)))) rfl, kw_tab (sl_in (q := (⟨"KeySteward$Connection", "watches", "(I)Z"⟩, 12)) (lp_8 (List.mem_of_getElem? (i := 11) (by decide +kernel)))) rfl, by decide +kernel⟩
set_option maxRecDepth 100000 in
theorem kcx_69 : kCX 69 := ⟨kw_tab (tl_in (tb_4 (List.mem_of_getElem? (i := 140) rfl))) rfl, kw_tab (tl_in (tb_1 (List.mem_of_getElem? (i := 3) (by decide +kernel)))) rfl, ⟨by decide +kernel, by decide +kernel, by decide +kernel⟩, by decide +kernel⟩
theorem kvx_69 : kVX 69 := ⟨kw_tab (tl_in (tb_4 (List.mem_of_getElem? (i := 138) (by decide +kernel)))) rfl, kw_tab (tl_in (tb_4 (List.mem_of_getElem? (i := 139) (by decide +kernel)))) rfl, by decide +kernel⟩
set_option maxRecDepth 100000 in
theorem kcx_70 : kCX 70 := ⟨kw_tab (tl_in (tb_8 (List.mem_of_getElem? (i := 107) rfl))) rfl, kw_tab (tl_in (tb_1 (List.mem_of_getElem? (i := 3) (by decide +kernel)))) rfl, ⟨by decide +kernel, by decide +kernel, by decide +kernel⟩, by decide +kernel⟩
theorem kvx_70 : kVX 70 := ⟨kw_tab (tl_in (tb_8 (List.mem_of_getElem? (i := 105) (by decide +kernel)))) rfl, kw_tab (tl_in (tb_8 (List.mem_of_getElem? (i := 106) (by decide +kernel)))) rfl, by decide +kernel⟩
set_option maxRecDepth 100000 in
theorem kcx_71 : kCX 71 := ⟨kw_tab (tl_in (tb_8 (List.mem_of_getElem? (i := 69) rfl))) rfl, kw_tab (tl_in (tb_1 (List.mem_of_getElem? (i := 3) (by decide +kernel)))) rfl, ⟨by decide +kernel, by decide +kernel, by decide +kernel⟩, by decide +kernel⟩
theorem kvx_71 : kVX 71 := ⟨kw_tab (tl_in (tb_8 (List.mem_of_getElem? (i := 67) (by decide +kernel)))) rfl, kw_tab (tl_in (tb_8 (List.mem_of_getElem? (i := 68) (by decide +kernel)))) rfl, by decide +kernel⟩
set_option maxRecDepth 100000 in
theorem kcx_72 : kCX 72 := ⟨kw_tab (tl_in (tb_8 (List.mem_of_getElem? (i := 79) rfl))) rfl, kw_tab (tl_in (tb_1 (List.mem_of_getElem? (i := 3) (by decide +kernel)))) rfl, ⟨by decide +kernel, by decide +kernel, by decide +kernel⟩, by decide +kernel⟩
theorem kvx_72 : kVX 72 := ⟨kw_tab (tl_in (tb_8 (List.mem_of_getElem? (i := 77) (by decide +kernel)))) rfl, kw_tab (tl_in (tb_8 (List.mem_of_getElem? (i := 78) (by decide +kernel)))) rfl, by decide +kernel⟩
set_option maxRecDepth 100000 in
theorem kcx_73 : kCX 73 := ⟨kw_tab (tl_in (tb_8 (List.mem_of_getElem? (i := 83) rfl))) rfl, kw_tab (tl_in (tb_1 (List.mem_of_getElem? (i := 3) (by decide +kernel)))) rfl, ⟨by decide +kernel, by decide +kernel, by decide +kernel⟩, by decide +kernel⟩
theorem kvx_73 : kVX 73 := ⟨kw_tab (tl_in (tb_8 (List.mem_of_getElem? (i := 82) (by decide +kernel)))) rfl, kw_tab (sl_in (q := (⟨"KeySteward$Connection", "leave", "(I)V"⟩, 12)) (lp_8 (List.mem_of_getElem? (i := 8) (by decide +kernel)))) rfl, by decide +kernel⟩
set_option maxRecDepth 100000 in
theorem kcx_75 : kCX 75 := ⟨kw_tab (tl_in (tb_8 (List.mem_of_getElem? (i := 163) rfl))) rfl, kw_tab (tl_in (tb_1 (List.mem_of_getElem? (i := 4) (by decide +kernel)))) rfl, ⟨by decide +kernel, by decide +kernel, by decide +kernel⟩, by decide +kernel⟩
theorem kvx_75 : kVX 75 := ⟨kw_tab (tl_in (tb_8 (List.mem_of_getElem? (i := 161) (by decide +kernel)))) rfl, kw_tab (tl_in (tb_8 (List.mem_of_getElem? (i := 162) (by decide +kernel)))) rfl, by decide +kernel⟩
set_option maxRecDepth 100000 in
theorem kcx_76 : kCX 76 := ⟨kw_tab (tl_in (tb_4 (List.mem_of_getElem? (i := 54) rfl))) rfl, kw_tab (tl_in (tb_1 (List.mem_of_getElem? (i := 4) (by decide +kernel)))) rfl, ⟨by decide +kernel, by decide +kernel, by decide +kernel⟩, by decide +kernel⟩
theorem kvx_76 : kVX 76 := ⟨kw_tab (tl_in (tb_4 (List.mem_of_getElem? (i := 52) (by decide +kernel)))) rfl, kw_tab (tl_in (tb_4 (List.mem_of_getElem? (i := 53) (by decide +kernel)))) rfl, by decide +kernel⟩
set_option maxRecDepth 100000 in
theorem kcx_77 : kCX 77 := ⟨kw_tab (tl_in (tb_4 (List.mem_of_getElem? (i := 58) rfl))) rfl, kw_tab (tl_in (tb_1 (List.mem_of_getElem? (i := 4) (by decide +kernel)))) rfl, ⟨by decide +kernel, by decide +kernel, by decide +kernel⟩, by decide +kernel⟩
theorem kvx_77 : kVX 77 := ⟨kw_tab (tl_in (tb_4 (List.mem_of_getElem? (i := 57) (by decide +kernel)))) rfl, kw_tab (sl_in (q := (⟨"KeySteward$Words", "same", "(I[BII)Z"⟩, 5)) (lp_1 (List.mem_of_getElem? (i := 13) (by decide +kernel)))) rfl, by decide +kernel⟩
set_option maxRecDepth 100000 in
theorem kcx_78 : kCX 78 := ⟨kw_tab (tl_in (tb_4 (List.mem_of_getElem? (i := 62) rfl))) rfl, kw_tab (tl_in (tb_1 (List.mem_of_getElem? (i := 4) (by decide +kernel)))) rfl, ⟨by decide +kernel, by decide +kernel, by decide +kernel⟩, by decide +kernel⟩
theorem kvx_78 : kVX 78 := ⟨kw_tab (tl_in (tb_4 (List.mem_of_getElem? (i := 61) (by decide +kernel)))) rfl, kw_tab (sl_in (q := (⟨"KeySteward$Words", "add", "(I[BII)I"⟩, 5)) (lp_1 (List.mem_of_getElem? (i := 14) (by decide +kernel)))) rfl, by decide +kernel⟩
set_option maxRecDepth 100000 in
theorem kcx_79 : kCX 79 := ⟨kw_tab (tl_in (tb_5 (List.mem_of_getElem? (i := 87) rfl))) rfl, kw_tab (tl_in (tb_1 (List.mem_of_getElem? (i := 4) (by decide +kernel)))) rfl, ⟨by decide +kernel, by decide +kernel, by decide +kernel⟩, by decide +kernel⟩
theorem kvx_79 : kVX 79 := ⟨kw_tab (tl_in (tb_5 (List.mem_of_getElem? (i := 85) (by decide +kernel)))) rfl, kw_tab (tl_in (tb_5 (List.mem_of_getElem? (i := 86) (by decide +kernel)))) rfl, by decide +kernel⟩
set_option maxRecDepth 100000 in
theorem kcx_80 : kCX 80 := ⟨kw_tab (tl_in (tb_6 (List.mem_of_getElem? (i := 30) rfl))) rfl, kw_tab (tl_in (tb_1 (List.mem_of_getElem? (i := 4) (by decide +kernel)))) rfl, ⟨by decide +kernel, by decide +kernel, by decide +kernel⟩, by decide +kernel⟩
theorem kvx_80 : kVX 80 := ⟨kw_tab (tl_in (tb_6 (List.mem_of_getElem? (i := 28) (by decide +kernel)))) rfl, kw_tab (tl_in (tb_6 (List.mem_of_getElem? (i := 29) (by decide +kernel)))) rfl, by decide +kernel⟩
set_option maxRecDepth 100000 in
theorem kcx_81 : kCX 81 := ⟨kw_tab (tl_in (tb_4 (List.mem_of_getElem? (i := 86) rfl))) rfl, kw_tab (tl_in (tb_1 (List.mem_of_getElem? (i := 4) (by decide +kernel)))) rfl, ⟨by decide +kernel, by decide +kernel, by decide +kernel⟩, by decide +kernel⟩
theorem kvx_81 : kVX 81 := ⟨kw_tab (tl_in (tb_4 (List.mem_of_getElem? (i := 84) (by decide +kernel)))) rfl, kw_tab (tl_in (tb_4 (List.mem_of_getElem? (i := 85) (by decide +kernel)))) rfl, by decide +kernel⟩
set_option maxRecDepth 100000 in
theorem kcx_82 : kCX 82 := ⟨kw_tab (tl_in (tb_4 (List.mem_of_getElem? (i := 81) rfl))) rfl, kw_tab (tl_in (tb_1 (List.mem_of_getElem? (i := 4) (by decide +kernel)))) rfl, ⟨by decide +kernel, by decide +kernel, by decide +kernel⟩, by decide +kernel⟩
theorem kvx_82 : kVX 82 := ⟨kw_tab (tl_in (tb_4 (List.mem_of_getElem? (i := 79) (by decide +kernel)))) rfl, kw_tab (tl_in (tb_4 (List.mem_of_getElem? (i := 80) (by decide +kernel)))) rfl, by decide +kernel⟩
set_option maxRecDepth 100000 in
theorem kcx_83 : kCX 83 := ⟨kw_tab (tl_in (tb_7 (List.mem_of_getElem? (i := 36) rfl))) rfl, kw_tab (tl_in (tb_1 (List.mem_of_getElem? (i := 4) (by decide +kernel)))) rfl, ⟨by decide +kernel, by decide +kernel, by decide +kernel⟩, by decide +kernel⟩
theorem kvx_83 : kVX 83 := ⟨kw_tab (tl_in (tb_7 (List.mem_of_getElem? (i := 34) (by decide +kernel)))) rfl, kw_tab (tl_in (tb_7 (List.mem_of_getElem? (i := 35) (by decide +kernel)))) rfl, by decide +kernel⟩
set_option maxRecDepth 100000 in
theorem kcx_84 : kCX 84 := ⟨kw_tab (tl_in (tb_6 (List.mem_of_getElem? (i := 15) rfl))) rfl, kw_tab (tl_in (tb_1 (List.mem_of_getElem? (i := 4) (by decide +kernel)))) rfl, ⟨by decide +kernel, by decide +kernel, by decide +kernel⟩, by decide +kernel⟩
theorem kvx_84 : kVX 84 := ⟨kw_tab (tl_in (tb_6 (List.mem_of_getElem? (i := 13) (by decide +kernel)))) rfl, kw_tab (tl_in (tb_6 (List.mem_of_getElem? (i := 14) (by decide +kernel)))) rfl, by decide +kernel⟩
set_option maxRecDepth 100000 in
theorem kcx_88 : kCX 88 := ⟨kw_tab (tl_in (tb_3 (List.mem_of_getElem? (i := 196) rfl))) rfl, kw_tab (tl_in (tb_1 (List.mem_of_getElem? (i := 20) (by decide +kernel)))) rfl, ⟨by decide +kernel, by decide +kernel, by decide +kernel⟩, by decide +kernel⟩
theorem kvx_88 : kVX 88 := ⟨kw_tab (tl_in (tb_3 (List.mem_of_getElem? (i := 194) (by decide +kernel)))) rfl, kw_tab (tl_in (tb_3 (List.mem_of_getElem? (i := 195) (by decide +kernel)))) rfl, by decide +kernel⟩
set_option maxRecDepth 100000 in
theorem kcx_89 : kCX 89 := ⟨kw_tab (tl_in (tb_3 (List.mem_of_getElem? (i := 192) rfl))) rfl, kw_tab (tl_in (tb_1 (List.mem_of_getElem? (i := 20) (by decide +kernel)))) rfl, ⟨by decide +kernel, by decide +kernel, by decide +kernel⟩, by decide +kernel⟩
theorem kvx_89 : kVX 89 := ⟨kw_tab (tl_in (tb_3 (List.mem_of_getElem? (i := 190) (by decide +kernel)))) rfl, kw_tab (tl_in (tb_3 (List.mem_of_getElem? (i := 191) (by decide +kernel)))) rfl, by decide +kernel⟩
set_option maxRecDepth 100000 in
theorem kcx_93 : kCX 93 := ⟨kw_tab (tl_in (tb_3 (List.mem_of_getElem? (i := 65) rfl))) rfl, kw_tab (tl_in (tb_1 (List.mem_of_getElem? (i := 5) (by decide +kernel)))) rfl, ⟨by decide +kernel, by decide +kernel, by decide +kernel⟩, by decide +kernel⟩
theorem kvx_93 : kVX 93 := ⟨kw_tab (tl_in (tb_3 (List.mem_of_getElem? (i := 63) (by decide +kernel)))) rfl, kw_tab (tl_in (tb_3 (List.mem_of_getElem? (i := 64) (by decide +kernel)))) rfl, by decide +kernel⟩
set_option maxRecDepth 100000 in
theorem kcx_94 : kCX 94 := ⟨kw_tab (tl_in (tb_3 (List.mem_of_getElem? (i := 69) rfl))) rfl, kw_tab (tl_in (tb_1 (List.mem_of_getElem? (i := 5) (by decide +kernel)))) rfl, ⟨by decide +kernel, by decide +kernel, by decide +kernel⟩, by decide +kernel⟩
theorem kvx_94 : kVX 94 := ⟨kw_tab (tl_in (tb_3 (List.mem_of_getElem? (i := 68) (by decide +kernel)))) rfl, kw_tab (sl_in (q := (⟨"KeySteward$Request", "readWords", "(II)I"⟩, 17)) (lp_1 (List.mem_of_getElem? (i := 1) (by decide +kernel)))) rfl, by decide +kernel⟩
set_option maxRecDepth 100000 in
theorem kcx_95 : kCX 95 := ⟨kw_tab (tl_in (tb_3 (List.mem_of_getElem? (i := 73) rfl))) rfl, kw_tab (tl_in (tb_1 (List.mem_of_getElem? (i := 5) (by decide +kernel)))) rfl, ⟨by decide +kernel, by decide +kernel, by decide +kernel⟩, by decide +kernel⟩
theorem kvx_95 : kVX 95 := ⟨kw_tab (tl_in (tb_3 (List.mem_of_getElem? (i := 72) (by decide +kernel)))) rfl, kw_tab (sl_in (q := (⟨"KeySteward$Request", "readHead", "(II)I"⟩, 17)) (lp_1 (List.mem_of_getElem? (i := 2) (by decide +kernel)))) rfl, by decide +kernel⟩
set_option maxRecDepth 100000 in
theorem kcx_96 : kCX 96 := ⟨kw_tab (tl_in (tb_3 (List.mem_of_getElem? (i := 83) rfl))) rfl, kw_tab (tl_in (tb_1 (List.mem_of_getElem? (i := 5) (by decide +kernel)))) rfl, ⟨by decide +kernel, by decide +kernel, by decide +kernel⟩, by decide +kernel⟩
theorem kvx_96 : kVX 96 := ⟨kw_tab (tl_in (tb_3 (List.mem_of_getElem? (i := 82) (by decide +kernel)))) rfl, kw_tab (sl_in (q := (⟨"KeySteward$Request", "readLine", "(II)I"⟩, 17)) (lp_1 (List.mem_of_getElem? (i := 3) (by decide +kernel)))) rfl, by decide +kernel⟩
set_option maxRecDepth 100000 in
theorem kcx_97 : kCX 97 := ⟨kw_tab (tl_in (tb_3 (List.mem_of_getElem? (i := 177) rfl))) rfl, kw_tab (tl_in (tb_1 (List.mem_of_getElem? (i := 5) (by decide +kernel)))) rfl, ⟨by decide +kernel, by decide +kernel, by decide +kernel⟩, by decide +kernel⟩
theorem kvx_97 : kVX 97 := ⟨kw_tab (tl_in (tb_3 (List.mem_of_getElem? (i := 175) (by decide +kernel)))) rfl, kw_tab (tl_in (tb_3 (List.mem_of_getElem? (i := 176) (by decide +kernel)))) rfl, by decide +kernel⟩
set_option maxRecDepth 100000 in
theorem kcx_98 : kCX 98 := ⟨kw_tab (tl_in (tb_3 (List.mem_of_getElem? (i := 202) rfl))) rfl, kw_tab (tl_in (tb_1 (List.mem_of_getElem? (i := 5) (by decide +kernel)))) rfl, ⟨by decide +kernel, by decide +kernel, by decide +kernel⟩, by decide +kernel⟩
theorem kvx_98 : kVX 98 := ⟨kw_tab (tl_in (tb_3 (List.mem_of_getElem? (i := 200) (by decide +kernel)))) rfl, kw_tab (tl_in (tb_3 (List.mem_of_getElem? (i := 201) (by decide +kernel)))) rfl, by decide +kernel⟩
set_option maxRecDepth 100000 in
theorem kcx_99 : kCX 99 := ⟨kw_tab (tl_in (tb_8 (List.mem_of_getElem? (i := 126) rfl))) rfl, kw_tab (tl_in (tb_1 (List.mem_of_getElem? (i := 5) (by decide +kernel)))) rfl, ⟨by decide +kernel, by decide +kernel, by decide +kernel⟩, by decide +kernel⟩
theorem kvx_99 : kVX 99 := ⟨kw_tab (tl_in (tb_8 (List.mem_of_getElem? (i := 124) (by decide +kernel)))) rfl, kw_tab (tl_in (tb_8 (List.mem_of_getElem? (i := 125) (by decide +kernel)))) rfl, by decide +kernel⟩
set_option maxRecDepth 100000 in
theorem kcx_100 : kCX 100 := ⟨kw_tab (tl_in (tb_4 (List.mem_of_getElem? (i := 194) rfl))) rfl, kw_tab (tl_in (tb_1 (List.mem_of_getElem? (i := 5) (by decide +kernel)))) rfl, ⟨by decide +kernel, by decide +kernel, by decide +kernel⟩, by decide +kernel⟩
theorem kvx_100 : kVX 100 := ⟨kw_tab (tl_in (tb_4 (List.mem_of_getElem? (i := 192) (by decide +kernel)))) rfl, kw_tab (tl_in (tb_4 (List.mem_of_getElem? (i := 193) (by decide +kernel)))) rfl, by decide +kernel⟩
set_option maxRecDepth 100000 in
theorem kcx_101 : kCX 101 := ⟨kw_tab (tl_in (tb_5 (List.mem_of_getElem? (i := 73) rfl))) rfl, kw_tab (tl_in (tb_1 (List.mem_of_getElem? (i := 5) (by decide +kernel)))) rfl, ⟨by decide +kernel, by decide +kernel, by decide +kernel⟩, by decide +kernel⟩
theorem kvx_101 : kVX 101 := ⟨kw_tab (tl_in (tb_5 (List.mem_of_getElem? (i := 71) (by decide +kernel)))) rfl, kw_tab (tl_in (tb_5 (List.mem_of_getElem? (i := 72) (by decide +kernel)))) rfl, by decide +kernel⟩
set_option maxRecDepth 100000 in
theorem kcx_102 : kCX 102 := ⟨kw_tab (tl_in (tb_5 (List.mem_of_getElem? (i := 43) rfl))) rfl, kw_tab (tl_in (tb_1 (List.mem_of_getElem? (i := 5) (by decide +kernel)))) rfl, ⟨by decide +kernel, by decide +kernel, by decide +kernel⟩, by decide +kernel⟩
theorem kvx_102 : kVX 102 := ⟨kw_tab (tl_in (tb_5 (List.mem_of_getElem? (i := 41) (by decide +kernel)))) rfl, kw_tab (tl_in (tb_5 (List.mem_of_getElem? (i := 42) (by decide +kernel)))) rfl, by decide +kernel⟩
set_option maxRecDepth 100000 in
theorem kcx_103 : kCX 103 := ⟨kw_tab (tl_in (tb_4 (List.mem_of_getElem? (i := 50) rfl))) rfl, kw_tab (tl_in (tb_1 (List.mem_of_getElem? (i := 5) (by decide +kernel)))) rfl, ⟨by decide +kernel, by decide +kernel, by decide +kernel⟩, by decide +kernel⟩
theorem kvx_103 : kVX 103 := ⟨kw_tab (tl_in (tb_4 (List.mem_of_getElem? (i := 48) (by decide +kernel)))) rfl, kw_tab (tl_in (tb_4 (List.mem_of_getElem? (i := 49) (by decide +kernel)))) rfl, by decide +kernel⟩
set_option maxRecDepth 100000 in
theorem kcx_104 : kCX 104 := ⟨kw_tab (tl_in (tb_4 (List.mem_of_getElem? (i := 11) rfl))) rfl, kw_tab (tl_in (tb_1 (List.mem_of_getElem? (i := 5) (by decide +kernel)))) rfl, ⟨by decide +kernel, by decide +kernel, by decide +kernel⟩, by decide +kernel⟩
theorem kvx_104 : kVX 104 := ⟨kw_tab (tl_in (tb_4 (List.mem_of_getElem? (i := 9) (by decide +kernel)))) rfl, kw_tab (tl_in (tb_4 (List.mem_of_getElem? (i := 10) (by decide +kernel)))) rfl, by decide +kernel⟩
set_option maxRecDepth 100000 in
theorem kcx_105 : kCX 105 := ⟨kw_tab (tl_in (tb_4 (List.mem_of_getElem? (i := 153) rfl))) rfl, kw_tab (tl_in (tb_1 (List.mem_of_getElem? (i := 5) (by decide +kernel)))) rfl, ⟨by decide +kernel, by decide +kernel, by decide +kernel⟩, by decide +kernel⟩
theorem kvx_105 : kVX 105 := ⟨kw_tab (tl_in (tb_4 (List.mem_of_getElem? (i := 151) (by decide +kernel)))) rfl, kw_tab (tl_in (tb_4 (List.mem_of_getElem? (i := 152) (by decide +kernel)))) rfl, by decide +kernel⟩
set_option maxRecDepth 100000 in
theorem kcx_106 : kCX 106 := ⟨kw_tab (tl_in (tb_4 (List.mem_of_getElem? (i := 172) rfl))) rfl, kw_tab (tl_in (tb_1 (List.mem_of_getElem? (i := 5) (by decide +kernel)))) rfl, ⟨by decide +kernel, by decide +kernel, by decide +kernel⟩, by decide +kernel⟩
theorem kvx_106 : kVX 106 := ⟨kw_tab (tl_in (tb_4 (List.mem_of_getElem? (i := 170) (by decide +kernel)))) rfl, kw_tab (tl_in (tb_4 (List.mem_of_getElem? (i := 171) (by decide +kernel)))) rfl, by decide +kernel⟩
set_option maxRecDepth 100000 in
theorem kcx_107 : kCX 107 := ⟨kw_tab (tl_in (tb_5 (List.mem_of_getElem? (i := 130) rfl))) rfl, kw_tab (tl_in (tb_1 (List.mem_of_getElem? (i := 5) (by decide +kernel)))) rfl, ⟨by decide +kernel, by decide +kernel, by decide +kernel⟩, by decide +kernel⟩
theorem kvx_107 : kVX 107 := ⟨kw_tab (tl_in (tb_5 (List.mem_of_getElem? (i := 128) (by decide +kernel)))) rfl, kw_tab (tl_in (tb_5 (List.mem_of_getElem? (i := 129) (by decide +kernel)))) rfl, by decide +kernel⟩
set_option maxRecDepth 100000 in
theorem kcx_108 : kCX 108 := ⟨kw_tab (tl_in (tb_5 (List.mem_of_getElem? (i := 140) rfl))) rfl, kw_tab (tl_in (tb_1 (List.mem_of_getElem? (i := 5) (by decide +kernel)))) rfl, ⟨by decide +kernel, by decide +kernel, by decide +kernel⟩, by decide +kernel⟩
theorem kvx_108 : kVX 108 := ⟨kw_tab (tl_in (tb_5 (List.mem_of_getElem? (i := 138) (by decide +kernel)))) rfl, kw_tab (tl_in (tb_5 (List.mem_of_getElem? (i := 139) (by decide +kernel)))) rfl, by decide +kernel⟩
set_option maxRecDepth 100000 in
theorem kcx_109 : kCX 109 := ⟨kw_tab (tl_in (tb_6 (List.mem_of_getElem? (i := 147) rfl))) rfl, kw_tab (tl_in (tb_1 (List.mem_of_getElem? (i := 5) (by decide +kernel)))) rfl, ⟨by decide +kernel, by decide +kernel, by decide +kernel⟩, by decide +kernel⟩
theorem kvx_109 : kVX 109 := ⟨kw_tab (tl_in (tb_6 (List.mem_of_getElem? (i := 145) (by decide +kernel)))) rfl, kw_tab (tl_in (tb_6 (List.mem_of_getElem? (i := 146) (by decide +kernel)))) rfl, by decide +kernel⟩
set_option maxRecDepth 100000 in
theorem kcx_110 : kCX 110 := ⟨kw_tab (tl_in (tb_4 (List.mem_of_getElem? (i := 176) rfl))) rfl, kw_tab (tl_in (tb_1 (List.mem_of_getElem? (i := 5) (by decide +kernel)))) rfl, ⟨by decide +kernel, by decide +kernel, by decide +kernel⟩, by decide +kernel⟩
theorem kvx_110 : kVX 110 := ⟨kw_tab (tl_in (tb_4 (List.mem_of_getElem? (i := 174) (by decide +kernel)))) rfl, kw_tab (tl_in (tb_4 (List.mem_of_getElem? (i := 175) (by decide +kernel)))) rfl, by decide +kernel⟩
set_option maxRecDepth 100000 in
theorem kcx_111 : kCX 111 := ⟨kw_tab (tl_in (tb_5 (List.mem_of_getElem? (i := 199) rfl))) rfl, kw_tab (tl_in (tb_1 (List.mem_of_getElem? (i := 5) (by decide +kernel)))) rfl, ⟨by decide +kernel, by decide +kernel, by decide +kernel⟩, by decide +kernel⟩
theorem kvx_111 : kVX 111 := ⟨kw_tab (tl_in (tb_5 (List.mem_of_getElem? (i := 197) (by decide +kernel)))) rfl, kw_tab (tl_in (tb_5 (List.mem_of_getElem? (i := 198) (by decide +kernel)))) rfl, by decide +kernel⟩
set_option maxRecDepth 100000 in
theorem kcx_113 : kCX 113 := ⟨kw_tab (tl_in (tb_5 (List.mem_of_getElem? (i := 38) rfl))) rfl, kw_tab (tl_in (tb_1 (List.mem_of_getElem? (i := 22) (by decide +kernel)))) rfl, ⟨by decide +kernel, by decide +kernel, by decide +kernel⟩, by decide +kernel⟩
theorem kvx_113 : kVX 113 := ⟨kw_tab (tl_in (tb_5 (List.mem_of_getElem? (i := 36) (by decide +kernel)))) rfl, kw_tab (tl_in (tb_5 (List.mem_of_getElem? (i := 37) (by decide +kernel)))) rfl, by decide +kernel⟩
set_option maxRecDepth 100000 in
theorem kcx_114 : kCX 114 := ⟨kw_tab (tl_in (tb_4 (List.mem_of_getElem? (i := 132) rfl))) rfl, kw_tab (tl_in (tb_1 (List.mem_of_getElem? (i := 22) (by decide +kernel)))) rfl, ⟨by decide +kernel, by decide +kernel, by decide +kernel⟩, by decide +kernel⟩
theorem kvx_114 : kVX 114 := ⟨kw_tab (tl_in (tb_4 (List.mem_of_getElem? (i := 130) (by decide +kernel)))) rfl, kw_tab (tl_in (tb_4 (List.mem_of_getElem? (i := 131) (by decide +kernel)))) rfl, by decide +kernel⟩
set_option maxRecDepth 100000 in
theorem kcx_115 : kCX 115 := ⟨kw_tab (tl_in (tb_6 (List.mem_of_getElem? (i := 120) rfl))) rfl, kw_tab (tl_in (tb_1 (List.mem_of_getElem? (i := 22) (by decide +kernel)))) rfl, ⟨by decide +kernel, by decide +kernel, by decide +kernel⟩, by decide +kernel⟩
theorem kvx_115 : kVX 115 := ⟨kw_tab (tl_in (tb_6 (List.mem_of_getElem? (i := 118) (by decide +kernel)))) rfl, kw_tab (tl_in (tb_6 (List.mem_of_getElem? (i := 119) (by decide +kernel)))) rfl, by decide +kernel⟩
set_option maxRecDepth 100000 in
theorem kcx_116 : kCX 116 := ⟨kw_tab (tl_in (tb_6 (List.mem_of_getElem? (i := 218) rfl))) rfl, kw_tab (tl_in (tb_1 (List.mem_of_getElem? (i := 22) (by decide +kernel)))) rfl, ⟨by decide +kernel, by decide +kernel, by decide +kernel⟩, by decide +kernel⟩
theorem kvx_116 : kVX 116 := ⟨kw_tab (tl_in (tb_6 (List.mem_of_getElem? (i := 216) (by decide +kernel)))) rfl, kw_tab (tl_in (tb_6 (List.mem_of_getElem? (i := 217) (by decide +kernel)))) rfl, by decide +kernel⟩
set_option maxRecDepth 100000 in
theorem kcx_117 : kCX 117 := ⟨kw_tab (tl_in (tb_7 (List.mem_of_getElem? (i := 155) rfl))) rfl, kw_tab (tl_in (tb_1 (List.mem_of_getElem? (i := 22) (by decide +kernel)))) rfl, ⟨by decide +kernel, by decide +kernel, by decide +kernel⟩, by decide +kernel⟩
theorem kvx_117 : kVX 117 := ⟨kw_tab (tl_in (tb_7 (List.mem_of_getElem? (i := 153) (by decide +kernel)))) rfl, kw_tab (tl_in (tb_7 (List.mem_of_getElem? (i := 154) (by decide +kernel)))) rfl, by decide +kernel⟩
set_option maxRecDepth 100000 in
theorem kcx_118 : kCX 118 := ⟨kw_tab (tl_in (tb_7 (List.mem_of_getElem? (i := 174) rfl))) rfl, kw_tab (tl_in (tb_1 (List.mem_of_getElem? (i := 22) (by decide +kernel)))) rfl, ⟨by decide +kernel, by decide +kernel, by decide +kernel⟩, by decide +kernel⟩
theorem kvx_118 : kVX 118 := ⟨kw_tab (tl_in (tb_7 (List.mem_of_getElem? (i := 172) (by decide +kernel)))) rfl, kw_tab (tl_in (tb_7 (List.mem_of_getElem? (i := 173) (by decide +kernel)))) rfl, by decide +kernel⟩
set_option maxRecDepth 100000 in
theorem kcx_119 : kCX 119 := ⟨kw_tab (tl_in (tb_6 (List.mem_of_getElem? (i := 157) rfl))) rfl, kw_tab (tl_in (tb_1 (List.mem_of_getElem? (i := 22) (by decide +kernel)))) rfl, ⟨by decide +kernel, by decide +kernel, by decide +kernel⟩, by decide +kernel⟩
theorem kvx_119 : kVX 119 := ⟨kw_tab (tl_in (tb_6 (List.mem_of_getElem? (i := 155) (by decide +kernel)))) rfl, kw_tab (tl_in (tb_6 (List.mem_of_getElem? (i := 156) (by decide +kernel)))) rfl, by decide +kernel⟩
set_option maxRecDepth 100000 in
theorem kcx_120 : kCX 120 := ⟨kw_tab (tl_in (tb_6 (List.mem_of_getElem? (i := 98) rfl))) rfl, kw_tab (tl_in (tb_1 (List.mem_of_getElem? (i := 22) (by decide +kernel)))) rfl, ⟨by decide +kernel, by decide +kernel, by decide +kernel⟩, by decide +kernel⟩
theorem kvx_120 : kVX 120 := ⟨kw_tab (tl_in (tb_6 (List.mem_of_getElem? (i := 97) (by decide +kernel)))) rfl, kw_tab (sl_in (q := (⟨"KeySteward$Value", "put", "(IIJ)V"⟩, 9)) (lp_4 (List.mem_of_getElem? (i := 7) (by decide +kernel)))) rfl, by decide +kernel⟩
set_option maxRecDepth 100000 in
theorem kcx_121 : kCX 121 := ⟨kw_tab (tl_in (tb_6 (List.mem_of_getElem? (i := 133) rfl))) rfl, kw_tab (tl_in (tb_1 (List.mem_of_getElem? (i := 22) (by decide +kernel)))) rfl, ⟨by decide +kernel, by decide +kernel, by decide +kernel⟩, by decide +kernel⟩
theorem kvx_121 : kVX 121 := ⟨kw_tab (tl_in (tb_6 (List.mem_of_getElem? (i := 132) (by decide +kernel)))) rfl, kw_tab (sl_in (q := (⟨"KeySteward$Value", "cut", "(III)V"⟩, 9)) (lp_4 (List.mem_of_getElem? (i := 10) (by decide +kernel)))) rfl, by decide +kernel⟩
set_option maxRecDepth 100000 in
theorem kcx_122 : kCX 122 := ⟨kw_tab (tl_in (tb_6 (List.mem_of_getElem? (i := 94) rfl))) rfl, kw_tab (tl_in (tb_1 (List.mem_of_getElem? (i := 22) (by decide +kernel)))) rfl, ⟨by decide +kernel, by decide +kernel, by decide +kernel⟩, by decide +kernel⟩
theorem kvx_122 : kVX 122 := ⟨kw_tab (tl_in (tb_6 (List.mem_of_getElem? (i := 92) (by decide +kernel)))) rfl, kw_tab (tl_in (tb_6 (List.mem_of_getElem? (i := 93) (by decide +kernel)))) rfl, by decide +kernel⟩
set_option maxRecDepth 100000 in
theorem kcx_123 : kCX 123 := ⟨kw_tab (tl_in (tb_6 (List.mem_of_getElem? (i := 129) rfl))) rfl, kw_tab (tl_in (tb_1 (List.mem_of_getElem? (i := 22) (by decide +kernel)))) rfl, ⟨by decide +kernel, by decide +kernel, by decide +kernel⟩, by decide +kernel⟩
theorem kvx_123 : kVX 123 := ⟨kw_tab (tl_in (tb_6 (List.mem_of_getElem? (i := 127) (by decide +kernel)))) rfl, kw_tab (tl_in (tb_6 (List.mem_of_getElem? (i := 128) (by decide +kernel)))) rfl, by decide +kernel⟩
set_option maxRecDepth 100000 in
theorem kcx_124 : kCX 124 := ⟨kw_tab (tl_in (tb_7 (List.mem_of_getElem? (i := 180) rfl))) rfl, kw_tab (tl_in (tb_1 (List.mem_of_getElem? (i := 22) (by decide +kernel)))) rfl, ⟨by decide +kernel, by decide +kernel, by decide +kernel⟩, by decide +kernel⟩
theorem kvx_124 : kVX 124 := ⟨kw_tab (tl_in (tb_7 (List.mem_of_getElem? (i := 178) (by decide +kernel)))) rfl, kw_tab (tl_in (tb_7 (List.mem_of_getElem? (i := 179) (by decide +kernel)))) rfl, by decide +kernel⟩
set_option maxRecDepth 100000 in
theorem kcx_125 : kCX 125 := ⟨kw_tab (tl_in (tb_7 (List.mem_of_getElem? (i := 191) rfl))) rfl, kw_tab (tl_in (tb_1 (List.mem_of_getElem? (i := 22) (by decide +kernel)))) rfl, ⟨by decide +kernel, by decide +kernel, by decide +kernel⟩, by decide +kernel⟩
theorem kvx_125 : kVX 125 := ⟨kw_tab (tl_in (tb_7 (List.mem_of_getElem? (i := 189) (by decide +kernel)))) rfl, kw_tab (tl_in (tb_7 (List.mem_of_getElem? (i := 190) (by decide +kernel)))) rfl, by decide +kernel⟩
set_option maxRecDepth 100000 in
theorem kcx_127 : kCX 127 := ⟨kw_tab (tl_in (tb_8 (List.mem_of_getElem? (i := 159) rfl))) rfl, kw_tab (tl_in (tb_1 (List.mem_of_getElem? (i := 6) (by decide +kernel)))) rfl, ⟨by decide +kernel, by decide +kernel, by decide +kernel⟩, by decide +kernel⟩
theorem kvx_127 : kVX 127 := ⟨kw_tab (tl_in (tb_8 (List.mem_of_getElem? (i := 157) (by decide +kernel)))) rfl, kw_tab (tl_in (tb_8 (List.mem_of_getElem? (i := 158) (by decide +kernel)))) rfl, by decide +kernel⟩
set_option maxRecDepth 100000 in
theorem kcx_128 : kCX 128 := ⟨kw_tab (tl_in (tb_8 (List.mem_of_getElem? (i := 205) rfl))) rfl, kw_tab (tl_in (tb_1 (List.mem_of_getElem? (i := 6) (by decide +kernel)))) rfl, ⟨by decide +kernel, by decide +kernel, by decide +kernel⟩, by decide +kernel⟩
theorem kvx_128 : kVX 128 := ⟨kw_tab (tl_in (tb_8 (List.mem_of_getElem? (i := 203) (by decide +kernel)))) rfl, kw_tab (tl_in (tb_8 (List.mem_of_getElem? (i := 204) (by decide +kernel)))) rfl, by decide +kernel⟩
set_option maxRecDepth 100000 in
theorem kcx_129 : kCX 129 := ⟨kw_tab (tl_in (tb_4 (List.mem_of_getElem? (i := 90) rfl))) rfl, kw_tab (tl_in (tb_1 (List.mem_of_getElem? (i := 6) (by decide +kernel)))) rfl, ⟨by decide +kernel, by decide +kernel, by decide +kernel⟩, by decide +kernel⟩
theorem kvx_129 : kVX 129 := ⟨kw_tab (tl_in (tb_4 (List.mem_of_getElem? (i := 88) (by decide +kernel)))) rfl, kw_tab (tl_in (tb_4 (List.mem_of_getElem? (i := 89) (by decide +kernel)))) rfl, by decide +kernel⟩
set_option maxRecDepth 100000 in
theorem kcx_130 : kCX 130 := ⟨kw_tab (tl_in (tb_4 (List.mem_of_getElem? (i := 77) rfl))) rfl, kw_tab (tl_in (tb_1 (List.mem_of_getElem? (i := 6) (by decide +kernel)))) rfl, ⟨by decide +kernel, by decide +kernel, by decide +kernel⟩, by decide +kernel⟩
theorem kvx_130 : kVX 130 := ⟨kw_tab (tl_in (tb_4 (List.mem_of_getElem? (i := 75) (by decide +kernel)))) rfl, kw_tab (tl_in (tb_4 (List.mem_of_getElem? (i := 76) (by decide +kernel)))) rfl, by decide +kernel⟩
set_option maxRecDepth 100000 in
theorem kcx_131 : kCX 131 := ⟨kw_tab (tl_in (tb_4 (List.mem_of_getElem? (i := 208) rfl))) rfl, kw_tab (tl_in (tb_1 (List.mem_of_getElem? (i := 6) (by decide +kernel)))) rfl, ⟨by decide +kernel, by decide +kernel, by decide +kernel⟩, by decide +kernel⟩
theorem kvx_131 : kVX 131 := ⟨kw_tab (tl_in (tb_4 (List.mem_of_getElem? (i := 206) (by decide +kernel)))) rfl, kw_tab (tl_in (tb_4 (List.mem_of_getElem? (i := 207) (by decide +kernel)))) rfl, by decide +kernel⟩
set_option maxRecDepth 100000 in
theorem kcx_132 : kCX 132 := ⟨kw_tab (tl_in (tb_5 (List.mem_of_getElem? (i := 163) rfl))) rfl, kw_tab (tl_in (tb_1 (List.mem_of_getElem? (i := 6) (by decide +kernel)))) rfl, ⟨by decide +kernel, by decide +kernel, by decide +kernel⟩, by decide +kernel⟩
theorem kvx_132 : kVX 132 := ⟨kw_tab (tl_in (tb_5 (List.mem_of_getElem? (i := 161) (by decide +kernel)))) rfl, kw_tab (tl_in (tb_5 (List.mem_of_getElem? (i := 162) (by decide +kernel)))) rfl, by decide +kernel⟩
set_option maxRecDepth 100000 in
theorem kcx_133 : kCX 133 := ⟨kw_tab (tl_in (tb_5 (List.mem_of_getElem? (i := 34) rfl))) rfl, kw_tab (tl_in (tb_1 (List.mem_of_getElem? (i := 6) (by decide +kernel)))) rfl, ⟨by decide +kernel, by decide +kernel, by decide +kernel⟩, by decide +kernel⟩
theorem kvx_133 : kVX 133 := ⟨kw_tab (tl_in (tb_5 (List.mem_of_getElem? (i := 33) (by decide +kernel)))) rfl, kw_tab (sl_in (q := (⟨"KeySteward$Keys", "enter", "(II)V"⟩, 19)) (lp_2 (List.mem_of_getElem? (i := 6) (by decide +kernel)))) rfl, by decide +kernel⟩
set_option maxRecDepth 100000 in
theorem kcx_134 : kCX 134 := ⟨kw_tab (tl_in (tb_4 (List.mem_of_getElem? (i := 212) rfl))) rfl, kw_tab (tl_in (tb_1 (List.mem_of_getElem? (i := 6) (by decide +kernel)))) rfl, ⟨by decide +kernel, by decide +kernel, by decide +kernel⟩, by decide +kernel⟩
theorem kvx_134 : kVX 134 := ⟨kw_tab (tl_in (tb_4 (List.mem_of_getElem? (i := 211) (by decide +kernel)))) rfl, kw_tab (sl_in (q := (⟨"KeySteward$Keys", "addValue", "()V"⟩, 19)) (lp_2 (List.mem_of_getElem? (i := 5) (by decide +kernel)))) rfl, by decide +kernel⟩
set_option maxRecDepth 100000 in
theorem kcx_135 : kCX 135 := ⟨kw_tab (tl_in (tb_4 (List.mem_of_getElem? (i := 122) rfl))) rfl, kw_tab (tl_in (tb_1 (List.mem_of_getElem? (i := 6) (by decide +kernel)))) rfl, ⟨by decide +kernel, by decide +kernel, by decide +kernel⟩, by decide +kernel⟩
theorem kvx_135 : kVX 135 := ⟨kw_tab (tl_in (tb_4 (List.mem_of_getElem? (i := 121) (by decide +kernel)))) rfl, kw_tab (sl_in (q := (⟨"KeySteward$Keys", "leave", "(I)V"⟩, 19)) (lp_2 (List.mem_of_getElem? (i := 0) (by decide +kernel)))) rfl, by decide +kernel⟩
set_option maxRecDepth 100000 in
theorem kcx_136 : kCX 136 := ⟨kw_tab (tl_in (tb_4 (List.mem_of_getElem? (i := 118) rfl))) rfl, kw_tab (tl_in (tb_1 (List.mem_of_getElem? (i := 6) (by decide +kernel)))) rfl, ⟨by decide +kernel, by decide +kernel, by decide +kernel⟩, by decide +kernel⟩
theorem kvx_136 : kVX 136 := ⟨kw_tab (tl_in (tb_4 (List.mem_of_getElem? (i := 116) (by decide +kernel)))) rfl, kw_tab (tl_in (tb_4 (List.mem_of_getElem? (i := 117) (by decide +kernel)))) rfl, by decide +kernel⟩
set_option maxRecDepth 100000 in
theorem kcx_137 : kCX 137 := ⟨kw_tab (tl_in (tb_4 (List.mem_of_getElem? (i := 114) rfl))) rfl, kw_tab (tl_in (tb_1 (List.mem_of_getElem? (i := 6) (by decide +kernel)))) rfl, ⟨by decide +kernel, by decide +kernel, by decide +kernel⟩, by decide +kernel⟩
theorem kvx_137 : kVX 137 := ⟨kw_tab (tl_in (tb_4 (List.mem_of_getElem? (i := 112) (by decide +kernel)))) rfl, kw_tab (tl_in (tb_4 (List.mem_of_getElem? (i := 113) (by decide +kernel)))) rfl, by decide +kernel⟩
set_option maxRecDepth 100000 in
theorem kcx_138 : kCX 138 := ⟨kw_tab (tl_in (tb_5 (List.mem_of_getElem? (i := 83) rfl))) rfl, kw_tab (tl_in (tb_1 (List.mem_of_getElem? (i := 6) (by decide +kernel)))) rfl, ⟨by decide +kernel, by decide +kernel, by decide +kernel⟩, by decide +kernel⟩
theorem kvx_138 : kVX 138 := ⟨kw_tab (tl_in (tb_5 (List.mem_of_getElem? (i := 81) (by decide +kernel)))) rfl, kw_tab (tl_in (tb_5 (List.mem_of_getElem? (i := 82) (by decide +kernel)))) rfl, by decide +kernel⟩
set_option maxRecDepth 100000 in
theorem kcx_139 : kCX 139 := ⟨kw_tab (tl_in (tb_4 (List.mem_of_getElem? (i := 136) rfl))) rfl, kw_tab (tl_in (tb_1 (List.mem_of_getElem? (i := 6) (by decide +kernel)))) rfl, ⟨by decide +kernel, by decide +kernel, by decide +kernel⟩, by decide +kernel⟩
theorem kvx_139 : kVX 139 := ⟨kw_tab (tl_in (tb_4 (List.mem_of_getElem? (i := 134) (by decide +kernel)))) rfl, kw_tab (tl_in (tb_4 (List.mem_of_getElem? (i := 135) (by decide +kernel)))) rfl, by decide +kernel⟩
set_option maxRecDepth 100000 in
theorem kcx_140 : kCX 140 := ⟨kw_tab (tl_in (tb_4 (List.mem_of_getElem? (i := 128) rfl))) rfl, kw_tab (tl_in (tb_1 (List.mem_of_getElem? (i := 6) (by decide +kernel)))) rfl, ⟨by decide +kernel, by decide +kernel, by decide +kernel⟩, by decide +kernel⟩
theorem kvx_140 : kVX 140 := ⟨kw_tab (tl_in (tb_4 (List.mem_of_getElem? (i := 126) (by decide +kernel)))) rfl, kw_tab (tl_in (tb_4 (List.mem_of_getElem? (i := 127) (by decide +kernel)))) rfl, by decide +kernel⟩
set_option maxRecDepth 100000 in
theorem kcx_141 : kCX 141 := ⟨kw_tab (tl_in (tb_5 (List.mem_of_getElem? (i := 51) rfl))) rfl, kw_tab (tl_in (tb_1 (List.mem_of_getElem? (i := 6) (by decide +kernel)))) rfl, ⟨by decide +kernel, by decide +kernel, by decide +kernel⟩, by decide +kernel⟩
theorem kvx_141 : kVX 141 := ⟨kw_tab (tl_in (tb_5 (List.mem_of_getElem? (i := 49) (by decide +kernel)))) rfl, kw_tab (tl_in (tb_5 (List.mem_of_getElem? (i := 50) (by decide +kernel)))) rfl, by decide +kernel⟩
set_option maxRecDepth 100000 in
theorem kcx_142 : kCX 142 := ⟨kw_tab (tl_in (tb_5 (List.mem_of_getElem? (i := 57) rfl))) rfl, kw_tab (tl_in (tb_1 (List.mem_of_getElem? (i := 6) (by decide +kernel)))) rfl, ⟨by decide +kernel, by decide +kernel, by decide +kernel⟩, by decide +kernel⟩
theorem kvx_142 : kVX 142 := ⟨kw_tab (tl_in (tb_5 (List.mem_of_getElem? (i := 56) (by decide +kernel)))) rfl, kw_tab (sl_in (q := (⟨"KeySteward$Keys", "packTexts", "(I)V"⟩, 19)) (lp_2 (List.mem_of_getElem? (i := 8) (by decide +kernel)))) rfl, by decide +kernel⟩
set_option maxRecDepth 100000 in
theorem kcx_143 : kCX 143 := ⟨kw_tab (tl_in (tb_6 (List.mem_of_getElem? (i := 86) rfl))) rfl, kw_tab (tl_in (tb_1 (List.mem_of_getElem? (i := 6) (by decide +kernel)))) rfl, ⟨by decide +kernel, by decide +kernel, by decide +kernel⟩, by decide +kernel⟩
theorem kvx_143 : kVX 143 := ⟨kw_tab (tl_in (tb_6 (List.mem_of_getElem? (i := 84) (by decide +kernel)))) rfl, kw_tab (tl_in (tb_6 (List.mem_of_getElem? (i := 85) (by decide +kernel)))) rfl, by decide +kernel⟩
set_option maxRecDepth 100000 in
theorem kcx_144 : kCX 144 := ⟨kw_tab (tl_in (tb_6 (List.mem_of_getElem? (i := 90) rfl))) rfl, kw_tab (tl_in (tb_1 (List.mem_of_getElem? (i := 6) (by decide +kernel)))) rfl, ⟨by decide +kernel, by decide +kernel, by decide +kernel⟩, by decide +kernel⟩
theorem kvx_144 : kVX 144 := ⟨kw_tab (tl_in (tb_6 (List.mem_of_getElem? (i := 89) (by decide +kernel)))) rfl, kw_tab (sl_in (q := (⟨"KeySteward$Keys", "packCells", "(I)V"⟩, 19)) (lp_4 (List.mem_of_getElem? (i := 6) (by decide +kernel)))) rfl, by decide +kernel⟩
end KOKW
