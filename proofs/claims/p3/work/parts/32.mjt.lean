/-! One instruction: what the reader asks is enough for the machine. -/
section MJU
variable {l : Launch} {dC : Nat → ClassId} {dI : Nat → Nat → Nat} {dA : Nat → ClassId} {ad : Nat → Nat} {p : Program} {e : Env} {R : Room} {s : State} {mi : MethodId} {args : Array Value} {below : List Frame} {meth : Method} {c : Code} {A : Nat → Prop} {Qx : State → Prop}
theorem mj_icmp {cc : ByteArray} {pc t : Nat} {cd : ClassFile.Cond} {off : Int} {x y : Int32} {ls : Array Slot} {rest : List Value} {H : Heap} {locs : List Loc} (hx : p.tables.exec = Jvm.exec) (hb : c.code = cc) (hd : decode cc pc = .ok (.if_icmp cd off, 3)) (ht : (pc : Int) + off = (t : Int)) (k1 : mjCc cd x y → W p l e R s mi args below meth c H locs 0 0 Qx (F0 mi t ls rest)) (k2 : ¬ mjCc cd x y → W p l e R s mi args below meth c H locs 0 0 Qx (F0 mi (pc + 3) ls rest)) : W p l e R s mi args below meth c H locs 0 0 Qx (F0 mi pc ls (.int y :: .int x :: rest)) := by
  cases cd with
  | eq => exact lv_icmp_eq hx hb hd ht k1 k2
  | ne => exact lv_icmp_ne hx hb hd ht k1 (fun h => k2 (fun g => g h))
  | lt => exact lv_icmp_lt hx hb hd ht k1 k2
  | ge => exact lv_icmp_ge hx hb hd ht k1 k2
  | gt => exact lv_icmp_gt hx hb hd ht k1 k2
  | le => exact lv_icmp_le hx hb hd ht k1 k2
theorem mj_if {cc : ByteArray} {pc t : Nat} {cd : ClassFile.Cond} {off : Int} {x : Int32} {ls : Array Slot} {rest : List Value} {H : Heap} {locs : List Loc} (hx : p.tables.exec = Jvm.exec) (hb : c.code = cc) (hd : decode cc pc = .ok (.ifCond cd off, 3)) (ht : (pc : Int) + off = (t : Int)) (k1 : mjCc cd x 0 → W p l e R s mi args below meth c H locs 0 0 Qx (F0 mi t ls rest)) (k2 : ¬ mjCc cd x 0 → W p l e R s mi args below meth c H locs 0 0 Qx (F0 mi (pc + 3) ls rest)) : W p l e R s mi args below meth c H locs 0 0 Qx (F0 mi pc ls (.int x :: rest)) := by
  cases cd with
  | eq => exact lv_if_eq hx hb hd ht k1 k2
  | ne => exact lv_if_ne hx hb hd ht k1 (fun h => k2 (fun g => g h))
  | lt => exact lv_if_lt hx hb hd ht k1 k2
  | ge => exact lv_if_ge hx hb hd ht k1 k2
  | gt => exact lv_if_gt hx hb hd ht k1 k2
  | le => exact lv_if_le hx hb hd ht k1 k2
set_option maxHeartbeats 8000000 in
set_option maxRecDepth 100000 in
theorem mj_step (P : Nat → List mjEn) (q : mjQm) {m i pc x : Nat} {ins : Instr} {z : Int} {lv : mjL} {st : List Value} {σ : mjS} {G : mjG} {C : Nat → List Value → mjS → mjK → Prop} {K : mjK}
    (hx : p.tables.exec = Jvm.exec) (hb : c.code = (q m).2.1) (hml : c.maxLocals = (q m).2.2.2.1) (hr : meth.sig.returnType = mjRt (q m).2.2.2.2) (hown : s.vm.findClass RX13 = some mi.cls) (hkw : ∀ w ∈ kw, w.before args s = true) (hlocks : meth.locks = false) (hK : va_K (dC, dI) classes (mjTy dA) s) (hfx : fx s) (hA : ∀ a : Nat, s.heap.size ≤ a → A a)
    (hge : mjGE P q m pc ins x z) (hnx : ∀ e', (P m)[i + 1]? = some e' → e'.1 = pc + mjLen ins) (hnl : lv.length = (q m).2.2.2.1)
    (hG : ∀ i' lv' st' σ' pc', G i' lv' st' σ' → lv'.length = (q m).2.2.2.1 → (∀ e', (P m)[i']? = some e' → e'.1 = pc') → mjT p l e R s mi args below meth c A Qx dC dI dA ad (q m).2.2.2.1 pc' lv' st' σ')
    (hC : ∀ x' ar σ' K', mjTY σ' → C x' ar σ' K' → ∃ d', (d' + 1 ≤ R.frames ∧ 41 * (d' + 1) ≤ R.locals) ∧ mjMet l dC dI dA ad (q x') d' ar σ' K')
    (hQ : Qx = MQ below (mjQ (q m).2.2.2.2 K (mjB dC dI dA ad A) A) args s 0 0 A)
    (h : mjI q (q m).2.2.2.2 ins x z i lv st σ G C K) : mjT p l e R s mi args below meth c A Qx dC dI dA ad (q m).2.2.2.1 pc lv st σ := by
  obtain ⟨hd, haux⟩ := hge
  cases ins with
  | iconst n =>
    intro H locs ls ty hP hD hS hl
    exact lv_iconst hx hb hd rfl (hG _ _ _ _ _ h hnl hnx H locs ls ty hP hD hS hl)
  | bipush n =>
    intro H locs ls ty hP hD hS hl
    exact lv_bipush hx hb hd rfl (hG _ _ _ _ _ h hnl hnx H locs ls ty hP hD hS hl)
  | sipush n =>
    intro H locs ls ty hP hD hS hl
    exact lv_sipush hx hb hd rfl (hG _ _ _ _ _ h hnl hnx H locs ls ty hP hD hS hl)
  | lconst n =>
    intro H locs ls ty hP hD hS hl
    exact lv_lconst hx hb hd rfl (hG _ _ _ _ _ h hnl hnx H locs ls ty hP hD hS hl)
  | ldc k =>
    intro H locs ls ty hP hD hS hl
    exact lv_ldc hx hb hown (hkw _ haux) hd (hG _ _ _ _ _ h hnl hnx H locs ls ty hP hD hS hl)
  | ldc_w k =>
    intro H locs ls ty hP hD hS hl
    exact lv_ldcw hx hb hown (hkw _ haux) hd (hG _ _ _ _ _ h hnl hnx H locs ls ty hP hD hS hl)
  | ldc2_w k =>
    intro H locs ls ty hP hD hS hl
    exact lv_ldc2 hx hb hown (hkw _ haux) hd (hG _ _ _ _ _ h hnl hnx H locs ls ty hP hD hS hl)
  | iload k =>
    obtain ⟨v, hv, h⟩ := mjLdI_x h
    intro H locs ls ty hP hD hS hl
    exact lv_iload hx hb hd (mjLd_at hl hv) (hG _ _ _ _ _ h hnl hnx H locs ls ty hP hD hS hl)
  | iload_n k =>
    obtain ⟨v, hv, h⟩ := mjLdI_x h
    intro H locs ls ty hP hD hS hl
    exact lv_iload_n hx hb hd rfl (mjLd_at hl hv) (hG _ _ _ _ _ h hnl hnx H locs ls ty hP hD hS hl)
  | lload k =>
    obtain ⟨v, hv, h⟩ := mjLdL_x h
    intro H locs ls ty hP hD hS hl
    exact lv_lload hx hb hd (mjLd_at hl hv) (hG _ _ _ _ _ h hnl hnx H locs ls ty hP hD hS hl)
  | lload_n k =>
    obtain ⟨v, hv, h⟩ := mjLdL_x h
    intro H locs ls ty hP hD hS hl
    exact lv_lload_n hx hb hd rfl (mjLd_at hl hv) (hG _ _ _ _ _ h hnl hnx H locs ls ty hP hD hS hl)
  | aload k =>
    obtain ⟨v, hv, h⟩ := mjLdA_x h
    intro H locs ls ty hP hD hS hl
    exact lv_aload hx hb hd (mjLd_at hl hv) (hG _ _ _ _ _ h hnl hnx H locs ls ty hP hD hS hl)
  | aload_n k =>
    obtain ⟨v, hv, h⟩ := mjLdA_x h
    intro H locs ls ty hP hD hS hl
    exact lv_aload_n hx hb hd rfl (mjLd_at hl hv) (hG _ _ _ _ _ h hnl hnx H locs ls ty hP hD hS hl)
  | istore k =>
    obtain ⟨v, r, rfl, hk, h⟩ := mjI1_x h
    intro H locs ls ty hP hD hS hl
    refine lv_istore hx hb hd hl (by rw [← hnl]; exact hk) rfl (fun ls hl => hG _ _ _ _ _ h (by rw [mjS1_len]; exact hnl) hnx H locs ls ty hP hD hS (mjS1_has (v := .int v) hl))
  | istore_n k =>
    obtain ⟨v, r, rfl, hk, h⟩ := mjI1_x h
    intro H locs ls ty hP hD hS hl
    refine lv_istore_n hx hb hd rfl hl (by rw [← hnl]; exact hk) rfl (fun ls hl => hG _ _ _ _ _ h (by rw [mjS1_len]; exact hnl) hnx H locs ls ty hP hD hS (mjS1_has (v := .int v) hl))
  | lstore k =>
    obtain ⟨v, r, rfl, hk, h⟩ := mjJ1_x h
    intro H locs ls ty hP hD hS hl
    refine lv_lstore hx hb hd hl (by rw [← hnl]; exact hk) rfl (fun ls hl => hG _ _ _ _ _ h (by rw [mjS2_len]; exact hnl) hnx H locs ls ty hP hD hS (mjS2_has (v := .long v) hl))
  | lstore_n k =>
    obtain ⟨v, r, rfl, hk, h⟩ := mjJ1_x h
    intro H locs ls ty hP hD hS hl
    refine lv_lstore_n hx hb hd rfl hl (by rw [← hnl]; exact hk) rfl (fun ls hl => hG _ _ _ _ _ h (by rw [mjS2_len]; exact hnl) hnx H locs ls ty hP hD hS (mjS2_has (v := .long v) hl))
  | iinc k n =>
    obtain ⟨v, hv, h⟩ := mjLdI_x h
    intro H locs ls ty hP hD hS hl
    have hmem := mjLs_get (ad := ad) 0 hv
    rw [Nat.zero_add] at hmem
    obtain ⟨kk, hkk⟩ := List.getElem?_of_mem hmem
    have hlt : k < (q m).2.2.2.1 := by rw [← hnl]; exact (List.getElem?_eq_some_iff.mp hv).1
    exact lv_iinc hx hb hd hl hkk rfl hlt rfl (fun ls hl => hG _ _ _ _ _ h (by rw [mjS1_len]; exact hnl) hnx H locs ls ty hP hD hS (mjS1_has (v := .int _) hl))
  | iadd =>
    obtain ⟨a, b, r, rfl, h⟩ := mjI2_x h
    intro H locs ls ty hP hD hS hl
    exact lv_iadd hx hb hd (hG _ _ _ _ _ h hnl hnx H locs ls ty hP hD hS hl)
  | isub =>
    obtain ⟨a, b, r, rfl, h⟩ := mjI2_x h
    intro H locs ls ty hP hD hS hl
    exact lv_isub hx hb hd (hG _ _ _ _ _ h hnl hnx H locs ls ty hP hD hS hl)
  | imul =>
    obtain ⟨a, b, r, rfl, h⟩ := mjI2_x h
    intro H locs ls ty hP hD hS hl
    exact lv_imul hx hb hd (hG _ _ _ _ _ h hnl hnx H locs ls ty hP hD hS hl)
  | iand =>
    obtain ⟨a, b, r, rfl, h⟩ := mjI2_x h
    intro H locs ls ty hP hD hS hl
    exact lv_iand hx hb hd (hG _ _ _ _ _ h hnl hnx H locs ls ty hP hD hS hl)
  | ior =>
    obtain ⟨a, b, r, rfl, h⟩ := mjI2_x h
    intro H locs ls ty hP hD hS hl
    exact lv_ior hx hb hd (hG _ _ _ _ _ h hnl hnx H locs ls ty hP hD hS hl)
  | ixor =>
    obtain ⟨a, b, r, rfl, h⟩ := mjI2_x h
    intro H locs ls ty hP hD hS hl
    exact lv_ixor hx hb hd (hG _ _ _ _ _ h hnl hnx H locs ls ty hP hD hS hl)
  | ishl =>
    obtain ⟨a, b, r, rfl, h⟩ := mjI2_x h
    intro H locs ls ty hP hD hS hl
    exact lv_ishl hx hb hd (hG _ _ _ _ _ h hnl hnx H locs ls ty hP hD hS hl)
  | ishr =>
    obtain ⟨a, b, r, rfl, h⟩ := mjI2_x h
    intro H locs ls ty hP hD hS hl
    exact lv_ishr hx hb hd (hG _ _ _ _ _ h hnl hnx H locs ls ty hP hD hS hl)
  | idiv =>
    obtain ⟨a, b, r, rfl, hne, h⟩ := mjI2_x h
    intro H locs ls ty hP hD hS hl
    exact lv_idiv hx hb hd hne (hG _ _ _ _ _ h hnl hnx H locs ls ty hP hD hS hl)
  | irem =>
    obtain ⟨a, b, r, rfl, hne, h⟩ := mjI2_x h
    intro H locs ls ty hP hD hS hl
    exact lv_irem hx hb hd hne (hG _ _ _ _ _ h hnl hnx H locs ls ty hP hD hS hl)
  | ladd =>
    obtain ⟨a, b, r, rfl, h⟩ := mjJ2_x h
    intro H locs ls ty hP hD hS hl
    exact lv_ladd hx hb hd (hG _ _ _ _ _ h hnl hnx H locs ls ty hP hD hS hl)
  | lsub =>
    obtain ⟨a, b, r, rfl, h⟩ := mjJ2_x h
    intro H locs ls ty hP hD hS hl
    exact lv_lsub hx hb hd (hG _ _ _ _ _ h hnl hnx H locs ls ty hP hD hS hl)
  | lmul =>
    obtain ⟨a, b, r, rfl, h⟩ := mjJ2_x h
    intro H locs ls ty hP hD hS hl
    exact lv_lmul hx hb hd (hG _ _ _ _ _ h hnl hnx H locs ls ty hP hD hS hl)
  | land =>
    obtain ⟨a, b, r, rfl, h⟩ := mjJ2_x h
    intro H locs ls ty hP hD hS hl
    exact lv_land hx hb hd (hG _ _ _ _ _ h hnl hnx H locs ls ty hP hD hS hl)
  | lor =>
    obtain ⟨a, b, r, rfl, h⟩ := mjJ2_x h
    intro H locs ls ty hP hD hS hl
    exact lv_lor hx hb hd (hG _ _ _ _ _ h hnl hnx H locs ls ty hP hD hS hl)
  | lxor =>
    obtain ⟨a, b, r, rfl, h⟩ := mjJ2_x h
    intro H locs ls ty hP hD hS hl
    exact lv_lxor hx hb hd (hG _ _ _ _ _ h hnl hnx H locs ls ty hP hD hS hl)
  | ldiv =>
    obtain ⟨a, b, r, rfl, hne, h⟩ := mjJ2_x h
    intro H locs ls ty hP hD hS hl
    exact lv_ldiv hx hb hd hne (hG _ _ _ _ _ h hnl hnx H locs ls ty hP hD hS hl)
  | lrem =>
    obtain ⟨a, b, r, rfl, hne, h⟩ := mjJ2_x h
    intro H locs ls ty hP hD hS hl
    exact lv_lrem hx hb hd hne (hG _ _ _ _ _ h hnl hnx H locs ls ty hP hD hS hl)
  | lshl =>
    obtain ⟨a, b, r, rfl, h⟩ := mjJI_x h
    intro H locs ls ty hP hD hS hl
    exact lv_lshl hx hb hd rfl (hG _ _ _ _ _ h hnl hnx H locs ls ty hP hD hS hl)
  | lshr =>
    obtain ⟨a, b, r, rfl, h⟩ := mjJI_x h
    intro H locs ls ty hP hD hS hl
    exact lv_lshr hx hb hd rfl (hG _ _ _ _ _ h hnl hnx H locs ls ty hP hD hS hl)
  | ineg =>
    obtain ⟨a, r, rfl, h⟩ := mjI1_x h
    intro H locs ls ty hP hD hS hl
    exact lv_ineg hx hb hd (hG _ _ _ _ _ h hnl hnx H locs ls ty hP hD hS hl)
  | lneg =>
    obtain ⟨a, r, rfl, h⟩ := mjJ1_x h
    intro H locs ls ty hP hD hS hl
    exact lv_lneg hx hb hd (hG _ _ _ _ _ h hnl hnx H locs ls ty hP hD hS hl)
  | i2l =>
    obtain ⟨a, r, rfl, h⟩ := mjI1_x h
    intro H locs ls ty hP hD hS hl
    exact lv_i2l hx hb hd rfl (hG _ _ _ _ _ h hnl hnx H locs ls ty hP hD hS hl)
  | i2b =>
    obtain ⟨a, r, rfl, h⟩ := mjI1_x h
    intro H locs ls ty hP hD hS hl
    exact lv_i2b hx hb hd rfl (hG _ _ _ _ _ h hnl hnx H locs ls ty hP hD hS hl)
  | l2i =>
    obtain ⟨a, r, rfl, h⟩ := mjJ1_x h
    intro H locs ls ty hP hD hS hl
    exact lv_l2i hx hb hd rfl (hG _ _ _ _ _ h hnl hnx H locs ls ty hP hD hS hl)
  | lcmp =>
    obtain ⟨a, b, r, rfl, h⟩ := mjJ2_x h
    intro H locs ls ty hP hD hS hl
    exact W.lcmp hx hb hd (hG _ _ _ _ _ h hnl hnx H locs ls ty hP hD hS hl)
  | dup =>
    rcases mjDp_x h with ⟨a, r, rfl, h⟩ | ⟨a, r, rfl, h⟩
    · intro H locs ls ty hP hD hS hl
      exact lv_dup hx hb hd rfl (hG _ _ _ _ _ h hnl hnx H locs ls ty hP hD hS hl)
    · intro H locs ls ty hP hD hS hl
      exact lv_dup hx hb hd rfl (hG _ _ _ _ _ h hnl hnx H locs ls ty hP hD hS hl)
  | pop =>
    obtain ⟨a, r, rfl, h⟩ := mjI1_x h
    intro H locs ls ty hP hD hS hl
    exact lv_pop hx hb hd rfl (hG _ _ _ _ _ h hnl hnx H locs ls ty hP hD hS hl)
  | dup2 =>
    obtain ⟨j, a, r, rfl, h⟩ := mjIA_x h
    intro H locs ls ty hP hD hS hl
    exact lv_dup2_11 hx hb hd rfl rfl (hG _ _ _ _ _ h hnl hnx H locs ls ty hP hD hS hl)
  | if_icmp cd off =>
    obtain ⟨a, b, r, rfl, h⟩ := mjI2_x h
    obtain ⟨t, ht, hpc⟩ := haux
    intro H locs ls ty hP hD hS hl
    exact mj_icmp hx hb hd ht (fun g => hG _ _ _ _ _ (h.1 g) hnl hpc H locs ls ty hP hD hS hl) (fun g => hG _ _ _ _ _ (h.2 g) hnl hnx H locs ls ty hP hD hS hl)
  | ifCond cd off =>
    obtain ⟨a, r, rfl, h⟩ := mjI1_x h
    obtain ⟨t, ht, hpc⟩ := haux
    intro H locs ls ty hP hD hS hl
    exact mj_if hx hb hd ht (fun g => hG _ _ _ _ _ (h.1 g) hnl hpc H locs ls ty hP hD hS hl) (fun g => hG _ _ _ _ _ (h.2 g) hnl hnx H locs ls ty hP hD hS hl)
  | goto off =>
    obtain ⟨t, ht, hpc⟩ := haux
    intro H locs ls ty hP hD hS hl
    exact lv_goto hx hb hd ht (hG _ _ _ _ _ h hnl hpc H locs ls ty hP hD hS hl)
  | getfield k =>
    obtain ⟨a, r, rfl, rfl, h0⟩ := mjA1_x h
    obtain ⟨h1, h2⟩ := haux
    intro H locs ls ty hP hD hS hl
    exact va_get (D := (dC, dI)) (ci := 10) (C := RX13) (T := TX13) (N := 116) hx hb hkw kin_X13 hown hK hP 0 mjW_obj rfl x h1 (hkw _ h2) (fun _ h9 => h9) (v := mjR ad (mjFv σ x)) (by rw [List.getElem?_map, List.getElem?_range h1]; rfl) hd (hG _ _ _ _ _ h0 hnl hnx H locs ls ty hP hD hS hl)
  | putfield k =>
    obtain ⟨h1, h2⟩ := haux
    have tc := mjTc_ok x h1
    rcases mjPf_x h with ⟨v, a, r, rfl, rfl, hc, h0⟩ | ⟨v, a, r, rfl, rfl, hc, h0⟩
    · intro H locs ls ty hP hD hS hl
      rcases hc with hc | ⟨hc, hv⟩
      · exact va_put (D := (dC, dI)) (ci := 10) (C := RX13) (T := TX13) (N := 116) hx hb hkw kin_X13 tyX13 tyX13_ok nmX13 hown hK hP hD hS 0 mjW_obj rfl x h1 (hkw _ h2) (fun _ h9 => h9) (tc.1 hc).2 (tyX13_ok x h1) (v := .int v) (by rw [(tc.1 hc).1]; exact rfl) (by rw [(tc.1 hc).1]; exact rfl) (by rw [List.length_map, List.length_range]; exact h1) hd (fun H locs hP hD hS => hG _ _ _ _ _ (h0 (mjTY_i ty (Or.inl hc))) hnl hnx H locs ls (mjTY_i ty (Or.inl hc)) (by rw [← mjW_setF (k := x) (v := .int v) (σ := σ) (fun _ => mjFv_i (Or.inl hc)) rfl]; exact hP) (by rw [← mjW_setF (k := x) (v := .int v) (σ := σ) (fun _ => mjFv_i (Or.inl hc)) rfl]; exact hD) hS hl)
      · exact va_put (D := (dC, dI)) (ci := 10) (C := RX13) (T := TX13) (N := 116) hx hb hkw kin_X13 tyX13 tyX13_ok nmX13 hown hK hP hD hS 0 mjW_obj rfl x h1 (hkw _ h2) (fun _ h9 => h9) (tc.2.1 hc).2 (tyX13_ok x h1) (v := .int v) (by rw [(tc.2.1 hc).1]; exact (mj_bool hv).1) (by rw [(tc.2.1 hc).1]; exact (mj_bool hv).2.1) (by rw [List.length_map, List.length_range]; exact h1) hd (fun H locs hP hD hS => hG _ _ _ _ _ (h0 (mjTY_i ty (Or.inr ⟨hc, hv⟩))) hnl hnx H locs ls (mjTY_i ty (Or.inr ⟨hc, hv⟩)) (by rw [← mjW_setF (k := x) (v := .int v) (σ := σ) (fun _ => mjFv_i (Or.inr hc)) rfl]; exact hP) (by rw [← mjW_setF (k := x) (v := .int v) (σ := σ) (fun _ => mjFv_i (Or.inr hc)) rfl]; exact hD) hS hl)
    · intro H locs ls ty hP hD hS hl
      exact va_put (D := (dC, dI)) (ci := 10) (C := RX13) (T := TX13) (N := 116) hx hb hkw kin_X13 tyX13 tyX13_ok nmX13 hown hK hP hD hS 0 mjW_obj rfl x h1 (hkw _ h2) (fun _ h9 => h9) (tc.2.2 hc).2 (tyX13_ok x h1) (v := .long v) (by rw [(tc.2.2 hc).1]; exact rfl) (by rw [(tc.2.2 hc).1]; exact rfl) (by rw [List.length_map, List.length_range]; exact h1) hd (fun H locs hP hD hS => hG _ _ _ _ _ (h0 (mjTY_l ty)) hnl hnx H locs ls (mjTY_l ty) (by rw [← mjW_setF (k := x) (v := .long v) (σ := σ) (fun _ => mjFv_l hc) rfl]; exact hP) (by rw [← mjW_setF (k := x) (v := .long v) (σ := σ) (fun _ => mjFv_l hc) rfl]; exact hD) hS hl)
  | iaload =>
    obtain ⟨j, a, r, rfl, hk, hj, h⟩ := mjIA_x h
    intro H locs ls ty hP hD hS hl
    have hw : (mjW dA ad σ)[a]? = some (ad a, .inl (dA 0, mjLn a, .inl (σ.2.2.1 a))) := by rw [mjW_32 (by omega), hk]
    exact va_iald hx hb hK hP a 0 hw rfl hj hd (hG _ _ _ _ _ h hnl hnx H locs ls ty hP hD hS hl)
  | baload =>
    obtain ⟨j, a, r, rfl, hk, hj, h⟩ := mjIA_x h
    intro H locs ls ty hP hD hS hl
    rcases hk with hk | hk
    · have hw : (mjW dA ad σ)[a]? = some (ad a, .inl (dA 1, mjLn a, .inl (σ.2.2.1 a))) := by rw [mjW_32 (by omega), hk]
      exact va_bald hx hb hK hP a 1 hw rfl hj hd (hG _ _ _ _ _ h hnl hnx H locs ls ty hP hD hS hl)
    · have hw : (mjW dA ad σ)[a]? = some (ad a, .inl (dA 2, mjLn a, .inl (σ.2.2.1 a))) := by rw [mjW_32 (by omega), hk]
      exact va_zald hx hb hK hP a 2 hw rfl hj hd (hG _ _ _ _ _ h hnl hnx H locs ls ty hP hD hS hl)
  | laload =>
    obtain ⟨j, a, r, rfl, hk, hj, h⟩ := mjIA_x h
    intro H locs ls ty hP hD hS hl
    exact va_lald hx hb hK hP a 3 (mjW_64 hk) rfl hj hd (hG _ _ _ _ _ h hnl hnx H locs ls ty hP hD hS hl)
  | iastore =>
    obtain ⟨v, j, a, r, rfl, hk, hj, h⟩ := mjIIA_x h
    intro H locs ls ty hP hD hS hl
    have hw : (mjW dA ad σ)[a]? = some (ad a, .inl (dA 0, mjLn a, .inl (σ.2.2.1 a))) := by rw [mjW_32 (by omega), hk]
    have e3 := fun vv => mjW_setI (dA := dA) (ad := ad) (σ := σ) (h := a) (i := j.toNatClampNeg) (v := vv) (by omega)
    rw [hk] at e3
    refine va_iast hx hb hK hP hD hS a 0 hw rfl hj hd (fun H locs hP hD hS => hG _ _ _ _ _ (h (mjTY_a ty (Or.inl hk))) hnl hnx H locs ls (mjTY_a ty (Or.inl hk)) ?_ ?_ hS hl)
    · rw [← e3]; exact hP
    · rw [← e3]; exact hD
  | bastore =>
    obtain ⟨v, j, a, r, rfl, hk, hj, h⟩ := mjIIA_x h
    intro H locs ls ty hP hD hS hl
    rcases hk with ⟨hk, hv⟩ | ⟨hk, hv⟩
    · have hn : vp_nar .byte v = v := by rw [vp_nar_byte]; exact hv
      have hw : (mjW dA ad σ)[a]? = some (ad a, .inl (dA 1, mjLn a, .inl (σ.2.2.1 a))) := by rw [mjW_32 (by omega), hk]
      have e3 := fun vv => mjW_setI (dA := dA) (ad := ad) (σ := σ) (h := a) (i := j.toNatClampNeg) (v := vv) (by omega)
      rw [hk] at e3
      refine va_bast hx hb hK hP hD hS a 1 hw rfl hj hd (fun H locs hP hD hS => hG _ _ _ _ _ (h (mjTY_a ty (Or.inr (Or.inl ⟨hk, hv⟩)))) hnl hnx H locs ls (mjTY_a ty (Or.inr (Or.inl ⟨hk, hv⟩))) ?_ ?_ hS hl)
      · rw [← e3]; rw [hn] at hP hD; exact hP
      · rw [← e3]; rw [hn] at hP hD; exact hD
    · have hn : vp_nar .boolean v = v := (mj_bool hv).2.2
      have hw : (mjW dA ad σ)[a]? = some (ad a, .inl (dA 2, mjLn a, .inl (σ.2.2.1 a))) := by rw [mjW_32 (by omega), hk]
      have e3 := fun vv => mjW_setI (dA := dA) (ad := ad) (σ := σ) (h := a) (i := j.toNatClampNeg) (v := vv) (by omega)
      rw [hk] at e3
      refine va_zast hx hb hK hP hD hS a 2 hw rfl hj hd (fun H locs hP hD hS => hG _ _ _ _ _ (h (mjTY_a ty (Or.inr (Or.inr ⟨hk, hv⟩)))) hnl hnx H locs ls (mjTY_a ty (Or.inr (Or.inr ⟨hk, hv⟩))) ?_ ?_ hS hl)
      · rw [← e3]; rw [hn] at hP hD; exact hP
      · rw [← e3]; rw [hn] at hP hD; exact hD
  | lastore =>
    obtain ⟨v, j, a, r, rfl, hk, hj, h⟩ := mjJIA_x h
    intro H locs ls ty hP hD hS hl
    refine va_last hx hb hK hP hD hS a 3 (mjW_64 hk) rfl hj hd (fun H locs hP hD hS => hG _ _ _ _ _ (h (mjTY_j ty)) hnl hnx H locs ls (mjTY_j ty) ?_ ?_ hS hl)
    · rw [← mjW_setL hk]; exact hP
    · rw [← mjW_setL hk]; exact hD
  | invokevirtual k =>
    obtain ⟨hn, h⟩ := h
    obtain ⟨a, r, er, rfl, hcat, hc⟩ := mjA1_x h
    have est : st = st.take (q x).2.2.1 ++ .ref 0 :: r := by rw [← er]; exact (List.take_append_drop _ _).symm
    rw [est]
    intro H locs ls ty hP hD hS hl
    obtain ⟨d1, hR, hM⟩ := hC _ _ _ _ ty hc
    exact mj_call hx hb hml hown hkw hK hfx hA haux.1 haux.2.1 haux.2.2 hd hR hM (by rw [List.length_take]; omega) hcat (fun v u tu hv => hG _ _ _ _ _ (hv tu) hnl hnx) H locs ls ty hP hD hS hl
  | invokestatic k =>
    obtain ⟨hn, hcat, hc⟩ := h
    have est : st = st.take (q x).2.2.1 ++ st.drop (q x).2.2.1 := (List.take_append_drop _ _).symm
    rw [est]
    intro H locs ls ty hP hD hS hl
    obtain ⟨d1, hR, hM⟩ := hC _ _ _ _ ty hc
    exact mj_callS hx hb hml hown hkw hK hfx hA haux.1 haux.2 hd hR hM (by rw [List.length_take]; omega) hcat (fun v u tu hv => hG _ _ _ _ _ (hv tu) hnl hnx) H locs ls ty hP hD hS hl
  | ireturn =>
    obtain ⟨v, r, rfl, rfl, hrt, hk⟩ := mjI1_x h
    subst hQ
    generalize (q m).2.2.2.2 = rt at hr hrt ⊢
    intro H locs ls ty hP hD hS hl
    rcases hrt with rfl | ⟨rfl, hv⟩
    · exact W.iret (Qc := mjQ 1 K (mjB dC dI dA ad A) A) hx hb hr (fun t ht hW => ⟨⟨v, σ, rfl, ⟨ty, hk⟩, by rw [ht]; exact hP, va_K.moved hW.alike hK, hD⟩, hS.F ht⟩) hS.2.2 hd hlocks
    · exact W.zret (Qc := mjQ 2 K (mjB dC dI dA ad A) A) (ty := .boolean) hx hb hr (mj_bool hv).1 (fun t ht hW => ⟨⟨v, σ, rfl, ⟨ty, hk⟩, by rw [ht]; exact hP, va_K.moved hW.alike hK, hD⟩, hS.F ht⟩) hS.2.2 hd hlocks
  | lreturn =>
    obtain ⟨v, r, rfl, rfl, hrt, hk⟩ := mjJ1_x h
    subst hQ
    generalize (q m).2.2.2.2 = rt at hr hrt ⊢
    intro H locs ls ty hP hD hS hl
    subst hrt
    exact W.lret (Qc := mjQ 3 K (mjB dC dI dA ad A) A) hx hb hr (fun t ht hW => ⟨⟨v, σ, rfl, ⟨ty, hk⟩, by rw [ht]; exact hP, va_K.moved hW.alike hK, hD⟩, hS.F ht⟩) hS.2.2 hd hlocks
  | return_ =>
    obtain ⟨rfl, hrt, hk⟩ := h
    subst hQ
    generalize (q m).2.2.2.2 = rt at hr hrt ⊢
    intro H locs ls ty hP hD hS hl
    subst hrt
    exact W.vret (Qc := mjQ 0 K (mjB dC dI dA ad A) A) hx hb hr (fun t ht hW => ⟨⟨σ, rfl, ⟨ty, hk⟩, by rw [ht]; exact hP, va_K.moved hW.alike hK, hD⟩, hS.F ht⟩) hS.2.2 hd hlocks
  | _ => exact False.elim h
end MJU
