/-! The step of the second reader, all instructions. -/
theorem getD_out {α : Type} {l : List α} {j : Nat} {d : α} (h : l.length ≤ j) : l.getD j d = d := by rw [List.getD_eq_getElem?_getD, List.getElem?_eq_none h]; rfl
section KJU3
variable {l : Launch} {dC : Nat → ClassId} {dI : Nat → Nat → Nat} {dA : Nat → ClassId} {ad : Nat → Nat} {p : Program} {e : Env} {R : Room} {s : State} {mi : MethodId} {args : Array Value} {below : List Frame} {meth : Method} {c : Code} {A : Nat → Prop} {Qx : State → Prop}
set_option maxHeartbeats 16000000 in
set_option maxRecDepth 100000 in
theorem kj_step (P : Nat → List mjEn) (q : kQm) {m i pc x n0 d : Nat} {ins : Instr} {z : Int} {lv : mjL} {st : List Value} {σ σ0 : kS} {G : kG} {C : Nat → List Value → kS → kK → Prop} {K : kK}
    (hx : p.tables.exec = Jvm.exec) (hb : c.code = (q m).2.1) (hml : c.maxLocals = (q m).2.2.2.1) (hr : meth.sig.returnType = kRt (q m).2.2.2.2.1) (hown : s.vm.findClass (q m).1.cls = some mi.cls) (hkw : ∀ w ∈ kw, w.before args s = true) (hlocks : meth.locks = false) (hK : va_K (dC, dI) classes (kTyp dA) s) (hfx : fx s) (hX : kX ad A s s.heap) (hA : ∀ a : Nat, s.heap.size ≤ a → A a) (hA2 : ∀ a : Nat, A a → s.heap.size ≤ a ∨ ∃ h, h < n0 ∧ a = ad h) (had : kAd ad n0 s.heap.size) (hW3 : kOrW ∧ kChW ∧ kVaW) (hRd : R.frames = d ∧ R.locals = 41 * d) (hR0 : R.cells = σ0.2.2.2.2.2.1 ∧ R.slots = σ0.2.2.2.2.2.2) (hx0 : kEx σ0 σ)
    (hge : kjGE P q m i pc ins x z) (hnx : ∀ e', (P m)[i + 1]? = some e' → e'.1 = pc + kLen ins z) (hnl : lv.length = (q m).2.2.2.1)
    (hG : ∀ i' lv' st' σ' pc', kEx σ0 σ' → G i' lv' st' σ' → lv'.length = (q m).2.2.2.1 → (∀ e', (P m)[i']? = some e' → e'.1 = pc') → kjT p l e R s mi args below meth c A Qx dC dI dA ad n0 (q m).2.2.2.1 pc' lv' st' σ')
    (hC : ∀ x' ar σ' K', kTY σ' → C x' ar σ' K' → (¬ x' = 9999) ∧ ∃ d', (d' + 1 ≤ R.frames ∧ 41 * (d' + 1) ≤ R.locals) ∧ kjMet l dC dI dA ad (q x') d' ar σ' K')
    (hQ : Qx = MQ below (kjQ dC dI dA ad σ0 K A) args s σ0.2.2.2.2.2.1 σ0.2.2.2.2.2.2 A)
    (h : kjI q (q m).2.2.2.2.1 d ins x z i lv st σ G C K) : kjT p l e R s mi args below meth c A Qx dC dI dA ad n0 (q m).2.2.2.1 pc lv st σ := by
  obtain ⟨hd, haux⟩ := hge
  have hG0 := fun i' lv' st' pc' => hG i' lv' st' σ pc' hx0
  cases ins with
  | iconst n =>
    intro H locs ls cells slots ty hP hD hS hl hc
    exact lv_iconst hx hb hd rfl (hG0 _ _ _ _ h hnl hnx H locs ls cells slots ty hP hD hS hl hc)
  | bipush n =>
    intro H locs ls cells slots ty hP hD hS hl hc
    exact lv_bipush hx hb hd rfl (hG0 _ _ _ _ h hnl hnx H locs ls cells slots ty hP hD hS hl hc)
  | sipush n =>
    intro H locs ls cells slots ty hP hD hS hl hc
    exact lv_sipush hx hb hd rfl (hG0 _ _ _ _ h hnl hnx H locs ls cells slots ty hP hD hS hl hc)
  | lconst n =>
    intro H locs ls cells slots ty hP hD hS hl hc
    exact lv_lconst hx hb hd rfl (hG0 _ _ _ _ h hnl hnx H locs ls cells slots ty hP hD hS hl hc)
  | ldc2_w k =>
    intro H locs ls cells slots ty hP hD hS hl hc
    exact lv_ldc2 hx hb hown (hkw _ haux) hd (hG0 _ _ _ _ h hnl hnx H locs ls cells slots ty hP hD hS hl hc)
  | iload k =>
    obtain ⟨v, hv, h⟩ := mjLdI_x h
    intro H locs ls cells slots ty hP hD hS hl hc
    exact lv_iload hx hb hd (mjLd_at hl hv) (hG0 _ _ _ _ h hnl hnx H locs ls cells slots ty hP hD hS hl hc)
  | iload_n k =>
    obtain ⟨v, hv, h⟩ := mjLdI_x h
    intro H locs ls cells slots ty hP hD hS hl hc
    exact lv_iload_n hx hb hd rfl (mjLd_at hl hv) (hG0 _ _ _ _ h hnl hnx H locs ls cells slots ty hP hD hS hl hc)
  | lload k =>
    obtain ⟨v, hv, h⟩ := mjLdL_x h
    intro H locs ls cells slots ty hP hD hS hl hc
    exact lv_lload hx hb hd (mjLd_at hl hv) (hG0 _ _ _ _ h hnl hnx H locs ls cells slots ty hP hD hS hl hc)
  | lload_n k =>
    obtain ⟨v, hv, h⟩ := mjLdL_x h
    intro H locs ls cells slots ty hP hD hS hl hc
    exact lv_lload_n hx hb hd rfl (mjLd_at hl hv) (hG0 _ _ _ _ h hnl hnx H locs ls cells slots ty hP hD hS hl hc)
  | istore k =>
    obtain ⟨v, r, rfl, hk, h⟩ := mjI1_x h
    intro H locs ls cells slots ty hP hD hS hl hc
    refine lv_istore hx hb hd hl (by rw [← hnl]; exact hk) rfl (fun ls hl => hG0 _ _ _ _ h (by rw [mjS1_len]; exact hnl) hnx H locs ls cells slots ty hP hD hS (mjS1_has (v := .int v) hl) hc)
  | istore_n k =>
    obtain ⟨v, r, rfl, hk, h⟩ := mjI1_x h
    intro H locs ls cells slots ty hP hD hS hl hc
    refine lv_istore_n hx hb hd rfl hl (by rw [← hnl]; exact hk) rfl (fun ls hl => hG0 _ _ _ _ h (by rw [mjS1_len]; exact hnl) hnx H locs ls cells slots ty hP hD hS (mjS1_has (v := .int v) hl) hc)
  | lstore k =>
    obtain ⟨v, r, rfl, hk, h⟩ := mjJ1_x h
    intro H locs ls cells slots ty hP hD hS hl hc
    refine lv_lstore hx hb hd hl (by rw [← hnl]; exact hk) rfl (fun ls hl => hG0 _ _ _ _ h (by rw [mjS2_len]; exact hnl) hnx H locs ls cells slots ty hP hD hS (mjS2_has (v := .long v) hl) hc)
  | lstore_n k =>
    obtain ⟨v, r, rfl, hk, h⟩ := mjJ1_x h
    intro H locs ls cells slots ty hP hD hS hl hc
    refine lv_lstore_n hx hb hd rfl hl (by rw [← hnl]; exact hk) rfl (fun ls hl => hG0 _ _ _ _ h (by rw [mjS2_len]; exact hnl) hnx H locs ls cells slots ty hP hD hS (mjS2_has (v := .long v) hl) hc)
  | iinc k n =>
    obtain ⟨v, hv, h⟩ := mjLdI_x h
    intro H locs ls cells slots ty hP hD hS hl hc
    have hmem := mjLs_get (ad := ad) 0 hv
    rw [Nat.zero_add] at hmem
    obtain ⟨kk, hkk⟩ := List.getElem?_of_mem hmem
    have hlt : k < (q m).2.2.2.1 := by rw [← hnl]; exact (List.getElem?_eq_some_iff.mp hv).1
    exact lv_iinc hx hb hd hl hkk rfl hlt rfl (fun ls hl => hG0 _ _ _ _ h (by rw [mjS1_len]; exact hnl) hnx H locs ls cells slots ty hP hD hS (mjS1_has (v := .int _) hl) hc)
  | iadd =>
    obtain ⟨a, b, r, rfl, h⟩ := mjI2_x h
    intro H locs ls cells slots ty hP hD hS hl hc
    exact lv_iadd hx hb hd (hG0 _ _ _ _ h hnl hnx H locs ls cells slots ty hP hD hS hl hc)
  | isub =>
    obtain ⟨a, b, r, rfl, h⟩ := mjI2_x h
    intro H locs ls cells slots ty hP hD hS hl hc
    exact lv_isub hx hb hd (hG0 _ _ _ _ h hnl hnx H locs ls cells slots ty hP hD hS hl hc)
  | imul =>
    obtain ⟨a, b, r, rfl, h⟩ := mjI2_x h
    intro H locs ls cells slots ty hP hD hS hl hc
    exact lv_imul hx hb hd (hG0 _ _ _ _ h hnl hnx H locs ls cells slots ty hP hD hS hl hc)
  | iand =>
    obtain ⟨a, b, r, rfl, h⟩ := mjI2_x h
    intro H locs ls cells slots ty hP hD hS hl hc
    exact lv_iand hx hb hd (hG0 _ _ _ _ h hnl hnx H locs ls cells slots ty hP hD hS hl hc)
  | ior =>
    obtain ⟨a, b, r, rfl, h⟩ := mjI2_x h
    intro H locs ls cells slots ty hP hD hS hl hc
    exact lv_ior hx hb hd (hG0 _ _ _ _ h hnl hnx H locs ls cells slots ty hP hD hS hl hc)
  | ixor =>
    obtain ⟨a, b, r, rfl, h⟩ := mjI2_x h
    intro H locs ls cells slots ty hP hD hS hl hc
    exact lv_ixor hx hb hd (hG0 _ _ _ _ h hnl hnx H locs ls cells slots ty hP hD hS hl hc)
  | ishl =>
    obtain ⟨a, b, r, rfl, h⟩ := mjI2_x h
    intro H locs ls cells slots ty hP hD hS hl hc
    exact lv_ishl hx hb hd (hG0 _ _ _ _ h hnl hnx H locs ls cells slots ty hP hD hS hl hc)
  | ishr =>
    obtain ⟨a, b, r, rfl, h⟩ := mjI2_x h
    intro H locs ls cells slots ty hP hD hS hl hc
    exact lv_ishr hx hb hd (hG0 _ _ _ _ h hnl hnx H locs ls cells slots ty hP hD hS hl hc)
  | idiv =>
    obtain ⟨a, b, r, rfl, hne, h⟩ := mjI2_x h
    intro H locs ls cells slots ty hP hD hS hl hc
    exact lv_idiv hx hb hd hne (hG0 _ _ _ _ h hnl hnx H locs ls cells slots ty hP hD hS hl hc)
  | irem =>
    obtain ⟨a, b, r, rfl, hne, h⟩ := mjI2_x h
    intro H locs ls cells slots ty hP hD hS hl hc
    exact lv_irem hx hb hd hne (hG0 _ _ _ _ h hnl hnx H locs ls cells slots ty hP hD hS hl hc)
  | ineg =>
    obtain ⟨a, r, rfl, h⟩ := mjI1_x h
    intro H locs ls cells slots ty hP hD hS hl hc
    exact lv_ineg hx hb hd (hG0 _ _ _ _ h hnl hnx H locs ls cells slots ty hP hD hS hl hc)
  | ladd =>
    obtain ⟨a, b, r, rfl, h⟩ := mjJ2_x h
    intro H locs ls cells slots ty hP hD hS hl hc
    exact lv_ladd hx hb hd (hG0 _ _ _ _ h hnl hnx H locs ls cells slots ty hP hD hS hl hc)
  | lsub =>
    obtain ⟨a, b, r, rfl, h⟩ := mjJ2_x h
    intro H locs ls cells slots ty hP hD hS hl hc
    exact lv_lsub hx hb hd (hG0 _ _ _ _ h hnl hnx H locs ls cells slots ty hP hD hS hl hc)
  | lmul =>
    obtain ⟨a, b, r, rfl, h⟩ := mjJ2_x h
    intro H locs ls cells slots ty hP hD hS hl hc
    exact lv_lmul hx hb hd (hG0 _ _ _ _ h hnl hnx H locs ls cells slots ty hP hD hS hl hc)
  | land =>
    obtain ⟨a, b, r, rfl, h⟩ := mjJ2_x h
    intro H locs ls cells slots ty hP hD hS hl hc
    exact lv_land hx hb hd (hG0 _ _ _ _ h hnl hnx H locs ls cells slots ty hP hD hS hl hc)
  | lxor =>
    obtain ⟨a, b, r, rfl, h⟩ := mjJ2_x h
    intro H locs ls cells slots ty hP hD hS hl hc
    exact lv_lxor hx hb hd (hG0 _ _ _ _ h hnl hnx H locs ls cells slots ty hP hD hS hl hc)
  | ldiv =>
    obtain ⟨a, b, r, rfl, hne, h⟩ := mjJ2_x h
    intro H locs ls cells slots ty hP hD hS hl hc
    exact lv_ldiv hx hb hd hne (hG0 _ _ _ _ h hnl hnx H locs ls cells slots ty hP hD hS hl hc)
  | lrem =>
    obtain ⟨a, b, r, rfl, hne, h⟩ := mjJ2_x h
    intro H locs ls cells slots ty hP hD hS hl hc
    exact lv_lrem hx hb hd hne (hG0 _ _ _ _ h hnl hnx H locs ls cells slots ty hP hD hS hl hc)
  | lneg =>
    obtain ⟨a, r, rfl, h⟩ := mjJ1_x h
    intro H locs ls cells slots ty hP hD hS hl hc
    exact lv_lneg hx hb hd (hG0 _ _ _ _ h hnl hnx H locs ls cells slots ty hP hD hS hl hc)
  | i2l =>
    obtain ⟨a, r, rfl, h⟩ := mjI1_x h
    intro H locs ls cells slots ty hP hD hS hl hc
    exact lv_i2l hx hb hd rfl (hG0 _ _ _ _ h hnl hnx H locs ls cells slots ty hP hD hS hl hc)
  | i2b =>
    obtain ⟨a, r, rfl, h⟩ := mjI1_x h
    intro H locs ls cells slots ty hP hD hS hl hc
    exact lv_i2b hx hb hd rfl (hG0 _ _ _ _ h hnl hnx H locs ls cells slots ty hP hD hS hl hc)
  | l2i =>
    obtain ⟨a, r, rfl, h⟩ := mjJ1_x h
    intro H locs ls cells slots ty hP hD hS hl hc
    exact lv_l2i hx hb hd rfl (hG0 _ _ _ _ h hnl hnx H locs ls cells slots ty hP hD hS hl hc)
  | lcmp =>
    obtain ⟨a, b, r, rfl, h⟩ := mjJ2_x h
    intro H locs ls cells slots ty hP hD hS hl hc
    exact W.lcmp hx hb hd (hG0 _ _ _ _ h hnl hnx H locs ls cells slots ty hP hD hS hl hc)
  | dup =>
    rcases mjDp_x h with ⟨a, r, rfl, h⟩ | ⟨a, r, rfl, h⟩
    · intro H locs ls cells slots ty hP hD hS hl hc
      exact lv_dup hx hb hd rfl (hG0 _ _ _ _ h hnl hnx H locs ls cells slots ty hP hD hS hl hc)
    · intro H locs ls cells slots ty hP hD hS hl hc
      exact lv_dup hx hb hd rfl (hG0 _ _ _ _ h hnl hnx H locs ls cells slots ty hP hD hS hl hc)
  | pop =>
    obtain ⟨a, r, rfl, h⟩ := mjI1_x h
    intro H locs ls cells slots ty hP hD hS hl hc
    exact lv_pop hx hb hd rfl (hG0 _ _ _ _ h hnl hnx H locs ls cells slots ty hP hD hS hl hc)
  | if_icmp cd off =>
    obtain ⟨a, b, r, rfl, h⟩ := mjI2_x h
    obtain ⟨t, ht, hpc⟩ := haux
    intro H locs ls cells slots ty hP hD hS hl hc
    exact kj_icmp hx hb hd ht (fun g => hG0 _ _ _ _ (h.1 g) hnl hpc H locs ls cells slots ty hP hD hS hl hc) (fun g => hG0 _ _ _ _ (h.2 g) hnl hnx H locs ls cells slots ty hP hD hS hl hc)
  | ifCond cd off =>
    obtain ⟨a, r, rfl, h⟩ := mjI1_x h
    obtain ⟨t, ht, hpc⟩ := haux
    intro H locs ls cells slots ty hP hD hS hl hc
    exact kj_if hx hb hd ht (fun g => hG0 _ _ _ _ (h.1 g) hnl hpc H locs ls cells slots ty hP hD hS hl hc) (fun g => hG0 _ _ _ _ (h.2 g) hnl hnx H locs ls cells slots ty hP hD hS hl hc)
  | goto off =>
    obtain ⟨t, ht, hpc⟩ := haux
    intro H locs ls cells slots ty hP hD hS hl hc
    exact lv_goto hx hb hd ht (hG0 _ _ _ _ h hnl hpc H locs ls cells slots ty hP hD hS hl hc)
  | ldc k =>
    obtain ⟨w1, w2⟩ := haux
    have h : if x = 0 then _ else _ := h
    by_cases c0 : x = 0
    · rw [if_pos c0] at h
      intro H locs ls cells slots ty hP hD hS hl hc
      exact lv_ldc hx hb hown (hkw _ (w1 c0)) hd (hG0 _ _ _ _ h hnl hnx H locs ls cells slots ty hP hD hS hl hc)
    · rw [if_neg c0] at h
      obtain ⟨c1, h⟩ := h
      obtain ⟨u1, u2, u3⟩ := w2 c1
      have hZ := (hX.2.2.1 _ u1).2.2.2.2
      rw [u2, u3] at hZ
      intro H locs ls cells slots ty hP hD hS hl hc
      exact va_ldcS hx hb hown hZ hd (hG0 _ _ _ _ h hnl hnx H locs ls cells slots ty hP hD hS hl hc)
  | ldc_w k =>
    obtain ⟨w1, w2⟩ := haux
    have h : if x = 0 then _ else _ := h
    by_cases c0 : x = 0
    · rw [if_pos c0] at h
      intro H locs ls cells slots ty hP hD hS hl hc
      exact lv_ldcw hx hb hown (hkw _ (w1 c0)) hd (hG0 _ _ _ _ h hnl hnx H locs ls cells slots ty hP hD hS hl hc)
    · rw [if_neg c0] at h
      obtain ⟨c1, h⟩ := h
      obtain ⟨u1, u2, u3⟩ := w2 c1
      have hZ := (hX.2.2.1 _ u1).2.2.2.2
      rw [u2, u3] at hZ
      intro H locs ls cells slots ty hP hD hS hl hc
      exact kj_ldcw hx hb hown hZ hd (hG0 _ _ _ _ h hnl hnx H locs ls cells slots ty hP hD hS hl hc)
  | aconst_null =>
    intro H locs ls cells slots ty hP hD hS hl hc
    exact lv_null hx hb hd (hG0 _ _ _ _ h hnl hnx H locs ls cells slots ty hP hD hS hl hc)
  | aload k =>
    have h : kLdA k lv (fun v => G (i + 1) lv (v :: st) σ) := h
    rcases kLdA_x h with ⟨v, hv, h⟩ | ⟨hv, h⟩
    · intro H locs ls cells slots ty hP hD hS hl hc
      exact lv_aload hx hb hd (mjLd_at hl hv) (hG0 _ _ _ _ h hnl hnx H locs ls cells slots ty hP hD hS hl hc)
    · intro H locs ls cells slots ty hP hD hS hl hc
      exact lv_aloadN hx hb hd (mjLd_at hl hv) (hG0 _ _ _ _ h hnl hnx H locs ls cells slots ty hP hD hS hl hc)
  | aload_n k =>
    have h : kLdA k lv (fun v => G (i + 1) lv (v :: st) σ) := h
    rcases kLdA_x h with ⟨v, hv, h⟩ | ⟨hv, h⟩
    · intro H locs ls cells slots ty hP hD hS hl hc
      exact lv_aload_n hx hb hd rfl (mjLd_at hl hv) (hG0 _ _ _ _ h hnl hnx H locs ls cells slots ty hP hD hS hl hc)
    · intro H locs ls cells slots ty hP hD hS hl hc
      exact lv_aload_nN hx hb hd rfl (mjLd_at hl hv) (hG0 _ _ _ _ h hnl hnx H locs ls cells slots ty hP hD hS hl hc)
  | astore k =>
    rcases kR1_x h with ⟨v, r, rfl, hk, h⟩ | ⟨r, rfl, hk, h⟩
    · intro H locs ls cells slots ty hP hD hS hl hc
      exact lv_astore hx hb hd hl (by rw [← hnl]; exact hk) rfl (fun ls hl => hG0 _ _ _ _ h (by rw [mjS1_len]; exact hnl) hnx H locs ls cells slots ty hP hD hS (mjS1_has (v := .ref v) hl) hc)
    · intro H locs ls cells slots ty hP hD hS hl hc
      exact lv_astoreN hx hb hd hl (by rw [← hnl]; exact hk) rfl (fun ls hl => hG0 _ _ _ _ h (by rw [mjS1_len]; exact hnl) hnx H locs ls cells slots ty hP hD hS (mjS1_has (v := .null) hl) hc)
  | astore_n k =>
    rcases kR1_x h with ⟨v, r, rfl, hk, h⟩ | ⟨r, rfl, hk, h⟩
    · intro H locs ls cells slots ty hP hD hS hl hc
      exact lv_astore_n hx hb hd rfl hl (by rw [← hnl]; exact hk) rfl (fun ls hl => hG0 _ _ _ _ h (by rw [mjS1_len]; exact hnl) hnx H locs ls cells slots ty hP hD hS (mjS1_has (v := .ref v) hl) hc)
    · intro H locs ls cells slots ty hP hD hS hl hc
      exact lv_astore_nN hx hb hd rfl hl (by rw [← hnl]; exact hk) rfl (fun ls hl => hG0 _ _ _ _ h (by rw [mjS1_len]; exact hnl) hnx H locs ls cells slots ty hP hD hS (mjS1_has (v := .null) hl) hc)
  | iushr =>
    obtain ⟨a, b, r, rfl, h⟩ := mjI2_x h
    intro H locs ls cells slots ty hP hD hS hl hc
    exact lv_iushr hx hb hd rfl (hG0 _ _ _ _ h hnl hnx H locs ls cells slots ty hP hD hS hl hc)
  | i2c =>
    obtain ⟨a, r, rfl, h⟩ := mjI1_x h
    intro H locs ls cells slots ty hP hD hS hl hc
    exact lv_i2c hx hb hd rfl (hG0 _ _ _ _ h hnl hnx H locs ls cells slots ty hP hD hS hl hc)
  | ifnull off =>
    obtain ⟨t, ht, hpc⟩ := haux
    rcases kR1_x h with ⟨a, r, rfl, h⟩ | ⟨r, rfl, h⟩
    · intro H locs ls cells slots ty hP hD hS hl hc
      exact lv_ifnull hx hb hd (hG0 _ _ _ _ h hnl hnx H locs ls cells slots ty hP hD hS hl hc)
    · intro H locs ls cells slots ty hP hD hS hl hc
      exact lv_ifnullN hx hb hd ht (hG0 _ _ _ _ h hnl hpc H locs ls cells slots ty hP hD hS hl hc)
  | ifnonnull off =>
    obtain ⟨t, ht, hpc⟩ := haux
    rcases kR1_x h with ⟨a, r, rfl, h⟩ | ⟨r, rfl, h⟩
    · intro H locs ls cells slots ty hP hD hS hl hc
      exact lv_ifnonnull hx hb hd ht (hG0 _ _ _ _ h hnl hpc H locs ls cells slots ty hP hD hS hl hc)
    · intro H locs ls cells slots ty hP hD hS hl hc
      exact lv_ifnonnullN hx hb hd (hG0 _ _ _ _ h hnl hnx H locs ls cells slots ty hP hD hS hl hc)
  | if_acmp cd off =>
    obtain ⟨t, ht, hpc⟩ := haux
    obtain ⟨a, b, r, rfl, ⟨⟨ka, hka, ea⟩, ⟨kb, hkb, eb⟩, hcd⟩, h1, h2⟩ := kA2_x h
    have hi : some (ad a) = some (ad b) ↔ a = b := ⟨fun e9 => by
        have e8 := Option.some.inj e9
        rw [ea, eb] at e8
        rw [ea, eb, hX.2.1 ka kb hka hkb e8], fun e9 => by rw [e9]⟩
    intro H locs ls cells slots ty hP hD hS hl hc
    rcases hcd with rfl | rfl
    · exact lv_acmp_eq (rx := some (ad a)) (ry := some (ad b)) hx hb hd ht (fun g => hG0 _ _ _ _ (h1 ⟨fun _ => hi.mp g, fun _ => rfl⟩) hnl hpc H locs ls cells slots ty hP hD hS hl hc) (fun g => hG0 _ _ _ _ (h2 (fun g2 => g (hi.mpr (g2.mp rfl)))) hnl hnx H locs ls cells slots ty hP hD hS hl hc)
    · exact lv_acmp_ne (rx := some (ad a)) (ry := some (ad b)) hx hb hd ht (fun g => hG0 _ _ _ _ (h1 ⟨fun g2 => (by cases g2), fun g2 => absurd (hi.mpr g2) g⟩) hnl hpc H locs ls cells slots ty hP hD hS hl hc) (fun g => hG0 _ _ _ _ (h2 (fun g2 => by have := g2.mpr (hi.mp g); cases this)) hnl hnx H locs ls cells slots ty hP hD hS hl hc)
  | tableswitch df lo hi offs =>
    obtain ⟨v, r, rfl, h⟩ := mjI1_x h
    obtain ⟨w1, w2, w3, ⟨t0, w4, w5⟩, w6⟩ := haux
    intro H locs ls cells slots ty hP hD hS hl hc
    by_cases c1 : v.toInt < lo
    · refine lv_tableOut hx hb hd (Or.inl c1) w4 (hG0 _ _ _ _ h hnl (fun e' he => w5 e' ?_) H locs ls cells slots ty hP hD hS hl hc)
      rw [← he]; unfold kSg; rw [if_pos (by rw [← w1]; exact c1)]
    · by_cases c2 : hi < v.toInt
      · refine lv_tableOut hx hb hd (Or.inr c2) w4 (hG0 _ _ _ _ h hnl (fun e' he => w5 e' ?_) H locs ls cells slots ty hP hD hS hl hc)
        rw [← he]; unfold kSg; rw [if_neg (by rw [← w1]; exact c1), getD_out (l := (kSws.getD x (0, [], 0)).2.1) (by rw [w3, ← w1]; omega)]
      · obtain ⟨off, t, u1, u2, u3⟩ := w6 (v.toInt - lo).toNat (by omega)
        refine lv_tableIn hx hb hd c1 c2 u1 u2 (hG0 _ _ _ _ h hnl (fun e' he => u3 e' ?_) H locs ls cells slots ty hP hD hS hl hc)
        rw [← he]; unfold kSg; rw [if_neg (by rw [← w1]; exact c1), ← w1]
  | getstatic k =>
    obtain ⟨w1, w2⟩ := haux
    have hZ : va_Z (kSn x).1 (kSn x).2.1 (kSn x).2.2 (mjR ad (kSv x)) A s s.heap := by
      rcases w1 with w1 | rfl | rfl | rfl
      · unfold kSn kSv; rw [if_pos w1, if_pos w1]; exact (hX.1 x w1).1
      · exact hX.2.2.2.1.1
      · exact hX.2.2.2.2.1.1
      · exact hX.2.2.2.2.2.1
    intro H locs ls cells slots ty hP hD hS hl hc
    exact va_gets hx hb hZ hS hown (hkw _ w2) (fun _ h9 => h9) hd (hG0 _ _ _ _ h hnl hnx H locs ls cells slots ty hP hD hS hl hc)
  | getfield k =>
    obtain ⟨a, r, rfl, w⟩ := mjA1_x h
    clear h
    obtain ⟨w1, w2⟩ := haux
    by_cases c0 : x < 1000
    · rw [if_pos c0] at w
      obtain ⟨h0, w⟩ := w
      obtain ⟨x1, x2, x3, x4⟩ := w1 c0
      have x12 : x / 32 < 12 := by omega
      obtain ⟨k1, k2, k3, tyf, k4, k5, k6⟩ := kCl_ok (x / 32) x12 x2
      have go : ∀ v, kFv σ (x / 32) a (x % 32) = v → G (i + 1) lv (v :: r) σ → kjT p l e R s mi args below meth c A Qx dC dI dA ad n0 (q m).2.2.2.1 pc lv (.ref a :: r) σ := by
        intro v hv hg H locs ls cells slots ty hP hD hS hl hc
        exact va_get (D := (dC, dI)) (ci := x / 32) (C := (kCl (x / 32)).1) (T := (kCl (x / 32)).2.1) (N := (kCl (x / 32)).2.2) hx hb hkw k2 hown hK hP a (kW_ob ty h0 (by omega)) k1 (x % 32) (by rw [k3]; exact x3) (hkw _ x4) (fun _ h9 => h9) (v := mjR ad v) (by rw [List.getElem?_map, List.getElem?_range x3, ← hv]; rfl) hd (hG0 _ _ _ _ hg hnl hnx H locs ls cells slots ty hP hD hS hl hc)
      have rk : kTY σ → kRk σ a (x % 32) (kT x) := fun ty => by
        have := ty.2.2.2.2.2.2.2.1 a (x % 32) (by omega) (by rw [h0]; exact x3)
        rw [h0, kDm] at this; exact this
      split at w
      · next e0 => exact go _ (by unfold kFv; rw [kDm, e0]; rfl) w
      · next e0 => exact go _ (by unfold kFv; rw [kDm, e0]; rfl) w
      · next e0 => exact go _ (by unfold kFv; rw [kDm, e0]; rfl) w
      · next e0 => exact go _ (by unfold kFv; rw [kDm, e0]; rfl) w
      · next e0 =>
        intro H locs ls cells slots ty
        have rk := rk ty
        unfold kRk at rk; rw [e0] at rk
        exact go _ (by unfold kFv; rw [kDm, e0]; show va_rf (σ.2.2.1 a (x % 32)) = _; rw [rk.1]; rfl) w H locs ls cells slots ty
      · next e0 =>
        intro H locs ls cells slots ty
        have rk := rk ty
        unfold kRk at rk; rw [e0] at rk
        exact go _ (by unfold kFv; rw [kDm, e0]; show va_rf (σ.2.2.1 a (x % 32)) = _; rw [rk.1]; rfl) w H locs ls cells slots ty
      · obtain ⟨oo, ho, w⟩ := w
        refine go _ ?_ w
        unfold kFv; rw [kDm]
        split
        · next e0 => exact absurd e0 (by assumption)
        · next e0 => exact absurd e0 (by assumption)
        · next e0 => exact absurd e0 (by assumption)
        · next e0 => exact absurd e0 (by assumption)
        · rw [ho]
    · rw [if_neg c0] at w
      obtain ⟨v, hv, w⟩ := w
      have w2 := w2 (by omega)
      have hO : va_OF (kOn x).1 (kOn x).2.1 (kOn x).2.2 (mjR ad v) (ad a) A s s.heap := by
        rcases hv with ⟨k, hk, rfl, hv⟩ | ⟨ii, hi, rfl, hv⟩
        · obtain ⟨-, -, -, a4, a5, a6, a7, a8⟩ := hX.1 k hk
          rcases hv with ⟨rfl, rfl⟩ | ⟨rfl, rfl⟩ | ⟨rfl, rfl⟩ | ⟨rfl, rfl⟩ | ⟨rfl, rfl⟩
          · exact a4
          · exact a5
          · exact a6
          · exact a7
          · exact a8
        · obtain ⟨-, a2, a3, -⟩ := hX.2.2.1 ii hi
          rcases hv with ⟨rfl, rfl⟩ | ⟨rfl, rfl⟩
          · exact a3
          · exact a2
      intro H locs ls cells slots ty hP hD hS hl hc
      exact vk_getf hx hb hO hS hown (hkw _ w2) (fun _ h9 => h9) hd (hG0 _ _ _ _ w hnl hnx H locs ls cells slots ty hP hD hS hl hc)
  | putfield k =>
    obtain ⟨x1, x2, x3, x4⟩ := haux
    have x12 : x / 32 < 12 := by omega
    obtain ⟨k1, k2, k3, tyf, k4, k5, k6⟩ := kCl_ok (x / 32) x12 x2
    have k7 := k6 (x % 32) (by rw [k3]; exact x3)
    rw [kDm] at k7
    obtain ⟨q0, q1, q2, q5⟩ := k7
    rcases kPf_x h with ⟨v, a, r, rfl, h1, hc, h0⟩ | ⟨v, a, r, rfl, h1, hc, h0⟩ | ⟨v, a, r, rfl, h1, hc, h0⟩ | ⟨a, r, rfl, h1, hc, h0⟩
    · intro H locs ls cells slots ty hP hD hS hl hc2
      rcases hc with hc | ⟨hc, hv⟩
      · have t := (kTY_i ty h1 (Or.inl hc) : kTY (mjIu σ.1 a (x % 32) v, σ.2))
        have eW := kW_put (dA := dA) (ad := ad) (σ := σ) (a := a) (x := x) (v := .int v) (u := (mjIu σ.1 a (x % 32) v, σ.2)) h1 x1 rfl (fun h c9 => ⟨mjIu_n c9, rfl, rfl⟩) (fun j => kFv_i (Or.inl hc))
        refine va_put (D := (dC, dI)) (ci := x / 32) (C := (kCl (x / 32)).1) (T := (kCl (x / 32)).2.1) (N := (kCl (x / 32)).2.2) hx hb hkw k2 tyf k4 k5 hown hK hP hD hS a (kW_ob ty h1 (by omega)) k1 (x % 32) (by rw [k3]; exact x3) (hkw _ x4) (fun _ h9 => h9) (q0 hc).2 (k4 _ (by rw [k3]; exact x3)) (v := mjR ad (.int v)) (by rw [(q0 hc).1]; rfl) (by rw [(q0 hc).1]; rfl) (by rw [List.length_map, List.length_range]; exact x3) hd (fun H locs hP hD hS => hG _ _ _ _ _ (hx0.tr kEx_i) (h0 t) hnl hnx H locs ls cells slots t (by rw [← eW]; exact hP) (by rw [← eW]; exact hD) hS hl hc2)
      · have t := (kTY_i ty h1 (Or.inr ⟨hc, hv⟩) : kTY (mjIu σ.1 a (x % 32) v, σ.2))
        have eW := kW_put (dA := dA) (ad := ad) (σ := σ) (a := a) (x := x) (v := .int v) (u := (mjIu σ.1 a (x % 32) v, σ.2)) h1 x1 rfl (fun h c9 => ⟨mjIu_n c9, rfl, rfl⟩) (fun j => kFv_i (Or.inr hc))
        refine va_put (D := (dC, dI)) (ci := x / 32) (C := (kCl (x / 32)).1) (T := (kCl (x / 32)).2.1) (N := (kCl (x / 32)).2.2) hx hb hkw k2 tyf k4 k5 hown hK hP hD hS a (kW_ob ty h1 (by omega)) k1 (x % 32) (by rw [k3]; exact x3) (hkw _ x4) (fun _ h9 => h9) (q1 hc).2 (k4 _ (by rw [k3]; exact x3)) (v := mjR ad (.int v)) (by rw [(q1 hc).1]; exact (mj_bool hv).1) (by rw [(q1 hc).1]; exact (mj_bool hv).2.1) (by rw [List.length_map, List.length_range]; exact x3) hd (fun H locs hP hD hS => hG _ _ _ _ _ (hx0.tr kEx_i) (h0 t) hnl hnx H locs ls cells slots t (by rw [← eW]; exact hP) (by rw [← eW]; exact hD) hS hl hc2)
    · intro H locs ls cells slots ty hP hD hS hl hc2
      have t := (kTY_l ty : kTY (σ.1, mjLu σ.2.1 a (x % 32) v, σ.2.2))
      have eW := kW_put (dA := dA) (ad := ad) (σ := σ) (a := a) (x := x) (v := .long v) (u := (σ.1, mjLu σ.2.1 a (x % 32) v, σ.2.2)) h1 x1 rfl (fun h c9 => ⟨rfl, mjLu_n c9, rfl⟩) (fun j => kFv_l hc)
      refine va_put (D := (dC, dI)) (ci := x / 32) (C := (kCl (x / 32)).1) (T := (kCl (x / 32)).2.1) (N := (kCl (x / 32)).2.2) hx hb hkw k2 tyf k4 k5 hown hK hP hD hS a (kW_ob ty h1 (by omega)) k1 (x % 32) (by rw [k3]; exact x3) (hkw _ x4) (fun _ h9 => h9) (q2 hc).2 (k4 _ (by rw [k3]; exact x3)) (v := mjR ad (.long v)) (by rw [(q2 hc).1]; rfl) (by rw [(q2 hc).1]; rfl) (by rw [List.length_map, List.length_range]; exact x3) hd (fun H locs hP hD hS => hG _ _ _ _ _ (hx0.tr kEx_l) (h0 t) hnl hnx H locs ls cells slots t (by rw [← eW]; exact hP) (by rw [← eW]; exact hD) hS hl hc2)
    · intro H locs ls cells slots ty hP hD hS hl hc2
      have hc3 : (kT x).1 = 5 ∨ (kT x).1 = 6 ∨ (kT x).1 = 7 := by
        rcases hc with hc | hc | hc
        · exact Or.inl hc.1
        · exact Or.inr (Or.inl hc.1)
        · exact Or.inr (Or.inr hc.1)
      have rk := kRef_ok (q5 hc3).1 (mjR ad (va_rf (some v))) (Or.inr ⟨ad v, rfl⟩)
      have t := (kTY_f ty h1 (by
        rcases hc with hc | hc | hc
        · exact Or.inl ⟨hc.1, v, rfl, hc.2⟩
        · exact Or.inr (Or.inl ⟨hc.1, fun g e => by cases e; exact hc.2⟩)
        · exact Or.inr (Or.inr ⟨hc.1, fun g e => by cases e; exact hc.2⟩)) : kTY (σ.1, σ.2.1, kFu σ.2.2.1 a (x % 32) (some v), σ.2.2.2))
      have eW := kW_put (dA := dA) (ad := ad) (σ := σ) (a := a) (x := x) (v := va_rf (some v)) (u := (σ.1, σ.2.1, kFu σ.2.2.1 a (x % 32) (some v), σ.2.2.2)) h1 x1 rfl (fun h c9 => ⟨rfl, rfl, kFu_n c9⟩) (fun j => kFv_f hc3)
      refine va_put (D := (dC, dI)) (ci := x / 32) (C := (kCl (x / 32)).1) (T := (kCl (x / 32)).2.1) (N := (kCl (x / 32)).2.2) hx hb hkw k2 tyf k4 k5 hown hK hP hD hS a (kW_ob ty h1 (by omega)) k1 (x % 32) (by rw [k3]; exact x3) (hkw _ x4) (fun _ h9 => h9) (q5 hc3).2 (k4 _ (by rw [k3]; exact x3)) (v := mjR ad (va_rf (some v))) rk.1 rk.2 (by rw [List.length_map, List.length_range]; exact x3) hd (fun H locs hP hD hS => hG _ _ _ _ _ (hx0.tr kEx_f) (h0 t) hnl hnx H locs ls cells slots t (by rw [← eW]; exact hP) (by rw [← eW]; exact hD) hS hl hc2)
    · intro H locs ls cells slots ty hP hD hS hl hc2
      have hc3 : (kT x).1 = 5 ∨ (kT x).1 = 6 ∨ (kT x).1 = 7 := Or.inr hc
      have rk := kRef_ok (q5 hc3).1 (mjR ad (va_rf none)) (Or.inl rfl)
      have t := (kTY_f ty h1 (by
        rcases hc with hc | hc
        · exact Or.inr (Or.inl ⟨hc, fun g e => by cases e⟩)
        · exact Or.inr (Or.inr ⟨hc, fun g e => by cases e⟩)) : kTY (σ.1, σ.2.1, kFu σ.2.2.1 a (x % 32) none, σ.2.2.2))
      have eW := kW_put (dA := dA) (ad := ad) (σ := σ) (a := a) (x := x) (v := va_rf none) (u := (σ.1, σ.2.1, kFu σ.2.2.1 a (x % 32) none, σ.2.2.2)) h1 x1 rfl (fun h c9 => ⟨rfl, rfl, kFu_n c9⟩) (fun j => kFv_f hc3)
      refine va_put (D := (dC, dI)) (ci := x / 32) (C := (kCl (x / 32)).1) (T := (kCl (x / 32)).2.1) (N := (kCl (x / 32)).2.2) hx hb hkw k2 tyf k4 k5 hown hK hP hD hS a (kW_ob ty h1 (by omega)) k1 (x % 32) (by rw [k3]; exact x3) (hkw _ x4) (fun _ h9 => h9) (q5 hc3).2 (k4 _ (by rw [k3]; exact x3)) (v := mjR ad (va_rf none)) rk.1 rk.2 (by rw [List.length_map, List.length_range]; exact x3) hd (fun H locs hP hD hS => hG _ _ _ _ _ (hx0.tr kEx_f) (h0 t) hnl hnx H locs ls cells slots t (by rw [← eW]; exact hP) (by rw [← eW]; exact hD) hS hl hc2)
  | arraylength =>
    obtain ⟨a, r, rfl, h2⟩ := mjA1_x h
    clear h
    intro H locs ls cells slots ty hP hD hS hl hc
    rcases h2 with ⟨hk, h⟩ | ⟨t, N, f, hk, h⟩
    · rcases hk with hk | hk | hk | hk | hk
      · exact va_alen hx hb hK hP a 0 (kW_i ty hk (Or.inl rfl)) rfl rfl hd (hG0 _ _ _ _ h hnl hnx H locs ls cells slots ty hP hD hS hl hc)
      · exact va_alen hx hb hK hP a 1 (kW_i ty hk (Or.inr rfl)) rfl rfl hd (hG0 _ _ _ _ h hnl hnx H locs ls cells slots ty hP hD hS hl hc)
      · exact va_alen hx hb hK hP a 2 (kW_l ty hk) rfl rfl hd (hG0 _ _ _ _ h hnl hnx H locs ls cells slots ty hP hD hS hl hc)
      · exact va_alen hx hb hK hP a 3 (kW_r ty hk (Or.inl rfl)) rfl rfl hd (hG0 _ _ _ _ h hnl hnx H locs ls cells slots ty hP hD hS hl hc)
      · exact va_alen hx hb hK hP a 4 (kW_r ty hk (Or.inr rfl)) rfl rfl hd (hG0 _ _ _ _ h hnl hnx H locs ls cells slots ty hP hD hS hl hc)
    · rcases hk with ⟨rfl, rfl, rfl, rfl⟩ | ⟨rfl, rfl, rfl, rfl⟩ | ⟨ii, hi, rfl, rfl, rfl, rfl⟩
      · exact va_tlen hx hb hX.2.2.2.1.2 hS rfl hd (hG0 _ _ _ _ h hnl hnx H locs ls cells slots ty hP hD hS hl hc)
      · exact va_tlen hx hb hX.2.2.2.2.1.2 hS rfl hd (hG0 _ _ _ _ h hnl hnx H locs ls cells slots ty hP hD hS hl hc)
      · exact va_tlen hx hb (hX.2.2.1 ii hi).2.2.2.1 hS rfl hd (hG0 _ _ _ _ h hnl hnx H locs ls cells slots ty hP hD hS hl hc)
  | iaload =>
    obtain ⟨j, a, r, rfl, h2⟩ := mjIA_x h
    clear h
    intro H locs ls cells slots ty hP hD hS hl hc
    rcases h2 with ⟨hk, hj, h⟩ | ⟨N, f, hk, hj, v, hv, h⟩
    · exact va_iald hx hb hK hP a 0 (kW_i ty hk (Or.inl rfl)) rfl hj hd (hG0 _ _ _ _ h hnl hnx H locs ls cells slots ty hP hD hS hl hc)
    · rcases hk with ⟨-, hk, -, -⟩ | ⟨rfl, -, rfl, rfl⟩ | ⟨ii, hi, rfl, hk, rfl, rfl⟩
      · exact absurd hk (by decide)
      · exact va_ti hx hb hX.2.2.2.2.1.2 hS hj hv hd (hG0 _ _ _ _ h hnl hnx H locs ls cells slots ty hP hD hS hl hc)
      · exact absurd hk (by decide)
  | baload =>
    obtain ⟨j, a, r, rfl, h2⟩ := mjIA_x h
    clear h
    intro H locs ls cells slots ty hP hD hS hl hc
    rcases h2 with ⟨hk, hj, h⟩ | ⟨N, f, hk, hj, v, hv, h⟩
    · exact va_bald hx hb hK hP a 1 (kW_i ty hk (Or.inr rfl)) rfl hj hd (hG0 _ _ _ _ h hnl hnx H locs ls cells slots ty hP hD hS hl hc)
    · rcases hk with ⟨-, hk, -, -⟩ | ⟨-, hk, -, -⟩ | ⟨ii, hi, rfl, hk, rfl, rfl⟩
      · exact absurd hk (by decide)
      · exact absurd hk (by decide)
      · exact va_tb hx hb (hX.2.2.1 ii hi).2.2.2.1 hS hj hv hd (hG0 _ _ _ _ h hnl hnx H locs ls cells slots ty hP hD hS hl hc)
  | laload =>
    obtain ⟨j, a, r, rfl, hk, hj, h⟩ := mjIA_x h
    intro H locs ls cells slots ty hP hD hS hl hc
    exact va_lald hx hb hK hP a 2 (kW_l ty hk) rfl hj hd (hG0 _ _ _ _ h hnl hnx H locs ls cells slots ty hP hD hS hl hc)
  | aaload =>
    obtain ⟨j, a, r, rfl, h2⟩ := mjIA_x h
    clear h
    intro H locs ls cells slots ty hP hD hS hl hc
    rcases h2 with ⟨hk, hj, oo, ho, h⟩ | ⟨rfl, hj, h⟩
    · have e9 : va_rf ((fun i => (σ.2.2.1 a i).map ad) j.toNatClampNeg) = mjR ad (va_rf oo) := by
        show va_rf ((σ.2.2.1 a j.toNatClampNeg).map ad) = _
        rw [ho]; cases oo <;> rfl
      have h9 := hG0 _ _ _ _ h hnl hnx H locs ls cells slots ty hP hD hS hl hc
      rcases hk with hk | hk
      · refine va_aldq hx hb hK hP a 3 (kW_r ty hk (Or.inl rfl)) rfl hj hd ?_
        rw [e9]; exact h9
      · refine va_aldq hx hb hK hP a 4 (kW_r ty hk (Or.inr rfl)) rfl hj hd ?_
        rw [e9]; exact h9
    · exact vb_tq hx hb hX.2.2.2.1.2 hS hj rfl hd (hG0 _ _ _ _ h hnl hnx H locs ls cells slots ty hP hD hS hl hc)
  | iastore =>
    obtain ⟨v, j, a, r, rfl, hk, hj, h⟩ := mjIIA_x h
    intro H locs ls cells slots ty hP hD hS hl hc
    have t := kTY_a (j := j.toNatClampNeg) (v := v) ty (Or.inl hk)
    have eW := kW_ia (dA := dA) (ad := ad) (σ := σ) (u := (mjIu σ.1 a j.toNatClampNeg v, σ.2)) (f := upd (σ.1 a) j.toNatClampNeg v) hk (Or.inl rfl) rfl (fun g c9 => mjIu_n c9) (by show mjIu σ.1 a j.toNatClampNeg v a = _; unfold mjIu; rw [if_pos rfl])
    exact va_iast hx hb hK hP hD hS a 0 (kW_i ty hk (Or.inl rfl)) rfl hj hd (fun H locs hP hD hS => hG _ _ _ _ _ (hx0.tr kEx_i) (h t) hnl hnx H locs ls cells slots t (by rw [← eW]; exact hP) (by rw [← eW]; exact hD) hS hl hc)
  | bastore =>
    obtain ⟨v, j, a, r, rfl, hk, hj, h⟩ := mjIIA_x h
    intro H locs ls cells slots ty hP hD hS hl hc
    have t := kTY_a (j := j.toNatClampNeg) (v := v) ty (Or.inr hk)
    have hn : vp_nar .byte v = v := by rw [vp_nar_byte]; exact hk.2
    have eW := kW_ia (dA := dA) (ad := ad) (σ := σ) (u := (mjIu σ.1 a j.toNatClampNeg v, σ.2)) (f := upd (σ.1 a) j.toNatClampNeg v) hk.1 (Or.inr rfl) rfl (fun g c9 => mjIu_n c9) (by show mjIu σ.1 a j.toNatClampNeg v a = _; unfold mjIu; rw [if_pos rfl])
    exact va_bast hx hb hK hP hD hS a 1 (kW_i ty hk.1 (Or.inr rfl)) rfl hj hd (fun H locs hP hD hS => hG _ _ _ _ _ (hx0.tr kEx_i) (h t) hnl hnx H locs ls cells slots t (by rw [← eW]; rw [hn] at hP; exact hP) (by rw [← eW]; rw [hn] at hD; exact hD) hS hl hc)
  | lastore =>
    obtain ⟨v, j, a, r, rfl, hk, hj, h⟩ := mjJIA_x h
    intro H locs ls cells slots ty hP hD hS hl hc
    have t : kTY (σ.1, mjLu σ.2.1 a j.toNatClampNeg v, σ.2.2) := kTY_l ty
    have eW := kW_la (dA := dA) (ad := ad) (σ := σ) (u := (σ.1, mjLu σ.2.1 a j.toNatClampNeg v, σ.2.2)) (f := vp_updL (σ.2.1 a) j.toNatClampNeg v) hk rfl rfl (fun g c9 => mjLu_n c9) (by show mjLu σ.2.1 a j.toNatClampNeg v a = _; unfold mjLu; rw [if_pos rfl])
    exact va_last hx hb hK hP hD hS a 2 (kW_l ty hk) rfl hj hd (fun H locs hP hD hS => hG _ _ _ _ _ (hx0.tr kEx_l) (h t) hnl hnx H locs ls cells slots t (by rw [← eW]; exact hP) (by rw [← eW]; exact hD) hS hl hc)
  | aastore =>
    obtain ⟨v, j, a, r, rfl, hk, hj, h⟩ := kAIA_x h
    intro H locs ls cells slots ty hP hD hS hl hc
    have t := kTY_as (j := j.toNatClampNeg) ty hk.1 hk.2
    have eW := kW_ra (dA := dA) (ad := ad) (σ := σ) (h := a) (j := j.toNatClampNeg) (g := v) hk.1
    exact va_astq (r := (RX10, TX10, 9)) hx hb hK hP hD hS a 4 v 11 (kW_r ty hk.1 (Or.inr rfl)) rfl (kW_ob ty hk.2 (by decide)) rfl hj hd (fun H locs hP hD hS => hG _ _ _ _ _ (hx0.tr kEx_f) (h t) hnl hnx H locs ls cells slots t (by rw [← eW]; exact hP) (by rw [← eW]; exact hD) hS hl hc)
  | newarray at_ =>
    obtain ⟨v, r, rfl, N, rfl, hN, hcc, hh⟩ := mjI1_x h
    clear h
    obtain ⟨wi, wb, wl⟩ := haux
    intro H locs ls cells slots ty hP hD hS hl hc
    have t := kTY_new (k := x) (N := N) ty (by omega) (by omega) hcc.1
    have hn0 : ¬ nI N < 0 := by
      intro q9
      have := Int32.lt_iff_toInt_lt.mp q9
      rw [nI_toInt (by omega)] at this
      exact absurd this (by show ¬ (N : Int) < 0; omega)
    have hnN : (nI N).toNatClampNeg = N := nI_clamp (by omega)
    rcases hN.2 with rfl | rfl | rfl
    · obtain ⟨rfl, wc⟩ := wi rfl
      refine va_newa (atype := .int) (ty := .int) (a0 := (N, .inl (fun _ => 0))) (N' := N) hx hb (hkw _ wc) rfl hK hP hD hS hA (fun _ => rfl) hn0 hnN (by show N * 4 ≤ _; omega) (by omega) (by omega) hd (fun q9 cA H1 hK1 hP1 hD1 hS1 => ?_)
      refine kj_size fun hsz => ?_
      have hq := kj_fresh ty hD1 hP1 hA2 had hc.2.2 (by omega)
      have hcA : cA = dA 20 := kj_kind (s := s) (hK1.2 5 (cA, .int) rfl).2 (hK.2 0 (dA 20, .int) rfl).2
      subst hq
      subst hcA
      rw [kNew_W (Or.inl rfl)] at hP1 hD1
      exact hG _ _ _ _ _ (hx0.tr (kNew_ex hcc.1)) (hh t) hnl hnx H1 locs ls (cells + 1) (slots + N) t hP1 hD1 hS1 hl ⟨by show cells + 1 + (σ.2.2.2.2.2.1 - 1) = _; omega, by show slots + N + (σ.2.2.2.2.2.2 - N) = _; omega, by show σ.2.2.2.2.1 + 1 = _; omega⟩
    · obtain ⟨rfl, wc⟩ := wb rfl
      refine va_newa (atype := .byte) (ty := .byte) (a0 := (N, .inl (fun _ => 0))) (N' := N) hx hb (hkw _ wc) rfl hK hP hD hS hA (fun _ => rfl) hn0 hnN (by show N * 1 ≤ _; omega) (by omega) (by omega) hd (fun q9 cA H1 hK1 hP1 hD1 hS1 => ?_)
      refine kj_size fun hsz => ?_
      have hq := kj_fresh ty hD1 hP1 hA2 had hc.2.2 (by omega)
      have hcA : cA = dA 21 := kj_kind (s := s) (hK1.2 5 (cA, .byte) rfl).2 (hK.2 1 (dA 21, .byte) rfl).2
      subst hq
      subst hcA
      rw [kNew_W (Or.inr rfl)] at hP1 hD1
      exact hG _ _ _ _ _ (hx0.tr (kNew_ex hcc.1)) (hh t) hnl hnx H1 locs ls (cells + 1) (slots + N) t hP1 hD1 hS1 hl ⟨by show cells + 1 + (σ.2.2.2.2.2.1 - 1) = _; omega, by show slots + N + (σ.2.2.2.2.2.2 - N) = _; omega, by show σ.2.2.2.2.1 + 1 = _; omega⟩
    · obtain ⟨rfl, wc⟩ := wl rfl
      refine va_newa (atype := .long) (ty := .long) (a0 := (N, .inr (.inl (fun _ => 0)))) (N' := N) hx hb (hkw _ wc) rfl hK hP hD hS hA (fun _ => rfl) hn0 hnN (by show N * 8 ≤ _; omega) (by omega) (by omega) hd (fun q9 cA H1 hK1 hP1 hD1 hS1 => ?_)
      refine kj_size fun hsz => ?_
      have hq := kj_fresh ty hD1 hP1 hA2 had hc.2.2 (by omega)
      have hcA : cA = dA 23 := kj_kind (s := s) (hK1.2 5 (cA, .long) rfl).2 (hK.2 2 (dA 23, .long) rfl).2
      subst hq
      subst hcA
      rw [kNew_Wl] at hP1 hD1
      exact hG _ _ _ _ _ (hx0.tr (kNew_ex hcc.1)) (hh t) hnl hnx H1 locs ls (cells + 1) (slots + N) t hP1 hD1 hS1 hl ⟨by show cells + 1 + (σ.2.2.2.2.2.1 - 1) = _; omega, by show slots + N + (σ.2.2.2.2.2.2 - N) = _; omega, by show σ.2.2.2.2.1 + 1 = _; omega⟩
  | anewarray at_ =>
    obtain ⟨v, r, rfl, N, rfl, ⟨hN, rfl⟩, hcc, h⟩ := mjI1_x h
    intro H locs ls cells slots ty hP hD hS hl hc
    have t := kTY_new (k := 25) (N := N) ty (by omega) (by omega) hcc.1
    have hn0 : ¬ nI N < 0 := by
      intro q9
      have := Int32.lt_iff_toInt_lt.mp q9
      rw [nI_toInt (by omega)] at this
      exact absurd this (by show ¬ (N : Int) < 0; omega)
    have hnN : (nI N).toNatClampNeg = N := nI_clamp (by omega)
    refine va_newq (C := "KeySteward$Value") (N' := N) hx hb hown (hkw _ (haux rfl)) hfx.2.1 hK hP hD hS hA hn0 hnN (by omega) (by omega) (by omega) hd (fun q9 cA H1 hK1 hP1 hD1 hS1 => ?_)
    refine kj_size fun hsz => ?_
    have hq := kj_fresh ty hD1 hP1 hA2 had hc.2.2 (by omega)
    have hcA : cA = dA 25 := kj_kind (s := s) (hK1.2 5 (cA, .object "KeySteward$Value") rfl).2 (hK.2 4 (dA 25, .object "KeySteward$Value") rfl).2
    subst hq
    subst hcA
    rw [kNew_Wr] at hP1 hD1
    exact hG _ _ _ _ _ (hx0.tr (kNew_ex hcc.1)) (h t) hnl hnx H1 locs ls (cells + 1) (slots + N) t hP1 hD1 hS1 hl ⟨by show cells + 1 + (σ.2.2.2.2.2.1 - 1) = _; omega, by show slots + N + (σ.2.2.2.2.2.2 - N) = _; omega, by show σ.2.2.2.2.1 + 1 = _; omega⟩
  | new at_ =>
    obtain ⟨hl0, ⟨hx7, hc1, hc9, hd3, hcat⟩, h⟩ := h
    obtain ⟨u1, rfl, u2, u3, u4, u5⟩ := haux hx7
    rw [u1] at hown
    intro H locs ls cells slots ty
    have t := kTY_val ty hc1
    exact kj_newV hx hb hml hown hkw hK hfx hA hA2 had hW3.2.2 hd u2 u3 u4 hl0 ⟨by omega, by omega⟩ ⟨hc1, hc9⟩ hcat (hG _ _ _ _ _ (hx0.tr (kVal_ex hc1)) (h t) hnl u5) H locs ls cells slots ty
  | invokevirtual k =>
    obtain ⟨w1, w2⟩ := haux
    have h : if x = 1002 then _ else _ := h
    by_cases c0 : x = 1002
    · rw [if_pos c0] at h
      obtain ⟨a, r, rfl, kk, ⟨hk, rfl, hcat, hd1⟩, hh⟩ := mjA1_x h
      intro H locs ls cells slots ty hP hD hS hl hc
      obtain ⟨o1, o2, o3, o4, o5, o6⟩ := hW3.1
      have cw : va_CU R s args (q m).1.cls "KeySteward$Command" "java/lang/Enum" k yOrx yOrd prog_17_method_2_code 1 (some .int) (Cond.code yOrd prog_17_method_2_code 1 (some .int) :: kw) { frames := 0, cells := 0, slots := 0, locals := 0 } 0 0 0 := ⟨⟨rfl, rfl, by show 0 + 1 ≤ _; omega, by show 8 + (1 + 11) + 0 ≤ _; omega, pay_in hkw (kwI o1), List.mem_cons_self⟩, hkw _ o1, hkw _ o3, ⟨by decide, by decide⟩, fun sig h9 => by
          have : (parseMethodDescriptor yOrx.desc).map (fun d => d.parameters.length) = some 0 := by decide +kernel
          rw [h9] at this; exact (Option.some.inj this).symm, hkw _ (w1 c0), hkw _ o4, va_Decl.of (hkw _ o6) (hkw _ o1), hkw _ o5, hkw _ o6⟩
      have hrv : ∃ cell : Cell, H[ad (1000000 + kk)]? = some cell ∧ cell.vm.isStatics = false ∧ s.vm.findClass "KeySteward$Command" = some cell.cls := by
        obtain ⟨cell, f1, f2, f3, -⟩ := (hX.1 kk hk).2.1.kept hS.2.1
        exact ⟨cell, f1, f2, f3⟩
      have hp : PreV s H "KeySteward$Command" (ad (1000000 + kk)) (va_Pc [.ref (ad (1000000 + kk))] (fun U => va_OF "java/lang/Enum" "ordinal" "I" (.int (nI kk)) (ad (1000000 + kk)) (fun _ => False) U U.heap)) [] := ⟨fun _ _ _ _ q => q, hrv, fun U hU hW => ⟨rfl, by show va_OF _ _ _ _ _ _ U U.heap; rw [hU]; exact (va_OF.moved hW.alike ((hX.1 kk hk).2.2.1.kept hS.2.1)).narrow (fun _ h9 => h9.elim)⟩⟩
      have run := va_runU (g := F0 mi pc ls (.ref (ad (1000000 + kk)) :: r.map (mjR ad))) (As := []) (rest := r.map (mjR ad)) (locs := locs) (cells := cells) (slots := slots) (e := e) (below := below) (meth := meth) ⟨hx, hb, hml, hown, hkw⟩ (kj_ordM (l := l) hW3.1 (ad (1000000 + kk)) (nI kk)) cw hp rfl rfl hl.1 rfl (lv_room (kj_cat hcat)) hd ⟨by omega, by omega⟩
      exact kj_pure run (hG0 _ _ _ _ hh hnl hnx H locs ls cells slots ty hP hD hS hl hc)
    · rw [if_neg c0] at h
      obtain ⟨hn, h⟩ := h
      obtain ⟨a, r, er, hrc, hcat, hcl⟩ := mjA1_x h
      have est : st = st.take (q x).2.2.1 ++ .ref a :: r := by rw [← er]; exact (List.take_append_drop _ _).symm
      rw [est]
      intro H locs ls cells slots ty hP hD hS hl hc
      obtain ⟨h9, d1, hR, hM⟩ := hC _ _ _ _ ty hcl
      obtain ⟨v1, v2, v3, v4⟩ := w2 c0 h9
      exact kj_call hx hb hml hown hkw hK hfx hX hA had v1 v2 v3 (fun c2 => (kCl_ok _ (v4 c2).1 (v4 c2).2).1) hd hR hM (by rw [List.length_take]; omega) hrc hcat (fun v u tu xu hv => hG _ _ _ _ _ (hx0.tr xu) (hv tu xu) hnl hnx) H locs ls cells slots ty hP hD hS hl hc
  | invokestatic k =>
    obtain ⟨w1, w8, w2⟩ := haux
    have h : if x = 1006 then _ else if x = 1008 then _ else _ := h
    by_cases c0 : x = 1006
    · rw [if_pos c0] at h
      obtain ⟨u1, u2, u3, u4⟩ := w1 c0
      obtain ⟨sr, sp, t, dp, n, r, rfl, a, b, nn, ⟨rfl, rfl, rfl⟩, ⟨h1, h2, h3⟩, ⟨hcat, hd1⟩, h⟩ := kCpy_x h
      intro H locs ls cells slots ty hP hD hS hl hc
      have l1 := ty.2.2.2.2.2.2.1 sr
      have l2 := ty.2.2.2.2.2.2.1 t
      have z0 : ∀ j : Nat, j < 2 ^ 31 → ¬ nI j < 0 := fun j hj q9 => by
        have := Int32.lt_iff_toInt_lt.mp q9
        rw [nI_toInt hj] at this
        exact absurd this (by show ¬ (j : Int) < 0; omega)
      have ea : (nI a).toNatClampNeg = a := nI_clamp (by omega)
      have eb : (nI b).toNatClampNeg = b := nI_clamp (by omega)
      have en : (nI nn).toNatClampNeg = nn := nI_clamp (by omega)
      have hloc : ((r.map (mjR ad)).map fun v => v.category).sum + (nativeFrameWords "java/lang/System" "arraycopy" 5 + 11) ≤ R.locals := by
        have := kj_cat (ad := ad) hcat
        have e9 : nativeFrameWords "java/lang/System" "arraycopy" 5 ≤ 20 := by decide +kernel
        omega
      have hml2 : c.maxLocals = ls.size := by rw [hml]; exact hl.1.symm
      rcases h with ⟨h4 | h4, h⟩ | ⟨h4, h⟩
      · have t2 := kTY_cpy (a := a) (b := b) (n := nn) ty h1 (Or.inl h4)
        have eW := kW_ia (dA := dA) (ad := ad) (σ := σ) (u := (kUp σ.1 t (va_cpy (σ.1 sr) (σ.1 t) a b nn), σ.2)) (f := va_cpy (σ.1 sr) (σ.1 t) a b nn) h4 (Or.inl rfl) rfl (fun g c9 => kUp_n c9) kUp_s
        refine va_copyi (ty := .int) hx hb hml2 hown (hkw _ u1) (hkw _ u2) (hkw _ u3) (hkw _ u4) hK hP hD hS sr t 0 0 (kW_i ty (h1.trans h4) (Or.inl rfl)) (kW_i ty h4 (Or.inl rfl)) rfl rfl rfl (z0 a (by omega)) (z0 b (by omega)) (z0 nn (by omega)) (by rw [ea, en]; exact h2) (by rw [eb, en]; exact h3) (fun _ _ => rfl) (by omega) hloc hd (fun H locs hP hD hS => hG _ _ _ _ _ (hx0.tr kEx_i) (h t2) hnl hnx H locs ls cells slots t2 ?_ ?_ hS hl hc)
        · rw [← eW]; rw [ea, eb, en] at hP; exact hP
        · rw [← eW]; rw [ea, eb, en] at hD; exact hD
      · have t2 := kTY_cpy (a := a) (b := b) (n := nn) ty h1 (Or.inr h4)
        have eW := kW_ia (dA := dA) (ad := ad) (σ := σ) (u := (kUp σ.1 t (va_cpy (σ.1 sr) (σ.1 t) a b nn), σ.2)) (f := va_cpy (σ.1 sr) (σ.1 t) a b nn) h4 (Or.inr rfl) rfl (fun g c9 => kUp_n c9) kUp_s
        refine va_copyi (ty := .byte) hx hb hml2 hown (hkw _ u1) (hkw _ u2) (hkw _ u3) (hkw _ u4) hK hP hD hS sr t 1 1 (kW_i ty (h1.trans h4) (Or.inr rfl)) (kW_i ty h4 (Or.inr rfl)) rfl rfl rfl (z0 a (by omega)) (z0 b (by omega)) (z0 nn (by omega)) (by rw [ea, en]; exact h2) (by rw [eb, en]; exact h3) (fun j _ => by
            rw [← ty.2.1 sr _ (h1.trans h4)]; exact pk_fb _) (by omega) hloc hd (fun H locs hP hD hS => hG _ _ _ _ _ (hx0.tr kEx_i) (h t2) hnl hnx H locs ls cells slots t2 ?_ ?_ hS hl hc)
        · rw [← eW]; rw [ea, eb, en] at hP; exact hP
        · rw [← eW]; rw [ea, eb, en] at hD; exact hD
      · have t2 : kTY (σ.1, kUp σ.2.1 t (va_cpy (σ.2.1 sr) (σ.2.1 t) a b nn), σ.2.2) := kTY_l ty
        have eW := kW_la (dA := dA) (ad := ad) (σ := σ) (u := (σ.1, kUp σ.2.1 t (va_cpy (σ.2.1 sr) (σ.2.1 t) a b nn), σ.2.2)) (f := va_cpy (σ.2.1 sr) (σ.2.1 t) a b nn) h4 rfl rfl (fun g c9 => kUp_n c9) kUp_s
        refine va_copyl (ty := .long) hx hb hml2 hown (hkw _ u1) (hkw _ u2) (hkw _ u3) (hkw _ u4) hK hP hD hS sr t 2 2 (kW_l ty (h1.trans h4)) (kW_l ty h4) rfl rfl rfl (z0 a (by omega)) (z0 b (by omega)) (z0 nn (by omega)) (by rw [ea, en]; exact h2) (by rw [eb, en]; exact h3) (fun _ _ => rfl) (by omega) hloc hd (fun H locs hP hD hS => hG _ _ _ _ _ (hx0.tr kEx_l) (h t2) hnl hnx H locs ls cells slots t2 ?_ ?_ hS hl hc)
        · rw [← eW]; rw [ea, eb, en] at hP; exact hP
        · rw [← eW]; rw [ea, eb, en] at hD; exact hD
    · rw [if_neg c0] at h
      by_cases c8 : x = 1008
      · rw [if_pos c8] at h
        obtain ⟨u1, u9⟩ := w8 c8
        obtain ⟨a, b, r, rfl, ⟨h1, h2, hcat, hd1⟩, hh⟩ := mjI2_x h
        rw [u9] at hd
        intro H locs ls cells slots ty hP hD hS hl hc
        rw [u1] at hown
        obtain ⟨⟨o1, o2, o3, o4⟩, -⟩ := hW3.2.1
        have cw : CallB R s args "java/lang/StringLatin1" 9 yChk prog_22_method_155_code 2 none (Cond.code yChk prog_22_method_155_code 2 none :: kw) { frames := 1, cells := 0, slots := 0, locals := 41 } 0 0 2 ∧ (Cond.static yChk).before args s = true := callSs 2 hkw (kwI o1) rfl rfl rfl (hkw _ o2) (hkw _ o4) (hkw _ o3) ⟨by decide +kernel, by decide +kernel, by decide +kernel⟩ ⟨by show 1 + 1 ≤ _; omega, by show 8 + (2 + 11) + 41 ≤ _; omega⟩
        have hp : PreS s H (va_Pc [.int a, .int b] (fun U => va_Zq "jdk/internal/util/Preconditions" "SIOOBE_FORMATTER" "Ljava/util/function/BiFunction;" (fun _ => False) U U.heap)) [.int a, .int b] := ⟨fun _ _ _ _ q => q, fun U hU hW => ⟨rfl, by show va_Zq _ _ _ _ U U.heap; rw [hU]; exact (va_Zq.moved hW.alike (hX.2.2.2.2.2.2.kept hS.2.1)).narrow (fun _ h9 => h9.elim)⟩⟩
        have run := va_runS (g := F0 mi pc ls (.int b :: .int a :: r.map (mjR ad))) (As := [.int a, .int b]) (rest := r.map (mjR ad)) (locs := locs) (cells := cells) (slots := slots) (e := e) (below := below) (meth := meth) ⟨hx, hb, hml, hown, hkw⟩ (kj_chkM (l := l) hW3.2.1 a b h1 h2) cw hp rfl rfl hl.1 rfl (lv_room (kj_cat hcat)) hd ⟨by omega, by omega⟩
        exact kj_pure run (hG0 _ _ _ _ hh hnl hnx H locs ls cells slots ty hP hD hS hl hc)
      · rw [if_neg c8] at h
        obtain ⟨hn, hcat, hcl⟩ := h
        have est : st = st.take (q x).2.2.1 ++ st.drop (q x).2.2.1 := (List.take_append_drop _ _).symm
        rw [est]
        intro H locs ls cells slots ty hP hD hS hl hc
        obtain ⟨h9, d1, hR, hM⟩ := hC _ _ _ _ ty hcl
        obtain ⟨v1, v2⟩ := w2 c0 c8 h9
        exact kj_callS hx hb hml hown hkw hK hfx hX hA had v1 v2 hd hR hM (by rw [List.length_take]; omega) hcat (fun v u tu xu hv => hG _ _ _ _ _ (hx0.tr xu) (hv tu xu) hnl hnx) H locs ls cells slots ty hP hD hS hl hc
  | ireturn =>
    obtain ⟨v, r, rfl, rfl, hrt, hk⟩ := mjI1_x h
    subst hQ
    generalize (q m).2.2.2.2.1 = rt at hr hrt
    intro H locs ls cells slots ty hP hD hS hl hc
    refine kj_out (v := some (.int v)) ty hP hK hD hS hc hR0 hx0 hk ?_
    rcases hrt with rfl | ⟨rfl, hv⟩ | ⟨rfl, hv⟩ | ⟨rfl, hv⟩
    · exact W.iret hx hb hr (fun t ht hW => ⟨rfl, ht, hW, hS.F ht⟩) hS.2.2 hd hlocks
    · exact W.zret (ty := .boolean) hx hb hr (mj_bool hv).1 (fun t ht hW => ⟨rfl, ht, hW, hS.F ht⟩) hS.2.2 hd hlocks
    · exact W.zret (ty := .char) hx hb hr (by rw [← hv]; exact pk_nc _) (fun t ht hW => ⟨rfl, ht, hW, hS.F ht⟩) hS.2.2 hd hlocks
    · exact W.zret (ty := .byte) hx hb hr (by rw [← hv]; exact pk_nb _) (fun t ht hW => ⟨rfl, ht, hW, hS.F ht⟩) hS.2.2 hd hlocks
  | lreturn =>
    obtain ⟨v, r, rfl, rfl, hrt, hk⟩ := mjJ1_x h
    subst hQ
    generalize (q m).2.2.2.2.1 = rt at hr hrt
    intro H locs ls cells slots ty hP hD hS hl hc
    subst hrt
    exact kj_out (v := some (.long v)) ty hP hK hD hS hc hR0 hx0 hk (W.lret hx hb hr (fun t ht hW => ⟨rfl, ht, hW, hS.F ht⟩) hS.2.2 hd hlocks)
  | areturn =>
    subst hQ
    have hrr : ∀ rt, 10 ≤ rt → ∃ ft, kRt rt = some ft ∧ ((∃ n, ft = .object n) ∨ ∃ t, ft = .array t) := by
      intro rt hrt
      unfold kRt
      split
      · omega
      · omega
      · omega
      · omega
      · omega
      · omega
      · exact ⟨_, rfl, Or.inl ⟨_, rfl⟩⟩
      · exact ⟨_, rfl, Or.inl ⟨_, rfl⟩⟩
      · exact ⟨_, rfl, Or.inl ⟨_, rfl⟩⟩
      · exact ⟨_, rfl, Or.inr ⟨_, rfl⟩⟩
      · exact ⟨_, rfl, Or.inr ⟨_, rfl⟩⟩
    rcases kR1_x h with ⟨v, r, rfl, rfl, hrt, hk⟩ | ⟨r, rfl, rfl, hrt, hk⟩
    · intro H locs ls cells slots ty hP hD hS hl hc
      obtain ⟨ft, f1, f2⟩ := hrr _ hrt
      exact kj_out (v := some (.ref v)) ty hP hK hD hS hc hR0 hx0 hk (W.aret hx hb (hr.trans f1) f2 (Or.inr ⟨ad v, rfl⟩) (fun t ht hW => ⟨rfl, ht, hW, hS.F ht⟩) hS.2.2 hd hlocks)
    · intro H locs ls cells slots ty hP hD hS hl hc
      obtain ⟨ft, f1, f2⟩ := hrr _ hrt
      exact kj_out (v := some .null) ty hP hK hD hS hc hR0 hx0 hk (W.aret hx hb (hr.trans f1) f2 (Or.inl rfl) (fun t ht hW => ⟨rfl, ht, hW, hS.F ht⟩) hS.2.2 hd hlocks)
  | return_ =>
    obtain ⟨rfl, hrt, hk⟩ := h
    subst hQ
    generalize (q m).2.2.2.2.1 = rt at hr hrt
    intro H locs ls cells slots ty hP hD hS hl hc
    subst hrt
    exact kj_out (v := none) ty hP hK hD hS hc hR0 hx0 hk (W.vret hx hb hr (fun t ht hW => ⟨rfl, ht, hW, hS.F ht⟩) hS.2.2 hd hlocks)
  | _ => exact False.elim h
end KJU3
