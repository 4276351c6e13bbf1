/-! The nineteen cases of the law: each keeps what holds between calls. -/
section LCASE
def lwC (p : Program) (l : Launch) (s : State) (m : MethodId) (args : Array Value) (c : Code) (b L : Nat) (xs : Nat → Int32) : Prop := p.tables.exec = Jvm.exec ∧ c.code = code ∧ c.maxLocals = 7 ∧ s.vm.findClass RL = some m.cls ∧ (∀ w ∈ kw, w.before args s = true) ∧ fx s ∧ tU (AL s) s s.heap ∧ va_X b L xs s s.heap ∧ b < s.heap.size ∧ L ≤ 3072 ∧ l.stackTraces = false
theorem ld_in {j L c : Nat} {v : Int32} (hj : 6 * j + 6 ≤ L) (hL : L ≤ 3072) (hv : v = nI c) (hc : c < 6) : vp_in (nI (6 * j) + v) L := by
  subst hv
  have e : nI (6 * j) + nI c = nI (6 * j + c) := by unfold nI; rw [← Int32.ofNat_add]
  rw [e]
  unfold vp_in
  have h1 : (nI (6 * j + c)).toInt = ((6 * j + c : Nat) : Int) := nI_toInt (by omega)
  have h2 : (nI (6 * j + c)).toNatClampNeg = 6 * j + c := by
    show (nI (6 * j + c)).toInt.toNat = _
    rw [h1]; rfl
  rintro (h | h)
  · have := Int32.lt_iff_toInt_lt.mp h
    rw [h1] at this
    have e0 : (0 : Int32).toInt = 0 := by decide
    omega
  · rw [h2] at h; omega
theorem ld_in0 {j L : Nat} (hj : 6 * j + 6 ≤ L) (hL : L ≤ 3072) : vp_in (nI (6 * j)) L := by
  have := ld_in (v := 0) (c := 0) hj hL rfl (by decide)
  rw [show nI (6 * j) + 0 = nI (6 * j) from Int32.add_zero _] at this
  exact this
theorem lc_acc {Z u : kS} {cells slots : Nat} (x : kEx Z u) : cells + (Z.2.2.2.2.2.1 - u.2.2.2.2.2.1) + u.2.2.2.2.2.1 = cells + Z.2.2.2.2.2.1 ∧ slots + (Z.2.2.2.2.2.2 - u.2.2.2.2.2.2) + u.2.2.2.2.2.2 = slots + Z.2.2.2.2.2.2 := by
  obtain ⟨x1, -, x3, x4⟩ := x
  omega
theorem INV.c1 {f n : Nat} {s : kS} (h : INV f n s) : 1 ≤ s.2.2.2.2.2.1 := by
  rcases h with ⟨nmm, ks, b, E, p, m, I, Q, t, hL, rn, cn, ht, h1, h2⟩ | ⟨b, p, m, t, hD, rn, ht, h1, h2⟩
  · have := hL.1.2; omega
  · have := hD.1.2; omega
theorem INV.byn {f n : Nat} {s : kS} (h : INV f n s) : BYn (k16 s) := by
  rcases h with ⟨nmm, ks, b, E, p, m, I, Q, t, hL, rn, cn, ht, h1, h2⟩ | ⟨b, p, m, t, hD, rn, ht, h1, h2⟩
  · intro b hb
    obtain ⟨l, r, N, r1, r2, r3, -⟩ := hL.2.1.2.2.2.1 b hb
    exact ⟨r, N, r1, r2, r3.2⟩
  · intro b hb
    obtain ⟨l, r, N, r1, r2, r3, -⟩ := hD.2.1.2.2.2.1 b hb
    exact ⟨r, N, r1, r2, r3.2⟩
theorem INV.n {f n : Nat} {s : kS} (h : INV f n s) : f + n ≤ 10240 := by
  rcases h with ⟨nmm, ks, b, E, p, m, I, Q, t, hL, rn, cn, ht, h1, h2, rfl⟩ | ⟨b, p, m, t, hD, rn, ht, h1, h2, rfl⟩
  · have := hL.2.2.1.2.2.2; omega
  · have := hD.2.2.2.2.2.2.2.2; omega
theorem lw_k60 : Cond.constantLong RL 60 4294967295 ∈ kw := kw_tab (tl_in (tb_15 (List.mem_of_getElem? (i := 11) (by decide +kernel)))) rfl
abbrev LVs (j o9 m9 x b : Nat) : List (Nat × Value) := [(4, .int (nI (6 * j))), (3, .ref o9), (2, .ref m9), (1, .ref x), (0, .ref b)]
variable {p : Program} {l : Launch} {e : Env} {s : State} {m : MethodId} {args : Array Value} {below : List Frame} {meth : Method} {c : Code} {H : Heap} {locs : List Loc} {cells slots : Nat} {Q : State → Prop} {dC : Nat → ClassId} {dI : Nat → Nat → Nat} {x m9 o9 : Nat} {Z : kS} {σ : mjS} {ls : Array Slot} {b L j f g n : Nat} {xs : Nat → Int32}

set_option maxHeartbeats 4000000 in
theorem lc_0 (C : lwC p l s m args c b L xs) (hj : 6 * j + 6 ≤ L) (hB : LB dC dI s x m9 o9 H Z σ) (hS : va_S (AL s) s.heap H locs) (hI : INV f n Z) (hG : GI σ g) (hT : σ.1 113 = nI n) (hf : 20 ≤ f) (hg : 20 ≤ g) (hc : cells + Z.2.2.2.2.2.1 + 1 ≤ room_1.cells ∧ slots + Z.2.2.2.2.2.2 + 6 ≤ room_1.slots) (hl : lv_has ls 7 (LVs j o9 m9 x b))
    (kk : ∀ (Z' : kS) (σ' : mjS) (H' : Heap) (locs' : List Loc) (ls' : Array Slot) (cells' slots' f' g' n' : Nat), LB dC dI s x m9 o9 H' Z' σ' → va_S (AL s) s.heap H' locs' → INV f' n' Z' → GI σ' g' → σ'.1 113 = nI n' → f ≤ f' + 20 → g ≤ g' + 20 → cells' + Z'.2.2.2.2.2.1 ≤ cells + Z.2.2.2.2.2.1 + 1 → slots' + Z'.2.2.2.2.2.2 ≤ slots + Z.2.2.2.2.2.2 + 6 → lv_has ls' 7 (LVs j o9 m9 x b) → W p l e room_1 s m args below meth c H' locs' cells' slots' Q (F0 m 643 ls' [])) : W p l e room_1 s m args below meth c H locs cells slots Q (F0 m 132 ls []) := by
  obtain ⟨hx, hb, hml, hown, hkw, hfx, hU, hX, hbl, hL, hlt⟩ := C
  have hbA : ¬ AL s b := Nat.not_le.mpr hbl
  have hn : n ≤ 10240 := by have := hI.n; omega

  refine lv_aload_n hx hb dL_law_132 rfl (lv_at hl 3 rfl) ?_
  refine lv_aload_n hx hb dL_law_133 rfl (lv_at hl 4 rfl) ?_
  refine lv_iload hx hb dL_law_134 (lv_at hl 0 rfl) ?_
  refine lv_iconst (v := 1) hx hb dL_law_136 (by decide) ?_
  refine lv_iadd hx hb dL_law_137 ?_
  refine va_sld hx hb hX hbl hbA hS (ld_in (c := 1) hj hL rfl (by decide)) dL_law_138 ?_
  refine lv_topi (fun y1 h_y1 => ?_)
  refine lv_aload_n hx hb dL_law_139 rfl (lv_at hl 4 rfl) ?_
  refine lv_iload hx hb dL_law_140 (lv_at hl 0 rfl) ?_
  refine lv_iconst (v := 2) hx hb dL_law_142 (by decide) ?_
  refine lv_iadd hx hb dL_law_143 ?_
  refine va_sld hx hb hX hbl hbA hS (ld_in (c := 2) hj hL rfl (by decide)) dL_law_144 ?_
  refine lv_topi (fun y2 h_y2 => ?_)
  refine lv_aload_n hx hb dL_law_145 rfl (lv_at hl 4 rfl) ?_
  refine lv_iload hx hb dL_law_146 (lv_at hl 0 rfl) ?_
  refine lv_iconst (v := 3) hx hb dL_law_148 (by decide) ?_
  refine lv_iadd hx hb dL_law_149 ?_
  refine va_sld hx hb hX hbl hbA hS (ld_in (c := 3) hj hL rfl (by decide)) dL_law_150 ?_
  refine lv_topi (fun y3 h_y3 => ?_)
  refine lv_aload_n hx hb dL_law_151 rfl (lv_at hl 4 rfl) ?_
  refine lv_iload hx hb dL_law_152 (lv_at hl 0 rfl) ?_
  refine lv_iconst (v := 4) hx hb dL_law_154 (by decide) ?_
  refine lv_iadd hx hb dL_law_155 ?_
  refine va_sld hx hb hX hbl hbA hS (ld_in (c := 4) hj hL rfl (by decide)) dL_law_156 ?_
  refine lv_topi (fun y4 h_y4 => ?_)
  refine lv_aload_n hx hb dL_law_157 rfl (lv_at hl 4 rfl) ?_
  refine lv_iload hx hb dL_law_158 (lv_at hl 0 rfl) ?_
  refine lv_iconst (v := 5) hx hb dL_law_160 (by decide) ?_
  refine lv_iadd hx hb dL_law_161 ?_
  refine va_sld hx hb hX hbl hbA hS (ld_in (c := 5) hj hL rfl (by decide)) dL_law_162 ?_
  refine lv_topi (fun y5 h_y5 => ?_)
  obtain ⟨f, rfl⟩ : ∃ f0, f = f0 + 20 := ⟨f - 20, by omega⟩
  refine lb_class (k := 23) (mm := 1) (d := 5) (As := [.int y1, .int y2, .int y3, .int y4, .int y5]) (rest := []) hB hS hx hb hml hown hkw hfx hl.1 nc_23 nl_23 ni_23 ns_23 rfl (show (parseMethodDescriptor (kQQ kYN 1).1.desc).map (fun d => d.parameters.length) = some 5 by decide +kernel) dL_law_163 (by decide) (Nat.le_of_ble_eq_true rfl) (Nat.le_of_ble_eq_true rfl) (fun _ => rfl) (fun ty => kI_feed (d := 0) ty hI y1 y2 y3 y4 y5) ⟨by omega, by omega⟩ ⟨by decide, by decide⟩ (Nat.le_of_ble_eq_true rfl) (fun v u hk ad => by obtain ⟨rfl, -⟩ := hk; rfl) (fun v u H locs xu hk hB hS => ?_)
  obtain ⟨rfl, hI⟩ := hk
  obtain ⟨e1, e2⟩ := lc_acc (cells := cells) (slots := slots) xu
  generalize cells + (Z.2.2.2.2.2.1 - u.2.2.2.2.2.1) = cells1 at e1 ⊢
  generalize slots + (Z.2.2.2.2.2.2 - u.2.2.2.2.2.2) = slots1 at e2 ⊢
  refine lv_pop hx hb dL_law_166 rfl ?_
  refine lv_aload_n hx hb dL_law_167 rfl (lv_at hl 2 rfl) ?_
  refine lv_aload_n hx hb dL_law_168 rfl (lv_at hl 4 rfl) ?_
  refine lv_iload hx hb dL_law_169 (lv_at hl 0 rfl) ?_
  refine lv_iconst (v := 1) hx hb dL_law_171 (by decide) ?_
  refine lv_iadd hx hb dL_law_172 ?_
  refine va_sld hx hb hX hbl hbA hS (ld_in (c := 1) hj hL rfl (by decide)) dL_law_173 ?_
  refine lv_topi (fun y6 h_y6 => ?_)
  refine lv_aload_n hx hb dL_law_174 rfl (lv_at hl 4 rfl) ?_
  refine lv_iload hx hb dL_law_175 (lv_at hl 0 rfl) ?_
  refine lv_iconst (v := 2) hx hb dL_law_177 (by decide) ?_
  refine lv_iadd hx hb dL_law_178 ?_
  refine va_sld hx hb hX hbl hbA hS (ld_in (c := 2) hj hL rfl (by decide)) dL_law_179 ?_
  refine lv_topi (fun y7 h_y7 => ?_)
  refine lv_aload_n hx hb dL_law_180 rfl (lv_at hl 4 rfl) ?_
  refine lv_iload hx hb dL_law_181 (lv_at hl 0 rfl) ?_
  refine lv_iconst (v := 3) hx hb dL_law_183 (by decide) ?_
  refine lv_iadd hx hb dL_law_184 ?_
  refine va_sld hx hb hX hbl hbA hS (ld_in (c := 3) hj hL rfl (by decide)) dL_law_185 ?_
  refine lv_topi (fun y8 h_y8 => ?_)
  refine lv_aload_n hx hb dL_law_186 rfl (lv_at hl 4 rfl) ?_
  refine lv_iload hx hb dL_law_187 (lv_at hl 0 rfl) ?_
  refine lv_iconst (v := 4) hx hb dL_law_189 (by decide) ?_
  refine lv_iadd hx hb dL_law_190 ?_
  refine va_sld hx hb hX hbl hbA hS (ld_in (c := 4) hj hL rfl (by decide)) dL_law_191 ?_
  refine lv_topi (fun y9 h_y9 => ?_)
  refine lv_aload_n hx hb dL_law_192 rfl (lv_at hl 4 rfl) ?_
  refine lv_iload hx hb dL_law_193 (lv_at hl 0 rfl) ?_
  refine lv_iconst (v := 5) hx hb dL_law_195 (by decide) ?_
  refine lv_iadd hx hb dL_law_196 ?_
  refine va_sld hx hb hX hbl hbA hS (ld_in (c := 5) hj hL rfl (by decide)) dL_law_197 ?_
  refine lv_topi (fun y10 h_y10 => ?_)
  obtain ⟨g, rfl⟩ : ∃ g0, g = g0 + 20 := ⟨g - 20, by omega⟩
  refine lb_ref (k := 27) (mm := 171) (d := 14) (As := [.int y6, .int y7, .int y8, .int y9, .int y10]) (rest := []) hB hS hx hb hml hown hkw hfx hl.1 nc_27 nl_27 ni_27 ns_27 rfl (show (parseMethodDescriptor (mjQQ mjYN 171).1.desc).map (fun d => d.parameters.length) = some 5 by decide +kernel) dL_law_198 (Nat.le_of_ble_eq_true rfl) (fun _ => rfl) (fun tm dB am => w_feed hG hT hn tm y6 y7 y8 y9 y10) ⟨by omega, by omega⟩ ⟨by decide, by decide⟩ (Nat.le_of_ble_eq_true rfl) (fun v u2 H locs hk hB hS => ?_)
  obtain ⟨⟨rfl, hG⟩, hT2⟩ := hk
  refine lv_pop hx hb dL_law_201 rfl ?_
  refine lv_goto (tgt := 643) hx hb dL_law_202 (by decide) ?_
  exact kk u u2 H locs ls cells1 slots1 f g (n + 20) hB hS hI hG hT2 (by omega) (by omega) (by omega) (by omega) hl
set_option maxHeartbeats 4000000 in
theorem lc_1 (C : lwC p l s m args c b L xs) (hj : 6 * j + 6 ≤ L) (hB : LB dC dI s x m9 o9 H Z σ) (hS : va_S (AL s) s.heap H locs) (hI : INV f n Z) (hG : GI σ g) (hT : σ.1 113 = nI n) (hf : 20 ≤ f) (hg : 20 ≤ g) (hc : cells + Z.2.2.2.2.2.1 + 1 ≤ room_1.cells ∧ slots + Z.2.2.2.2.2.2 + 6 ≤ room_1.slots) (hl : lv_has ls 7 (LVs j o9 m9 x b))
    (kk : ∀ (Z' : kS) (σ' : mjS) (H' : Heap) (locs' : List Loc) (ls' : Array Slot) (cells' slots' f' g' n' : Nat), LB dC dI s x m9 o9 H' Z' σ' → va_S (AL s) s.heap H' locs' → INV f' n' Z' → GI σ' g' → σ'.1 113 = nI n' → f ≤ f' + 20 → g ≤ g' + 20 → cells' + Z'.2.2.2.2.2.1 ≤ cells + Z.2.2.2.2.2.1 + 1 → slots' + Z'.2.2.2.2.2.2 ≤ slots + Z.2.2.2.2.2.2 + 6 → lv_has ls' 7 (LVs j o9 m9 x b) → W p l e room_1 s m args below meth c H' locs' cells' slots' Q (F0 m 643 ls' [])) : W p l e room_1 s m args below meth c H locs cells slots Q (F0 m 205 ls []) := by
  obtain ⟨hx, hb, hml, hown, hkw, hfx, hU, hX, hbl, hL, hlt⟩ := C
  have hbA : ¬ AL s b := Nat.not_le.mpr hbl
  have hn : n ≤ 10240 := by have := hI.n; omega

  refine lv_aload_n hx hb dL_law_205 rfl (lv_at hl 3 rfl) ?_
  refine lv_aload_n hx hb dL_law_206 rfl (lv_at hl 4 rfl) ?_
  refine lv_iload hx hb dL_law_207 (lv_at hl 0 rfl) ?_
  refine lv_iconst (v := 1) hx hb dL_law_209 (by decide) ?_
  refine lv_iadd hx hb dL_law_210 ?_
  refine va_sld hx hb hX hbl hbA hS (ld_in (c := 1) hj hL rfl (by decide)) dL_law_211 ?_
  refine lv_topi (fun y1 h_y1 => ?_)
  refine lb_class (k := 28) (mm := 2) (d := 1) (As := [.int y1]) (rest := []) hB hS hx hb hml hown hkw hfx hl.1 nc_28 nl_28 ni_28 ns_28 rfl (show (parseMethodDescriptor (kQQ kYN 2).1.desc).map (fun d => d.parameters.length) = some 1 by decide +kernel) dL_law_212 (by decide) (Nat.le_of_ble_eq_true rfl) (Nat.le_of_ble_eq_true rfl) (fun _ => rfl) (fun ty => kI_end (d := 0) ty hI y1) ⟨by omega, by omega⟩ ⟨by decide, by decide⟩ (Nat.le_of_ble_eq_true rfl) (fun v u hk ad => by obtain ⟨rfl, -⟩ := hk; rfl) (fun v u H locs xu hk hB hS => ?_)
  obtain ⟨rfl, hI⟩ := hk
  obtain ⟨e1, e2⟩ := lc_acc (cells := cells) (slots := slots) xu
  generalize cells + (Z.2.2.2.2.2.1 - u.2.2.2.2.2.1) = cells1 at e1 ⊢
  generalize slots + (Z.2.2.2.2.2.2 - u.2.2.2.2.2.2) = slots1 at e2 ⊢
  refine lv_aload_n hx hb dL_law_215 rfl (lv_at hl 2 rfl) ?_
  refine lv_aload_n hx hb dL_law_216 rfl (lv_at hl 4 rfl) ?_
  refine lv_iload hx hb dL_law_217 (lv_at hl 0 rfl) ?_
  refine lv_iconst (v := 1) hx hb dL_law_219 (by decide) ?_
  refine lv_iadd hx hb dL_law_220 ?_
  refine va_sld hx hb hX hbl hbA hS (ld_in (c := 1) hj hL rfl (by decide)) dL_law_221 ?_
  refine lv_topi (fun y2 h_y2 => ?_)
  refine lb_ref (k := 32) (mm := 172) (d := 14) (As := [.int y2]) (rest := [.int (enB y1 n)]) hB hS hx hb hml hown hkw hfx hl.1 nc_32 nl_32 ni_32 ns_32 rfl (show (parseMethodDescriptor (mjQQ mjYN 172).1.desc).map (fun d => d.parameters.length) = some 1 by decide +kernel) dL_law_222 (Nat.le_of_ble_eq_true rfl) (fun _ => rfl) (fun tm dB am => w_end hG hT hn tm y2) ⟨by omega, by omega⟩ ⟨by decide, by decide⟩ (Nat.le_of_ble_eq_true rfl) (fun v u2 H locs hk hB hS => ?_)
  obtain ⟨⟨rfl, hG⟩, hT2⟩ := hk
  refine lv_icmp_eq (tgt := 643) hx hb dL_law_225 (by decide) (fun _ => ?_) (fun n9 => absurd (by rw [h_y2.trans h_y1.symm]) n9)
  exact kk u u2 H locs ls cells1 slots1 f g (enN y1 n) hB hS hI hG (by rw [h_y2.trans h_y1.symm] at hT2; exact hT2) (by omega) (by omega) (by omega) (by omega) hl
set_option maxHeartbeats 4000000 in
theorem lc_2 (C : lwC p l s m args c b L xs) (hj : 6 * j + 6 ≤ L) (hB : LB dC dI s x m9 o9 H Z σ) (hS : va_S (AL s) s.heap H locs) (hI : INV f n Z) (hG : GI σ g) (hT : σ.1 113 = nI n) (hf : 20 ≤ f) (hg : 20 ≤ g) (hc : cells + Z.2.2.2.2.2.1 + 1 ≤ room_1.cells ∧ slots + Z.2.2.2.2.2.2 + 6 ≤ room_1.slots) (hl : lv_has ls 7 (LVs j o9 m9 x b))
    (kk : ∀ (Z' : kS) (σ' : mjS) (H' : Heap) (locs' : List Loc) (ls' : Array Slot) (cells' slots' f' g' n' : Nat), LB dC dI s x m9 o9 H' Z' σ' → va_S (AL s) s.heap H' locs' → INV f' n' Z' → GI σ' g' → σ'.1 113 = nI n' → f ≤ f' + 20 → g ≤ g' + 20 → cells' + Z'.2.2.2.2.2.1 ≤ cells + Z.2.2.2.2.2.1 + 1 → slots' + Z'.2.2.2.2.2.2 ≤ slots + Z.2.2.2.2.2.2 + 6 → lv_has ls' 7 (LVs j o9 m9 x b) → W p l e room_1 s m args below meth c H' locs' cells' slots' Q (F0 m 643 ls' [])) : W p l e room_1 s m args below meth c H locs cells slots Q (F0 m 230 ls []) := by
  obtain ⟨hx, hb, hml, hown, hkw, hfx, hU, hX, hbl, hL, hlt⟩ := C
  have hbA : ¬ AL s b := Nat.not_le.mpr hbl
  have hn : n ≤ 10240 := by have := hI.n; omega

  refine lv_aload_n hx hb dL_law_230 rfl (lv_at hl 3 rfl) ?_
  refine lv_aload_n hx hb dL_law_231 rfl (lv_at hl 4 rfl) ?_
  refine lv_iload hx hb dL_law_232 (lv_at hl 0 rfl) ?_
  refine lv_iconst (v := 1) hx hb dL_law_234 (by decide) ?_
  refine lv_iadd hx hb dL_law_235 ?_
  refine va_sld hx hb hX hbl hbA hS (ld_in (c := 1) hj hL rfl (by decide)) dL_law_236 ?_
  refine lv_topi (fun y1 h_y1 => ?_)
  refine lb_class (k := 33) (mm := 3) (d := 12) (As := [.int y1]) (rest := []) hB hS hx hb hml hown hkw hfx hl.1 nc_33 nl_33 ni_33 ns_33 rfl (show (parseMethodDescriptor (kQQ kYN 3).1.desc).map (fun d => d.parameters.length) = some 1 by decide +kernel) dL_law_237 (by decide) (Nat.le_of_ble_eq_true rfl) (Nat.le_of_ble_eq_true rfl) (fun _ => rfl) (fun ty => kS_send (d := 0) ty hI y1) ⟨by omega, by omega⟩ ⟨by decide, by decide⟩ (Nat.le_of_ble_eq_true rfl) (fun v u hk ad => by obtain ⟨⟨y, rfl⟩, -⟩ := hk; rfl) (fun v u H locs xu hk hB hS => ?_)
  obtain ⟨⟨z237, rfl⟩, hI⟩ := hk
  obtain ⟨e1, e2⟩ := lc_acc (cells := cells) (slots := slots) xu
  generalize cells + (Z.2.2.2.2.2.1 - u.2.2.2.2.2.1) = cells1 at e1 ⊢
  generalize slots + (Z.2.2.2.2.2.2 - u.2.2.2.2.2.2) = slots1 at e2 ⊢
  refine lv_pop hx hb dL_law_240 rfl ?_
  refine lv_aload_n hx hb dL_law_241 rfl (lv_at hl 2 rfl) ?_
  refine lv_aload_n hx hb dL_law_242 rfl (lv_at hl 4 rfl) ?_
  refine lv_iload hx hb dL_law_243 (lv_at hl 0 rfl) ?_
  refine lv_iconst (v := 1) hx hb dL_law_245 (by decide) ?_
  refine lv_iadd hx hb dL_law_246 ?_
  refine va_sld hx hb hX hbl hbA hS (ld_in (c := 1) hj hL rfl (by decide)) dL_law_247 ?_
  refine lv_topi (fun y2 h_y2 => ?_)
  refine lb_ref (k := 36) (mm := 173) (d := 14) (As := [.int y2]) (rest := []) hB hS hx hb hml hown hkw hfx hl.1 nc_36 nl_36 ni_36 ns_36 rfl (show (parseMethodDescriptor (mjQQ mjYN 173).1.desc).map (fun d => d.parameters.length) = some 1 by decide +kernel) dL_law_248 (Nat.le_of_ble_eq_true rfl) (fun _ => rfl) (fun tm dB am => w_send hG tm y2) ⟨by omega, by omega⟩ ⟨by decide, by decide⟩ (Nat.le_of_ble_eq_true rfl) (fun v u2 H locs hk hB hS => ?_)
  obtain ⟨⟨⟨z248, rfl⟩, hG⟩, hT2⟩ := hk
  refine lv_pop hx hb dL_law_251 rfl ?_
  refine lv_goto (tgt := 643) hx hb dL_law_252 (by decide) ?_
  exact kk u u2 H locs ls cells1 slots1 f g 0 hB hS hI hG (hT2.trans rfl) (by omega) (by omega) (by omega) (by omega) hl
set_option maxHeartbeats 4000000 in
theorem lc_3 (C : lwC p l s m args c b L xs) (hj : 6 * j + 6 ≤ L) (hB : LB dC dI s x m9 o9 H Z σ) (hS : va_S (AL s) s.heap H locs) (hI : INV f n Z) (hG : GI σ g) (hT : σ.1 113 = nI n) (hf : 20 ≤ f) (hg : 20 ≤ g) (hc : cells + Z.2.2.2.2.2.1 + 1 ≤ room_1.cells ∧ slots + Z.2.2.2.2.2.2 + 6 ≤ room_1.slots) (hl : lv_has ls 7 (LVs j o9 m9 x b))
    (kk : ∀ (Z' : kS) (σ' : mjS) (H' : Heap) (locs' : List Loc) (ls' : Array Slot) (cells' slots' f' g' n' : Nat), LB dC dI s x m9 o9 H' Z' σ' → va_S (AL s) s.heap H' locs' → INV f' n' Z' → GI σ' g' → σ'.1 113 = nI n' → f ≤ f' + 20 → g ≤ g' + 20 → cells' + Z'.2.2.2.2.2.1 ≤ cells + Z.2.2.2.2.2.1 + 1 → slots' + Z'.2.2.2.2.2.2 ≤ slots + Z.2.2.2.2.2.2 + 6 → lv_has ls' 7 (LVs j o9 m9 x b) → W p l e room_1 s m args below meth c H' locs' cells' slots' Q (F0 m 643 ls' [])) : W p l e room_1 s m args below meth c H locs cells slots Q (F0 m 255 ls []) := by
  obtain ⟨hx, hb, hml, hown, hkw, hfx, hU, hX, hbl, hL, hlt⟩ := C
  have hbA : ¬ AL s b := Nat.not_le.mpr hbl
  have hn : n ≤ 10240 := by have := hI.n; omega

  refine lv_aload_n hx hb dL_law_255 rfl (lv_at hl 3 rfl) ?_
  refine lv_aload_n hx hb dL_law_256 rfl (lv_at hl 4 rfl) ?_
  refine lv_iload hx hb dL_law_257 (lv_at hl 0 rfl) ?_
  refine lv_iconst (v := 1) hx hb dL_law_259 (by decide) ?_
  refine lv_iadd hx hb dL_law_260 ?_
  refine va_sld hx hb hX hbl hbA hS (ld_in (c := 1) hj hL rfl (by decide)) dL_law_261 ?_
  refine lv_topi (fun y1 h_y1 => ?_)
  refine lb_class (k := 37) (mm := 4) (d := 3) (As := [.int y1]) (rest := []) hB hS hx hb hml hown hkw hfx hl.1 nc_37 nl_37 ni_37 ns_37 rfl (show (parseMethodDescriptor (kQQ kYN 4).1.desc).map (fun d => d.parameters.length) = some 1 by decide +kernel) dL_law_262 (by decide) (Nat.le_of_ble_eq_true rfl) (Nat.le_of_ble_eq_true rfl) (fun _ => rfl) (fun ty => kI_open (d := 0) ty hI y1) ⟨by omega, by omega⟩ ⟨by decide, by decide⟩ (Nat.le_of_ble_eq_true rfl) (fun v u hk ad => by obtain ⟨⟨y, rfl⟩, -⟩ := hk; rfl) (fun v u H locs xu hk hB hS => ?_)
  obtain ⟨⟨z262, rfl⟩, hI⟩ := hk
  obtain ⟨e1, e2⟩ := lc_acc (cells := cells) (slots := slots) xu
  generalize cells + (Z.2.2.2.2.2.1 - u.2.2.2.2.2.1) = cells1 at e1 ⊢
  generalize slots + (Z.2.2.2.2.2.2 - u.2.2.2.2.2.2) = slots1 at e2 ⊢
  refine lv_pop hx hb dL_law_265 rfl ?_
  refine lv_aload_n hx hb dL_law_266 rfl (lv_at hl 2 rfl) ?_
  refine lv_aload_n hx hb dL_law_267 rfl (lv_at hl 4 rfl) ?_
  refine lv_iload hx hb dL_law_268 (lv_at hl 0 rfl) ?_
  refine lv_iconst (v := 1) hx hb dL_law_270 (by decide) ?_
  refine lv_iadd hx hb dL_law_271 ?_
  refine va_sld hx hb hX hbl hbA hS (ld_in (c := 1) hj hL rfl (by decide)) dL_law_272 ?_
  refine lv_topi (fun y2 h_y2 => ?_)
  refine lb_ref (k := 40) (mm := 175) (d := 14) (As := [.int y2]) (rest := []) hB hS hx hb hml hown hkw hfx hl.1 nc_40 nl_40 ni_40 ns_40 rfl (show (parseMethodDescriptor (mjQQ mjYN 175).1.desc).map (fun d => d.parameters.length) = some 1 by decide +kernel) dL_law_273 (Nat.le_of_ble_eq_true rfl) (fun _ => rfl) (fun tm dB am => w_open hG tm y2) ⟨by omega, by omega⟩ ⟨by decide, by decide⟩ (Nat.le_of_ble_eq_true rfl) (fun v u2 H locs hk hB hS => ?_)
  obtain ⟨⟨⟨z273, rfl⟩, hG⟩, hT2⟩ := hk
  refine lv_pop hx hb dL_law_276 rfl ?_
  refine lv_goto (tgt := 643) hx hb dL_law_277 (by decide) ?_
  exact kk u u2 H locs ls cells1 slots1 f g n hB hS hI hG (hT2.trans hT) (by omega) (by omega) (by omega) (by omega) hl
set_option maxHeartbeats 4000000 in
theorem lc_4 (C : lwC p l s m args c b L xs) (hj : 6 * j + 6 ≤ L) (hB : LB dC dI s x m9 o9 H Z σ) (hS : va_S (AL s) s.heap H locs) (hI : INV f n Z) (hG : GI σ g) (hT : σ.1 113 = nI n) (hf : 20 ≤ f) (hg : 20 ≤ g) (hc : cells + Z.2.2.2.2.2.1 + 1 ≤ room_1.cells ∧ slots + Z.2.2.2.2.2.2 + 6 ≤ room_1.slots) (hl : lv_has ls 7 (LVs j o9 m9 x b))
    (kk : ∀ (Z' : kS) (σ' : mjS) (H' : Heap) (locs' : List Loc) (ls' : Array Slot) (cells' slots' f' g' n' : Nat), LB dC dI s x m9 o9 H' Z' σ' → va_S (AL s) s.heap H' locs' → INV f' n' Z' → GI σ' g' → σ'.1 113 = nI n' → f ≤ f' + 20 → g ≤ g' + 20 → cells' + Z'.2.2.2.2.2.1 ≤ cells + Z.2.2.2.2.2.1 + 1 → slots' + Z'.2.2.2.2.2.2 ≤ slots + Z.2.2.2.2.2.2 + 6 → lv_has ls' 7 (LVs j o9 m9 x b) → W p l e room_1 s m args below meth c H' locs' cells' slots' Q (F0 m 643 ls' [])) : W p l e room_1 s m args below meth c H locs cells slots Q (F0 m 280 ls []) := by
  obtain ⟨hx, hb, hml, hown, hkw, hfx, hU, hX, hbl, hL, hlt⟩ := C
  have hbA : ¬ AL s b := Nat.not_le.mpr hbl
  have hn : n ≤ 10240 := by have := hI.n; omega

  refine lv_aload_n hx hb dL_law_280 rfl (lv_at hl 3 rfl) ?_
  refine lv_aload_n hx hb dL_law_281 rfl (lv_at hl 4 rfl) ?_
  refine lv_iload hx hb dL_law_282 (lv_at hl 0 rfl) ?_
  refine lv_iconst (v := 1) hx hb dL_law_284 (by decide) ?_
  refine lv_iadd hx hb dL_law_285 ?_
  refine va_sld hx hb hX hbl hbA hS (ld_in (c := 1) hj hL rfl (by decide)) dL_law_286 ?_
  refine lv_topi (fun y1 h_y1 => ?_)
  refine lb_class (k := 41) (mm := 5) (d := 1) (As := [.int y1]) (rest := []) hB hS hx hb hml hown hkw hfx hl.1 nc_41 nl_41 ni_41 ns_41 rfl (show (parseMethodDescriptor (kQQ kYN 5).1.desc).map (fun d => d.parameters.length) = some 1 by decide +kernel) dL_law_287 (by decide) (Nat.le_of_ble_eq_true rfl) (Nat.le_of_ble_eq_true rfl) (fun _ => rfl) (fun ty => kI_isOpen (d := 0) ty hI y1) ⟨by omega, by omega⟩ ⟨by decide, by decide⟩ (Nat.le_of_ble_eq_true rfl) (fun v u hk ad => by obtain ⟨⟨y, rfl⟩, -⟩ := hk; rfl) (fun v u H locs xu hk hB hS => ?_)
  obtain ⟨⟨z287, rfl⟩, hI⟩ := hk
  obtain ⟨e1, e2⟩ := lc_acc (cells := cells) (slots := slots) xu
  generalize cells + (Z.2.2.2.2.2.1 - u.2.2.2.2.2.1) = cells1 at e1 ⊢
  generalize slots + (Z.2.2.2.2.2.2 - u.2.2.2.2.2.2) = slots1 at e2 ⊢
  refine lv_pop hx hb dL_law_290 rfl ?_
  refine lv_aload_n hx hb dL_law_291 rfl (lv_at hl 2 rfl) ?_
  refine lv_aload_n hx hb dL_law_292 rfl (lv_at hl 4 rfl) ?_
  refine lv_iload hx hb dL_law_293 (lv_at hl 0 rfl) ?_
  refine lv_iconst (v := 1) hx hb dL_law_295 (by decide) ?_
  refine lv_iadd hx hb dL_law_296 ?_
  refine va_sld hx hb hX hbl hbA hS (ld_in (c := 1) hj hL rfl (by decide)) dL_law_297 ?_
  refine lv_topi (fun y2 h_y2 => ?_)
  refine lb_ref (k := 44) (mm := 176) (d := 14) (As := [.int y2]) (rest := []) hB hS hx hb hml hown hkw hfx hl.1 nc_44 nl_44 ni_44 ns_44 rfl (show (parseMethodDescriptor (mjQQ mjYN 176).1.desc).map (fun d => d.parameters.length) = some 1 by decide +kernel) dL_law_298 (Nat.le_of_ble_eq_true rfl) (fun _ => rfl) (fun tm dB am => w_isOpen hG tm y2) ⟨by omega, by omega⟩ ⟨by decide, by decide⟩ (Nat.le_of_ble_eq_true rfl) (fun v u2 H locs hk hB hS => ?_)
  obtain ⟨⟨⟨z298, rfl⟩, hG⟩, hT2⟩ := hk
  refine lv_pop hx hb dL_law_301 rfl ?_
  refine lv_goto (tgt := 643) hx hb dL_law_302 (by decide) ?_
  exact kk u u2 H locs ls cells1 slots1 f g n hB hS hI hG (hT2.trans hT) (by omega) (by omega) (by omega) (by omega) hl
set_option maxHeartbeats 4000000 in
theorem lc_5 (C : lwC p l s m args c b L xs) (hj : 6 * j + 6 ≤ L) (hB : LB dC dI s x m9 o9 H Z σ) (hS : va_S (AL s) s.heap H locs) (hI : INV f n Z) (hG : GI σ g) (hT : σ.1 113 = nI n) (hf : 20 ≤ f) (hg : 20 ≤ g) (hc : cells + Z.2.2.2.2.2.1 + 1 ≤ room_1.cells ∧ slots + Z.2.2.2.2.2.2 + 6 ≤ room_1.slots) (hl : lv_has ls 7 (LVs j o9 m9 x b))
    (kk : ∀ (Z' : kS) (σ' : mjS) (H' : Heap) (locs' : List Loc) (ls' : Array Slot) (cells' slots' f' g' n' : Nat), LB dC dI s x m9 o9 H' Z' σ' → va_S (AL s) s.heap H' locs' → INV f' n' Z' → GI σ' g' → σ'.1 113 = nI n' → f ≤ f' + 20 → g ≤ g' + 20 → cells' + Z'.2.2.2.2.2.1 ≤ cells + Z.2.2.2.2.2.1 + 1 → slots' + Z'.2.2.2.2.2.2 ≤ slots + Z.2.2.2.2.2.2 + 6 → lv_has ls' 7 (LVs j o9 m9 x b) → W p l e room_1 s m args below meth c H' locs' cells' slots' Q (F0 m 643 ls' [])) : W p l e room_1 s m args below meth c H locs cells slots Q (F0 m 305 ls []) := by
  obtain ⟨hx, hb, hml, hown, hkw, hfx, hU, hX, hbl, hL, hlt⟩ := C
  have hbA : ¬ AL s b := Nat.not_le.mpr hbl
  have hn : n ≤ 10240 := by have := hI.n; omega

  refine lv_aload_n hx hb dL_law_305 rfl (lv_at hl 3 rfl) ?_
  refine lv_aload_n hx hb dL_law_306 rfl (lv_at hl 4 rfl) ?_
  refine lv_iload hx hb dL_law_307 (lv_at hl 0 rfl) ?_
  refine lv_iconst (v := 1) hx hb dL_law_309 (by decide) ?_
  refine lv_iadd hx hb dL_law_310 ?_
  refine va_sld hx hb hX hbl hbA hS (ld_in (c := 1) hj hL rfl (by decide)) dL_law_311 ?_
  refine lv_topi (fun y1 h_y1 => ?_)
  refine lb_class (k := 45) (mm := 6) (d := 1) (As := [.int y1]) (rest := []) hB hS hx hb hml hown hkw hfx hl.1 nc_45 nl_45 ni_45 ns_45 rfl (show (parseMethodDescriptor (kQQ kYN 6).1.desc).map (fun d => d.parameters.length) = some 1 by decide +kernel) dL_law_312 (by decide) (Nat.le_of_ble_eq_true rfl) (Nat.le_of_ble_eq_true rfl) (fun _ => rfl) (fun ty => kI_out (d := 0) ty hI y1) ⟨by omega, by omega⟩ ⟨by decide, by decide⟩ (Nat.le_of_ble_eq_true rfl) (fun v u hk ad => by obtain ⟨⟨y, rfl⟩, -⟩ := hk; rfl) (fun v u H locs xu hk hB hS => ?_)
  obtain ⟨⟨z312, rfl⟩, hI⟩ := hk
  obtain ⟨e1, e2⟩ := lc_acc (cells := cells) (slots := slots) xu
  generalize cells + (Z.2.2.2.2.2.1 - u.2.2.2.2.2.1) = cells1 at e1 ⊢
  generalize slots + (Z.2.2.2.2.2.2 - u.2.2.2.2.2.2) = slots1 at e2 ⊢
  refine lv_pop hx hb dL_law_315 rfl ?_
  refine lv_aload_n hx hb dL_law_316 rfl (lv_at hl 2 rfl) ?_
  refine lv_aload_n hx hb dL_law_317 rfl (lv_at hl 4 rfl) ?_
  refine lv_iload hx hb dL_law_318 (lv_at hl 0 rfl) ?_
  refine lv_iconst (v := 1) hx hb dL_law_320 (by decide) ?_
  refine lv_iadd hx hb dL_law_321 ?_
  refine va_sld hx hb hX hbl hbA hS (ld_in (c := 1) hj hL rfl (by decide)) dL_law_322 ?_
  refine lv_topi (fun y2 h_y2 => ?_)
  refine lb_ref (k := 48) (mm := 177) (d := 14) (As := [.int y2]) (rest := []) hB hS hx hb hml hown hkw hfx hl.1 nc_48 nl_48 ni_48 ns_48 rfl (show (parseMethodDescriptor (mjQQ mjYN 177).1.desc).map (fun d => d.parameters.length) = some 1 by decide +kernel) dL_law_323 (Nat.le_of_ble_eq_true rfl) (fun _ => rfl) (fun tm dB am => w_out hG tm y2) ⟨by omega, by omega⟩ ⟨by decide, by decide⟩ (Nat.le_of_ble_eq_true rfl) (fun v u2 H locs hk hB hS => ?_)
  obtain ⟨⟨⟨z323, rfl⟩, hG⟩, hT2⟩ := hk
  refine lv_pop hx hb dL_law_326 rfl ?_
  refine lv_goto (tgt := 643) hx hb dL_law_327 (by decide) ?_
  exact kk u u2 H locs ls cells1 slots1 f g n hB hS hI hG (hT2.trans hT) (by omega) (by omega) (by omega) (by omega) hl
set_option maxHeartbeats 4000000 in
theorem lc_6 (C : lwC p l s m args c b L xs) (hj : 6 * j + 6 ≤ L) (hB : LB dC dI s x m9 o9 H Z σ) (hS : va_S (AL s) s.heap H locs) (hI : INV f n Z) (hG : GI σ g) (hT : σ.1 113 = nI n) (hf : 20 ≤ f) (hg : 20 ≤ g) (hc : cells + Z.2.2.2.2.2.1 + 1 ≤ room_1.cells ∧ slots + Z.2.2.2.2.2.2 + 6 ≤ room_1.slots) (hl : lv_has ls 7 (LVs j o9 m9 x b))
    (kk : ∀ (Z' : kS) (σ' : mjS) (H' : Heap) (locs' : List Loc) (ls' : Array Slot) (cells' slots' f' g' n' : Nat), LB dC dI s x m9 o9 H' Z' σ' → va_S (AL s) s.heap H' locs' → INV f' n' Z' → GI σ' g' → σ'.1 113 = nI n' → f ≤ f' + 20 → g ≤ g' + 20 → cells' + Z'.2.2.2.2.2.1 ≤ cells + Z.2.2.2.2.2.1 + 1 → slots' + Z'.2.2.2.2.2.2 ≤ slots + Z.2.2.2.2.2.2 + 6 → lv_has ls' 7 (LVs j o9 m9 x b) → W p l e room_1 s m args below meth c H' locs' cells' slots' Q (F0 m 643 ls' [])) : W p l e room_1 s m args below meth c H locs cells slots Q (F0 m 330 ls []) := by
  obtain ⟨hx, hb, hml, hown, hkw, hfx, hU, hX, hbl, hL, hlt⟩ := C
  have hbA : ¬ AL s b := Nat.not_le.mpr hbl
  have hn : n ≤ 10240 := by have := hI.n; omega

  refine lv_aload_n hx hb dL_law_330 rfl (lv_at hl 3 rfl) ?_
  refine lv_aload_n hx hb dL_law_331 rfl (lv_at hl 4 rfl) ?_
  refine lv_iload hx hb dL_law_332 (lv_at hl 0 rfl) ?_
  refine lv_iconst (v := 1) hx hb dL_law_334 (by decide) ?_
  refine lv_iadd hx hb dL_law_335 ?_
  refine va_sld hx hb hX hbl hbA hS (ld_in (c := 1) hj hL rfl (by decide)) dL_law_336 ?_
  refine lv_topi (fun y1 h_y1 => ?_)
  refine lv_aload_n hx hb dL_law_337 rfl (lv_at hl 4 rfl) ?_
  refine lv_iload hx hb dL_law_338 (lv_at hl 0 rfl) ?_
  refine lv_iconst (v := 2) hx hb dL_law_340 (by decide) ?_
  refine lv_iadd hx hb dL_law_341 ?_
  refine va_sld hx hb hX hbl hbA hS (ld_in (c := 2) hj hL rfl (by decide)) dL_law_342 ?_
  refine lv_topi (fun y2 h_y2 => ?_)
  refine lv_aload_n hx hb dL_law_343 rfl (lv_at hl 1 rfl) ?_
  refine lb_help (k := 49) (y := yL_outAt) (As := [.int y1, .int y2]) (rest := []) hB hS hx hb hml hown hkw hfx hU hl.1 nc_49 nl_49 nt_49 rfl (show (parseMethodDescriptor yL_outAt.desc).map (fun d => d.parameters.length) = some 4 by decide +kernel) dL_law_344 (Nat.le_of_ble_eq_true rfl) hI.c1 (fun t16 dA ad ko go sz had => la_outAt hlt t16 hI.byn rfl rfl y1 y2 sz had) ⟨by omega, by omega⟩ ⟨by decide, by decide⟩ (Nat.le_of_ble_eq_true rfl) (fun v9 H locs hB hS => ?_)
  refine lv_istore (lv' := (5, .int v9) :: LVs j o9 m9 x b) hx hb dL_law_347 hl (by decide) rfl (fun ls hl => ?_)
  refine lv_aload_n hx hb dL_law_349 rfl (lv_at hl 3 rfl) ?_
  refine lv_aload_n hx hb dL_law_350 rfl (lv_at hl 5 rfl) ?_
  refine lv_iload hx hb dL_law_351 (lv_at hl 1 rfl) ?_
  refine lv_iconst (v := 1) hx hb dL_law_353 (by decide) ?_
  refine lv_iadd hx hb dL_law_354 ?_
  refine va_sld hx hb hX hbl hbA hS (ld_in (c := 1) hj hL rfl (by decide)) dL_law_355 ?_
  refine lv_topi (fun y3 h_y3 => ?_)
  refine lv_aload_n hx hb dL_law_356 rfl (lv_at hl 5 rfl) ?_
  refine lv_iload hx hb dL_law_357 (lv_at hl 1 rfl) ?_
  refine lv_iconst (v := 2) hx hb dL_law_359 (by decide) ?_
  refine lv_iadd hx hb dL_law_360 ?_
  refine va_sld hx hb hX hbl hbA hS (ld_in (c := 2) hj hL rfl (by decide)) dL_law_361 ?_
  refine lv_topi (fun y4 h_y4 => ?_)
  refine lb_ref (k := 54) (mm := 178) (d := 14) (As := [.int y3, .int y4]) (rest := []) hB hS hx hb hml hown hkw hfx hl.1 nc_54 nl_54 ni_54 ns_54 rfl (show (parseMethodDescriptor (mjQQ mjYN 178).1.desc).map (fun d => d.parameters.length) = some 2 by decide +kernel) dL_law_362 (Nat.le_of_ble_eq_true rfl) (fun _ => rfl) (fun tm dB am => w_outAt hG tm y3 y4) ⟨by omega, by omega⟩ ⟨by decide, by decide⟩ (Nat.le_of_ble_eq_true rfl) (fun v u2 H locs hk hB hS => ?_)
  obtain ⟨⟨⟨z362, rfl⟩, hG⟩, hT2⟩ := hk
  refine lv_istore (lv' := (6, .int z362) :: (5, .int v9) :: LVs j o9 m9 x b) hx hb dL_law_365 hl (by decide) rfl (fun ls hl => ?_)
  refine lv_goto (tgt := 643) hx hb dL_law_367 (by decide) ?_
  exact kk Z u2 H locs ls (cells + 1) (slots + 6) f g n hB hS hI hG (hT2.trans hT) (by omega) (by omega) (by omega) (by omega) (lv_sub hl [2, 3, 4, 5, 6] rfl)
set_option maxHeartbeats 4000000 in
theorem lc_7 (C : lwC p l s m args c b L xs) (hj : 6 * j + 6 ≤ L) (hB : LB dC dI s x m9 o9 H Z σ) (hS : va_S (AL s) s.heap H locs) (hI : INV f n Z) (hG : GI σ g) (hT : σ.1 113 = nI n) (hf : 20 ≤ f) (hg : 20 ≤ g) (hc : cells + Z.2.2.2.2.2.1 + 1 ≤ room_1.cells ∧ slots + Z.2.2.2.2.2.2 + 6 ≤ room_1.slots) (hl : lv_has ls 7 (LVs j o9 m9 x b))
    (kk : ∀ (Z' : kS) (σ' : mjS) (H' : Heap) (locs' : List Loc) (ls' : Array Slot) (cells' slots' f' g' n' : Nat), LB dC dI s x m9 o9 H' Z' σ' → va_S (AL s) s.heap H' locs' → INV f' n' Z' → GI σ' g' → σ'.1 113 = nI n' → f ≤ f' + 20 → g ≤ g' + 20 → cells' + Z'.2.2.2.2.2.1 ≤ cells + Z.2.2.2.2.2.1 + 1 → slots' + Z'.2.2.2.2.2.2 ≤ slots + Z.2.2.2.2.2.2 + 6 → lv_has ls' 7 (LVs j o9 m9 x b) → W p l e room_1 s m args below meth c H' locs' cells' slots' Q (F0 m 643 ls' [])) : W p l e room_1 s m args below meth c H locs cells slots Q (F0 m 370 ls []) := by
  obtain ⟨hx, hb, hml, hown, hkw, hfx, hU, hX, hbl, hL, hlt⟩ := C
  have hbA : ¬ AL s b := Nat.not_le.mpr hbl
  have hn : n ≤ 10240 := by have := hI.n; omega

  refine lv_aload_n hx hb dL_law_370 rfl (lv_at hl 3 rfl) ?_
  refine lv_aload_n hx hb dL_law_371 rfl (lv_at hl 4 rfl) ?_
  refine lv_iload hx hb dL_law_372 (lv_at hl 0 rfl) ?_
  refine lv_iconst (v := 1) hx hb dL_law_374 (by decide) ?_
  refine lv_iadd hx hb dL_law_375 ?_
  refine va_sld hx hb hX hbl hbA hS (ld_in (c := 1) hj hL rfl (by decide)) dL_law_376 ?_
  refine lv_topi (fun y1 h_y1 => ?_)
  refine lv_aload_n hx hb dL_law_377 rfl (lv_at hl 4 rfl) ?_
  refine lv_iload hx hb dL_law_378 (lv_at hl 0 rfl) ?_
  refine lv_iconst (v := 2) hx hb dL_law_380 (by decide) ?_
  refine lv_iadd hx hb dL_law_381 ?_
  refine va_sld hx hb hX hbl hbA hS (ld_in (c := 2) hj hL rfl (by decide)) dL_law_382 ?_
  refine lv_topi (fun y2 h_y2 => ?_)
  refine lb_class (k := 55) (mm := 8) (d := 2) (As := [.int y1, .int y2]) (rest := []) hB hS hx hb hml hown hkw hfx hl.1 nc_55 nl_55 ni_55 ns_55 rfl (show (parseMethodDescriptor (kQQ kYN 8).1.desc).map (fun d => d.parameters.length) = some 2 by decide +kernel) dL_law_383 (by decide) (Nat.le_of_ble_eq_true rfl) (Nat.le_of_ble_eq_true rfl) (fun _ => rfl) (fun ty => kI_take (d := 0) ty hI y1 y2) ⟨by omega, by omega⟩ ⟨by decide, by decide⟩ (Nat.le_of_ble_eq_true rfl) (fun v u hk ad => by obtain ⟨⟨y, rfl⟩, -⟩ := hk; rfl) (fun v u H locs xu hk hB hS => ?_)
  obtain ⟨⟨z383, rfl⟩, hI⟩ := hk
  obtain ⟨e1, e2⟩ := lc_acc (cells := cells) (slots := slots) xu
  generalize cells + (Z.2.2.2.2.2.1 - u.2.2.2.2.2.1) = cells1 at e1 ⊢
  generalize slots + (Z.2.2.2.2.2.2 - u.2.2.2.2.2.2) = slots1 at e2 ⊢
  refine lv_pop hx hb dL_law_386 rfl ?_
  refine lv_aload_n hx hb dL_law_387 rfl (lv_at hl 2 rfl) ?_
  refine lv_aload_n hx hb dL_law_388 rfl (lv_at hl 4 rfl) ?_
  refine lv_iload hx hb dL_law_389 (lv_at hl 0 rfl) ?_
  refine lv_iconst (v := 1) hx hb dL_law_391 (by decide) ?_
  refine lv_iadd hx hb dL_law_392 ?_
  refine va_sld hx hb hX hbl hbA hS (ld_in (c := 1) hj hL rfl (by decide)) dL_law_393 ?_
  refine lv_topi (fun y3 h_y3 => ?_)
  refine lv_aload_n hx hb dL_law_394 rfl (lv_at hl 4 rfl) ?_
  refine lv_iload hx hb dL_law_395 (lv_at hl 0 rfl) ?_
  refine lv_iconst (v := 2) hx hb dL_law_397 (by decide) ?_
  refine lv_iadd hx hb dL_law_398 ?_
  refine va_sld hx hb hX hbl hbA hS (ld_in (c := 2) hj hL rfl (by decide)) dL_law_399 ?_
  refine lv_topi (fun y4 h_y4 => ?_)
  refine lb_ref (k := 59) (mm := 179) (d := 14) (As := [.int y3, .int y4]) (rest := []) hB hS hx hb hml hown hkw hfx hl.1 nc_59 nl_59 ni_59 ns_59 rfl (show (parseMethodDescriptor (mjQQ mjYN 179).1.desc).map (fun d => d.parameters.length) = some 2 by decide +kernel) dL_law_400 (Nat.le_of_ble_eq_true rfl) (fun _ => rfl) (fun tm dB am => w_take hG tm y3 y4) ⟨by omega, by omega⟩ ⟨by decide, by decide⟩ (Nat.le_of_ble_eq_true rfl) (fun v u2 H locs hk hB hS => ?_)
  obtain ⟨⟨⟨z400, rfl⟩, hG⟩, hT2⟩ := hk
  refine lv_pop hx hb dL_law_403 rfl ?_
  refine lv_goto (tgt := 643) hx hb dL_law_404 (by decide) ?_
  exact kk u u2 H locs ls cells1 slots1 f g n hB hS hI hG (hT2.trans hT) (by omega) (by omega) (by omega) (by omega) hl
set_option maxHeartbeats 4000000 in
theorem lc_8 (C : lwC p l s m args c b L xs) (hj : 6 * j + 6 ≤ L) (hB : LB dC dI s x m9 o9 H Z σ) (hS : va_S (AL s) s.heap H locs) (hI : INV f n Z) (hG : GI σ g) (hT : σ.1 113 = nI n) (hf : 20 ≤ f) (hg : 20 ≤ g) (hc : cells + Z.2.2.2.2.2.1 + 1 ≤ room_1.cells ∧ slots + Z.2.2.2.2.2.2 + 6 ≤ room_1.slots) (hl : lv_has ls 7 (LVs j o9 m9 x b))
    (kk : ∀ (Z' : kS) (σ' : mjS) (H' : Heap) (locs' : List Loc) (ls' : Array Slot) (cells' slots' f' g' n' : Nat), LB dC dI s x m9 o9 H' Z' σ' → va_S (AL s) s.heap H' locs' → INV f' n' Z' → GI σ' g' → σ'.1 113 = nI n' → f ≤ f' + 20 → g ≤ g' + 20 → cells' + Z'.2.2.2.2.2.1 ≤ cells + Z.2.2.2.2.2.1 + 1 → slots' + Z'.2.2.2.2.2.2 ≤ slots + Z.2.2.2.2.2.2 + 6 → lv_has ls' 7 (LVs j o9 m9 x b) → W p l e room_1 s m args below meth c H' locs' cells' slots' Q (F0 m 643 ls' [])) : W p l e room_1 s m args below meth c H locs cells slots Q (F0 m 407 ls []) := by
  obtain ⟨hx, hb, hml, hown, hkw, hfx, hU, hX, hbl, hL, hlt⟩ := C
  have hbA : ¬ AL s b := Nat.not_le.mpr hbl
  have hn : n ≤ 10240 := by have := hI.n; omega

  refine lv_aload_n hx hb dL_law_407 rfl (lv_at hl 3 rfl) ?_
  refine lv_aload_n hx hb dL_law_408 rfl (lv_at hl 4 rfl) ?_
  refine lv_iload hx hb dL_law_409 (lv_at hl 0 rfl) ?_
  refine lv_iconst (v := 1) hx hb dL_law_411 (by decide) ?_
  refine lv_iadd hx hb dL_law_412 ?_
  refine va_sld hx hb hX hbl hbA hS (ld_in (c := 1) hj hL rfl (by decide)) dL_law_413 ?_
  refine lv_topi (fun y1 h_y1 => ?_)
  refine lv_i2l hx hb dL_law_414 rfl ?_
  refine lv_topl (fun y2 _ => ?_)
  refine lv_bipush (v := 32) hx hb dL_law_415 (by decide) ?_
  refine lv_lshl hx hb dL_law_417 rfl ?_
  refine lv_topl (fun y3 _ => ?_)
  refine lv_aload_n hx hb dL_law_418 rfl (lv_at hl 4 rfl) ?_
  refine lv_iload hx hb dL_law_419 (lv_at hl 0 rfl) ?_
  refine lv_iconst (v := 2) hx hb dL_law_421 (by decide) ?_
  refine lv_iadd hx hb dL_law_422 ?_
  refine va_sld hx hb hX hbl hbA hS (ld_in (c := 2) hj hL rfl (by decide)) dL_law_423 ?_
  refine lv_topi (fun y4 h_y4 => ?_)
  refine lv_i2l hx hb dL_law_424 rfl ?_
  refine lv_topl (fun y5 _ => ?_)
  refine lv_ldc2 (v := 4294967295) hx hb hown (hkw _ lw_k60) dL_law_425 ?_
  refine lv_land hx hb dL_law_428 ?_
  refine lv_topl (fun y6 _ => ?_)
  refine lv_lor hx hb dL_law_429 ?_
  refine lv_topl (fun y7 _ => ?_)
  refine lb_class (k := 62) (mm := 9) (d := 8) (As := [.long y7]) (rest := []) hB hS hx hb hml hown hkw hfx hl.1 nc_62 nl_62 ni_62 ns_62 rfl (show (parseMethodDescriptor (kQQ kYN 9).1.desc).map (fun d => d.parameters.length) = some 1 by decide +kernel) dL_law_430 (by decide) (Nat.le_of_ble_eq_true rfl) (Nat.le_of_ble_eq_true rfl) (fun _ => rfl) (fun ty => kI_pass (d := 0) ty hI y7) ⟨by omega, by omega⟩ ⟨by decide, by decide⟩ (Nat.le_of_ble_eq_true rfl) (fun v u hk ad => by obtain ⟨⟨y, rfl⟩, -⟩ := hk; rfl) (fun v u H locs xu hk hB hS => ?_)
  obtain ⟨⟨z430, rfl⟩, hI⟩ := hk
  obtain ⟨e1, e2⟩ := lc_acc (cells := cells) (slots := slots) xu
  generalize cells + (Z.2.2.2.2.2.1 - u.2.2.2.2.2.1) = cells1 at e1 ⊢
  generalize slots + (Z.2.2.2.2.2.2 - u.2.2.2.2.2.2) = slots1 at e2 ⊢
  refine lv_pop hx hb dL_law_433 rfl ?_
  refine lv_aload_n hx hb dL_law_434 rfl (lv_at hl 2 rfl) ?_
  refine lv_aload_n hx hb dL_law_435 rfl (lv_at hl 4 rfl) ?_
  refine lv_iload hx hb dL_law_436 (lv_at hl 0 rfl) ?_
  refine lv_iconst (v := 1) hx hb dL_law_438 (by decide) ?_
  refine lv_iadd hx hb dL_law_439 ?_
  refine va_sld hx hb hX hbl hbA hS (ld_in (c := 1) hj hL rfl (by decide)) dL_law_440 ?_
  refine lv_topi (fun y8 h_y8 => ?_)
  refine lv_i2l hx hb dL_law_441 rfl ?_
  refine lv_topl (fun y9 _ => ?_)
  refine lv_bipush (v := 32) hx hb dL_law_442 (by decide) ?_
  refine lv_lshl hx hb dL_law_444 rfl ?_
  refine lv_topl (fun y10 _ => ?_)
  refine lv_aload_n hx hb dL_law_445 rfl (lv_at hl 4 rfl) ?_
  refine lv_iload hx hb dL_law_446 (lv_at hl 0 rfl) ?_
  refine lv_iconst (v := 2) hx hb dL_law_448 (by decide) ?_
  refine lv_iadd hx hb dL_law_449 ?_
  refine va_sld hx hb hX hbl hbA hS (ld_in (c := 2) hj hL rfl (by decide)) dL_law_450 ?_
  refine lv_topi (fun y11 h_y11 => ?_)
  refine lv_i2l hx hb dL_law_451 rfl ?_
  refine lv_topl (fun y12 _ => ?_)
  refine lv_ldc2 (v := 4294967295) hx hb hown (hkw _ lw_k60) dL_law_452 ?_
  refine lv_land hx hb dL_law_455 ?_
  refine lv_topl (fun y13 _ => ?_)
  refine lv_lor hx hb dL_law_456 ?_
  refine lv_topl (fun y14 _ => ?_)
  refine lb_ref (k := 66) (mm := 181) (d := 14) (As := [.long y14]) (rest := []) hB hS hx hb hml hown hkw hfx hl.1 nc_66 nl_66 ni_66 ns_66 rfl (show (parseMethodDescriptor (mjQQ mjYN 181).1.desc).map (fun d => d.parameters.length) = some 1 by decide +kernel) dL_law_457 (Nat.le_of_ble_eq_true rfl) (fun _ => rfl) (fun tm dB am => w_pass hG tm y14) ⟨by omega, by omega⟩ ⟨by decide, by decide⟩ (Nat.le_of_ble_eq_true rfl) (fun v u2 H locs hk hB hS => ?_)
  obtain ⟨⟨⟨z457, rfl⟩, hG⟩, hT2⟩ := hk
  refine lv_pop hx hb dL_law_460 rfl ?_
  refine lv_goto (tgt := 643) hx hb dL_law_461 (by decide) ?_
  exact kk u u2 H locs ls cells1 slots1 f g n hB hS hI hG (hT2.trans hT) (by omega) (by omega) (by omega) (by omega) hl
set_option maxHeartbeats 4000000 in
theorem lc_9 (C : lwC p l s m args c b L xs) (hj : 6 * j + 6 ≤ L) (hB : LB dC dI s x m9 o9 H Z σ) (hS : va_S (AL s) s.heap H locs) (hI : INV f n Z) (hG : GI σ g) (hT : σ.1 113 = nI n) (hf : 20 ≤ f) (hg : 20 ≤ g) (hc : cells + Z.2.2.2.2.2.1 + 1 ≤ room_1.cells ∧ slots + Z.2.2.2.2.2.2 + 6 ≤ room_1.slots) (hl : lv_has ls 7 (LVs j o9 m9 x b))
    (kk : ∀ (Z' : kS) (σ' : mjS) (H' : Heap) (locs' : List Loc) (ls' : Array Slot) (cells' slots' f' g' n' : Nat), LB dC dI s x m9 o9 H' Z' σ' → va_S (AL s) s.heap H' locs' → INV f' n' Z' → GI σ' g' → σ'.1 113 = nI n' → f ≤ f' + 20 → g ≤ g' + 20 → cells' + Z'.2.2.2.2.2.1 ≤ cells + Z.2.2.2.2.2.1 + 1 → slots' + Z'.2.2.2.2.2.2 ≤ slots + Z.2.2.2.2.2.2 + 6 → lv_has ls' 7 (LVs j o9 m9 x b) → W p l e room_1 s m args below meth c H' locs' cells' slots' Q (F0 m 643 ls' [])) : W p l e room_1 s m args below meth c H locs cells slots Q (F0 m 464 ls []) := by
  obtain ⟨hx, hb, hml, hown, hkw, hfx, hU, hX, hbl, hL, hlt⟩ := C
  have hbA : ¬ AL s b := Nat.not_le.mpr hbl
  have hn : n ≤ 10240 := by have := hI.n; omega

  refine lv_aload_n hx hb dL_law_464 rfl (lv_at hl 3 rfl) ?_
  refine lb_class (k := 67) (mm := 10) (d := 0) (As := []) (rest := []) hB hS hx hb hml hown hkw hfx hl.1 nc_67 nl_67 ni_67 ns_67 rfl (show (parseMethodDescriptor (kQQ kYN 10).1.desc).map (fun d => d.parameters.length) = some 0 by decide +kernel) dL_law_465 (by decide) (Nat.le_of_ble_eq_true rfl) (Nat.le_of_ble_eq_true rfl) (fun _ => rfl) (fun ty => kI_now (d := 0) ty hI) ⟨by omega, by omega⟩ ⟨by decide, by decide⟩ (Nat.le_of_ble_eq_true rfl) (fun v u hk ad => by obtain ⟨⟨y, rfl⟩, -⟩ := hk; rfl) (fun v u H locs xu hk hB hS => ?_)
  obtain ⟨⟨z465, rfl⟩, hI⟩ := hk
  obtain ⟨e1, e2⟩ := lc_acc (cells := cells) (slots := slots) xu
  generalize cells + (Z.2.2.2.2.2.1 - u.2.2.2.2.2.1) = cells1 at e1 ⊢
  generalize slots + (Z.2.2.2.2.2.2 - u.2.2.2.2.2.2) = slots1 at e2 ⊢
  refine lv_pop2_2 hx hb dL_law_468 rfl ?_
  refine lv_aload_n hx hb dL_law_469 rfl (lv_at hl 2 rfl) ?_
  refine lb_ref (k := 71) (mm := 182) (d := 14) (As := []) (rest := []) hB hS hx hb hml hown hkw hfx hl.1 nc_71 nl_71 ni_71 ns_71 rfl (show (parseMethodDescriptor (mjQQ mjYN 182).1.desc).map (fun d => d.parameters.length) = some 0 by decide +kernel) dL_law_470 (Nat.le_of_ble_eq_true rfl) (fun _ => rfl) (fun tm dB am => w_now hG tm) ⟨by omega, by omega⟩ ⟨by decide, by decide⟩ (Nat.le_of_ble_eq_true rfl) (fun v u2 H locs hk hB hS => ?_)
  obtain ⟨⟨⟨z470, rfl⟩, hG⟩, hT2⟩ := hk
  refine lv_pop2_2 hx hb dL_law_473 rfl ?_
  refine lv_goto (tgt := 643) hx hb dL_law_474 (by decide) ?_
  exact kk u u2 H locs ls cells1 slots1 f g n hB hS hI hG (hT2.trans hT) (by omega) (by omega) (by omega) (by omega) hl
set_option maxHeartbeats 4000000 in
theorem lc_10 (C : lwC p l s m args c b L xs) (hj : 6 * j + 6 ≤ L) (hB : LB dC dI s x m9 o9 H Z σ) (hS : va_S (AL s) s.heap H locs) (hI : INV f n Z) (hG : GI σ g) (hT : σ.1 113 = nI n) (hf : 20 ≤ f) (hg : 20 ≤ g) (hc : cells + Z.2.2.2.2.2.1 + 1 ≤ room_1.cells ∧ slots + Z.2.2.2.2.2.2 + 6 ≤ room_1.slots) (hl : lv_has ls 7 (LVs j o9 m9 x b))
    (kk : ∀ (Z' : kS) (σ' : mjS) (H' : Heap) (locs' : List Loc) (ls' : Array Slot) (cells' slots' f' g' n' : Nat), LB dC dI s x m9 o9 H' Z' σ' → va_S (AL s) s.heap H' locs' → INV f' n' Z' → GI σ' g' → σ'.1 113 = nI n' → f ≤ f' + 20 → g ≤ g' + 20 → cells' + Z'.2.2.2.2.2.1 ≤ cells + Z.2.2.2.2.2.1 + 1 → slots' + Z'.2.2.2.2.2.2 ≤ slots + Z.2.2.2.2.2.2 + 6 → lv_has ls' 7 (LVs j o9 m9 x b) → W p l e room_1 s m args below meth c H' locs' cells' slots' Q (F0 m 643 ls' [])) : W p l e room_1 s m args below meth c H locs cells slots Q (F0 m 477 ls []) := by
  obtain ⟨hx, hb, hml, hown, hkw, hfx, hU, hX, hbl, hL, hlt⟩ := C
  have hbA : ¬ AL s b := Nat.not_le.mpr hbl
  have hn : n ≤ 10240 := by have := hI.n; omega

  refine lv_aload_n hx hb dL_law_477 rfl (lv_at hl 3 rfl) ?_
  refine lv_aload_n hx hb dL_law_478 rfl (lv_at hl 4 rfl) ?_
  refine lv_iload hx hb dL_law_479 (lv_at hl 0 rfl) ?_
  refine lv_iconst (v := 1) hx hb dL_law_481 (by decide) ?_
  refine lv_iadd hx hb dL_law_482 ?_
  refine va_sld hx hb hX hbl hbA hS (ld_in (c := 1) hj hL rfl (by decide)) dL_law_483 ?_
  refine lv_topi (fun y1 h_y1 => ?_)
  refine lb_class (k := 72) (mm := 11) (d := 0) (As := [.int y1]) (rest := []) hB hS hx hb hml hown hkw hfx hl.1 nc_72 nl_72 ni_72 ns_72 rfl (show (parseMethodDescriptor (kQQ kYN 11).1.desc).map (fun d => d.parameters.length) = some 1 by decide +kernel) dL_law_484 (by decide) (Nat.le_of_ble_eq_true rfl) (Nat.le_of_ble_eq_true rfl) (fun _ => rfl) (fun ty => kI_fuse (d := 0) ty hI y1) ⟨by omega, by omega⟩ ⟨by decide, by decide⟩ (Nat.le_of_ble_eq_true rfl) (fun v u hk ad => by obtain ⟨rfl, -⟩ := hk; rfl) (fun v u H locs xu hk hB hS => ?_)
  obtain ⟨rfl, hI⟩ := hk
  obtain ⟨e1, e2⟩ := lc_acc (cells := cells) (slots := slots) xu
  generalize cells + (Z.2.2.2.2.2.1 - u.2.2.2.2.2.1) = cells1 at e1 ⊢
  generalize slots + (Z.2.2.2.2.2.2 - u.2.2.2.2.2.2) = slots1 at e2 ⊢
  refine lv_aload_n hx hb dL_law_487 rfl (lv_at hl 2 rfl) ?_
  refine lv_aload_n hx hb dL_law_488 rfl (lv_at hl 4 rfl) ?_
  refine lv_iload hx hb dL_law_489 (lv_at hl 0 rfl) ?_
  refine lv_iconst (v := 1) hx hb dL_law_491 (by decide) ?_
  refine lv_iadd hx hb dL_law_492 ?_
  refine va_sld hx hb hX hbl hbA hS (ld_in (c := 1) hj hL rfl (by decide)) dL_law_493 ?_
  refine lv_topi (fun y2 h_y2 => ?_)
  refine lb_ref (k := 76) (mm := 183) (d := 14) (As := [.int y2]) (rest := []) hB hS hx hb hml hown hkw hfx hl.1 nc_76 nl_76 ni_76 ns_76 rfl (show (parseMethodDescriptor (mjQQ mjYN 183).1.desc).map (fun d => d.parameters.length) = some 1 by decide +kernel) dL_law_494 (Nat.le_of_ble_eq_true rfl) (fun _ => rfl) (fun tm dB am => w_fuse hG tm y2) ⟨by omega, by omega⟩ ⟨by decide, by decide⟩ (Nat.le_of_ble_eq_true rfl) (fun v u2 H locs hk hB hS => ?_)
  obtain ⟨⟨rfl, hG⟩, hT2⟩ := hk
  refine lv_goto (tgt := 643) hx hb dL_law_497 (by decide) ?_
  exact kk u u2 H locs ls cells1 slots1 f g n hB hS hI hG (hT2.trans hT) (by omega) (by omega) (by omega) (by omega) hl
set_option maxHeartbeats 4000000 in
theorem lc_11 (C : lwC p l s m args c b L xs) (hj : 6 * j + 6 ≤ L) (hB : LB dC dI s x m9 o9 H Z σ) (hS : va_S (AL s) s.heap H locs) (hI : INV f n Z) (hG : GI σ g) (hT : σ.1 113 = nI n) (hf : 20 ≤ f) (hg : 20 ≤ g) (hc : cells + Z.2.2.2.2.2.1 + 1 ≤ room_1.cells ∧ slots + Z.2.2.2.2.2.2 + 6 ≤ room_1.slots) (hl : lv_has ls 7 (LVs j o9 m9 x b))
    (kk : ∀ (Z' : kS) (σ' : mjS) (H' : Heap) (locs' : List Loc) (ls' : Array Slot) (cells' slots' f' g' n' : Nat), LB dC dI s x m9 o9 H' Z' σ' → va_S (AL s) s.heap H' locs' → INV f' n' Z' → GI σ' g' → σ'.1 113 = nI n' → f ≤ f' + 20 → g ≤ g' + 20 → cells' + Z'.2.2.2.2.2.1 ≤ cells + Z.2.2.2.2.2.1 + 1 → slots' + Z'.2.2.2.2.2.2 ≤ slots + Z.2.2.2.2.2.2 + 6 → lv_has ls' 7 (LVs j o9 m9 x b) → W p l e room_1 s m args below meth c H' locs' cells' slots' Q (F0 m 643 ls' [])) : W p l e room_1 s m args below meth c H locs cells slots Q (F0 m 500 ls []) := by
  obtain ⟨hx, hb, hml, hown, hkw, hfx, hU, hX, hbl, hL, hlt⟩ := C
  have hbA : ¬ AL s b := Nat.not_le.mpr hbl
  have hn : n ≤ 10240 := by have := hI.n; omega

  refine lv_aload_n hx hb dL_law_500 rfl (lv_at hl 3 rfl) ?_
  refine lb_class (k := 77) (mm := 12) (d := 5) (As := []) (rest := []) hB hS hx hb hml hown hkw hfx hl.1 nc_77 nl_77 ni_77 ns_77 rfl (show (parseMethodDescriptor (kQQ kYN 12).1.desc).map (fun d => d.parameters.length) = some 0 by decide +kernel) dL_law_501 (by decide) (Nat.le_of_ble_eq_true rfl) (Nat.le_of_ble_eq_true rfl) (fun _ => rfl) (fun ty => kI_crash (d := 0) ty hI) ⟨by omega, by omega⟩ ⟨by decide, by decide⟩ (Nat.le_of_ble_eq_true rfl) (fun v u hk ad => by obtain ⟨⟨y, rfl⟩, -⟩ := hk; rfl) (fun v u H locs xu hk hB hS => ?_)
  obtain ⟨⟨z501, rfl⟩, hI⟩ := hk
  obtain ⟨e1, e2⟩ := lc_acc (cells := cells) (slots := slots) xu
  generalize cells + (Z.2.2.2.2.2.1 - u.2.2.2.2.2.1) = cells1 at e1 ⊢
  generalize slots + (Z.2.2.2.2.2.2 - u.2.2.2.2.2.2) = slots1 at e2 ⊢
  refine lv_pop hx hb dL_law_504 rfl ?_
  refine lv_aload_n hx hb dL_law_505 rfl (lv_at hl 2 rfl) ?_
  refine lb_ref (k := 81) (mm := 184) (d := 14) (As := []) (rest := []) hB hS hx hb hml hown hkw hfx hl.1 nc_81 nl_81 ni_81 ns_81 rfl (show (parseMethodDescriptor (mjQQ mjYN 184).1.desc).map (fun d => d.parameters.length) = some 0 by decide +kernel) dL_law_506 (Nat.le_of_ble_eq_true rfl) (fun _ => rfl) (fun tm dB am => w_crash hG tm) ⟨by omega, by omega⟩ ⟨by decide, by decide⟩ (Nat.le_of_ble_eq_true rfl) (fun v u2 H locs hk hB hS => ?_)
  obtain ⟨⟨⟨z506, rfl⟩, hG⟩, hT2⟩ := hk
  refine lv_pop hx hb dL_law_509 rfl ?_
  refine lv_goto (tgt := 643) hx hb dL_law_510 (by decide) ?_
  exact kk u u2 H locs ls cells1 slots1 f g n hB hS hI hG (hT2.trans hT) (by omega) (by omega) (by omega) (by omega) hl
set_option maxHeartbeats 4000000 in
theorem lc_12 (C : lwC p l s m args c b L xs) (hj : 6 * j + 6 ≤ L) (hB : LB dC dI s x m9 o9 H Z σ) (hS : va_S (AL s) s.heap H locs) (hI : INV f n Z) (hG : GI σ g) (hT : σ.1 113 = nI n) (hf : 20 ≤ f) (hg : 20 ≤ g) (hc : cells + Z.2.2.2.2.2.1 + 1 ≤ room_1.cells ∧ slots + Z.2.2.2.2.2.2 + 6 ≤ room_1.slots) (hl : lv_has ls 7 (LVs j o9 m9 x b))
    (kk : ∀ (Z' : kS) (σ' : mjS) (H' : Heap) (locs' : List Loc) (ls' : Array Slot) (cells' slots' f' g' n' : Nat), LB dC dI s x m9 o9 H' Z' σ' → va_S (AL s) s.heap H' locs' → INV f' n' Z' → GI σ' g' → σ'.1 113 = nI n' → f ≤ f' + 20 → g ≤ g' + 20 → cells' + Z'.2.2.2.2.2.1 ≤ cells + Z.2.2.2.2.2.1 + 1 → slots' + Z'.2.2.2.2.2.2 ≤ slots + Z.2.2.2.2.2.2 + 6 → lv_has ls' 7 (LVs j o9 m9 x b) → W p l e room_1 s m args below meth c H' locs' cells' slots' Q (F0 m 643 ls' [])) : W p l e room_1 s m args below meth c H locs cells slots Q (F0 m 513 ls []) := by
  obtain ⟨hx, hb, hml, hown, hkw, hfx, hU, hX, hbl, hL, hlt⟩ := C
  have hbA : ¬ AL s b := Nat.not_le.mpr hbl
  have hn : n ≤ 10240 := by have := hI.n; omega

  refine lv_aload_n hx hb dL_law_513 rfl (lv_at hl 3 rfl) ?_
  refine lb_class (k := 82) (mm := 13) (d := 12) (As := []) (rest := []) hB hS hx hb hml hown hkw hfx hl.1 nc_82 nl_82 ni_82 ns_82 rfl (show (parseMethodDescriptor (kQQ kYN 13).1.desc).map (fun d => d.parameters.length) = some 0 by decide +kernel) dL_law_514 (by decide) (Nat.le_of_ble_eq_true rfl) (Nat.le_of_ble_eq_true rfl) (fun _ => rfl) (fun ty => kI_restart (d := 0) ty hI) ⟨by omega, by omega⟩ ⟨by decide, by decide⟩ (Nat.le_of_ble_eq_true rfl) (fun v u hk ad => by obtain ⟨⟨y, rfl⟩, -⟩ := hk; rfl) (fun v u H locs xu hk hB hS => ?_)
  obtain ⟨⟨z514, rfl⟩, hI⟩ := hk
  obtain ⟨e1, e2⟩ := lc_acc (cells := cells) (slots := slots) xu
  generalize cells + (Z.2.2.2.2.2.1 - u.2.2.2.2.2.1) = cells1 at e1 ⊢
  generalize slots + (Z.2.2.2.2.2.2 - u.2.2.2.2.2.2) = slots1 at e2 ⊢
  refine lv_pop hx hb dL_law_517 rfl ?_
  refine lv_aload_n hx hb dL_law_518 rfl (lv_at hl 2 rfl) ?_
  refine lb_ref (k := 86) (mm := 189) (d := 14) (As := []) (rest := []) hB hS hx hb hml hown hkw hfx hl.1 nc_86 nl_86 ni_86 ns_86 rfl (show (parseMethodDescriptor (mjQQ mjYN 189).1.desc).map (fun d => d.parameters.length) = some 0 by decide +kernel) dL_law_519 (Nat.le_of_ble_eq_true rfl) (fun _ => rfl) (fun tm dB am => w_restart hG tm) ⟨by omega, by omega⟩ ⟨by decide, by decide⟩ (Nat.le_of_ble_eq_true rfl) (fun v u2 H locs hk hB hS => ?_)
  obtain ⟨⟨⟨z519, rfl⟩, hG⟩, hT2⟩ := hk
  refine lv_pop hx hb dL_law_522 rfl ?_
  refine lv_goto (tgt := 643) hx hb dL_law_523 (by decide) ?_
  exact kk u u2 H locs ls cells1 slots1 f g n hB hS hI hG (hT2.trans hT) (by omega) (by omega) (by omega) (by omega) hl
set_option maxHeartbeats 4000000 in
theorem lc_13 (C : lwC p l s m args c b L xs) (hj : 6 * j + 6 ≤ L) (hB : LB dC dI s x m9 o9 H Z σ) (hS : va_S (AL s) s.heap H locs) (hI : INV f n Z) (hG : GI σ g) (hT : σ.1 113 = nI n) (hf : 20 ≤ f) (hg : 20 ≤ g) (hc : cells + Z.2.2.2.2.2.1 + 1 ≤ room_1.cells ∧ slots + Z.2.2.2.2.2.2 + 6 ≤ room_1.slots) (hl : lv_has ls 7 (LVs j o9 m9 x b))
    (kk : ∀ (Z' : kS) (σ' : mjS) (H' : Heap) (locs' : List Loc) (ls' : Array Slot) (cells' slots' f' g' n' : Nat), LB dC dI s x m9 o9 H' Z' σ' → va_S (AL s) s.heap H' locs' → INV f' n' Z' → GI σ' g' → σ'.1 113 = nI n' → f ≤ f' + 20 → g ≤ g' + 20 → cells' + Z'.2.2.2.2.2.1 ≤ cells + Z.2.2.2.2.2.1 + 1 → slots' + Z'.2.2.2.2.2.2 ≤ slots + Z.2.2.2.2.2.2 + 6 → lv_has ls' 7 (LVs j o9 m9 x b) → W p l e room_1 s m args below meth c H' locs' cells' slots' Q (F0 m 643 ls' [])) : W p l e room_1 s m args below meth c H locs cells slots Q (F0 m 526 ls []) := by
  obtain ⟨hx, hb, hml, hown, hkw, hfx, hU, hX, hbl, hL, hlt⟩ := C
  have hbA : ¬ AL s b := Nat.not_le.mpr hbl
  have hn : n ≤ 10240 := by have := hI.n; omega

  refine lv_aload_n hx hb dL_law_526 rfl (lv_at hl 3 rfl) ?_
  refine lb_class (k := 87) (mm := 14) (d := 9) (As := []) (rest := []) hB hS hx hb hml hown hkw hfx hl.1 nc_87 nl_87 ni_87 ns_87 rfl (show (parseMethodDescriptor (kQQ kYN 14).1.desc).map (fun d => d.parameters.length) = some 0 by decide +kernel) dL_law_527 (by decide) (Nat.le_of_ble_eq_true rfl) (Nat.le_of_ble_eq_true rfl) (fun _ => rfl) (fun ty => kI_rewrite (d := 0) ty hI) ⟨by omega, by omega⟩ ⟨by decide, by decide⟩ (Nat.le_of_ble_eq_true rfl) (fun v u hk ad => by obtain ⟨⟨y, rfl⟩, -⟩ := hk; rfl) (fun v u H locs xu hk hB hS => ?_)
  obtain ⟨⟨z527, rfl⟩, hI⟩ := hk
  obtain ⟨e1, e2⟩ := lc_acc (cells := cells) (slots := slots) xu
  generalize cells + (Z.2.2.2.2.2.1 - u.2.2.2.2.2.1) = cells1 at e1 ⊢
  generalize slots + (Z.2.2.2.2.2.2 - u.2.2.2.2.2.2) = slots1 at e2 ⊢
  refine lv_pop hx hb dL_law_530 rfl ?_
  refine lv_aload_n hx hb dL_law_531 rfl (lv_at hl 2 rfl) ?_
  refine lb_ref (k := 90) (mm := 191) (d := 14) (As := []) (rest := []) hB hS hx hb hml hown hkw hfx hl.1 nc_90 nl_90 ni_90 ns_90 rfl (show (parseMethodDescriptor (mjQQ mjYN 191).1.desc).map (fun d => d.parameters.length) = some 0 by decide +kernel) dL_law_532 (Nat.le_of_ble_eq_true rfl) (fun _ => rfl) (fun tm dB am => w_rewrite hG tm) ⟨by omega, by omega⟩ ⟨by decide, by decide⟩ (Nat.le_of_ble_eq_true rfl) (fun v u2 H locs hk hB hS => ?_)
  obtain ⟨⟨⟨z532, rfl⟩, hG⟩, hT2⟩ := hk
  refine lv_pop hx hb dL_law_535 rfl ?_
  refine lv_goto (tgt := 643) hx hb dL_law_536 (by decide) ?_
  exact kk u u2 H locs ls cells1 slots1 f g n hB hS hI hG (hT2.trans hT) (by omega) (by omega) (by omega) (by omega) hl
set_option maxHeartbeats 4000000 in
theorem lc_14 (C : lwC p l s m args c b L xs) (hj : 6 * j + 6 ≤ L) (hB : LB dC dI s x m9 o9 H Z σ) (hS : va_S (AL s) s.heap H locs) (hI : INV f n Z) (hG : GI σ g) (hT : σ.1 113 = nI n) (hf : 20 ≤ f) (hg : 20 ≤ g) (hc : cells + Z.2.2.2.2.2.1 + 1 ≤ room_1.cells ∧ slots + Z.2.2.2.2.2.2 + 6 ≤ room_1.slots) (hl : lv_has ls 7 (LVs j o9 m9 x b))
    (kk : ∀ (Z' : kS) (σ' : mjS) (H' : Heap) (locs' : List Loc) (ls' : Array Slot) (cells' slots' f' g' n' : Nat), LB dC dI s x m9 o9 H' Z' σ' → va_S (AL s) s.heap H' locs' → INV f' n' Z' → GI σ' g' → σ'.1 113 = nI n' → f ≤ f' + 20 → g ≤ g' + 20 → cells' + Z'.2.2.2.2.2.1 ≤ cells + Z.2.2.2.2.2.1 + 1 → slots' + Z'.2.2.2.2.2.2 ≤ slots + Z.2.2.2.2.2.2 + 6 → lv_has ls' 7 (LVs j o9 m9 x b) → W p l e room_1 s m args below meth c H' locs' cells' slots' Q (F0 m 643 ls' [])) : W p l e room_1 s m args below meth c H locs cells slots Q (F0 m 539 ls []) := by
  obtain ⟨hx, hb, hml, hown, hkw, hfx, hU, hX, hbl, hL, hlt⟩ := C
  have hbA : ¬ AL s b := Nat.not_le.mpr hbl
  have hn : n ≤ 10240 := by have := hI.n; omega

  refine lv_aload_n hx hb dL_law_539 rfl (lv_at hl 3 rfl) ?_
  refine lb_class (k := 91) (mm := 15) (d := 0) (As := []) (rest := []) hB hS hx hb hml hown hkw hfx hl.1 nc_91 nl_91 ni_91 ns_91 rfl (show (parseMethodDescriptor (kQQ kYN 15).1.desc).map (fun d => d.parameters.length) = some 0 by decide +kernel) dL_law_540 (by decide) (Nat.le_of_ble_eq_true rfl) (Nat.le_of_ble_eq_true rfl) (fun _ => rfl) (fun ty => kI_log (d := 0) ty hI) ⟨by omega, by omega⟩ ⟨by decide, by decide⟩ (Nat.le_of_ble_eq_true rfl) (fun v u hk ad => by obtain ⟨⟨y, rfl⟩, -⟩ := hk; rfl) (fun v u H locs xu hk hB hS => ?_)
  obtain ⟨⟨z540, rfl⟩, hI⟩ := hk
  obtain ⟨e1, e2⟩ := lc_acc (cells := cells) (slots := slots) xu
  generalize cells + (Z.2.2.2.2.2.1 - u.2.2.2.2.2.1) = cells1 at e1 ⊢
  generalize slots + (Z.2.2.2.2.2.2 - u.2.2.2.2.2.2) = slots1 at e2 ⊢
  refine lv_pop hx hb dL_law_543 rfl ?_
  refine lv_aload_n hx hb dL_law_544 rfl (lv_at hl 2 rfl) ?_
  refine lb_ref (k := 94) (mm := 192) (d := 14) (As := []) (rest := []) hB hS hx hb hml hown hkw hfx hl.1 nc_94 nl_94 ni_94 ns_94 rfl (show (parseMethodDescriptor (mjQQ mjYN 192).1.desc).map (fun d => d.parameters.length) = some 0 by decide +kernel) dL_law_545 (Nat.le_of_ble_eq_true rfl) (fun _ => rfl) (fun tm dB am => w_log hG tm) ⟨by omega, by omega⟩ ⟨by decide, by decide⟩ (Nat.le_of_ble_eq_true rfl) (fun v u2 H locs hk hB hS => ?_)
  obtain ⟨⟨⟨z545, rfl⟩, hG⟩, hT2⟩ := hk
  refine lv_pop hx hb dL_law_548 rfl ?_
  refine lv_goto (tgt := 643) hx hb dL_law_549 (by decide) ?_
  exact kk u u2 H locs ls cells1 slots1 f g n hB hS hI hG (hT2.trans hT) (by omega) (by omega) (by omega) (by omega) hl
set_option maxHeartbeats 4000000 in
theorem lc_15 (C : lwC p l s m args c b L xs) (hj : 6 * j + 6 ≤ L) (hB : LB dC dI s x m9 o9 H Z σ) (hS : va_S (AL s) s.heap H locs) (hI : INV f n Z) (hG : GI σ g) (hT : σ.1 113 = nI n) (hf : 20 ≤ f) (hg : 20 ≤ g) (hc : cells + Z.2.2.2.2.2.1 + 1 ≤ room_1.cells ∧ slots + Z.2.2.2.2.2.2 + 6 ≤ room_1.slots) (hl : lv_has ls 7 (LVs j o9 m9 x b))
    (kk : ∀ (Z' : kS) (σ' : mjS) (H' : Heap) (locs' : List Loc) (ls' : Array Slot) (cells' slots' f' g' n' : Nat), LB dC dI s x m9 o9 H' Z' σ' → va_S (AL s) s.heap H' locs' → INV f' n' Z' → GI σ' g' → σ'.1 113 = nI n' → f ≤ f' + 20 → g ≤ g' + 20 → cells' + Z'.2.2.2.2.2.1 ≤ cells + Z.2.2.2.2.2.1 + 1 → slots' + Z'.2.2.2.2.2.2 ≤ slots + Z.2.2.2.2.2.2 + 6 → lv_has ls' 7 (LVs j o9 m9 x b) → W p l e room_1 s m args below meth c H' locs' cells' slots' Q (F0 m 643 ls' [])) : W p l e room_1 s m args below meth c H locs cells slots Q (F0 m 552 ls []) := by
  obtain ⟨hx, hb, hml, hown, hkw, hfx, hU, hX, hbl, hL, hlt⟩ := C
  have hbA : ¬ AL s b := Nat.not_le.mpr hbl
  have hn : n ≤ 10240 := by have := hI.n; omega

  refine lv_aload_n hx hb dL_law_552 rfl (lv_at hl 3 rfl) ?_
  refine lv_aload_n hx hb dL_law_553 rfl (lv_at hl 4 rfl) ?_
  refine lv_iload hx hb dL_law_554 (lv_at hl 0 rfl) ?_
  refine lv_iconst (v := 1) hx hb dL_law_556 (by decide) ?_
  refine lv_iadd hx hb dL_law_557 ?_
  refine va_sld hx hb hX hbl hbA hS (ld_in (c := 1) hj hL rfl (by decide)) dL_law_558 ?_
  refine lv_topi (fun y1 h_y1 => ?_)
  refine lv_aload_n hx hb dL_law_559 rfl (lv_at hl 1 rfl) ?_
  obtain ⟨jb, hb57, hjb, -⟩ := hI.jb
  refine lb_help (k := 95) (y := yL_logAt) (As := [.int y1]) (rest := []) hB hS hx hb hml hown hkw hfx hU hl.1 nc_95 nl_95 nt_95 rfl (show (parseMethodDescriptor yL_logAt.desc).map (fun d => d.parameters.length) = some 3 by decide +kernel) dL_law_560 (Nat.le_of_ble_eq_true rfl) hI.c1 (fun t16 dA ad ko go sz had => la_logAt hlt t16 hI.byn hb57 hjb rfl rfl y1 sz had) ⟨by omega, by omega⟩ ⟨by decide, by decide⟩ (Nat.le_of_ble_eq_true rfl) (fun v9 H locs hB hS => ?_)
  refine lv_istore (lv' := (5, .int v9) :: LVs j o9 m9 x b) hx hb dL_law_563 hl (by decide) rfl (fun ls hl => ?_)
  refine lv_aload_n hx hb dL_law_565 rfl (lv_at hl 3 rfl) ?_
  refine lv_aload_n hx hb dL_law_566 rfl (lv_at hl 5 rfl) ?_
  refine lv_iload hx hb dL_law_567 (lv_at hl 1 rfl) ?_
  refine lv_iconst (v := 1) hx hb dL_law_569 (by decide) ?_
  refine lv_iadd hx hb dL_law_570 ?_
  refine va_sld hx hb hX hbl hbA hS (ld_in (c := 1) hj hL rfl (by decide)) dL_law_571 ?_
  refine lv_topi (fun y2 h_y2 => ?_)
  refine lb_ref (k := 98) (mm := 193) (d := 14) (As := [.int y2]) (rest := []) hB hS hx hb hml hown hkw hfx hl.1 nc_98 nl_98 ni_98 ns_98 rfl (show (parseMethodDescriptor (mjQQ mjYN 193).1.desc).map (fun d => d.parameters.length) = some 1 by decide +kernel) dL_law_572 (Nat.le_of_ble_eq_true rfl) (fun _ => rfl) (fun tm dB am => w_logAt hG tm y2) ⟨by omega, by omega⟩ ⟨by decide, by decide⟩ (Nat.le_of_ble_eq_true rfl) (fun v u2 H locs hk hB hS => ?_)
  obtain ⟨⟨⟨z572, rfl⟩, hG⟩, hT2⟩ := hk
  refine lv_istore (lv' := (6, .int z572) :: (5, .int v9) :: LVs j o9 m9 x b) hx hb dL_law_575 hl (by decide) rfl (fun ls hl => ?_)
  refine lv_goto (tgt := 643) hx hb dL_law_577 (by decide) ?_
  exact kk Z u2 H locs ls (cells + 1) (slots + 6) f g n hB hS hI hG (hT2.trans hT) (by omega) (by omega) (by omega) (by omega) (lv_sub hl [2, 3, 4, 5, 6] rfl)
set_option maxHeartbeats 4000000 in
theorem lc_16 (C : lwC p l s m args c b L xs) (hj : 6 * j + 6 ≤ L) (hB : LB dC dI s x m9 o9 H Z σ) (hS : va_S (AL s) s.heap H locs) (hI : INV f n Z) (hG : GI σ g) (hT : σ.1 113 = nI n) (hf : 20 ≤ f) (hg : 20 ≤ g) (hc : cells + Z.2.2.2.2.2.1 + 1 ≤ room_1.cells ∧ slots + Z.2.2.2.2.2.2 + 6 ≤ room_1.slots) (hl : lv_has ls 7 (LVs j o9 m9 x b))
    (kk : ∀ (Z' : kS) (σ' : mjS) (H' : Heap) (locs' : List Loc) (ls' : Array Slot) (cells' slots' f' g' n' : Nat), LB dC dI s x m9 o9 H' Z' σ' → va_S (AL s) s.heap H' locs' → INV f' n' Z' → GI σ' g' → σ'.1 113 = nI n' → f ≤ f' + 20 → g ≤ g' + 20 → cells' + Z'.2.2.2.2.2.1 ≤ cells + Z.2.2.2.2.2.1 + 1 → slots' + Z'.2.2.2.2.2.2 ≤ slots + Z.2.2.2.2.2.2 + 6 → lv_has ls' 7 (LVs j o9 m9 x b) → W p l e room_1 s m args below meth c H' locs' cells' slots' Q (F0 m 643 ls' [])) : W p l e room_1 s m args below meth c H locs cells slots Q (F0 m 580 ls []) := by
  obtain ⟨hx, hb, hml, hown, hkw, hfx, hU, hX, hbl, hL, hlt⟩ := C
  have hbA : ¬ AL s b := Nat.not_le.mpr hbl
  have hn : n ≤ 10240 := by have := hI.n; omega

  refine lv_aload_n hx hb dL_law_580 rfl (lv_at hl 3 rfl) ?_
  refine lv_aload_n hx hb dL_law_581 rfl (lv_at hl 4 rfl) ?_
  refine lv_iload hx hb dL_law_582 (lv_at hl 0 rfl) ?_
  refine lv_iconst (v := 1) hx hb dL_law_584 (by decide) ?_
  refine lv_iadd hx hb dL_law_585 ?_
  refine va_sld hx hb hX hbl hbA hS (ld_in (c := 1) hj hL rfl (by decide)) dL_law_586 ?_
  refine lv_topi (fun y1 h_y1 => ?_)
  refine lb_class (k := 99) (mm := 17) (d := 1) (As := [.int y1]) (rest := []) hB hS hx hb hml hown hkw hfx hl.1 nc_99 nl_99 ni_99 ns_99 rfl (show (parseMethodDescriptor (kQQ kYN 17).1.desc).map (fun d => d.parameters.length) = some 1 by decide +kernel) dL_law_587 (by decide) (Nat.le_of_ble_eq_true rfl) (Nat.le_of_ble_eq_true rfl) (fun _ => rfl) (fun ty => kI_tear (d := 0) ty hI y1) ⟨by omega, by omega⟩ ⟨by decide, by decide⟩ (Nat.le_of_ble_eq_true rfl) (fun v u hk ad => by obtain ⟨⟨y, rfl⟩, -⟩ := hk; rfl) (fun v u H locs xu hk hB hS => ?_)
  obtain ⟨⟨z587, rfl⟩, hI⟩ := hk
  obtain ⟨e1, e2⟩ := lc_acc (cells := cells) (slots := slots) xu
  generalize cells + (Z.2.2.2.2.2.1 - u.2.2.2.2.2.1) = cells1 at e1 ⊢
  generalize slots + (Z.2.2.2.2.2.2 - u.2.2.2.2.2.2) = slots1 at e2 ⊢
  refine lv_pop hx hb dL_law_590 rfl ?_
  refine lv_aload_n hx hb dL_law_591 rfl (lv_at hl 2 rfl) ?_
  refine lv_aload_n hx hb dL_law_592 rfl (lv_at hl 4 rfl) ?_
  refine lv_iload hx hb dL_law_593 (lv_at hl 0 rfl) ?_
  refine lv_iconst (v := 1) hx hb dL_law_595 (by decide) ?_
  refine lv_iadd hx hb dL_law_596 ?_
  refine va_sld hx hb hX hbl hbA hS (ld_in (c := 1) hj hL rfl (by decide)) dL_law_597 ?_
  refine lv_topi (fun y2 h_y2 => ?_)
  refine lb_ref (k := 102) (mm := 194) (d := 14) (As := [.int y2]) (rest := []) hB hS hx hb hml hown hkw hfx hl.1 nc_102 nl_102 ni_102 ns_102 rfl (show (parseMethodDescriptor (mjQQ mjYN 194).1.desc).map (fun d => d.parameters.length) = some 1 by decide +kernel) dL_law_598 (Nat.le_of_ble_eq_true rfl) (fun _ => rfl) (fun tm dB am => w_tear hG tm y2) ⟨by omega, by omega⟩ ⟨by decide, by decide⟩ (Nat.le_of_ble_eq_true rfl) (fun v u2 H locs hk hB hS => ?_)
  obtain ⟨⟨⟨z598, rfl⟩, hG⟩, hT2⟩ := hk
  refine lv_pop hx hb dL_law_601 rfl ?_
  refine lv_goto (tgt := 643) hx hb dL_law_602 (by decide) ?_
  exact kk u u2 H locs ls cells1 slots1 f g n hB hS hI hG (hT2.trans hT) (by omega) (by omega) (by omega) (by omega) hl
set_option maxHeartbeats 4000000 in
theorem lc_17 (C : lwC p l s m args c b L xs) (hj : 6 * j + 6 ≤ L) (hB : LB dC dI s x m9 o9 H Z σ) (hS : va_S (AL s) s.heap H locs) (hI : INV f n Z) (hG : GI σ g) (hT : σ.1 113 = nI n) (hf : 20 ≤ f) (hg : 20 ≤ g) (hc : cells + Z.2.2.2.2.2.1 + 1 ≤ room_1.cells ∧ slots + Z.2.2.2.2.2.2 + 6 ≤ room_1.slots) (hl : lv_has ls 7 (LVs j o9 m9 x b))
    (kk : ∀ (Z' : kS) (σ' : mjS) (H' : Heap) (locs' : List Loc) (ls' : Array Slot) (cells' slots' f' g' n' : Nat), LB dC dI s x m9 o9 H' Z' σ' → va_S (AL s) s.heap H' locs' → INV f' n' Z' → GI σ' g' → σ'.1 113 = nI n' → f ≤ f' + 20 → g ≤ g' + 20 → cells' + Z'.2.2.2.2.2.1 ≤ cells + Z.2.2.2.2.2.1 + 1 → slots' + Z'.2.2.2.2.2.2 ≤ slots + Z.2.2.2.2.2.2 + 6 → lv_has ls' 7 (LVs j o9 m9 x b) → W p l e room_1 s m args below meth c H' locs' cells' slots' Q (F0 m 643 ls' [])) : W p l e room_1 s m args below meth c H locs cells slots Q (F0 m 605 ls []) := by
  obtain ⟨hx, hb, hml, hown, hkw, hfx, hU, hX, hbl, hL, hlt⟩ := C
  have hbA : ¬ AL s b := Nat.not_le.mpr hbl
  have hn : n ≤ 10240 := by have := hI.n; omega

  refine lv_aload_n hx hb dL_law_605 rfl (lv_at hl 3 rfl) ?_
  refine lb_class (k := 103) (mm := 18) (d := 0) (As := []) (rest := []) hB hS hx hb hml hown hkw hfx hl.1 nc_103 nl_103 ni_103 ns_103 rfl (show (parseMethodDescriptor (kQQ kYN 18).1.desc).map (fun d => d.parameters.length) = some 0 by decide +kernel) dL_law_606 (by decide) (Nat.le_of_ble_eq_true rfl) (Nat.le_of_ble_eq_true rfl) (fun _ => rfl) (fun ty => kI_isUp (d := 0) ty hI) ⟨by omega, by omega⟩ ⟨by decide, by decide⟩ (Nat.le_of_ble_eq_true rfl) (fun v u hk ad => by obtain ⟨⟨y, rfl⟩, -⟩ := hk; rfl) (fun v u H locs xu hk hB hS => ?_)
  obtain ⟨⟨z606, rfl⟩, hI⟩ := hk
  obtain ⟨e1, e2⟩ := lc_acc (cells := cells) (slots := slots) xu
  generalize cells + (Z.2.2.2.2.2.1 - u.2.2.2.2.2.1) = cells1 at e1 ⊢
  generalize slots + (Z.2.2.2.2.2.2 - u.2.2.2.2.2.2) = slots1 at e2 ⊢
  refine lv_pop hx hb dL_law_609 rfl ?_
  refine lv_aload_n hx hb dL_law_610 rfl (lv_at hl 2 rfl) ?_
  refine lb_ref (k := 106) (mm := 195) (d := 14) (As := []) (rest := []) hB hS hx hb hml hown hkw hfx hl.1 nc_106 nl_106 ni_106 ns_106 rfl (show (parseMethodDescriptor (mjQQ mjYN 195).1.desc).map (fun d => d.parameters.length) = some 0 by decide +kernel) dL_law_611 (Nat.le_of_ble_eq_true rfl) (fun _ => rfl) (fun tm dB am => w_isUp hG tm) ⟨by omega, by omega⟩ ⟨by decide, by decide⟩ (Nat.le_of_ble_eq_true rfl) (fun v u2 H locs hk hB hS => ?_)
  obtain ⟨⟨⟨z611, rfl⟩, hG⟩, hT2⟩ := hk
  refine lv_pop hx hb dL_law_614 rfl ?_
  refine lv_goto (tgt := 643) hx hb dL_law_615 (by decide) ?_
  exact kk u u2 H locs ls cells1 slots1 f g n hB hS hI hG (hT2.trans hT) (by omega) (by omega) (by omega) (by omega) hl
set_option maxHeartbeats 4000000 in
theorem lc_18 (C : lwC p l s m args c b L xs) (hj : 6 * j + 6 ≤ L) (hB : LB dC dI s x m9 o9 H Z σ) (hS : va_S (AL s) s.heap H locs) (hI : INV f n Z) (hG : GI σ g) (hT : σ.1 113 = nI n) (hf : 20 ≤ f) (hg : 20 ≤ g) (hc : cells + Z.2.2.2.2.2.1 + 1 ≤ room_1.cells ∧ slots + Z.2.2.2.2.2.2 + 6 ≤ room_1.slots) (hl : lv_has ls 7 (LVs j o9 m9 x b))
    (kk : ∀ (Z' : kS) (σ' : mjS) (H' : Heap) (locs' : List Loc) (ls' : Array Slot) (cells' slots' f' g' n' : Nat), LB dC dI s x m9 o9 H' Z' σ' → va_S (AL s) s.heap H' locs' → INV f' n' Z' → GI σ' g' → σ'.1 113 = nI n' → f ≤ f' + 20 → g ≤ g' + 20 → cells' + Z'.2.2.2.2.2.1 ≤ cells + Z.2.2.2.2.2.1 + 1 → slots' + Z'.2.2.2.2.2.2 ≤ slots + Z.2.2.2.2.2.2 + 6 → lv_has ls' 7 (LVs j o9 m9 x b) → W p l e room_1 s m args below meth c H' locs' cells' slots' Q (F0 m 643 ls' [])) : W p l e room_1 s m args below meth c H locs cells slots Q (F0 m 618 ls []) := by
  obtain ⟨hx, hb, hml, hown, hkw, hfx, hU, hX, hbl, hL, hlt⟩ := C
  have hbA : ¬ AL s b := Nat.not_le.mpr hbl
  have hn : n ≤ 10240 := by have := hI.n; omega

  refine lv_aload_n hx hb dL_law_618 rfl (lv_at hl 3 rfl) ?_
  refine lv_aload_n hx hb dL_law_619 rfl (lv_at hl 4 rfl) ?_
  refine lv_iload hx hb dL_law_620 (lv_at hl 0 rfl) ?_
  refine lv_iconst (v := 1) hx hb dL_law_622 (by decide) ?_
  refine lv_iadd hx hb dL_law_623 ?_
  refine va_sld hx hb hX hbl hbA hS (ld_in (c := 1) hj hL rfl (by decide)) dL_law_624 ?_
  refine lv_topi (fun y1 h_y1 => ?_)
  refine lb_class (k := 107) (mm := 19) (d := 0) (As := [.int y1]) (rest := []) hB hS hx hb hml hown hkw hfx hl.1 nc_107 nl_107 ni_107 ns_107 rfl (show (parseMethodDescriptor (kQQ kYN 19).1.desc).map (fun d => d.parameters.length) = some 1 by decide +kernel) dL_law_625 (by decide) (Nat.le_of_ble_eq_true rfl) (Nat.le_of_ble_eq_true rfl) (fun _ => rfl) (fun ty => kI_total (d := 0) ty hI y1) ⟨by omega, by omega⟩ ⟨by decide, by decide⟩ (Nat.le_of_ble_eq_true rfl) (fun v u hk ad => by obtain ⟨⟨y, rfl⟩, -⟩ := hk; rfl) (fun v u H locs xu hk hB hS => ?_)
  obtain ⟨⟨z625, rfl⟩, hI⟩ := hk
  obtain ⟨e1, e2⟩ := lc_acc (cells := cells) (slots := slots) xu
  generalize cells + (Z.2.2.2.2.2.1 - u.2.2.2.2.2.1) = cells1 at e1 ⊢
  generalize slots + (Z.2.2.2.2.2.2 - u.2.2.2.2.2.2) = slots1 at e2 ⊢
  refine lv_pop hx hb dL_law_628 rfl ?_
  refine lv_aload_n hx hb dL_law_629 rfl (lv_at hl 2 rfl) ?_
  refine lv_aload_n hx hb dL_law_630 rfl (lv_at hl 4 rfl) ?_
  refine lv_iload hx hb dL_law_631 (lv_at hl 0 rfl) ?_
  refine lv_iconst (v := 1) hx hb dL_law_633 (by decide) ?_
  refine lv_iadd hx hb dL_law_634 ?_
  refine va_sld hx hb hX hbl hbA hS (ld_in (c := 1) hj hL rfl (by decide)) dL_law_635 ?_
  refine lv_topi (fun y2 h_y2 => ?_)
  refine lb_ref (k := 110) (mm := 196) (d := 14) (As := [.int y2]) (rest := []) hB hS hx hb hml hown hkw hfx hl.1 nc_110 nl_110 ni_110 ns_110 rfl (show (parseMethodDescriptor (mjQQ mjYN 196).1.desc).map (fun d => d.parameters.length) = some 1 by decide +kernel) dL_law_636 (Nat.le_of_ble_eq_true rfl) (fun _ => rfl) (fun tm dB am => w_total hG tm y2) ⟨by omega, by omega⟩ ⟨by decide, by decide⟩ (Nat.le_of_ble_eq_true rfl) (fun v u2 H locs hk hB hS => ?_)
  obtain ⟨⟨⟨z636, rfl⟩, hG⟩, hT2⟩ := hk
  refine lv_pop hx hb dL_law_639 rfl ?_
  refine lv_goto (tgt := 643) hx hb dL_law_640 (by decide) ?_
  exact kk u u2 H locs ls cells1 slots1 f g n hB hS hI hG (hT2.trans hT) (by omega) (by omega) (by omega) (by omega) hl
end LCASE
