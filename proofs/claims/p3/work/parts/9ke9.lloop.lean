/-! The law's loop. -/
section LLOOP
def R_law : String := "KeyStewardLaw"
def lw_P (b : Addr) (xs : List Int32) (args : Array Value) (s : State) : Prop := args = #[.ref b] ∧ s.IntsAt b xs ∧ xs.length ≤ 3072 ∧ (Jvm.Cond.and given_1 narrow_1).before args s = true
def lw_Q (_ : Array Value) (s : State) (o : Outcome) (t : State) : Prop := o = .returned (some (.int 1)) ∧ Framed s o t [] room_1.cells room_1.slots
def lw_Z (below : List Frame) (a : Array Value) (s : State) : State → Prop := fun t => ∃ o, t.status = .running ∧ Ended t below o ∧ lw_Q a s o t
theorem lw_ret {p : Program} {l : Launch} {e : Env} {s : State} {m : MethodId} {below : List Frame} {meth : Method} {c : Code} {b : Nat} (hx : p.tables.exec = Jvm.exec) (hb : c.code = code) (hr : meth.sig.returnType = ret) (hlocks : meth.locks = false) {pc : Nat} {H : Heap} {ls : Array Slot} (hdg : decode code pc = .ok (.ireturn, 1)) : W p l e room_1 s m #[Value.ref b] below meth c H [] room_1.cells room_1.slots (lw_Z below #[Value.ref b] s) (F0 m pc ls [.int 1]) := by
  intro T hT X
  obtain ⟨fs, hret, hrun, hended, hW, hframe⟩ := X.leave (v := some (.int 1)) (hlocks := hlocks) (fun h => by rw [hr] at h; cases h)
  have hmeth' : T.vm.method? m = some meth := X.method'
  refine ⟨T.setFrames fs, ?_, .returned (some (.int 1)), hrun, hended, rfl, ⟨_, rfl⟩, hW, hframe⟩
  jvm_step X.here [X.here.top, hx, hb, hdg, hmeth', hr, ret, narrow_b1]
  (try refine ⟨rfl, ?_⟩); (try refine ⟨rfl, ?_⟩)
  first | (intro acts; rw [hret _ acts rfl rfl rfl]) | rw [hret _ _ rfl rfl rfl]
  exact Steps.refl _
theorem lp_go {L j : Nat} {y : Int32} (hL : L ≤ 3072) (hj : j ≤ 512) (ey : y = Int32.ofNat L - 6) (h : ¬ y < nI (6 * j)) : 6 * j + 6 ≤ L := by
  subst ey
  apply Decidable.byContradiction
  intro hn
  apply h
  rw [Int32.lt_iff_toInt_lt]
  have h1 : (nI (6 * j)).toInt = ((6 * j : Nat) : Int) := nI_toInt (by omega)
  have h2 : (Int32.ofNat L).toInt = (L : Int) := nI_toInt (n := L) (by omega)
  have h3 : (Int32.ofNat L - 6).toInt = (L : Int) - 6 := by
    rw [Int32.toInt_sub, h2, show (6 : Int32).toInt = 6 from by decide]
    have e : (2 : Nat) ^ 32 = 4294967296 := by decide
    unfold Int.bmod
    rw [e]
    have hd : ((L : Int) - 6) % ((4294967296 : Nat) : Int) = (L : Int) - 6 ∨ ((L : Int) - 6) % ((4294967296 : Nat) : Int) = (L : Int) - 6 + 4294967296 := by omega
    dsimp only
    rcases hd with hd | hd
    · rw [hd]; split <;> omega
    · rw [hd]; split <;> omega
  rw [h1, h3]
  omega
theorem lp_inc {j : Nat} : nI (6 * j) + Int32.ofInt 6 = nI (6 * (j + 1)) := by
  have : Int32.ofInt 6 = nI 6 := by decide
  rw [this, show 6 * (j + 1) = 6 * j + 6 from by omega]
  unfold nI
  rw [← Int32.ofNat_add]
variable {p : Program} {l : Launch} {e : Env} {s : State} {m : MethodId} {below : List Frame} {meth : Method} {c : Code} {dC : Nat → ClassId} {dI : Nat → Nat → Nat} {x m9 o9 b L : Nat} {xs : Nat → Int32}
set_option maxHeartbeats 4000000 in
theorem lw_loop (C : lwC p l s m #[.ref b] c b L xs) (hr : meth.sig.returnType = ret) (hlocks : meth.locks = false) : ∀ (n j : Nat), n = 512 - j → j ≤ 512 → ∀ (Z : kS) (σ : mjS) (H : Heap) (locs : List Loc) (ls : Array Slot) (cells slots f g n' : Nat), LB dC dI s x m9 o9 H Z σ → va_S (AL s) s.heap H locs → INV f n' Z → GI σ g → σ.1 113 = nI n' → 20 * (512 - j) ≤ f → 20 * (512 - j) ≤ g → cells + Z.2.2.2.2.2.1 + (512 - j) ≤ room_1.cells → slots + Z.2.2.2.2.2.2 + 6 * (512 - j) ≤ room_1.slots → lv_has ls 7 (LVs j o9 m9 x b) → W p l e room_1 s m #[Value.ref b] below meth c H locs cells slots (lw_Z below #[Value.ref b] s) (F0 m 23 ls []) := by
  intro n
  induction n with
  | zero =>
    intro j en ej Z σ H locs ls cells slots f g n' hB hS hI hG hT hf hg hc hs hl
    obtain ⟨hx, hb, hml, hown, hkw, hfx, hU, hX, hbl, hL, hlt⟩ := C
    have hbA : ¬ AL s b := Nat.not_le.mpr hbl
    refine lv_iload hx hb dL_law_23 (lv_at hl 0 rfl) ?_
    refine lv_aload_n hx hb dL_law_25 rfl (lv_at hl 4 rfl) ?_
    refine va_slen hx hb hX hbl hbA hS dL_law_26 ?_
    refine lv_bipush (v := 6) hx hb dL_law_27 (by decide) ?_
    refine lv_isub hx hb dL_law_29 ?_
    refine lv_topi (fun y ey => ?_)
    refine lv_icmp_gt (tgt := 649) hx hb dL_law_30 (by decide) (fun c6 => ?_) (fun c6 => absurd (lp_go hL ej ey c6) (by omega))
    refine lv_iconst (v := 1) hx hb dL_law_649 (by decide) ?_
    refine va_forget (fun q hq => hS.2.2 q hq) ?_
    refine W.widen (k := room_1.cells) (n := room_1.slots) (by omega) (by omega) ?_
    exact lw_ret hx hb hr hlocks dL_law_650
  | succ n ih =>
    intro j en ej Z σ H locs ls cells slots f g n' hB hS hI hG hT hf hg hc hs hl
    have C1 := C
    obtain ⟨hx, hb, hml, hown, hkw, hfx, hU, hX, hbl, hL, hlt⟩ := C
    have hbA : ¬ AL s b := Nat.not_le.mpr hbl
    refine lv_iload hx hb dL_law_23 (lv_at hl 0 rfl) ?_
    refine lv_aload_n hx hb dL_law_25 rfl (lv_at hl 4 rfl) ?_
    refine va_slen hx hb hX hbl hbA hS dL_law_26 ?_
    refine lv_bipush (v := 6) hx hb dL_law_27 (by decide) ?_
    refine lv_isub hx hb dL_law_29 ?_
    refine lv_topi (fun y ey => ?_)
    refine lv_icmp_gt (tgt := 649) hx hb dL_law_30 (by decide) (fun c6 => ?_) (fun c6 => ?_)
    · refine lv_iconst (v := 1) hx hb dL_law_649 (by decide) ?_
      refine va_forget (fun q hq => hS.2.2 q hq) ?_
      refine W.widen (k := room_1.cells) (n := room_1.slots) (by omega) (by omega) ?_
      exact lw_ret hx hb hr hlocks dL_law_650
    · have hj := lp_go hL ej ey c6
      have fin : ∀ (Z' : kS) (σ' : mjS) (H' : Heap) (locs' : List Loc) (ls' : Array Slot) (cells' slots' f' g' n2 : Nat), LB dC dI s x m9 o9 H' Z' σ' → va_S (AL s) s.heap H' locs' → INV f' n2 Z' → GI σ' g' → σ'.1 113 = nI n2 → f ≤ f' + 20 → g ≤ g' + 20 → cells' + Z'.2.2.2.2.2.1 ≤ cells + Z.2.2.2.2.2.1 + 1 → slots' + Z'.2.2.2.2.2.2 ≤ slots + Z.2.2.2.2.2.2 + 6 → lv_has ls' 7 (LVs j o9 m9 x b) → W p l e room_1 s m #[Value.ref b] below meth c H' locs' cells' slots' (lw_Z below #[Value.ref b] s) (F0 m 643 ls' []) := by
        intro Z' σ' H' locs' ls' cells' slots' f' g' n2 hB' hS' hI' hG' hT' a1 a2 a3 a4 hl'
        refine lv_iinc (k := 0) (v := nI (6 * (j + 1))) (lv' := LVs (j + 1) o9 m9 x b) hx hb dL_law_643 hl' rfl lp_inc (by decide) rfl (fun ls hl => ?_)
        refine lv_goto (tgt := 23) hx hb dL_law_646 (by decide) ?_
        exact ih (j + 1) (by omega) (by omega) Z' σ' H' locs' ls cells' slots' f' g' n2 hB' hS' hI' hG' hT' (by omega) (by omega) (by omega) (by omega) hl
      have h1 : cells + Z.2.2.2.2.2.1 + 1 ≤ room_1.cells ∧ slots + Z.2.2.2.2.2.2 + 6 ≤ room_1.slots := ⟨by omega, by omega⟩
      refine lv_aload_n hx hb dL_law_33 rfl (lv_at hl 4 rfl) ?_
      refine lv_iload hx hb dL_law_34 (lv_at hl 0 rfl) ?_
      refine va_sld hx hb hX hbl hbA hS (ld_in0 hj hL) dL_law_36 ?_
      refine lv_topi (fun y2 _ => ?_)
      refine lv_bipush (v := 31) hx hb dL_law_37 (by decide) ?_
      refine lv_iand hx hb dL_law_39 ?_
      refine lv_topi (fun x158 ex158 => ?_)
      obtain ⟨j9, hj9, ej9⟩ := pk_andE y2 (m := 31) 5 (by decide)
      have hj9 : j9 < 32 := hj9
      rcases (show j9 = 0 ∨ j9 = 1 ∨ j9 = 2 ∨ j9 = 3 ∨ j9 = 4 ∨ j9 = 5 ∨ j9 = 6 ∨ j9 = 7 ∨ j9 = 8 ∨ j9 = 9 ∨ j9 = 10 ∨ j9 = 11 ∨ j9 = 12 ∨ j9 = 13 ∨ j9 = 14 ∨ j9 = 15 ∨ j9 = 16 ∨ j9 = 17 ∨ j9 = 18 ∨ 19 ≤ j9 by omega) with rfl | rfl | rfl | rfl | rfl | rfl | rfl | rfl | rfl | rfl | rfl | rfl | rfl | rfl | rfl | rfl | rfl | rfl | rfl | h19
      · obtain rfl : x158 = 0 := ex158.trans ej9
        refine lv_tableIn (off := 92) (tgt := 132) hx hb dL_law_40 (by decide) (by decide) (by decide) (by decide) ?_
        exact lc_0 C1 hj hB hS hI hG hT (by omega) (by omega) h1 hl fin
      · obtain rfl : x158 = 1 := ex158.trans ej9
        refine lv_tableIn (off := 165) (tgt := 205) hx hb dL_law_40 (by decide) (by decide) (by decide) (by decide) ?_
        exact lc_1 C1 hj hB hS hI hG hT (by omega) (by omega) h1 hl fin
      · obtain rfl : x158 = 2 := ex158.trans ej9
        refine lv_tableIn (off := 190) (tgt := 230) hx hb dL_law_40 (by decide) (by decide) (by decide) (by decide) ?_
        exact lc_2 C1 hj hB hS hI hG hT (by omega) (by omega) h1 hl fin
      · obtain rfl : x158 = 3 := ex158.trans ej9
        refine lv_tableIn (off := 215) (tgt := 255) hx hb dL_law_40 (by decide) (by decide) (by decide) (by decide) ?_
        exact lc_3 C1 hj hB hS hI hG hT (by omega) (by omega) h1 hl fin
      · obtain rfl : x158 = 4 := ex158.trans ej9
        refine lv_tableIn (off := 240) (tgt := 280) hx hb dL_law_40 (by decide) (by decide) (by decide) (by decide) ?_
        exact lc_4 C1 hj hB hS hI hG hT (by omega) (by omega) h1 hl fin
      · obtain rfl : x158 = 5 := ex158.trans ej9
        refine lv_tableIn (off := 265) (tgt := 305) hx hb dL_law_40 (by decide) (by decide) (by decide) (by decide) ?_
        exact lc_5 C1 hj hB hS hI hG hT (by omega) (by omega) h1 hl fin
      · obtain rfl : x158 = 6 := ex158.trans ej9
        refine lv_tableIn (off := 290) (tgt := 330) hx hb dL_law_40 (by decide) (by decide) (by decide) (by decide) ?_
        exact lc_6 C1 hj hB hS hI hG hT (by omega) (by omega) h1 hl fin
      · obtain rfl : x158 = 7 := ex158.trans ej9
        refine lv_tableIn (off := 330) (tgt := 370) hx hb dL_law_40 (by decide) (by decide) (by decide) (by decide) ?_
        exact lc_7 C1 hj hB hS hI hG hT (by omega) (by omega) h1 hl fin
      · obtain rfl : x158 = 8 := ex158.trans ej9
        refine lv_tableIn (off := 367) (tgt := 407) hx hb dL_law_40 (by decide) (by decide) (by decide) (by decide) ?_
        exact lc_8 C1 hj hB hS hI hG hT (by omega) (by omega) h1 hl fin
      · obtain rfl : x158 = 9 := ex158.trans ej9
        refine lv_tableIn (off := 424) (tgt := 464) hx hb dL_law_40 (by decide) (by decide) (by decide) (by decide) ?_
        exact lc_9 C1 hj hB hS hI hG hT (by omega) (by omega) h1 hl fin
      · obtain rfl : x158 = 10 := ex158.trans ej9
        refine lv_tableIn (off := 437) (tgt := 477) hx hb dL_law_40 (by decide) (by decide) (by decide) (by decide) ?_
        exact lc_10 C1 hj hB hS hI hG hT (by omega) (by omega) h1 hl fin
      · obtain rfl : x158 = 11 := ex158.trans ej9
        refine lv_tableIn (off := 460) (tgt := 500) hx hb dL_law_40 (by decide) (by decide) (by decide) (by decide) ?_
        exact lc_11 C1 hj hB hS hI hG hT (by omega) (by omega) h1 hl fin
      · obtain rfl : x158 = 12 := ex158.trans ej9
        refine lv_tableIn (off := 473) (tgt := 513) hx hb dL_law_40 (by decide) (by decide) (by decide) (by decide) ?_
        exact lc_12 C1 hj hB hS hI hG hT (by omega) (by omega) h1 hl fin
      · obtain rfl : x158 = 13 := ex158.trans ej9
        refine lv_tableIn (off := 486) (tgt := 526) hx hb dL_law_40 (by decide) (by decide) (by decide) (by decide) ?_
        exact lc_13 C1 hj hB hS hI hG hT (by omega) (by omega) h1 hl fin
      · obtain rfl : x158 = 14 := ex158.trans ej9
        refine lv_tableIn (off := 499) (tgt := 539) hx hb dL_law_40 (by decide) (by decide) (by decide) (by decide) ?_
        exact lc_14 C1 hj hB hS hI hG hT (by omega) (by omega) h1 hl fin
      · obtain rfl : x158 = 15 := ex158.trans ej9
        refine lv_tableIn (off := 512) (tgt := 552) hx hb dL_law_40 (by decide) (by decide) (by decide) (by decide) ?_
        exact lc_15 C1 hj hB hS hI hG hT (by omega) (by omega) h1 hl fin
      · obtain rfl : x158 = 16 := ex158.trans ej9
        refine lv_tableIn (off := 540) (tgt := 580) hx hb dL_law_40 (by decide) (by decide) (by decide) (by decide) ?_
        exact lc_16 C1 hj hB hS hI hG hT (by omega) (by omega) h1 hl fin
      · obtain rfl : x158 = 17 := ex158.trans ej9
        refine lv_tableIn (off := 565) (tgt := 605) hx hb dL_law_40 (by decide) (by decide) (by decide) (by decide) ?_
        exact lc_17 C1 hj hB hS hI hG hT (by omega) (by omega) h1 hl fin
      · obtain rfl : x158 = 18 := ex158.trans ej9
        refine lv_tableIn (off := 578) (tgt := 618) hx hb dL_law_40 (by decide) (by decide) (by decide) (by decide) ?_
        exact lc_18 C1 hj hB hS hI hG hT (by omega) (by omega) h1 hl fin
      · have ex : x158 = nI j9 := ex158.trans ej9
        have h2 : x158.toInt = (j9 : Int) := by rw [ex]; exact nI_toInt (by omega)
        refine lv_tableOut (tgt := 643) hx hb dL_law_40 (Or.inr (by rw [h2]; omega)) (by decide) ?_
        exact fin Z σ H locs ls cells slots f g n' hB hS hI hG hT (by omega) (by omega) (by omega) (by omega) hl
end LLOOP
