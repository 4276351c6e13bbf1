/-! The law's own outAt and logAt: what is thrown is caught. -/
section LHLP
abbrev lOut (o9 : Nat) (ko : ClassId) (go : Nat → Int64) : va_W := [(o9, .inl (ko, 1, .inr (.inl go)))]
def lP (dC : Nat → ClassId) (dI : Nat → Nat → Nat) (dA : Nat → ClassId) (ad : Nat → Nat) (σ : kS) (o9 : Nat) (ko : ClassId) (go : Nat → Int64) (sz : Nat) (U : State) : Prop := kPx dC dI dA ad σ sz U ∧ va_P (dC, dI) classes (lOut o9 ko go) U.heap ∧ va_K (dC, dI) classes [(ko, .long)] U ∧ va_D (fun _ => True) (kW dA ad σ ++ lOut o9 ko go)
abbrev lQ (dC : Nat → ClassId) (dI : Nat → Nat → Nat) (dA : Nat → ClassId) (ad : Nat → Nat) (σ : kS) (o9 : Nat) (ko : ClassId) (go : Nat → Int64) (sz : Nat) : Array Value → State → Outcome → State → Prop := va_Qi (fun (_ : Int32) (_ : Nat → Int64) => True) (fun g t => va_P (dC, dI) classes (kW dA ad σ ++ lOut o9 ko g) t.heap) (va_A (kW dA ad σ ++ lOut o9 ko go) sz)
variable {l : Launch} {dC : Nat → ClassId} {dI : Nat → Nat → Nat} {dA : Nat → ClassId} {ad : Nat → Nat} {σ : kS} {o9 : Nat} {ko : ClassId} {go : Nat → Int64}
theorem lP_blind {sz : Nat} {av : List Value} : FrameBlind (va_Pc av (lP dC dI dA ad σ o9 ko go sz)) := fun a U g mk q => by
  obtain ⟨q0, q1, q2, q3, q4⟩ := q
  exact ⟨q0, (kPx_blind (av := av) a U g mk ⟨q0, q1⟩).2, q2, va_K.moved (u := U) (U := U.calling g mk a) (Vm.Alike.refl U.vm) q3, q4⟩
theorem kPx_in {s : State} {A : Nat → Prop} {H : Heap} {locs : List Loc} {av : List Value} (hP : va_P (dC, dI) classes (kW dA ad σ) H) (hK : va_K (dC, dI) classes (kTyp dA) s) (hD : va_D A (kW dA ad σ)) (hfx : fx s) (hX : kX ad A s s.heap) (hU : tU A s s.heap) (hS : va_S A s.heap H locs) (hA : ∀ a : Nat, s.heap.size ≤ a → A a) : ∀ U : State, U.heap = H → s.WarmedH U.vm → va_Pc av (kPx dC dI dA ad σ H.size) av.toArray U :=
  fun U hU' hW => ⟨rfl, (kP_in (av := av) hP hK hD hfx hX hS hA U hU' hW).2, by
    rw [hU']
    refine ((hU.warm hW).kept hS.2.1).narrow ?_
    rintro a (⟨k, w, hk⟩ | h)
    · exact hD.2 k (a, w) hk
    · exact hA a (Nat.le_trans hS.1 h)⟩
theorem lW_at : (kW dA ad σ ++ lOut o9 ko go)[σ.2.2.2.2.1]? = some (o9, .inl (ko, 1, .inr (.inl go))) := by
  rw [List.getElem?_append_right (by rw [kW_len]; exact Nat.le_refl _), kW_len, Nat.sub_self]; rfl
theorem lW_set {x : Nat × va_E} : (kW dA ad σ ++ lOut o9 ko go).set σ.2.2.2.2.1 x = kW dA ad σ ++ [x] := by
  rw [List.set_append_right _ _ (by rw [kW_len]; exact Nat.le_refl _), kW_len, Nat.sub_self]; rfl
theorem lW_lo {k : Nat} {q : Nat × va_E} (h : (kW dA ad σ)[k]? = some q) : (kW dA ad σ ++ lOut o9 ko go)[k]? = some q := by
  rw [List.getElem?_append_left (List.getElem?_eq_some_iff.mp h).1]; exact h
theorem lW_A {a sz : Nat} (h : va_A (kW dA ad σ) sz a) : va_A (kW dA ad σ ++ lOut o9 ko go) sz a := by
  rcases h with ⟨k, w, hk⟩ | h
  · exact Or.inl ⟨k, w, lW_lo hk⟩
  · exact Or.inr h
theorem lW_n {sz : Nat} (hD : va_D (fun _ => True) (kW dA ad σ ++ lOut o9 ko go)) (hs : o9 < sz) : ¬ va_A (kW dA ad σ) sz o9 := by
  rintro (⟨k, w, hk⟩ | h)
  · have e := hD.1 k σ.2.2.2.2.1 (o9, w) _ (lW_lo hk) lW_at rfl
    have := (List.getElem?_eq_some_iff.mp hk).1
    rw [kW_len] at this
    omega
  · omega
theorem lW_P {H : Heap} (hP : va_P (dC, dI) classes (kW dA ad σ) H) (ho : va_P (dC, dI) classes (lOut o9 ko go) H) : va_P (dC, dI) classes (kW dA ad σ ++ lOut o9 ko go) H := va_P.app hP ho

set_option maxHeartbeats 4000000 in
theorem la_outAt (hlt : l.stackTraces = false) (ty : kTY σ) (hB : BYn σ) (hc1 : σ.2.2.2.2.2.1 = 1) (hs1 : σ.2.2.2.2.2.2 = 6) (x1 x2 : Int32) (sz : Nat) (had : kAd ad σ.2.2.2.2.1 sz) : Met l yL_outAt (Cond.codeWith yL_outAt cL_outAt 5 (some .int) [(0, 10, 13, 13)] :: kw) { frames := 10, cells := 1, slots := 6, locals := 410 } (va_Pc [.ref (ad 0), .int x1, .int x2, .ref o9] (lP dC dI dA ad σ o9 ko go sz)) (lQ dC dI dA ad σ o9 ko go sz) 1 6 (va_A (kW dA ad σ ++ lOut o9 ko go) sz) := by
  refine va_MetW (cc := cL_outAt) (maxL := 5) (ret := (some .int)) (hh := [(0, 10, 13, 13)]) (by decide) rfl ?_
  intro p e s m args below meth c s₁ B hml hv
  obtain ⟨rfl, ⟨⟨hsz, hP, hK, hD0, hfx, hX⟩, hU⟩, hPo, hKo, hDw⟩ := hv
  have hx := B.exec
  have hb := B.bytes
  have hr := B.returns
  have hts := atoms_spec (ws := (Cond.codeWith yL_outAt cL_outAt 5 (some .int) [(0, 10, 13, 13)] :: kw)) B.pre
  have hkw : ∀ w ∈ kw, w.before _ s = true := fun w h => hts w (List.mem_cons_of_mem _ h)
  have htab := vx_table (x := yL_outAt) B (hts _ List.mem_cons_self)
  have hown : s.vm.findClass RL = some m.cls := findClass_of_methodNamed B.named
  have hlocks := B.notSynchronized
  subst hsz
  have hD := hD0.self (sz := s.heap.size)
  have hDl := hDw.self (sz := s.heap.size)
  have hol : o9 < s.heap.size := (hPo 0 _ rfl).lt
  have hno := lW_n hDw hol
  have hAo : va_A (kW dA ad σ ++ lOut o9 ko go) s.heap.size o9 := va_A.in lW_at
  have hA : ∀ q : Nat, s.heap.size ≤ q → va_A (kW dA ad σ) s.heap.size q := fun q h => Or.inr h
  have hS : va_S (va_A (kW dA ad σ ++ lOut o9 ko go) s.heap.size) s.heap s.heap [] := va_S.rf
  have k0 : (σ.2.2.2.1 0).1 = 9 := ty.k (h := 0) (c := 9) (by decide) rfl
  have hob := kW_ob (dA := dA) (ad := ad) ty k0 (by decide)
  have hl := lv_entry ([.ref (ad 0), .int x1, .int x2, .ref o9]) (n := 5) (Nat.le_of_ble_eq_true rfl)
  rw [lg_entry_eq]
  generalize (lg_sl ([.ref (ad 0), .int x1, .int x2, .ref o9]) ++ List.replicate (5 - (lg_sl ([.ref (ad 0), .int x1, .int x2, .ref o9])).length) Slot.unset).toArray = ls at hl ⊢
  have hl : lv_has ls 5 [(0, .ref (ad 0)), (1, .int x1), (2, .int x2), (3, .ref o9)] := hl
  refine lv_aload_n hx hb dL_outAt_0 rfl (lv_at hl 3 rfl) ?_
  refine lv_iconst (v := 0) hx hb dL_outAt_1 (by decide) ?_
  refine lv_aload_n hx hb dL_outAt_2 rfl (lv_at hl 0 rfl) ?_
  refine lv_iload_n hx hb dL_outAt_3 rfl (lv_at hl 1 rfl) ?_
  refine lv_iload_n hx hb dL_outAt_4 rfl (lv_at hl 2 rfl) ?_
  refine vx_calli (A0 := va_A (kW dA ad σ ++ lOut o9 ko go) s.heap.size) (H0 := s.heap) (vx_runV (As := [.int x1, .int x2]) (rest := [.int 0, .ref o9]) (bytes := (kQQ kYN 7).2.1) ⟨hx, hb, hml, hown, hkw⟩ (kv_outAt (dC := dC) (dI := dI) (dA := dA) (ad := ad) hlt ty hB hc1 hs1 x1 x2 s.heap.size had) (callVv 2 hkw (kwI nc_7) rfl hc1 hs1 (hkw _ nw_iC) (hkw _ nl_7) (hkw _ ni_7) (hkw _ ns_7) (by decide +kernel) ⟨by show 8 + 1 ≤ 10; decide, by show 8 + (4 + 11) + 41 * 8 ≤ 410; decide⟩) ⟨kPx_blind, va_recv hK hP (ci := 9) (q0 := 0) rfl hob, kPx_in hP hK hD hfx hX hU va_S.rf hA⟩ rfl rfl hl.1 rfl (lv_room (Nat.le_of_ble_eq_true rfl)) dL_outAt_5 ⟨by show 0 + 1 ≤ 1; decide, by show 0 + 6 ≤ 6; decide⟩) hS (fun q _ h => lW_A h) (fun q h => lW_A h) (fun q _ h => lW_A h) (fun E ce q9 u t H1 locs1 ht hvm _ hBX hz1 hk1 hS1 hce hv hcl => ?_) (fun r u t H1 locs1 ht hvm _ hBB hz1 hk1 hS1 => ?_)
  · obtain ⟨hE, hP1⟩ := hBX
    obtain rfl : E = _ := hE
    rw [ht] at hP1
    refine lx_catch (own := RL) (name := "java/util/NoSuchElementException") hown { startPc := 0, endPc := 10, handlerPc := 13, catchType := 13 } [] (by rw [htab]; rfl) rfl (by decide) (hkw _ nk_0) (va_Nw.use rfl hU.2.2.2.2.2) hce hv hcl ?_
    have ho1 : va_P (dC, dI) classes (lOut o9 ko go) H1 := fun k q hq => (hPo k q hq).kept (by
      have : q = (o9, .inl (ko, 1, .inr (.inl go))) := by
        cases k with
        | zero => cases hq; rfl
        | succ k => cases hq
      subst this
      exact hk1 o9 hol hno)
    refine lv_astore (lv' := [(4, .ref q9), (0, .ref (ad 0)), (1, .int x1), (2, .int x2), (3, .ref o9)]) hx hb dL_outAt_13 hl (by decide) rfl (fun ls hl => ?_)
    refine lv_iconst (v := 1) hx hb dL_outAt_15 (by decide) ?_
    exact W.iret (v := 1) hx hb hr (fun t ht hW => ⟨⟨1, go, rfl, trivial, (by show va_P _ _ _ t.heap; rw [ht]; exact lW_P hP1 ho1)⟩, hS1.F ht⟩) hS1.2.2 dL_outAt_16
  · have hP1 : va_P (dC, dI) classes (kW dA ad σ) H1 := by rw [← ht]; exact hBB
    have ho1 : va_P (dC, dI) classes (lOut o9 ko go) H1 := fun k q hq => (hPo k q hq).kept (by
      have : q = (o9, .inl (ko, 1, .inr (.inl go))) := by
        cases k with
        | zero => cases hq; rfl
        | succ k => cases hq
      subst this
      exact hk1 o9 hol hno)
    refine lv_i2l hx hb dL_outAt_8 rfl ?_
    refine va_last (D := (dC, dI)) (A := va_A (kW dA ad σ ++ lOut o9 ko go) s.heap.size) hx hb hKo (lW_P hP1 ho1) hDl hS1 σ.2.2.2.2.1 0 lW_at rfl (by unfold vp_in; decide) dL_outAt_9 (fun H2 locs2 hP2 hD2 hS2 => ?_)
    rw [lW_set] at hP2
    refine lv_goto (tgt := 17) hx hb dL_outAt_10 (by decide) ?_
    refine lv_iconst (v := 0) hx hb dL_outAt_17 (by decide) ?_
    exact W.iret (v := 0) hx hb hr (fun t ht hW => ⟨⟨0, vp_updL go 0 r.toInt64, rfl, trivial, (by show va_P _ _ _ t.heap; rw [ht]; exact hP2)⟩, hS2.F ht⟩) hS2.2.2 dL_outAt_18

set_option maxHeartbeats 4000000 in
theorem la_logAt (hlt : l.stackTraces = false) (ty : kTY σ) (hB : BYn σ) {b : Nat} (hb57 : b ∈ [5, 7]) (hj : σ.2.2.1 0 10 = some b) (hc1 : σ.2.2.2.2.2.1 = 1) (hs1 : σ.2.2.2.2.2.2 = 6) (x1 : Int32) (sz : Nat) (had : kAd ad σ.2.2.2.2.1 sz) : Met l yL_logAt (Cond.codeWith yL_logAt cL_logAt 4 (some .int) [(0, 9, 12, 13)] :: kw) { frames := 10, cells := 1, slots := 6, locals := 410 } (va_Pc [.ref (ad 0), .int x1, .ref o9] (lP dC dI dA ad σ o9 ko go sz)) (lQ dC dI dA ad σ o9 ko go sz) 1 6 (va_A (kW dA ad σ ++ lOut o9 ko go) sz) := by
  refine va_MetW (cc := cL_logAt) (maxL := 4) (ret := (some .int)) (hh := [(0, 9, 12, 13)]) (by decide) rfl ?_
  intro p e s m args below meth c s₁ B hml hv
  obtain ⟨rfl, ⟨⟨hsz, hP, hK, hD0, hfx, hX⟩, hU⟩, hPo, hKo, hDw⟩ := hv
  have hx := B.exec
  have hb := B.bytes
  have hr := B.returns
  have hts := atoms_spec (ws := (Cond.codeWith yL_logAt cL_logAt 4 (some .int) [(0, 9, 12, 13)] :: kw)) B.pre
  have hkw : ∀ w ∈ kw, w.before _ s = true := fun w h => hts w (List.mem_cons_of_mem _ h)
  have htab := vx_table (x := yL_logAt) B (hts _ List.mem_cons_self)
  have hown : s.vm.findClass RL = some m.cls := findClass_of_methodNamed B.named
  have hlocks := B.notSynchronized
  subst hsz
  have hD := hD0.self (sz := s.heap.size)
  have hDl := hDw.self (sz := s.heap.size)
  have hol : o9 < s.heap.size := (hPo 0 _ rfl).lt
  have hno := lW_n hDw hol
  have hAo : va_A (kW dA ad σ ++ lOut o9 ko go) s.heap.size o9 := va_A.in lW_at
  have hA : ∀ q : Nat, s.heap.size ≤ q → va_A (kW dA ad σ) s.heap.size q := fun q h => Or.inr h
  have hS : va_S (va_A (kW dA ad σ ++ lOut o9 ko go) s.heap.size) s.heap s.heap [] := va_S.rf
  have k0 : (σ.2.2.2.1 0).1 = 9 := ty.k (h := 0) (c := 9) (by decide) rfl
  have hob := kW_ob (dA := dA) (ad := ad) ty k0 (by decide)
  have hl := lv_entry ([.ref (ad 0), .int x1, .ref o9]) (n := 4) (Nat.le_of_ble_eq_true rfl)
  rw [lg_entry_eq]
  generalize (lg_sl ([.ref (ad 0), .int x1, .ref o9]) ++ List.replicate (4 - (lg_sl ([.ref (ad 0), .int x1, .ref o9])).length) Slot.unset).toArray = ls at hl ⊢
  have hl : lv_has ls 4 [(0, .ref (ad 0)), (1, .int x1), (2, .ref o9)] := hl
  refine lv_aload_n hx hb dL_logAt_0 rfl (lv_at hl 2 rfl) ?_
  refine lv_iconst (v := 0) hx hb dL_logAt_1 (by decide) ?_
  refine lv_aload_n hx hb dL_logAt_2 rfl (lv_at hl 0 rfl) ?_
  refine lv_iload_n hx hb dL_logAt_3 rfl (lv_at hl 1 rfl) ?_
  refine vx_calli (A0 := va_A (kW dA ad σ ++ lOut o9 ko go) s.heap.size) (H0 := s.heap) (vx_runV (As := [.int x1]) (rest := [.int 0, .ref o9]) (bytes := (kQQ kYN 16).2.1) ⟨hx, hb, hml, hown, hkw⟩ (kv_logAt (dC := dC) (dI := dI) (dA := dA) (ad := ad) hlt ty hB hb57 hj hc1 hs1 x1 s.heap.size had) (callVv 1 hkw (kwI nc_15) rfl hc1 hs1 (hkw _ nw_iC) (hkw _ nl_15) (hkw _ ni_15) (hkw _ ns_15) (by decide +kernel) ⟨by show 8 + 1 ≤ 10; decide, by show 8 + (2 + 11) + 41 * 8 ≤ 410; decide⟩) ⟨kPx_blind, va_recv hK hP (ci := 9) (q0 := 0) rfl hob, kPx_in hP hK hD hfx hX hU va_S.rf hA⟩ rfl rfl hl.1 rfl (lv_room (Nat.le_of_ble_eq_true rfl)) dL_logAt_4 ⟨by show 0 + 1 ≤ 1; decide, by show 0 + 6 ≤ 6; decide⟩) hS (fun q _ h => lW_A h) (fun q h => lW_A h) (fun q _ h => lW_A h) (fun E ce q9 u t H1 locs1 ht hvm _ hBX hz1 hk1 hS1 hce hv hcl => ?_) (fun r u t H1 locs1 ht hvm _ hBB hz1 hk1 hS1 => ?_)
  · obtain ⟨hE, hP1⟩ := hBX
    obtain rfl : E = _ := hE
    rw [ht] at hP1
    refine lx_catch (own := RL) (name := "java/util/NoSuchElementException") hown { startPc := 0, endPc := 9, handlerPc := 12, catchType := 13 } [] (by rw [htab]; rfl) rfl (by decide) (hkw _ nk_0) (va_Nw.use rfl hU.2.2.2.2.2) hce hv hcl ?_
    have ho1 : va_P (dC, dI) classes (lOut o9 ko go) H1 := fun k q hq => (hPo k q hq).kept (by
      have : q = (o9, .inl (ko, 1, .inr (.inl go))) := by
        cases k with
        | zero => cases hq; rfl
        | succ k => cases hq
      subst this
      exact hk1 o9 hol hno)
    refine lv_astore_n (lv' := [(3, .ref q9), (0, .ref (ad 0)), (1, .int x1), (2, .ref o9)]) hx hb dL_logAt_12 rfl hl (by decide) rfl (fun ls hl => ?_)
    refine lv_iconst (v := 1) hx hb dL_logAt_13 (by decide) ?_
    exact W.iret (v := 1) hx hb hr (fun t ht hW => ⟨⟨1, go, rfl, trivial, (by show va_P _ _ _ t.heap; rw [ht]; exact lW_P hP1 ho1)⟩, hS1.F ht⟩) hS1.2.2 dL_logAt_14
  · have hP1 : va_P (dC, dI) classes (kW dA ad σ) H1 := by rw [← ht]; exact hBB
    have ho1 : va_P (dC, dI) classes (lOut o9 ko go) H1 := fun k q hq => (hPo k q hq).kept (by
      have : q = (o9, .inl (ko, 1, .inr (.inl go))) := by
        cases k with
        | zero => cases hq; rfl
        | succ k => cases hq
      subst this
      exact hk1 o9 hol hno)
    refine lv_i2l hx hb dL_logAt_7 rfl ?_
    refine va_last (D := (dC, dI)) (A := va_A (kW dA ad σ ++ lOut o9 ko go) s.heap.size) hx hb hKo (lW_P hP1 ho1) hDl hS1 σ.2.2.2.2.1 0 lW_at rfl (by unfold vp_in; decide) dL_logAt_8 (fun H2 locs2 hP2 hD2 hS2 => ?_)
    rw [lW_set] at hP2
    refine lv_goto (tgt := 15) hx hb dL_logAt_9 (by decide) ?_
    refine lv_iconst (v := 0) hx hb dL_logAt_15 (by decide) ?_
    exact W.iret (v := 0) hx hb hr (fun t ht hW => ⟨⟨0, vp_updL go 0 r.toInt64, rfl, trivial, (by show va_P _ _ _ t.heap; rw [ht]; exact hP2)⟩, hS2.F ht⟩) hS2.2.2 dL_logAt_16

end LHLP
