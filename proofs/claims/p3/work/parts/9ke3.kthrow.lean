/-! outAt and logAt of the class: they answer, or they throw. -/
section KTHR
def NSE : String := "java/util/NoSuchElementException"
/-- what a throw finds -/
def tU (A : Nat → Prop) (U : State) (H : Heap) : Prop := vx_Zq "java/lang/Throwable" "UNASSIGNED_STACK" "[Ljava/lang/StackTraceElement;" A U H ∧ vx_Zq "java/lang/Throwable" "SUPPRESSED_SENTINEL" "Ljava/util/List;" A U H ∧ xexF U
theorem tU.kept {A : Nat → Prop} {U : State} {H H1 : Heap} (h : tU A U H) (hq : ∀ a : Nat, a < H.size → ¬ A a → H1[a]? = H[a]?) : tU A U H1 := ⟨h.1.kept hq, h.2.1.kept hq, h.2.2⟩
theorem tU.narrow {A B : Nat → Prop} {U : State} {H : Heap} (h : tU A U H) (hq : ∀ q, B q → A q) : tU B U H := ⟨h.1.narrow hq, h.2.1.narrow hq, h.2.2⟩
theorem tU.warm {A : Nat → Prop} {s U : State} {H : Heap} (h : tU A s H) (hW : s.WarmedH U.vm) : tU A U H := ⟨h.1.moved hW.alike, h.2.1.moved hW.alike, xexF_moved hW h.2.2⟩
def kPx (dC : Nat → ClassId) (dI : Nat → Nat → Nat) (dA : Nat → ClassId) (ad : Nat → Nat) (σ : kS) (sz : Nat) (U : State) : Prop := kP dC dI dA ad σ sz U ∧ tU (va_A (kW dA ad σ) sz) U U.heap
theorem kPx_blind {dC : Nat → ClassId} {dI : Nat → Nat → Nat} {dA : Nat → ClassId} {ad : Nat → Nat} {σ : kS} {sz : Nat} {av : List Value} : FrameBlind (va_Pc av (kPx dC dI dA ad σ sz)) := fun a U g mk q => by
  obtain ⟨q0, q1, qU, qN, qF⟩ := q
  exact ⟨q0, (kP_blind (av := av) a U g mk ⟨q0, q1⟩).2, vx_Zq.moved (u := U) (U := U.calling g mk a) (Vm.Alike.refl U.vm) qU, vx_Zq.moved (u := U) (U := U.calling g mk a) (Vm.Alike.refl U.vm) qN, qF⟩
/-- every Bytes has its row -/
def BYn (σ : kS) : Prop := ∀ b ∈ OWb, ∃ r N, σ.2.2.1 b 1 = some r ∧ σ.2.2.2.1 r = (21, N) ∧ N ≤ 600000
abbrev kvQ (dC : Nat → ClassId) (dI : Nat → Nat → Nat) (dA : Nat → ClassId) (ad : Nat → Nat) (σ : kS) (sz : Nat) : Array Value → State → Outcome → State → Prop := va_Qi (fun (_ : Int32) (_ : Unit) => True) (fun _ t => va_P (dC, dI) classes (kW dA ad σ) t.heap) (va_A (kW dA ad σ) sz)
abbrev kvX (dC : Nat → ClassId) (dI : Nat → Nat → Nat) (dA : Nat → ClassId) (ad : Nat → Nat) (σ : kS) (sz : Nat) : String → State → State → Prop := vx_X (fun _ : Unit => True) (fun E _ t => E = NSE ∧ va_P (dC, dI) classes (kW dA ad σ) t.heap) (va_A (kW dA ad σ) sz)
variable {l : Launch} {dC : Nat → ClassId} {dI : Nat → Nat → Nat} {dA : Nat → ClassId} {ad : Nat → Nat} {σ : kS}
theorem va_P_up {ws : va_W} {H H1 : Heap} (hP : va_P (dC, dI) classes ws H) (h : ∀ q : Nat, q < H.size → H1[q]? = H[q]?) : va_P (dC, dI) classes ws H1 := fun k q hq => (hP k q hq).kept (h q.1 (hP k q hq).lt)
variable {p : Program} {e : Env} {R : Room} {s : State} {mi : MethodId} {args : Array Value} {below : List Frame} {meth : Method} {c : Code} {H : Heap} {locs : List Loc} {ls : Array Slot} {Qc : Array Value → State → Outcome → State → Prop}
set_option maxHeartbeats 4000000 in
theorem kv_throw {cc : ByteArray} {pc cells slots : Nat} (hx : p.tables.exec = Jvm.exec) (hb : c.code = cc) (hlt : l.stackTraces = false) (hown : s.vm.findClass RX12 = some mi.cls) (hkw : ∀ w ∈ kw, w.before args s = true) (hU : tU (va_A (kW dA ad σ) s.heap.size) s s.heap) (hS : va_S (va_A (kW dA ad σ) s.heap.size) s.heap H locs) (hsz : ls.size = c.maxLocals)
    (d0 : decode cc pc = .ok (.new 175, 3)) (d3 : decode cc (pc + 3) = .ok (.dup, 1)) (d4 : decode cc (pc + 4) = .ok (.invokespecial 177, 3)) (d7 : decode cc (pc + 7) = .ok (.athrow, 1)) (htab : ∀ x ∈ c.exceptionTable.toList, False) (hlocks : meth.locks = false) (hR : 6 ≤ R.frames ∧ 82 ≤ R.locals ∧ 1 ≤ R.cells ∧ 6 ≤ R.slots) (h0 : cells = 0 ∧ slots = 0) (hP : va_P (dC, dI) classes (kW dA ad σ) H) : W p l e R s mi args below meth c H locs cells slots (vx_MQ below Qc (kvX dC dI dA ad σ s.heap.size) args s 1 6 (va_A (kW dA ad σ) s.heap.size)) (F0 mi pc ls []) := by
  obtain ⟨rfl, rfl⟩ := h0
  have hex : ∀ w ∈ exW, w.before args s = true := fun w h => hkw w (exW_kw w h)
  have hcl0 : (Cond.classLink RX12 175 "java/util/NoSuchElementException").before args s = true := hkw _ (exK_kw _ (List.mem_of_getElem? (i := 0) rfl))
  have hin0 : (Cond.initialized "java/util/NoSuchElementException").before args s = true := hkw _ (exK_kw _ (List.mem_of_getElem? (i := 1) rfl))
  exact vx_throw0 (own := RX12) (cls := "java/util/NoSuchElementException") (names := ["java/lang/RuntimeException", "java/lang/Exception"]) (ik := 175) (ic := 177) (A := va_A (kW dA ad σ) s.heap.size) hx hb hlt hown (by decide) (by decide) hcl0 hin0 (vx_hat hex exB_in (xexF_at hU.2.2)) ex_good hU.1 hU.2.1 hS hsz d0 d3 d4 d7 (fun x9 h9 => absurd (htab x9 h9) id) (by show 2 + 3 < R.frames; omega) (by show 0 + (13 * (2 + 1) + 42) ≤ R.locals; omega) (by omega) (by omega) hlocks (fun t9 _ h1 h2 => ⟨(), trivial, ⟨rfl, va_P_up hP h2⟩, Nat.le_trans hS.1 h1, fun q hq hA9 => (h2 q (Nat.lt_of_lt_of_le hq hS.1)).trans (hS.2.1 q hq hA9)⟩) hS.2.2 (by omega) (by omega)
/-- behind the look, the answer -/
theorem kv_ret {sz : Nat} {A : Nat → Prop} {g : JFrame} {cells slots : Nat} {K : kK} {mc ms : Nat} (hK : ∀ v z, K v z → z = σ ∧ ∃ y, v = some (.int y)) (h : W p l e R s mi args below meth c H locs cells slots (MQ below (kjQ dC dI dA ad σ K (va_A (kW dA ad σ) sz)) args s mc ms A) g) : W p l e R s mi args below meth c H locs cells slots (vx_MQ below (kvQ dC dI dA ad σ sz) (kvX dC dI dA ad σ sz) args s mc ms A) g := by
  refine vx_ret (W.imp h (fun t ht => ?_))
  obtain ⟨o, h1, h2, ⟨⟨v, z, e1, e2, e3, e4, e5, e6⟩, h5⟩, h4⟩ := ht
  obtain ⟨rfl, y, rfl⟩ := hK v z e4
  exact ⟨o, h1, h2, ⟨⟨y, (), e1, trivial, e5.1⟩, h5⟩, h4⟩
set_option maxHeartbeats 4000000 in
theorem kv_outAt (hlt : l.stackTraces = false) (ty : kTY σ) (hB : BYn σ) (hc1 : σ.2.2.2.2.2.1 = 1) (hs1 : σ.2.2.2.2.2.2 = 6) (x1 x2 : Int32) (sz : Nat) (had : kAd ad σ.2.2.2.2.1 sz) : vx_Met l (kQQ kYN 7).1 (Cond.code (kQQ kYN 7).1 (kQQ kYN 7).2.1 4 (some .int) :: kw) (kRm 8 σ) (va_Pc [.ref (ad 0), .int x1, .int x2] (kPx dC dI dA ad σ sz)) (kvQ dC dI dA ad σ sz) (kvX dC dI dA ad σ sz) 1 6 (va_A (kW dA ad σ) sz) := by
  refine vx_ofW (cc := (kQQ kYN 7).2.1) (maxL := 4) (ret := (some .int)) (by decide +kernel) rfl ?_
  intro p e s mi args below meth c s₁ B hml htab hv
  obtain ⟨rfl, ⟨hsz, hP, hK, hD0, hfx, hX⟩, hU⟩ := hv
  have hx := B.exec
  have hb := B.bytes
  have hr := B.returns
  have hts := atoms_spec (ws := (Cond.code (kQQ kYN 7).1 (kQQ kYN 7).2.1 4 (some .int) :: kw)) B.pre
  have hkw : ∀ w ∈ kw, w.before _ s = true := fun w h => hts w (List.mem_cons_of_mem _ h)
  have hown : s.vm.findClass RX12 = some mi.cls := findClass_of_methodNamed B.named
  have hlocks := B.notSynchronized
  subst hsz
  have hD := hD0.self (sz := s.heap.size)
  have hA : ∀ q : Nat, s.heap.size ≤ q → va_A (kW dA ad σ) s.heap.size q := fun q h => Or.inr h
  have hA2 : ∀ a : Nat, va_A (kW dA ad σ) s.heap.size a → s.heap.size ≤ a ∨ ∃ h, h < σ.2.2.2.2.1 ∧ a = ad h := fun a h => (kW_A.mp h).symm
  have hS : va_S (va_A (kW dA ad σ) s.heap.size) s.heap s.heap [] := va_S.rf
  have hRR : 6 ≤ (kRm 8 σ).frames ∧ 82 ≤ (kRm 8 σ).locals ∧ 1 ≤ (kRm 8 σ).cells ∧ 6 ≤ (kRm 8 σ).slots := ⟨by show 6 ≤ 8; decide, by show 82 ≤ 41 * 8; decide, by show 1 ≤ σ.2.2.2.2.2.1; omega, by show 6 ≤ σ.2.2.2.2.2.2; omega⟩
  have hl := lv_entry ([.ref (ad 0), .int x1, .int x2]) (n := 4) (Nat.le_of_ble_eq_true rfl)
  rw [lg_entry_eq]
  generalize (lg_sl ([.ref (ad 0), .int x1, .int x2]) ++ List.replicate (4 - (lg_sl ([.ref (ad 0), .int x1, .int x2])).length) Slot.unset).toArray = ls at hl ⊢
  have hl : lv_has ls 4 [(0, .ref (ad 0)), (1, .int x1), (2, .int x2)] := hl
  refine lv_aload_n hx hb dX12_outAt_0 rfl (lv_at hl 0 rfl) ?_
  refine lv_iload_n hx hb dX12_outAt_1 rfl (lv_at hl 1 rfl) ?_
  obtain ⟨ca, cb, cc, cd⟩ := (kj_ok.2 7 2 2 (.invokevirtual 116) 20 0 (by decide +kernel)).1.2.2 (by decide) (by decide)
  obtain ⟨fC, hC⟩ := k_connOf (Y := kYN) (d := 7) ty x1
  have hM := kj_met2 (l := l) (dC := dC) (dI := dI) (dA := dA) (ad := ad) kj_ok (m := 20) (by decide) (kj_sound2 kj_ok fC) (ar := [.ref 0, .int x1]) (show 2 ≤ 2 from Nat.le_refl _) ty hC
  refine kj_call (own := RX12) (q := kQQ kYN) (x := 20) (k := 116) (pc := 2) (nL := 4) (n0 := σ.2.2.2.2.1) (a := 0) (lv := [some (.ref 0), some (.int x1), some (.int x2), none]) (T := [.int x1]) (r := []) (b := (kQQ kYN 7).2.1) hx hb hml hown hkw hK hfx hX hA had ca cb cc (fun _ => rfl) dX12_outAt_2 ⟨by show 7 + 1 ≤ 8; decide, by show 41 * (7 + 1) ≤ 41 * 8; decide⟩ hM rfl (Or.inl ⟨by decide +kernel, ty.k (h := 0) (c := 9) (by decide) rfl⟩) (by decide) ?_ s.heap [] ls 0 0 ty hP hD hS hl ⟨Nat.zero_add _, Nat.zero_add _, rfl⟩
  rintro v u tu - ⟨rfl, hv⟩ H locs ls cells slots - hP hD hS hl hcc
  have hc0 : cells = 0 ∧ slots = 0 := by
    have h1 : cells + u.2.2.2.2.2.1 = u.2.2.2.2.2.1 := hcc.1
    have h2 : slots + u.2.2.2.2.2.2 = u.2.2.2.2.2.2 := hcc.2.1
    omega
  have hl : lv_has ls 4 [(0, .ref (ad 0)), (1, .int x1), (2, .int x2)] := hl
  rcases hv with rfl | ⟨cn, hcn, rfl⟩
  · show W _ _ _ _ _ _ _ _ _ _ _ _ _ _ _ (F0 mi 5 ls [.null])
    refine lv_astore_nN (lv' := [(3, .null), (0, .ref (ad 0)), (1, .int x1), (2, .int x2)]) hx hb dX12_outAt_5 rfl hl (by decide) rfl (fun ls hl => ?_)
    refine lv_aload_nN hx hb dX12_outAt_6 rfl (lv_at hl 0 rfl) ?_
    refine lv_ifnullN (tgt := 25) hx hb dX12_outAt_7 (by decide) ?_
    exact kv_throw hx hb hlt hown hkw hU hS (by rw [hml]; exact hl.1) dX12_outAt_25 dX12_outAt_28 dX12_outAt_29 dX12_outAt_32 htab hlocks hRR hc0 hP
  · obtain ⟨q1, q2, -, q4, -⟩ := CN_ok cn hcn
    have kc : (u.2.2.2.1 cn).1 = 1 := ty.k q1 q2
    have hob := kW_ob (dA := dA) (ad := ad) ty kc (by decide)
    have eF : u.2.2.1 cn 2 = some (cn + 3) := (ty.2.2.2.2.2.2.2.1 cn 2 (by rw [kc]; decide) (by rw [kc]; decide) |> fun h => by rw [kc] at h; exact h.1)
    have ko : (u.2.2.2.1 (cn + 3)).1 = 0 := (ty.2.2.2.2.2.2.2.1 cn 2 (by rw [kc]; decide) (by rw [kc]; decide) |> fun h => by rw [kc] at h; exact h.2)
    have hoo := kW_ob (dA := dA) (ad := ad) ty ko (by decide)
    obtain ⟨r, N, b1, b2, b3⟩ := hB (cn + 3) q4
    show W _ _ _ _ _ _ _ _ _ _ _ _ _ _ _ (F0 mi 5 ls [.ref (ad cn)])
    refine lv_astore_n (lv' := [(3, .ref (ad cn)), (0, .ref (ad 0)), (1, .int x1), (2, .int x2)]) hx hb dX12_outAt_5 rfl hl (by decide) rfl (fun ls hl => ?_)
    refine lv_aload_n hx hb dX12_outAt_6 rfl (lv_at hl 0 rfl) ?_
    refine lv_ifnull hx hb dX12_outAt_7 ?_
    refine lv_iload_n hx hb dX12_outAt_10 rfl (lv_at hl 3 rfl) ?_
    refine lv_if_lt (tgt := 25) hx hb dX12_outAt_11 (by decide) (fun c_11_0 => ?_) (fun c_11_0 => ?_)
    · exact kv_throw hx hb hlt hown hkw hU hS (by rw [hml]; exact hl.1) dX12_outAt_25 dX12_outAt_28 dX12_outAt_29 dX12_outAt_32 htab hlocks hRR hc0 hP
    · refine lv_iload_n hx hb dX12_outAt_14 rfl (lv_at hl 3 rfl) ?_
      refine lv_aload_n hx hb dX12_outAt_15 rfl (lv_at hl 0 rfl) ?_
      refine va_get (D := (dC, dI)) (ci := 1) (v := .ref (ad (cn + 3))) (C := RX3) (T := TX3) (N := 12) hx hb hkw kin_X3 hown hK hP cn hob rfl 2 (by decide) (hkw _ nf_172) (fun _ h9 => h9) (show some (mjR ad (va_rf (u.2.2.1 cn 2))) = _ by rw [eF]; rfl) dX12_outAt_16 ?_
      refine va_get (D := (dC, dI)) (ci := 0) (v := .int (u.1 (cn + 3) 2)) (C := RX1) (T := TX1) (N := 4) hx hb hkw kin_X1 hown hK hP (cn + 3) hoo rfl 2 (by decide) (hkw _ nf_106) (fun _ h9 => h9) rfl dX12_outAt_19 ?_
      refine lv_icmp_lt (tgt := 33) hx hb dX12_outAt_22 (by decide) (fun c_22_0 => ?_) (fun c_22_0 => ?_)
      · have hy : kjY kPP (kQQ kYN) 8 7 17 [some (.ref 0), some (.int x1), some (.int x2), some (.ref cn)] [] u (fun v z => z = u ∧ ∃ y, v = some (.int y)) := by
          refine kjZ_y rfl rfl 4 _ _ _ _ ty ?_
          refine (And.intro (by assumption) (And.intro (Nat.le_of_ble_eq_true rfl) (And.intro (Or.inl ⟨(Nat.le_of_ble_eq_true rfl), (by assumption)⟩) (And.intro (Nat.le_of_ble_eq_true rfl) (And.intro (Nat.le_of_ble_eq_true rfl) (kjY_mono ty (fun q_ u1 ty1 xu1 h_ => ?_) (k_at ty q4 b1 b2 b3 x2)))))))
          obtain ⟨rfl, y, rfl, -⟩ := h_
          intro _ _
          refine kjZ_y rfl rfl 1 _ _ _ _ ty1 ?_
          refine And.intro rfl (And.intro (Or.inl rfl) ?_)
          exact ⟨rfl, y, rfl⟩
        obtain ⟨fA, hA7⟩ := hy
        have run := kj_sound2 (l := l) (dC := dC) (dI := dI) (dA := dA) (ad := ad) kj_ok fA 8 7 17 _ _ u u _ hA7 rfl kEx.rf p e s mi _ below meth c (va_A (kW dA ad u) s.heap.size) u.2.2.2.2.1 33 hx hb hml hr hown hkw hlocks hK hfx hX hA hA2 had (fun e' he' => by
          have : (kPP 7)[17]? = some (33, .aload_n 3, 0, 0) := by decide +kernel
          rw [this] at he'; cases he'; rfl) H locs ls cells slots ty hP hD hS ⟨hl.1, hl.2.1, fun q hq => hl.2.2 q (by
            have hq : q ∈ [(0, Value.ref (ad 0)), (1, .int x1), (2, .int x2), (3, .ref (ad cn))] := hq
            simp only [List.mem_cons, List.not_mem_nil, or_false] at hq ⊢
            rcases hq with rfl | rfl | rfl | rfl <;> simp)⟩ hcc
        rw [hc1, hs1] at run
        exact kv_ret (fun v z h => h) run
      · exact kv_throw hx hb hlt hown hkw hU hS (by rw [hml]; exact hl.1) dX12_outAt_25 dX12_outAt_28 dX12_outAt_29 dX12_outAt_32 htab hlocks hRR hc0 hP
set_option maxHeartbeats 4000000 in
theorem kv_logAt (hlt : l.stackTraces = false) (ty : kTY σ) (hB : BYn σ) {b : Nat} (hb57 : b ∈ [5, 7]) (hj : σ.2.2.1 0 10 = some b) (hc1 : σ.2.2.2.2.2.1 = 1) (hs1 : σ.2.2.2.2.2.2 = 6) (x1 : Int32) (sz : Nat) (had : kAd ad σ.2.2.2.2.1 sz) : vx_Met l (kQQ kYN 16).1 (Cond.code (kQQ kYN 16).1 (kQQ kYN 16).2.1 2 (some .int) :: kw) (kRm 8 σ) (va_Pc [.ref (ad 0), .int x1] (kPx dC dI dA ad σ sz)) (kvQ dC dI dA ad σ sz) (kvX dC dI dA ad σ sz) 1 6 (va_A (kW dA ad σ) sz) := by
  refine vx_ofW (cc := (kQQ kYN 16).2.1) (maxL := 2) (ret := (some .int)) (by decide +kernel) rfl ?_
  intro p e s mi args below meth c s₁ B hml htab hv
  obtain ⟨rfl, ⟨hsz, hP, hK, hD0, hfx, hX⟩, hU⟩ := hv
  have hx := B.exec
  have hb := B.bytes
  have hr := B.returns
  have hts := atoms_spec (ws := (Cond.code (kQQ kYN 16).1 (kQQ kYN 16).2.1 2 (some .int) :: kw)) B.pre
  have hkw : ∀ w ∈ kw, w.before _ s = true := fun w h => hts w (List.mem_cons_of_mem _ h)
  have hown : s.vm.findClass RX12 = some mi.cls := findClass_of_methodNamed B.named
  have hlocks := B.notSynchronized
  subst hsz
  have hD := hD0.self (sz := s.heap.size)
  have hA : ∀ q : Nat, s.heap.size ≤ q → va_A (kW dA ad σ) s.heap.size q := fun q h => Or.inr h
  have hA2 : ∀ a : Nat, va_A (kW dA ad σ) s.heap.size a → s.heap.size ≤ a ∨ ∃ h, h < σ.2.2.2.2.1 ∧ a = ad h := fun a h => (kW_A.mp h).symm
  have hS : va_S (va_A (kW dA ad σ) s.heap.size) s.heap s.heap [] := va_S.rf
  have hRR : 6 ≤ (kRm 8 σ).frames ∧ 82 ≤ (kRm 8 σ).locals ∧ 1 ≤ (kRm 8 σ).cells ∧ 6 ≤ (kRm 8 σ).slots := ⟨by show 6 ≤ 8; decide, by show 82 ≤ 41 * 8; decide, by show 1 ≤ σ.2.2.2.2.2.1; omega, by show 6 ≤ σ.2.2.2.2.2.2; omega⟩
  have hl := lv_entry ([.ref (ad 0), .int x1]) (n := 2) (Nat.le_of_ble_eq_true rfl)
  rw [lg_entry_eq]
  generalize (lg_sl ([.ref (ad 0), .int x1]) ++ List.replicate (2 - (lg_sl ([.ref (ad 0), .int x1])).length) Slot.unset).toArray = ls at hl ⊢
  have hl : lv_has ls 2 [(0, .ref (ad 0)), (1, .int x1)] := hl
  have k0 : (σ.2.2.2.1 0).1 = 9 := ty.k (h := 0) (c := 9) (by decide) rfl
  have hob := kW_ob (dA := dA) (ad := ad) ty k0 (by decide)
  have ow : b ∈ OWb ∧ b < 76 ∧ (kd0 b).1 = 0 := by
    have : ∀ b ∈ [5, 7], b ∈ OWb ∧ b < 76 ∧ (kd0 b).1 = 0 := by decide
    exact this b hb57
  have kb : (σ.2.2.2.1 b).1 = 0 := ty.k ow.2.1 ow.2.2
  have hoo := kW_ob (dA := dA) (ad := ad) ty kb (by decide)
  obtain ⟨r, N, b1, b2, b3⟩ := hB b ow.1
  refine lv_iload_n hx hb dX12_logAt_0 rfl (lv_at hl 1 rfl) ?_
  refine lv_if_lt (tgt := 15) hx hb dX12_logAt_1 (by decide) (fun c_1_0 => ?_) (fun c_1_0 => ?_)
  · exact kv_throw hx hb hlt hown hkw hU hS (by rw [hml]; exact hl.1) dX12_logAt_15 dX12_logAt_18 dX12_logAt_19 dX12_logAt_22 htab hlocks hRR ⟨rfl, rfl⟩ hP
  · refine lv_iload_n hx hb dX12_logAt_4 rfl (lv_at hl 1 rfl) ?_
    refine lv_aload_n hx hb dX12_logAt_5 rfl (lv_at hl 0 rfl) ?_
    refine va_get (D := (dC, dI)) (ci := 9) (v := .ref (ad b)) (C := RX12) (T := TX12) (N := 18) hx hb hkw kin_X12 hown hK hP 0 hob rfl 10 (by decide) (hkw _ nf_25) (fun _ h9 => h9) (show some (mjR ad (va_rf (σ.2.2.1 0 10))) = _ by rw [hj]; rfl) dX12_logAt_6 ?_
    refine va_get (D := (dC, dI)) (ci := 0) (v := .int (σ.1 b 2)) (C := RX1) (T := TX1) (N := 4) hx hb hkw kin_X1 hown hK hP b hoo rfl 2 (by decide) (hkw _ nf_106) (fun _ h9 => h9) rfl dX12_logAt_9 ?_
    refine lv_icmp_lt (tgt := 23) hx hb dX12_logAt_12 (by decide) (fun c_12_0 => ?_) (fun c_12_0 => ?_)
    · have hy : kjY kPP (kQQ kYN) 8 16 11 [some (.ref 0), some (.int x1)] [] σ (fun v z => z = σ ∧ ∃ y, v = some (.int y)) := by
        refine kjZ_y rfl rfl 4 _ _ _ _ ty ?_
        refine (And.intro (ty.k (by decide) rfl) (Exists.intro _ (And.intro hj (And.intro (Nat.le_of_ble_eq_true rfl) (And.intro (Or.inl ⟨(Nat.le_of_ble_eq_true rfl), (by assumption)⟩) (And.intro (Nat.le_of_ble_eq_true rfl) (And.intro (Nat.le_of_ble_eq_true rfl) (kjY_mono ty (fun q_ u1 ty1 xu1 h_ => ?_) (k_at ty ow.1 b1 b2 b3 x1)))))))))
        obtain ⟨rfl, y, rfl, -⟩ := h_
        intro _ _
        refine kjZ_y rfl rfl 1 _ _ _ _ ty1 ?_
        refine And.intro rfl (And.intro (Or.inl rfl) ?_)
        exact ⟨rfl, y, rfl⟩
      obtain ⟨fA, hA7⟩ := hy
      have run := kj_sound2 (l := l) (dC := dC) (dI := dI) (dA := dA) (ad := ad) kj_ok fA 8 16 11 _ _ σ σ _ hA7 rfl kEx.rf p e s mi _ below meth c (va_A (kW dA ad σ) s.heap.size) σ.2.2.2.2.1 23 hx hb hml hr hown hkw hlocks hK hfx hX hA hA2 had (fun e' he' => by
        have : (kPP 16)[11]? = some (23, .aload_n 0, 0, 0) := by decide +kernel
        rw [this] at he'; cases he'; rfl) s.heap [] ls 0 0 ty hP hD hS hl ⟨Nat.zero_add _, Nat.zero_add _, rfl⟩
      rw [hc1, hs1] at run
      exact kv_ret (fun v z h => h) run
    · exact kv_throw hx hb hlt hown hkw hU hS (by rw [hml]; exact hl.1) dX12_logAt_15 dX12_logAt_18 dX12_logAt_19 dX12_logAt_22 htab hlocks hRR ⟨rfl, rfl⟩ hP
end KTHR
