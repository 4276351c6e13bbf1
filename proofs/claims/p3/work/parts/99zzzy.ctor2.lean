/-! The constructor of the reference, whole. -/
section CTOR2
abbrev dfO (h0 : Nat) : va_W := [(h0, .inr (10, (List.range 116).map dfV))]
def inQ (dC : Nat → ClassId) (dI : Nat → Nat → Nat) (h0 sz : Nat) : Array Value → State → Outcome → State → Prop := va_Qv (fun (z : (Nat → ClassId) × (Nat → Nat) × mjS) => z.2.1 0 = h0 ∧ mjTY z.2.2 ∧ INI z.2.2) (fun z t => mjB dC dI z.1 z.2.1 (va_A (dfO h0) sz) z.2.2 t) (va_A (dfO h0) sz)
set_option maxHeartbeats 4000000 in
set_option maxRecDepth 100000 in
theorem u_init (l : Launch) (dC : Nat → ClassId) (dI : Nat → Nat → Nat) (h0 sz : Nat) : Met l (mjQQ mjYN 1).1 (Cond.code (mjQQ mjYN 1).1 (mjQQ mjYN 1).2.1 2 none :: kw) { frames := 3, cells := 60, slots := 3453384, locals := 123 } (va_Pc [.ref h0] (pW (dC, dI) (dfO h0) [] sz)) (inQ dC dI h0 sz) 60 3453384 (va_A (dfO h0) sz) := by
  refine Met.ofW (cc := (mjQQ mjYN 1).2.1) (maxL := 2) (ret := none) (show plainName RX13 = true by decide +kernel) rfl ?_
  intro p e s mi args below meth c s₁ B hml hv
  obtain ⟨rfl, hsz, hP, hK, hD0, hfx⟩ := hv
  have hx := B.exec
  have hb := B.bytes
  have hr := B.returns
  have hts := atoms_spec (ws := Cond.code (mjQQ mjYN 1).1 (mjQQ mjYN 1).2.1 2 none :: kw) B.pre
  have hkw : ∀ w ∈ kw, w.before _ s = true := fun w h => hts w (List.mem_cons_of_mem _ h)
  have hown : s.vm.findClass RX13 = some mi.cls := findClass_of_methodNamed B.named
  have hlocks := B.notSynchronized
  have hin : meth.name = "<init>" := (name_of_methodNamed B.named B.method).1
  subst hsz
  have hD := hD0.self (sz := s.heap.size)
  have hA : ∀ q : Nat, s.heap.size ≤ q → va_A (dfO h0) s.heap.size q := fun q h => Or.inr h
  have hS : va_S (va_A (dfO h0) s.heap.size) s.heap s.heap [] := va_S.rf
  have hl := lv_entry ([.ref h0]) (n := 2) (Nat.le_of_ble_eq_true rfl)
  rw [lg_entry_eq]
  generalize (lg_sl ([.ref h0]) ++ List.replicate (2 - (lg_sl ([.ref h0])).length) Slot.unset).toArray = ls at hl ⊢
  have hl : lv_has ls 2 [(0, .ref h0)] := hl
  have d0 := (mj_ok 1 0 0 (.aload_n 0) 0 0 (by decide +kernel)).1.1
  have d1 := (mj_ok 1 1 1 (.invokespecial 25) 0 0 (by decide +kernel)).1.1
  refine lv_aload_n hx hb d0 rfl (lv_at hl 0 rfl) ?_
  refine W.objInit hx hb hown (hkw _ m_368) (hkw _ m_1) (hkw _ m_2) rfl (by rw [hml]; exact hl.1) rfl d1 (Nat.le_of_ble_eq_true rfl) (Nat.le_of_ble_eq_true rfl) ?_
  refine W.eq (g2 := F0 mi (pcN (itL.getD 0 0)) ls []) (by rw [na_116.2.2.2.2]) ?_
  have e0 : pW0 (fun _ => dC 0) (fun _ => h0) 0 = dfO h0 := by
    unfold pW0
    show (h0, _) :: [] = _
    refine congrArg (fun x => [(h0, Sum.inr (10, x))]) (List.map_congr_left (fun k _ => ?_))
    unfold pFV
    rw [if_neg (Nat.not_lt_zero k)]
  refine in_all (A := va_A (dfO h0) s.heap.size) (dC := dC) (dI := dI) hx hb hown hkw hin hA ⟨Nat.le_refl _, Nat.le_refl _⟩ hl (fun ck ad H locs e1 hK hP hD hS => ?_) 116 0 rfl (fun _ => dC 0) (fun _ => h0) s.heap [] rfl hK (by rw [e0]; exact hP) (by rw [e0]; exact hD) hS
  rw [na_116.1] at hK
  rw [W_full hK] at hP hD
  rw [na_116.1, na_116.2.1, na_116.2.2.1]
  have hT := K_ty hK
  obtain ⟨f, hX⟩ := c_init_tail (Y := mjYN) (d := 1)
  have hl2 : lv_has ls 2 (mjLs ad 0 [some (.ref 0), none]) := by
    show lv_has ls 2 [(0, .ref (ad 0))]
    rw [e1]; exact hl
  have run := mj_soundC (kc := 60) (ks := 3453384) (l := l) (dA := dAk ck) (ad := ad) (below := below) (e := e) (R := { frames := 3, cells := 60, slots := 3453384, locals := 123 }) (P := mjPP) (q := mjQQ mjYN) mj_ok (d := 3) (m := 1) ⟨Nat.le_refl _, Nat.le_refl _⟩ ⟨Nat.le_refl _, Nat.le_refl _⟩ hx hb hml hr hown hkw hlocks hT hfx hA f 410 [some (.ref 0), none] [] Z0 789 hX rfl (fun e' he' => by
    have : (mjPP 1)[410]? = some (789, .aload_n 0, 0, 0) := by decide +kernel
    rw [this] at he'; cases he'; rfl) H locs ls Z0_ty hP hD hS hl2
  refine W.imp run (fun t ht => ?_)
  obtain ⟨o, h1, h2, h3, h4⟩ := ht
  refine ⟨o, h1, h2, ?_, h4⟩
  obtain ⟨⟨u, g1, g2, g3⟩, g4⟩ := h3
  exact ⟨⟨(dAk ck, ad, u), g1, ⟨e1, g2.1, g2.2.2⟩, g3⟩, g4⟩
end CTOR2
