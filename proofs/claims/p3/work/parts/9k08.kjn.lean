/-! The step of the second reader. -/
section KJU2
variable {l : Launch} {dC : Nat → ClassId} {dI : Nat → Nat → Nat} {dA : Nat → ClassId} {ad : Nat → Nat} {p : Program} {e : Env} {R : Room} {s : State} {mi : MethodId} {args : Array Value} {below : List Frame} {meth : Method} {c : Code} {A : Nat → Prop} {Qx : State → Prop}
theorem va_nd_of : ∀ l : List Nat, l.Nodup → va_nd l = true := by
  intro l
  induction l with
  | nil => intro _; rfl
  | cons a l ih =>
    intro h
    rw [List.nodup_cons] at h
    unfold va_nd
    rw [ih h.2, Bool.and_true]
    exact decide_eq_true h.1
theorem va_nd_range (n : Nat) : va_nd (List.range n) = true := va_nd_of _ List.nodup_range
/-- a method's end -/
theorem kj_out {σ σ0 : kS} {K : kK} {H : Heap} {locs : List Loc} {cells slots n0 : Nat} {v : Option Value} {g : JFrame} (ty : kTY σ) (hP : va_P (dC, dI) classes (kW dA ad σ) H) (hK : va_K (dC, dI) classes (kTyp dA) s) (hD : va_D A (kW dA ad σ)) (hS : va_S A s.heap H locs) (hc : cells + σ.2.2.2.2.2.1 = R.cells ∧ slots + σ.2.2.2.2.2.2 = R.slots ∧ σ.2.2.2.2.1 = n0 + cells) (hR : R.cells = σ0.2.2.2.2.2.1 ∧ R.slots = σ0.2.2.2.2.2.2) (hx : kEx σ0 σ) (hk : K v σ)
    (hw : W p l e R s mi args below meth c H locs cells slots (MQ below (fun _ st oc t => oc = .returned (v.map (mjR ad)) ∧ t.heap = H ∧ s.WarmedH t.vm ∧ va_F A st t) args s cells slots A) g) : W p l e R s mi args below meth c H locs cells slots (MQ below (kjQ dC dI dA ad σ0 K A) args s σ0.2.2.2.2.2.1 σ0.2.2.2.2.2.2 A) g := by
  refine kj_end hw (fun o t L hq hf => ?_) (by omega) (by omega)
  obtain ⟨q1, q2, q3, q4⟩ := hq
  refine ⟨⟨v, σ, q1, ty, hx, hk, ⟨by rw [q2]; exact hP, va_K.moved q3.alike hK, hD⟩, L, kj_fe hf (by omega) (by omega)⟩, q4⟩
set_option maxHeartbeats 4000000 in
/-- a new value -/
theorem kj_newV {σ : kS} {nL n0 pc : Nat} {lv : mjL} {st : List Value} {cc : ByteArray}
    (hx : p.tables.exec = Jvm.exec) (hb : c.code = cc) (hml : c.maxLocals = nL) (hown : s.vm.findClass "KeySteward$Keys" = some mi.cls) (hkw : ∀ w ∈ kw, w.before args s = true) (hK : va_K (dC, dI) classes (kTyp dA) s) (hfx : fx s) (hA : ∀ a : Nat, s.heap.size ≤ a → A a) (hA2 : ∀ a : Nat, A a → s.heap.size ≤ a ∨ ∃ h, h < n0 ∧ a = ad h) (had : kAd ad n0 s.heap.size) (hw : kVaW)
    (d0 : decode cc pc = .ok (.new 18, 3)) (d3 : decode cc (pc + 3) = .ok (.dup, 1)) (d4 : decode cc (pc + 4) = .ok (.aload_n 0, 1)) (d5 : decode cc (pc + 5) = .ok (.invokespecial 120, 3)) (hl0 : lv[0]? = some (some (.ref 59))) (hR : 3 ≤ R.frames ∧ 41 * 3 ≤ R.locals) (hcc : 1 ≤ σ.2.2.2.2.2.1 ∧ 9 ≤ σ.2.2.2.2.2.2) (hcat : (st.map fun v => v.category).sum ≤ 5)
    (hG : kjT p l e R s mi args below meth c A Qx dC dI dA ad n0 nL (pc + 8) lv (.ref σ.2.2.2.2.1 :: st) (kVal σ)) : kjT p l e R s mi args below meth c A Qx dC dI dA ad n0 nL pc lv st σ := by
  intro H locs ls cells slots ty hP hD hS hl hc
  have hw' := hw
  obtain ⟨⟨w1, w2, w3, w4, w5, w6⟩, -⟩ := hw'
  refine va_new (own := "KeySteward$Keys") (C := RX10) (T := TX10) (N := 9) (ci := 11) hx hb hkw kin_X10 tyX10 tyX10_ok hown (hkw _ w5) (hkw _ w6) (hkw _ w2) hK hP hD hS hA rfl (fs := kV0) df_X10 (by omega) (by omega) d0 (fun q H1 hP1 hD1 hS1 => ?_)
  refine kj_size fun hsz => ?_
  have hq := kj_fresh ty hD1 hP1 hA2 had hc.2.2 (by omega)
  subst hq
  have e3 : pc + 3 + 1 = pc + 4 := rfl
  refine lv_dup hx hb d3 rfl ?_
  refine lv_aload_n hx hb d4 rfl (mjLd_at hl hl0) ?_
  have hn : σ.2.2.2.2.1 = (kW dA ad σ).length := kW_len.symm
  have hlast : (kW dA ad σ ++ [(ad σ.2.2.2.2.1, .inr (11, kV0))])[σ.2.2.2.2.1]? = some (ad σ.2.2.2.2.1, .inr (11, kV0)) := by
    rw [List.getElem?_append_right (by rw [kW_len]; exact Nat.le_refl _), kW_len, Nat.sub_self]; rfl
  have hC : ([σ.2.2.2.2.1] : List Nat).map (fun i => (kW dA ad σ ++ [(ad σ.2.2.2.2.1, .inr (11, kV0))])[i]?) = ([(ad σ.2.2.2.2.1, .inr (11, kV0))] : va_W).map some := by
    show [(kW dA ad σ ++ [(ad σ.2.2.2.2.1, .inr (11, kV0))])[σ.2.2.2.2.1]?] = _
    rw [hlast]; rfl
  have hRr : (List.range σ.2.2.2.2.1).map (fun i => (kW dA ad σ ++ [(ad σ.2.2.2.2.1, .inr (11, kV0))])[i]?) = (kW dA ad σ).map some := by
    apply List.ext_getElem?
    intro j
    rw [List.getElem?_map, List.getElem?_map]
    by_cases cj : j < σ.2.2.2.2.1
    · rw [List.getElem?_range cj, kW_get cj]
      show some ((kW dA ad σ ++ [(ad σ.2.2.2.2.1, .inr (11, kV0))])[j]?) = _
      rw [List.getElem?_append_left (by rw [kW_len]; exact cj), kW_get cj]; rfl
    · rw [List.getElem?_eq_none (by rw [List.length_range]; omega), List.getElem?_eq_none (by rw [kW_len]; omega)]; rfl
  have hP0 : va_P (dC, dI) classes [(ad σ.2.2.2.2.1, .inr (11, kV0))] H1 := fun k q hk => by
    have hz : k < 1 := (List.getElem?_eq_some_iff.mp hk).1
    rw [show k = 0 by omega] at hk
    cases hk
    exact hP1 _ _ hlast
  have hD0 : va_D (fun _ => True) [(ad σ.2.2.2.2.1, (.inr (11, kV0) : va_E))] := ⟨fun i j a b hi hj _ => by
    have h1 : i < 1 := (List.getElem?_eq_some_iff.mp hi).1
    have h2 : j < 1 := (List.getElem?_eq_some_iff.mp hj).1
    omega, fun _ _ _ => trivial⟩
  have cw : CallB R s args "KeySteward$Keys" 120 yVal prog_12_method_1_code 2 none (Cond.code yVal prog_12_method_1_code 2 none :: kw) { frames := 1, cells := 0, slots := 0, locals := 41 } 0 0 1 := callB_of 1 hkw (kwI w1) rfl rfl rfl (hkw _ w2) (hkw _ w4) ⟨by decide +kernel, by decide +kernel, by decide +kernel⟩ ⟨by show 1 + 1 ≤ _; omega, by show 8 + (2 + 11) + 41 ≤ _; omega⟩
  have hp : PreS s H1 (va_Pc [.ref (ad σ.2.2.2.2.1), .ref (ad 59)] (pW (dC, dI) [(ad σ.2.2.2.2.1, .inr (11, kV0))] (kTyp dA) H1.size)) [.ref (ad σ.2.2.2.2.1), .ref (ad 59)] := ⟨fbW, pW_in hP0 hK hD0 hfx⟩
  have run := va_runI (b := ad σ.2.2.2.2.1) (As := [.ref (ad 59)]) (g := F0 mi (pc + 5) ls (.ref (ad 59) :: .ref (ad σ.2.2.2.2.1) :: .ref (ad σ.2.2.2.2.1) :: st.map (mjR ad))) (locs := locs) (cells := cells + 1) (slots := slots + 9) (e := e) (below := below) (meth := meth) (rest := .ref (ad σ.2.2.2.2.1) :: st.map (mjR ad)) ⟨hx, hb, hml, hown, hkw⟩ (kj_valM (l := l) hw dC dI (kTyp dA) (ad σ.2.2.2.2.1) (ad 59) H1.size) ⟨cw, rfl, hkw _ w3⟩ hp rfl rfl hl.1 rfl (lv_room (by
    show 1 + ((st.map (mjR ad)).map fun v => v.category).sum ≤ 8
    have := kj_cat (ad := ad) (r := st) (by omega)
    rw [List.map_map, show (fun v : Value => v.category) ∘ mjR ad = fun v => v.category from funext fun v => mjR_cat ad v]; omega)) d5 ⟨by show cells + 1 + 0 ≤ _; omega, by show slots + 9 + 0 ≤ _; omega⟩
  have hAn : A (ad σ.2.2.2.2.1) := hD1.2 _ _ hlast
  have hF : ∀ q : Nat, va_A [(ad σ.2.2.2.2.1, (.inr (11, kV0) : va_E))] H1.size q → A q := by
    rintro q (⟨k, w, hk⟩ | h)
    · have hz : k < 1 := (List.getElem?_eq_some_iff.mp hk).1
      rw [show k = 0 by omega] at hk
      cases hk; exact hAn
    · exact hA q (Nat.le_trans hS1.1 h)
  refine va_callv (a := #[]) run hS1 (fun q _ h => hF q h) hF (fun u t H2 locs2 ht hvm _ hB hz2 hk2 hS2 => ?_)
  obtain ⟨hB1, hB2⟩ := hB
  rw [ht] at hB1
  obtain ⟨j1, j2⟩ := va_join hP1 hD1 [σ.2.2.2.2.1] (List.range σ.2.2.2.2.1) hC hRr (va_nd_range _) (fun i hi hi2 => by
    have h1 := List.mem_range.mp hi
    have h2 := List.mem_singleton.mp hi2
    omega) hk2 hF hB1 hB2
  have e59 : mjR ad (va_rf (some 59)) = .ref (ad 59) := rfl
  have eW : kW dA ad σ ++ [(ad σ.2.2.2.2.1, .inr (11, kV1 (ad 59)))] = kW dA ad (kVal σ) := by
    refine kW_push rfl (fun h hh => kE_congr (kUp_n (by omega)) (kUp_n (by omega)) (kUp_n (by omega)) (kUp_n (by omega))) ?_
    have f1 : (kVal σ).2.2.2.1 σ.2.2.2.2.1 = (11, 0) := kUp_s
    have f2 : (kVal σ).1 σ.2.2.2.2.1 = fun _ => 0 := kUp_s
    have f3 : (kVal σ).2.1 σ.2.2.2.2.1 = vp_updL (fun _ => 0) 3 9223372036854775807 := kUp_s
    have f4 : (kVal σ).2.2.1 σ.2.2.2.2.1 = va_up (fun _ => none) 0 (some 59) := kUp_s
    unfold kE
    rw [f1, if_pos (by decide)]
    have f5 : ∀ x, kFv (kVal σ) 11 σ.2.2.2.2.1 x = kFv ((fun _ _ => 0), (fun _ => vp_updL (fun _ => 0) 3 9223372036854775807), (fun _ => va_up (fun _ => none) 0 (some 59)), σ.2.2.2) 11 0 x := fun x => by
      unfold kFv; rw [f2, f3, f4]
    show Sum.inr (11, (List.range (kNf 11)).map (fun x => mjR ad (kFv (kVal σ) 11 σ.2.2.2.2.1 x))) = _
    have f6 : (fun x => mjR ad (kFv (kVal σ) 11 σ.2.2.2.2.1 x)) = fun x => mjR ad (kFv ((fun _ _ => 0), (fun _ => vp_updL (fun _ => 0) 3 9223372036854775807), (fun _ => va_up (fun _ => none) 0 (some 59)), σ.2.2.2) 11 0 x) := funext fun x => by rw [f5]
    rw [f6]; rfl
  rw [eW] at j1 j2
  exact hG H2 locs2 ls (cells + 1 + 0) (slots + 9 + 0) (kTY_val ty hcc.1) j1 j2 hS2 hl ⟨by show cells + 1 + 0 + (σ.2.2.2.2.2.1 - 1) = _; omega, by show slots + 9 + 0 + (σ.2.2.2.2.2.2 - 9) = _; omega, by show σ.2.2.2.2.1 + 1 = _; omega⟩
end KJU2
