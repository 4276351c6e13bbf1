/-! What stands from the start: commands, texts, rows of the class; contracts; calls. -/
def kX (ad : Nat → Nat) (A : Nat → Prop) (U : State) (H : Heap) : Prop :=
  (∀ k, k < 105 → va_Z "KeySteward$Command" (kCnm.getD k "") "LKeySteward$Command;" (.ref (ad (1000000 + k))) A U H ∧ va_O "KeySteward$Command" (ad (1000000 + k)) A U H ∧ va_OF "java/lang/Enum" "ordinal" "I" (.int (nI k)) (ad (1000000 + k)) A U H ∧
    va_OF "KeySteward$Command" "least" "I" (.int (kCmd k).1) (ad (1000000 + k)) A U H ∧ va_OF "KeySteward$Command" "most" "I" (.int (kCmd k).2.1) (ad (1000000 + k)) A U H ∧ va_OF "KeySteward$Command" "group" "I" (.int (kCmd k).2.2.1) (ad (1000000 + k)) A U H ∧ va_OF "KeySteward$Command" "marks" "I" (.int (kCmd k).2.2.2.1) (ad (1000000 + k)) A U H ∧
    va_OF "KeySteward$Command" "text" "Ljava/lang/String;" (.ref (ad (2000000 + (kCmd k).2.2.2.2.1))) (ad (1000000 + k)) A U H) ∧
  (∀ k j, k < 105 → j < 105 → ad (1000000 + k) = ad (1000000 + j) → k = j) ∧
  (∀ i, i < 185 → va_O "java/lang/String" (ad (2000000 + i)) A U H ∧ va_OF "java/lang/String" "coder" "B" (.int 0) (ad (2000000 + i)) A U H ∧ va_OF "java/lang/String" "value" "[B" (.ref (ad (3000000 + i))) (ad (2000000 + i)) A U H ∧ va_T .byte (ad (3000000 + i)) (kTx i).2.2.2.length (fun j => .int ((kTx i).2.2.2.getD j 0)) A U H ∧ vk_R (kTx i).1 (kTx i).2.1 (kTx i).2.2.1 (ad (2000000 + i)) U) ∧
  (va_Z "KeySteward$Command" "ALL" "[LKeySteward$Command;" (.ref (ad 4000000)) A U H ∧ va_T (.object "KeySteward$Command") (ad 4000000) 105 (fun j => .ref (ad (1000000 + j))) A U H) ∧
  (va_Z "KeySteward$1" "$SwitchMap$KeySteward$Command" "[I" (.ref (ad 4000001)) A U H ∧ va_T .int (ad 4000001) 105 (fun j => .int (kCmd j).2.2.2.2.2) A U H) ∧
  va_Z "java/lang/String" "COMPACT_STRINGS" "Z" (.int 1) A U H ∧ va_Zq "jdk/internal/util/Preconditions" "SIOOBE_FORMATTER" "Ljava/util/function/BiFunction;" A U H
theorem kX.kept {ad : Nat → Nat} {A : Nat → Prop} {U : State} {H H1 : Heap} (h : kX ad A U H) (hq : ∀ a : Nat, a < H.size → ¬ A a → H1[a]? = H[a]?) : kX ad A U H1 := by
  obtain ⟨h1, h2, h3, h4, h5, h6, h7⟩ := h
  refine ⟨fun k hk => ?_, h2, fun i hi => ?_, ⟨h4.1.kept hq, h4.2.kept hq⟩, ⟨h5.1.kept hq, h5.2.kept hq⟩, h6.kept hq, h7.kept hq⟩
  · obtain ⟨a1, a2, a3, a4, a5, a6, a7, a8⟩ := h1 k hk
    exact ⟨a1.kept hq, a2.kept hq, a3.kept hq, a4.kept hq, a5.kept hq, a6.kept hq, a7.kept hq, a8.kept hq⟩
  · obtain ⟨a1, a2, a3, a4, a5⟩ := h3 i hi
    exact ⟨a1.kept hq, a2.kept hq, a3.kept hq, a4.kept hq, a5⟩
theorem kX.narrow {ad : Nat → Nat} {A B : Nat → Prop} {U : State} {H : Heap} (h : kX ad A U H) (hq : ∀ q, B q → A q) : kX ad B U H := by
  obtain ⟨h1, h2, h3, h4, h5, h6, h7⟩ := h
  refine ⟨fun k hk => ?_, h2, fun i hi => ?_, ⟨h4.1.narrow hq, h4.2.narrow hq⟩, ⟨h5.1.narrow hq, h5.2.narrow hq⟩, h6.narrow hq, h7.narrow hq⟩
  · obtain ⟨a1, a2, a3, a4, a5, a6, a7, a8⟩ := h1 k hk
    exact ⟨a1.narrow hq, a2.narrow hq, a3.narrow hq, a4.narrow hq, a5.narrow hq, a6.narrow hq, a7.narrow hq, a8.narrow hq⟩
  · obtain ⟨a1, a2, a3, a4, a5⟩ := h3 i hi
    exact ⟨a1.narrow hq, a2.narrow hq, a3.narrow hq, a4.narrow hq, a5⟩
theorem kX.warm {ad : Nat → Nat} {A : Nat → Prop} {s U : State} {H : Heap} (h : kX ad A s H) (hW : s.WarmedH U.vm) : kX ad A U H := by
  obtain ⟨h1, h2, h3, h4, h5, h6, h7⟩ := h
  have hv := hW.alike
  refine ⟨fun k hk => ?_, h2, fun i hi => ?_, ⟨va_Z.moved hv h4.1, va_T.moved hv h4.2⟩, ⟨va_Z.moved hv h5.1, va_T.moved hv h5.2⟩, va_Z.moved hv h6, va_Zq.moved hv h7⟩
  · obtain ⟨a1, a2, a3, a4, a5, a6, a7, a8⟩ := h1 k hk
    exact ⟨va_Z.moved hv a1, va_O.moved hv a2, va_OF.moved hv a3, va_OF.moved hv a4, va_OF.moved hv a5, va_OF.moved hv a6, va_OF.moved hv a7, va_OF.moved hv a8⟩
  · obtain ⟨a1, a2, a3, a4, a5⟩ := h3 i hi
    exact ⟨va_O.moved hv a1, va_OF.moved hv a2, va_OF.moved hv a3, va_T.moved hv a4, vk_R.warm hW a5⟩
theorem kX.call {ad : Nat → Nat} {A : Nat → Prop} {U : State} {H : Heap} {g : JFrame} {mk : MethodId} {a : Array Value} (h : kX ad A U H) : kX ad A (U.calling g mk a) H := by
  obtain ⟨h1, h2, h3, h4, h5, h6, h7⟩ := h
  refine ⟨h1, h2, fun i hi => ?_, h4, h5, h6, h7⟩
  obtain ⟨a1, a2, a3, a4, a5⟩ := h3 i hi
  exact ⟨a1, a2, a3, a4, vk_R.same (u := U) rfl a5⟩
section KJX
def kjB (dC : Nat → ClassId) (dI : Nat → Nat → Nat) (dA : Nat → ClassId) (ad : Nat → Nat) (A : Nat → Prop) (u : kS) (t : State) : Prop := va_P (dC, dI) classes (kW dA ad u) t.heap ∧ va_K (dC, dI) classes (kTyp dA) t ∧ va_D A (kW dA ad u)
def kjQ (dC : Nat → ClassId) (dI : Nat → Nat → Nat) (dA : Nat → ClassId) (ad : Nat → Nat) (σ : kS) (K : kK) (A : Nat → Prop) : Array Value → State → Outcome → State → Prop := fun _ st oc t =>
  (∃ (v : Option Value) (u : kS), oc = .returned (v.map (mjR ad)) ∧ kTY u ∧ kEx σ u ∧ K v u ∧ kjB dC dI dA ad A u t ∧ ∃ L, FrameEnd st oc t L (σ.2.2.2.2.2.1 - u.2.2.2.2.2.1) (σ.2.2.2.2.2.2 - u.2.2.2.2.2.2)) ∧ va_F A st t
def kRm (d : Nat) (σ : kS) : Room := { frames := d, cells := σ.2.2.2.2.2.1, slots := σ.2.2.2.2.2.2, locals := 41 * d }
def kP (dC : Nat → ClassId) (dI : Nat → Nat → Nat) (dA : Nat → ClassId) (ad : Nat → Nat) (σ : kS) (sz : Nat) (U : State) : Prop := U.heap.size = sz ∧ va_P (dC, dI) classes (kW dA ad σ) U.heap ∧ va_K (dC, dI) classes (kTyp dA) U ∧ va_D (fun _ => True) (kW dA ad σ) ∧ fx U ∧ kX ad (va_A (kW dA ad σ) sz) U U.heap
def kAd (ad : Nat → Nat) (n sz : Nat) : Prop := ∀ h, n ≤ h → h < 1000000 → ad h = sz + (h - n)
def kjMet (l : Launch) (dC : Nat → ClassId) (dI : Nat → Nat → Nat) (dA : Nat → ClassId) (ad : Nat → Nat) (Y : MethodName × ByteArray × Nat × Nat × Nat × Nat) (d : Nat) (ar : List Value) (σ : kS) (K : kK) : Prop :=
  ∀ sz : Nat, kAd ad σ.2.2.2.2.1 sz → Met l Y.1 (Cond.code Y.1 Y.2.1 Y.2.2.2.1 (kRt Y.2.2.2.2.1) :: kw) (kRm d σ) (va_Pc (ar.map (mjR ad)) (kP dC dI dA ad σ sz)) (kjQ dC dI dA ad σ K (va_A (kW dA ad σ) sz)) σ.2.2.2.2.2.1 σ.2.2.2.2.2.2 (va_A (kW dA ad σ) sz)
def kjT (p : Program) (l : Launch) (e : Env) (R : Room) (s : State) (mi : MethodId) (args : Array Value) (below : List Frame) (meth : Method) (c : Code) (A : Nat → Prop) (Qx : State → Prop) (dC : Nat → ClassId) (dI : Nat → Nat → Nat) (dA : Nat → ClassId) (ad : Nat → Nat) (n0 nL pc : Nat) (lv : mjL) (st : List Value) (σ : kS) : Prop :=
  ∀ (H : Heap) (locs : List Loc) (ls : Array Slot) (cells slots : Nat), kTY σ → va_P (dC, dI) classes (kW dA ad σ) H → va_D A (kW dA ad σ) → va_S A s.heap H locs → lv_has ls nL (mjLs ad 0 lv) → (cells + σ.2.2.2.2.2.1 = R.cells ∧ slots + σ.2.2.2.2.2.2 = R.slots ∧ σ.2.2.2.2.1 = n0 + cells) → W p l e R s mi args below meth c H locs cells slots Qx (F0 mi pc ls (st.map (mjR ad)))
theorem kP_blind {dC : Nat → ClassId} {dI : Nat → Nat → Nat} {dA : Nat → ClassId} {ad : Nat → Nat} {σ : kS} {sz : Nat} {av : List Value} : FrameBlind (va_Pc av (kP dC dI dA ad σ sz)) := fun a U g mk q => by
  obtain ⟨q0, q1, q2, q3, q4, q5, q6⟩ := q
  exact ⟨q0, q1, q2, q3, q4, fx_call q5, kX.call q6⟩
variable {l : Launch} {dC : Nat → ClassId} {dI : Nat → Nat → Nat} {dA : Nat → ClassId} {ad : Nat → Nat} {p : Program} {e : Env} {R : Room} {s : State} {mi : MethodId} {args : Array Value} {below : List Frame} {meth : Method} {c : Code} {A : Nat → Prop} {Qx : State → Prop}
theorem kP_in {σ : kS} {H : Heap} {locs : List Loc} {av : List Value} (hP : va_P (dC, dI) classes (kW dA ad σ) H) (hK : va_K (dC, dI) classes (kTyp dA) s) (hD : va_D A (kW dA ad σ)) (hfx : fx s) (hX : kX ad A s s.heap) (hS : va_S A s.heap H locs) (hA : ∀ a : Nat, s.heap.size ≤ a → A a) : ∀ U : State, U.heap = H → s.WarmedH U.vm → va_Pc av (kP dC dI dA ad σ H.size) av.toArray U :=
  fun U hU hW => ⟨rfl, by rw [hU], by rw [hU]; exact hP, va_K.moved hW.alike hK, hD.weaken (fun _ _ _ _ => trivial), fx_moved hW hfx, by
    rw [hU]
    refine ((hX.warm hW).kept hS.2.1).narrow ?_
    rintro a (⟨k, w, hk⟩ | h)
    · exact hD.2 k (a, w) hk
    · exact hA a (Nat.le_trans hS.1 h)⟩
theorem kj_hsz {σ : kS} {H : Heap} {locs : List Loc} {cells n0 : Nat} (ty : kTY σ) (hP : va_P (dC, dI) classes (kW dA ad σ) H) (hS : va_S A s.heap H locs) (had : kAd ad n0 s.heap.size) (hn : σ.2.2.2.2.1 = n0 + cells) (hle : H.size ≤ s.heap.size + cells) : H.size = s.heap.size + cells := by
  have h1 := hS.1
  by_cases c : cells = 0
  · omega
  · have t5 := ty.2.2.2.2.1
    have h2 := (hP (σ.2.2.2.2.1 - 1) _ (kW_get (by omega))).lt
    have h2 : ad (σ.2.2.2.2.1 - 1) < H.size := h2
    rw [had _ (by omega) (by omega)] at h2
    omega
/-- behind a call -/
theorem kj_ret {σ : kS} {K : kK} {H : Heap} {locs : List Loc} {cells slots mc ms pc : Nat} {ls : Array Slot} {st0 rest : List Value} {a : Array Value} {A1 : Nat → Prop} {free : Addr → Prop} {Q : State → Prop}
    (hr : va_Run p l e R s mi args below meth c H locs cells slots mc ms (F0 mi pc ls st0) rest (kjQ dC dI dA ad σ K A1 a) free) (hS : va_S A s.heap H locs) (hA : ∀ q, q < H.size → A1 q → A q) (hf : ∀ q, free q → A q)
    (kk : ∀ (v : Option Value) (u : kS) (t : State) (H1 : Heap) (locs1 : List Loc), t.heap = H1 → s.vm.Alike t.vm → kTY u → kEx σ u → K v u → kjB dC dI dA ad A1 u t → va_S A s.heap H1 locs1 → W p l e R s mi args below meth c H1 locs1 (cells + (σ.2.2.2.2.2.1 - u.2.2.2.2.2.1)) (slots + (σ.2.2.2.2.2.2 - u.2.2.2.2.2.2)) Q (F0 mi (pc + 3) ls ((v.map (mjR ad)).toList ++ rest))) : W p l e R s mi args below meth c H locs cells slots Q (F0 mi pc ls st0) := by
  intro T hT X
  obtain ⟨v, st₀, t, T', L, h0, X', hL, e1, e2, ⟨⟨v', u, hv, tu, xu, hk, hb, L2, hfe⟩, hz, hkp⟩, st⟩ := hr T hT X
  cases hv
  rw [h0] at hz hkp
  obtain ⟨-, -, -, f2, f3, -, f5, f6⟩ := hfe
  have X2 := kj_tight X X' (k := σ.2.2.2.2.2.1 - u.2.2.2.2.2.1) (n := σ.2.2.2.2.2.2 - u.2.2.2.2.2.2) (by rw [e1, hT, ← h0]; exact f3) (by rw [e1, hT, ← h0]; exact f5) (fun a c hc => by
    obtain ⟨c', g1, -, g3, -⟩ := f6 a c (by rw [h0, ← hT]; exact hc)
    exact ⟨c', by rw [e1]; exact g1, g3⟩)
  obtain ⟨t2, a1, b1⟩ := kk v' u t T'.heap (locs ++ L) e1.symm (by rw [← e2]; exact X'.warmed.alike) tu xu hk hb
    ⟨Nat.le_trans hS.1 (by rw [e1]; exact hz), fun q h1 h2 => by rw [e1, hkp q (Nat.lt_of_lt_of_le h1 hS.1) (fun z => h2 (hA q (Nat.lt_of_lt_of_le h1 hS.1) z))]; exact hS.2.1 q h1 h2, fun q hq => by
      rcases List.mem_append.mp hq with h | h
      · exact hS.2.2 q h
      · exact hf _ (hL q h)⟩ T' rfl X2
  exact ⟨t2, st t2 a1, b1⟩
/-- the classes by their numbers -/
def kCl (c : Nat) : vw_C := classes.getD c ("", TX1, 0)
def kCn (c : Nat) : String := if c < 20 then (kCl c).1 else if c = 50 then "KeySteward$Command" else "java/lang/String"
/-- a callee, and how it is linked -/
def kCal (own : String) (Y : MethodName × ByteArray × Nat × Nat × Nat × Nat) (k : Nat) : Prop := Cond.code Y.1 Y.2.1 Y.2.2.2.1 (kRt Y.2.2.2.2.1) ∈ kw ∧ Cond.initialized Y.1.cls ∈ kw ∧ Cond.methodLink own k Y.1 ∈ kw ∧ (Y.1.cls ≠ "java/lang/invoke/MethodHandle" ∧ Y.1.cls ≠ "java/lang/invoke/VarHandle" ∧ (parseMethodDescriptor Y.1.desc).map (fun d => d.parameters.length) = some Y.2.2.1) ∧ Y.2.2.2.1 ≤ 22
theorem mjPush_map {v : Option Value} {r : List Value} : (v.map (mjR ad)).toList ++ r.map (mjR ad) = (mjPush v r).map (mjR ad) := by cases v <;> rfl
theorem kj_cat {r : List Value} (h : (r.map fun v => v.category).sum ≤ 8) : ((r.map (mjR ad)).map fun v => v.category).sum ≤ 8 := by
  rw [List.map_map, show (fun v : Value => v.category) ∘ mjR ad = fun v => v.category from funext fun v => mjR_cat ad v]; exact h
theorem kj_after {σ u : kS} {cells slots n0 : Nat} (hc : cells + σ.2.2.2.2.2.1 = R.cells ∧ slots + σ.2.2.2.2.2.2 = R.slots ∧ σ.2.2.2.2.1 = n0 + cells) (x : kEx σ u) : cells + (σ.2.2.2.2.2.1 - u.2.2.2.2.2.1) + u.2.2.2.2.2.1 = R.cells ∧ slots + (σ.2.2.2.2.2.2 - u.2.2.2.2.2.2) + u.2.2.2.2.2.2 = R.slots ∧ u.2.2.2.2.1 = n0 + (cells + (σ.2.2.2.2.2.1 - u.2.2.2.2.2.1)) := by
  obtain ⟨x1, -, x3, x4⟩ := x
  omega
set_option maxHeartbeats 4000000 in
theorem kj_call {own : String} {q : kQm} {x k pc nL n0 a : Nat} {lv : mjL} {T r : List Value} {σ : kS} {K' : kK} {b : ByteArray} {d' : Nat}
    (hx : p.tables.exec = Jvm.exec) (hb : c.code = b) (hml : c.maxLocals = nL) (hown : s.vm.findClass own = some mi.cls) (hkw : ∀ w ∈ kw, w.before args s = true) (hK : va_K (dC, dI) classes (kTyp dA) s) (hfx : fx s) (hX : kX ad A s s.heap) (hA : ∀ a : Nat, s.heap.size ≤ a → A a) (had : kAd ad n0 s.heap.size)
    (hcal : kCal own (q x) k) (hin : Cond.instanceMethod (q x).1 ∈ kw) (hsel : Cond.selects (kCn (q x).2.2.2.2.2) (q x).1 (q x).1 ∈ kw) (hcl : (q x).2.2.2.2.2 < 20 → classes[(q x).2.2.2.2.2]? = some (kCl (q x).2.2.2.2.2)) (hd : decode b pc = .ok (.invokevirtual k, 3))
    (hR : d' + 1 ≤ R.frames ∧ 41 * (d' + 1) ≤ R.locals) (hM : kjMet l dC dI dA ad (q x) d' (.ref a :: T.reverse) σ K') (hT : T.length = (q x).2.2.1) (hrc : kRc σ a (q x).2.2.2.2.2) (hcat : (r.map fun v => v.category).sum ≤ 8)
    (hG : ∀ v u, kTY u → kEx σ u → K' v u → kjT p l e R s mi args below meth c A Qx dC dI dA ad n0 nL (pc + 3) lv (mjPush v r) u) : kjT p l e R s mi args below meth c A Qx dC dI dA ad n0 nL pc lv (T ++ .ref a :: r) σ := by
  intro H locs ls cells slots ty hP hD hS hl hc
  refine kj_size fun hsz => ?_
  have hz := kj_hsz ty hP hS had hc.2.2 hsz
  have hM := hM H.size (fun h h1 h2 => by rw [had h (by omega) h2, hz]; omega)
  obtain ⟨h1, h2, h3, h4, h5⟩ := hcal
  generalize q x = Y at hM h1 h2 h3 h4 h5 hin hsel hT hrc hcl
  obtain ⟨y, bb, n, mL, t, cl⟩ := Y
  dsimp only at hM h1 h2 h3 h4 h5 hin hsel hT hrc hcl
  have hAA : ∀ q : Nat, va_A (kW dA ad σ) H.size q → A q := by
    rintro q (⟨k, w, hk⟩ | h)
    · exact hD.2 k (q, w) hk
    · exact hA q (Nat.le_trans hS.1 h)
  have cw : CallW R s args own (kCn cl) k y bb mL (kRt t) (Cond.code y bb mL (kRt t) :: kw) (kRm d' σ) σ.2.2.2.2.2.1 σ.2.2.2.2.2.2 n := callVv n hkw (kwI h1) rfl rfl rfl (hkw _ h2) (hkw _ h3) (hkw _ hin) (hkw _ hsel) h4 ⟨hR.1, by show 8 + (mL + 11) + 41 * d' ≤ R.locals; omega⟩
  have hrv : ∃ cell : Cell, H[ad a]? = some cell ∧ cell.vm.isStatics = false ∧ s.vm.findClass (kCn cl) = some cell.cls := by
    rcases hrc with ⟨g1, g2⟩ | ⟨g1, k, hk, rfl⟩ | ⟨g1, i, hi, rfl⟩
    · have := va_recv hK hP (hcl g1) (kW_ob ty g2 g1)
      unfold kCn; rw [if_pos g1]; exact this
    · obtain ⟨cell, f1, f2, f3, -⟩ := (hX.1 k hk).2.1.kept hS.2.1
      rw [g1]; exact ⟨cell, f1, f2, f3⟩
    · obtain ⟨cell, f1, f2, f3, -⟩ := (hX.2.2.1 i hi).1.kept hS.2.1
      rw [g1]; exact ⟨cell, f1, f2, f3⟩
  have hp : PreV s H (kCn cl) (ad a) (va_Pc ((Value.ref a :: T.reverse).map (mjR ad)) (kP dC dI dA ad σ H.size)) (T.reverse.map (mjR ad)) := ⟨kP_blind, hrv, kP_in hP hK hD hfx hX hS hA⟩
  have hst : (F0 mi pc ls ((T ++ .ref a :: r).map (mjR ad))).stack = (T.reverse.map (mjR ad)).reverse ++ .ref (ad a) :: r.map (mjR ad) := by
    show (T ++ .ref a :: r).map (mjR ad) = _
    rw [List.map_append, List.map_reverse, List.reverse_reverse]; rfl
  have run := va_runV (g := F0 mi pc ls ((T ++ .ref a :: r).map (mjR ad))) (locs := locs) (cells := cells) (slots := slots) (e := e) (below := below) (meth := meth) ⟨hx, hb, hml, hown, hkw⟩ hM cw hp rfl (by rw [List.length_map, List.length_reverse]; exact hT) hl.1 hst (lv_room (kj_cat hcat)) hd ⟨by omega, by omega⟩
  refine kj_ret run hS (fun q _ h => hAA q h) (fun q h => hAA q h) (fun v u t H1 locs1 ht hvm tu xu hk hb1 hS1 => ?_)
  rw [mjPush_map]
  exact hG v u tu xu hk H1 locs1 ls _ _ tu (ht ▸ hb1.1) ⟨hb1.2.2.1, fun k w hw => hAA _ (hb1.2.2.2 k w hw)⟩ hS1 hl (kj_after hc xu)
set_option maxHeartbeats 4000000 in
theorem kj_callS {own : String} {q : kQm} {x k pc nL n0 : Nat} {lv : mjL} {T r : List Value} {σ : kS} {K' : kK} {b : ByteArray} {d' : Nat}
    (hx : p.tables.exec = Jvm.exec) (hb : c.code = b) (hml : c.maxLocals = nL) (hown : s.vm.findClass own = some mi.cls) (hkw : ∀ w ∈ kw, w.before args s = true) (hK : va_K (dC, dI) classes (kTyp dA) s) (hfx : fx s) (hX : kX ad A s s.heap) (hA : ∀ a : Nat, s.heap.size ≤ a → A a) (had : kAd ad n0 s.heap.size)
    (hcal : kCal own (q x) k) (hin : Cond.static (q x).1 ∈ kw) (hd : decode b pc = .ok (.invokestatic k, 3))
    (hR : d' + 1 ≤ R.frames ∧ 41 * (d' + 1) ≤ R.locals) (hM : kjMet l dC dI dA ad (q x) d' T.reverse σ K') (hT : T.length = (q x).2.2.1) (hcat : (r.map fun v => v.category).sum ≤ 8)
    (hG : ∀ v u, kTY u → kEx σ u → K' v u → kjT p l e R s mi args below meth c A Qx dC dI dA ad n0 nL (pc + 3) lv (mjPush v r) u) : kjT p l e R s mi args below meth c A Qx dC dI dA ad n0 nL pc lv (T ++ r) σ := by
  intro H locs ls cells slots ty hP hD hS hl hc
  refine kj_size fun hsz => ?_
  have hz := kj_hsz ty hP hS had hc.2.2 hsz
  have hM := hM H.size (fun h h1 h2 => by rw [had h (by omega) h2, hz]; omega)
  obtain ⟨h1, h2, h3, h4, h5⟩ := hcal
  generalize q x = Y at hM h1 h2 h3 h4 h5 hin hT
  obtain ⟨y, bb, n, mL, t, cl⟩ := Y
  dsimp only at hM h1 h2 h3 h4 h5 hin hT
  have hAA : ∀ q : Nat, va_A (kW dA ad σ) H.size q → A q := by
    rintro q (⟨k, w, hk⟩ | h)
    · exact hD.2 k (q, w) hk
    · exact hA q (Nat.le_trans hS.1 h)
  have cw : CallB R s args own k y bb mL (kRt t) (Cond.code y bb mL (kRt t) :: kw) (kRm d' σ) σ.2.2.2.2.2.1 σ.2.2.2.2.2.2 n ∧ (Cond.static y).before args s = true := callSs n hkw (kwI h1) rfl rfl rfl (hkw _ h2) (hkw _ h3) (hkw _ hin) h4 ⟨hR.1, by show 8 + (mL + 11) + 41 * d' ≤ R.locals; omega⟩
  have hp : PreS s H (va_Pc (T.reverse.map (mjR ad)) (kP dC dI dA ad σ H.size)) (T.reverse.map (mjR ad)) := ⟨kP_blind, kP_in hP hK hD hfx hX hS hA⟩
  have hst : (F0 mi pc ls ((T ++ r).map (mjR ad))).stack = (T.reverse.map (mjR ad)).reverse ++ r.map (mjR ad) := by
    show (T ++ r).map (mjR ad) = _
    rw [List.map_append, List.map_reverse, List.reverse_reverse]
  have run := va_runS (g := F0 mi pc ls ((T ++ r).map (mjR ad))) (locs := locs) (cells := cells) (slots := slots) (e := e) (below := below) (meth := meth) ⟨hx, hb, hml, hown, hkw⟩ hM cw hp rfl (by rw [List.length_map, List.length_reverse]; exact hT) hl.1 hst (lv_room (kj_cat hcat)) hd ⟨by omega, by omega⟩
  refine kj_ret run hS (fun q _ h => hAA q h) (fun q h => hAA q h) (fun v u t H1 locs1 ht hvm tu xu hk hb1 hS1 => ?_)
  rw [mjPush_map]
  exact hG v u tu xu hk H1 locs1 ls _ _ tu (ht ▸ hb1.1) ⟨hb1.2.2.1, fun k w hw => hAA _ (hb1.2.2.2 k w hw)⟩ hS1 hl (kj_after hc xu)
end KJX
