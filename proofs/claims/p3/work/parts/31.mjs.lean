/-! What the reader says holds of the machine. -/
theorem mj_range_set {α : Type} (f : Nat → α) (n k : Nat) (v : α) : ((List.range n).map f).set k v = (List.range n).map (fun j => if j = k then v else f j) := by
  apply List.ext_getElem?
  intro j
  rw [List.getElem?_set]
  by_cases h : k = j
  · subst h
    by_cases hk : k < n
    · simp [hk]
    · simp [hk]
  · have h' : ¬ j = k := fun e => h e.symm
    rw [if_neg h]
    by_cases hj : j < n
    · simp [hj, h']
    · simp [hj]
def mjB (dC : Nat → ClassId) (dI : Nat → Nat → Nat) (dA : Nat → ClassId) (ad : Nat → Nat) (A : Nat → Prop) : mjS → State → Prop := fun u t => bW (dC, dI) (mjW dA ad u) (mjTy dA) A t
def mjQ (rt : Nat) (K : mjK) (B : mjS → State → Prop) (A : Nat → Prop) : Array Value → State → Outcome → State → Prop := match rt with
  | 0 => va_Qv (fun u => mjTY u ∧ K none u) B A
  | 1 => va_Qi (fun r u => mjTY u ∧ K (some (.int r)) u) B A
  | 2 => va_Qi (fun r u => mjTY u ∧ K (some (.int r)) u) B A
  | _ => va_Ql (fun r u => mjTY u ∧ K (some (.long r)) u) B A
def mjRm (d : Nat) : Room := { frames := d, cells := 0, slots := 0, locals := 41 * d }
def mjMet (l : Launch) (dC : Nat → ClassId) (dI : Nat → Nat → Nat) (dA : Nat → ClassId) (ad : Nat → Nat) (Y : MethodName × ByteArray × Nat × Nat × Nat) (d : Nat) (ar : List Value) (σ : mjS) (K : mjK) : Prop :=
  ∀ sz : Nat, Met l Y.1 (Cond.code Y.1 Y.2.1 Y.2.2.2.1 (mjRt Y.2.2.2.2) :: kw) (mjRm d) (va_Pc (ar.map (mjR ad)) (pW (dC, dI) (mjW dA ad σ) (mjTy dA) sz)) (mjQ Y.2.2.2.2 K (mjB dC dI dA ad (va_A (mjW dA ad σ) sz)) (va_A (mjW dA ad σ) sz)) 0 0 (va_A (mjW dA ad σ) sz)
def mjT (p : Program) (l : Launch) (e : Env) (R : Room) (s : State) (mi : MethodId) (args : Array Value) (below : List Frame) (meth : Method) (c : Code) (A : Nat → Prop) (Qx : State → Prop) (dC : Nat → ClassId) (dI : Nat → Nat → Nat) (dA : Nat → ClassId) (ad : Nat → Nat) (nL pc : Nat) (lv : mjL) (st : List Value) (σ : mjS) : Prop :=
  ∀ (H : Heap) (locs : List Loc) (ls : Array Slot), mjTY σ → va_P (dC, dI) classes (mjW dA ad σ) H → va_D A (mjW dA ad σ) → va_S A s.heap H locs → lv_has ls nL (mjLs ad 0 lv) → W p l e R s mi args below meth c H locs 0 0 Qx (F0 mi pc ls (st.map (mjR ad)))
/-- a callee of the reference, and how it is linked -/
def mjCal (Y : MethodName × ByteArray × Nat × Nat × Nat) (k : Nat) : Prop := Cond.code Y.1 Y.2.1 Y.2.2.2.1 (mjRt Y.2.2.2.2) ∈ kw ∧ Cond.initialized Y.1.cls ∈ kw ∧ Cond.methodLink RX13 k Y.1 ∈ kw ∧ (Y.1.cls ≠ "java/lang/invoke/MethodHandle" ∧ Y.1.cls ≠ "java/lang/invoke/VarHandle" ∧ (parseMethodDescriptor Y.1.desc).map (fun d => d.parameters.length) = some Y.2.2.1) ∧ Y.2.2.2.1 ≤ 22
def mjGE (P : Nat → List mjEn) (q : mjQm) (m pc : Nat) (ins : Instr) (x : Nat) (z : Int) : Prop :=
  decode (q m).2.1 pc = .ok (ins, mjLen ins) ∧ match ins with
  | .ldc k => Cond.constant RX13 k (Int32.ofInt z) ∈ kw
  | .ldc_w k => Cond.constant RX13 k (Int32.ofInt z) ∈ kw
  | .ldc2_w k => Cond.constantLong RX13 k (Int64.ofInt z) ∈ kw
  | .getfield k => x < 116 ∧ Cond.fieldLink RX13 k (TX13 x).1 (TX13 x).2.1 (TX13 x).2.2.1 ∈ kw
  | .putfield k => x < 116 ∧ Cond.fieldLink RX13 k (TX13 x).1 (TX13 x).2.1 (TX13 x).2.2.1 ∈ kw
  | .if_icmp _ off => ∃ t : Nat, (pc : Int) + off = (t : Int) ∧ ∀ e', (P m)[x]? = some e' → e'.1 = t
  | .ifCond _ off => ∃ t : Nat, (pc : Int) + off = (t : Int) ∧ ∀ e', (P m)[x]? = some e' → e'.1 = t
  | .goto off => ∃ t : Nat, (pc : Int) + off = (t : Int) ∧ ∀ e', (P m)[x]? = some e' → e'.1 = t
  | .invokevirtual k => mjCal (q x) k ∧ Cond.instanceMethod (q x).1 ∈ kw ∧ Cond.selects RX13 (q x).1 (q x).1 ∈ kw
  | .invokestatic k => mjCal (q x) k ∧ Cond.static (q x).1 ∈ kw
  | _ => True
theorem mjTc_ok : ∀ k, k < 116 → (mjTc k = 0 → tyX13 k = .int ∧ (TX13 k).2.2.2 = false) ∧ (mjTc k = 1 → tyX13 k = .boolean ∧ (TX13 k).2.2.2 = false) ∧ (mjTc k = 2 → tyX13 k = .long ∧ (TX13 k).2.2.2 = false) := by decide +kernel
theorem mjKd_x {h : Nat} (hk : mjKd h ≤ 3) : h ≠ 0 ∧ h < mjKs.length := by
  constructor
  · intro e; subst e; exact absurd hk (by decide)
  · apply Decidable.byContradiction
    intro c
    have e : mjKd h = 9 := by
      unfold mjKd
      rw [List.getD_eq_getElem?_getD, List.getElem?_eq_none (by omega)]; rfl
    omega
section MJS
variable {dC : Nat → ClassId} {dI : Nat → Nat → Nat} {dA : Nat → ClassId} {ad : Nat → Nat} {σ : mjS}
theorem mjW_get {h : Nat} (hh : h < mjKs.length) : (mjW dA ad σ)[h]? = some (ad h, mjE dA ad σ h) := by
  unfold mjW; rw [List.getElem?_map, List.getElem?_range hh]; rfl
theorem mjW_obj : (mjW dA ad σ)[0]? = some (ad 0, .inr (10, (List.range 116).map (fun k => mjR ad (mjFv σ k)))) := by
  rw [mjW_get (by decide)]; rfl
theorem mjW_32 {h : Nat} (hk : mjKd h < 3) : (mjW dA ad σ)[h]? = some (ad h, .inl (dA (mjKd h), mjLn h, .inl (σ.2.2.1 h))) := by
  obtain ⟨h1, h2⟩ := mjKd_x (h := h) (by omega)
  rw [mjW_get h2]; unfold mjE; rw [if_neg h1, if_neg (by omega)]
theorem mjW_64 {h : Nat} (hk : mjKd h = 3) : (mjW dA ad σ)[h]? = some (ad h, .inl (dA 3, mjLn h, .inr (.inl (σ.2.2.2 h)))) := by
  obtain ⟨h1, h2⟩ := mjKd_x (h := h) (by omega)
  rw [mjW_get h2]; unfold mjE; rw [if_neg h1, if_pos hk]
theorem mjFv_i {k j : Nat} {v : Int32} (hk : mjTc k = 0 ∨ mjTc k = 1) : mjFv (upd σ.1 k v, σ.2) j = if j = k then .int v else mjFv σ j := by
  unfold mjFv
  by_cases c : j = k
  · subst c; rw [if_pos rfl]
    rcases hk with hk | hk <;> rw [hk] <;> exact congrArg Value.int pk_us
  · rw [if_neg c]
    show (match mjTc j with
      | 0 => Value.int (upd σ.1 k v j)
      | 1 => Value.int (upd σ.1 k v j)
      | 2 => Value.long (σ.2.1 j)
      | _ => Value.ref (mjHn j)) = _
    rw [pk_un c]; rfl
theorem mjFv_l {k j : Nat} {v : Int64} (hk : mjTc k = 2) : mjFv (σ.1, vp_updL σ.2.1 k v, σ.2.2) j = if j = k then .long v else mjFv σ j := by
  unfold mjFv
  by_cases c : j = k
  · subst c; rw [if_pos rfl, hk]; exact congrArg Value.long pk_uLs
  · rw [if_neg c]
    show (match mjTc j with
      | 0 => Value.int (σ.1 j)
      | 1 => Value.int (σ.1 j)
      | 2 => Value.long (vp_updL σ.2.1 k v j)
      | _ => Value.ref (mjHn j)) = _
    rw [pk_uLn c]; rfl
theorem mjW_setF {k : Nat} {v : Value} {σ' : mjS} (h1 : ∀ j, mjFv σ' j = if j = k then v else mjFv σ j) (h2 : σ'.2.2 = σ.2.2) : (mjW dA ad σ).set 0 (ad 0, .inr (10, ((List.range 116).map (fun k => mjR ad (mjFv σ k))).set k (mjR ad v))) = mjW dA ad σ' := by
  unfold mjW
  rw [mj_range_set, mj_range_set]
  apply List.map_congr_left
  intro h _
  by_cases c : h = 0
  · subst c
    rw [if_pos rfl]; unfold mjE; rw [if_pos rfl]
    refine congrArg (fun t => (ad 0, Sum.inr (10, t))) (List.map_congr_left fun j _ => ?_)
    rw [h1 j]
    by_cases cj : j = k
    · rw [if_pos cj, if_pos cj]
    · rw [if_neg cj, if_neg cj]
  · rw [if_neg c]; unfold mjE; rw [if_neg c, if_neg c, h2]
theorem mjW_setI {h i : Nat} {v : Int32} (hk : mjKd h < 3) : (mjW dA ad σ).set h (ad h, .inl (dA (mjKd h), mjLn h, .inl (upd (σ.2.2.1 h) i v))) = mjW dA ad (σ.1, σ.2.1, mjIu σ.2.2.1 h i v, σ.2.2.2) := by
  obtain ⟨h1, h2⟩ := mjKd_x (h := h) (by omega)
  unfold mjW
  rw [mj_range_set]
  apply List.map_congr_left
  intro j _
  by_cases c : j = h
  · subst c
    rw [if_pos rfl]; unfold mjE; rw [if_neg h1, if_neg (by omega)]
    show _ = (ad j, Sum.inl (dA (mjKd j), mjLn j, Sum.inl (mjIu σ.2.2.1 j i v j)))
    unfold mjIu; rw [if_pos rfl]
  · rw [if_neg c]; unfold mjE
    by_cases c0 : j = 0
    · rw [if_pos c0, if_pos c0]; rfl
    · rw [if_neg c0, if_neg c0]
      show _ = (ad j, if mjKd j = 3 then _ else Sum.inl (dA (mjKd j), mjLn j, Sum.inl (mjIu σ.2.2.1 h i v j)))
      unfold mjIu; rw [if_neg c]
theorem mjW_setL {h i : Nat} {v : Int64} (hk : mjKd h = 3) : (mjW dA ad σ).set h (ad h, .inl (dA 3, mjLn h, .inr (.inl (vp_updL (σ.2.2.2 h) i v)))) = mjW dA ad (σ.1, σ.2.1, σ.2.2.1, mjLu σ.2.2.2 h i v) := by
  obtain ⟨h1, h2⟩ := mjKd_x (h := h) (by omega)
  unfold mjW
  rw [mj_range_set]
  apply List.map_congr_left
  intro j _
  by_cases c : j = h
  · subst c
    rw [if_pos rfl]; unfold mjE; rw [if_neg h1, if_pos hk]
    show _ = (ad j, Sum.inl (dA 3, mjLn j, Sum.inr (Sum.inl (mjLu σ.2.2.2 j i v j))))
    unfold mjLu; rw [if_pos rfl]
  · rw [if_neg c]; unfold mjE
    by_cases c0 : j = 0
    · rw [if_pos c0, if_pos c0]; rfl
    · rw [if_neg c0, if_neg c0]
      show _ = (ad j, if mjKd j = 3 then Sum.inl (dA 3, mjLn j, Sum.inr (Sum.inl (mjLu σ.2.2.2 h i v j))) else _)
      unfold mjLu; rw [if_neg c]
theorem mj_bool {v : Int32} (h : v = 0 ∨ v = 1) : narrow .boolean (.int v) = .int v ∧ fits .boolean (.int v) = true ∧ vp_nar .boolean v = v := by
  rcases h with rfl | rfl <;> exact ⟨rfl, rfl, rfl⟩
end MJS
section MJT
variable {l : Launch} {dC : Nat → ClassId} {dI : Nat → Nat → Nat} {dA : Nat → ClassId} {ad : Nat → Nat} {p : Program} {e : Env} {R : Room} {s : State} {mi : MethodId} {args : Array Value} {below : List Frame} {meth : Method} {c : Code} {A : Nat → Prop} {Qx : State → Prop}
/-- behind a call -/
theorem mj_back {σ u : mjS} {H : Heap} {locs : List Loc} {t : State} (hD : va_D A (mjW dA ad σ)) (hS : va_S A s.heap H locs) (hA : ∀ a : Nat, s.heap.size ≤ a → A a) : (∀ a : Nat, va_A (mjW dA ad σ) H.size a → A a) ∧ (mjB dC dI dA ad (va_A (mjW dA ad σ) H.size) u t → va_P (dC, dI) classes (mjW dA ad u) t.heap ∧ va_D A (mjW dA ad u)) := by
  have hF : ∀ a : Nat, va_A (mjW dA ad σ) H.size a → A a := by
    rintro a (⟨k, w, hk⟩ | h)
    · exact hD.2 k (a, w) hk
    · exact hA a (Nat.le_trans hS.1 h)
  exact ⟨hF, fun b => ⟨b.1, b.2.2.1, fun k w hw => hF _ (b.2.2.2 k w hw)⟩⟩
set_option maxHeartbeats 4000000 in
theorem mj_call {q : mjQm} {x k pc nL : Nat} {lv : mjL} {T r : List Value} {σ : mjS} {K' : mjK} {b : ByteArray} {d' : Nat}
    (hx : p.tables.exec = Jvm.exec) (hb : c.code = b) (hml : c.maxLocals = nL) (hown : s.vm.findClass RX13 = some mi.cls) (hkw : ∀ w ∈ kw, w.before args s = true) (hK : va_K (dC, dI) classes (mjTy dA) s) (hfx : fx s) (hA : ∀ a : Nat, s.heap.size ≤ a → A a)
    (hcal : mjCal (q x) k) (hin : Cond.instanceMethod (q x).1 ∈ kw) (hsel : Cond.selects RX13 (q x).1 (q x).1 ∈ kw) (hd : decode b pc = .ok (.invokevirtual k, 3))
    (hR : d' + 1 ≤ R.frames ∧ 41 * (d' + 1) ≤ R.locals) (hM : mjMet l dC dI dA ad (q x) d' (.ref 0 :: T.reverse) σ K') (hT : T.length = (q x).2.2.1) (hcat : (r.map fun v => v.category).sum ≤ 8)
    (hG : ∀ v u, mjTY u → K' v u → mjT p l e R s mi args below meth c A Qx dC dI dA ad nL (pc + 3) lv (mjPush v r) u) : mjT p l e R s mi args below meth c A Qx dC dI dA ad nL pc lv (T ++ .ref 0 :: r) σ := by
  intro H locs ls ty hP hD hS hl
  have hM := hM H.size
  obtain ⟨h1, h2, h3, h4, h5⟩ := hcal
  have hF := fun u t => mj_back (dC := dC) (dI := dI) (u := u) (t := t) hD hS hA
  generalize q x = Y at hM h1 h2 h3 h4 h5 hin hsel hT
  obtain ⟨y, bb, n, mL, t⟩ := Y
  dsimp only at hM h1 h2 h3 h4 h5 hin hsel hT
  have cw : CallW R s args RX13 RX13 k y bb mL (mjRt t) (Cond.code y bb mL (mjRt t) :: kw) (mjRm d') 0 0 n := callVv n hkw (kwI h1) rfl rfl rfl (hkw _ h2) (hkw _ h3) (hkw _ hin) (hkw _ hsel) h4 ⟨hR.1, by show 8 + (mL + 11) + 41 * d' ≤ R.locals; omega⟩
  have hp : PreV s H RX13 (ad 0) (va_Pc ((Value.ref 0 :: T.reverse).map (mjR ad)) (pW (dC, dI) (mjW dA ad σ) (mjTy dA) H.size)) (T.reverse.map (mjR ad)) := ⟨fbW, va_recv hK hP (ci := 10) (q0 := 0) rfl mjW_obj, pW_in hP hK hD hfx⟩
  have hst : (F0 mi pc ls ((T ++ .ref 0 :: r).map (mjR ad))).stack = (T.reverse.map (mjR ad)).reverse ++ .ref (ad 0) :: r.map (mjR ad) := by
    show (T ++ .ref 0 :: r).map (mjR ad) = _
    rw [List.map_append, List.map_reverse, List.reverse_reverse]; rfl
  have hc8 : (((r.map (mjR ad)).map fun v => v.category)).sum ≤ 8 := by
    rw [List.map_map, show (fun v : Value => v.category) ∘ mjR ad = fun v => v.category from funext fun v => mjR_cat ad v]; exact hcat
  have run := va_runV (g := F0 mi pc ls ((T ++ .ref 0 :: r).map (mjR ad))) (locs := locs) (cells := 0) (slots := 0) (e := e) (below := below) (meth := meth) ⟨hx, hb, hml, hown, hkw⟩ hM cw hp rfl (by rw [List.length_map, List.length_reverse]; exact hT) hl.1 hst (lv_room hc8) hd ⟨Nat.zero_le _, Nat.zero_le _⟩
  match t, run with
  | 0, run => exact va_callv (a := #[]) run hS (fun q _ h => (hF σ s).1 q h) (fun q h => (hF σ s).1 q h) (fun u t H1 locs1 ht hvm hw hB hz1 hk1 hS1 => hG none u hw.1 hw.2 H1 locs1 ls hw.1 (ht ▸ ((hF u t).2 hB).1) ((hF u t).2 hB).2 hS1 hl)
  | 1, run => exact va_calli (a := #[]) run hS (fun q _ h => (hF σ s).1 q h) (fun q h => (hF σ s).1 q h) (fun v u t H1 locs1 ht hvm hw hB hz1 hk1 hS1 => hG (some (.int v)) u hw.1 hw.2 H1 locs1 ls hw.1 (ht ▸ ((hF u t).2 hB).1) ((hF u t).2 hB).2 hS1 hl)
  | 2, run => exact va_calli (a := #[]) run hS (fun q _ h => (hF σ s).1 q h) (fun q h => (hF σ s).1 q h) (fun v u t H1 locs1 ht hvm hw hB hz1 hk1 hS1 => hG (some (.int v)) u hw.1 hw.2 H1 locs1 ls hw.1 (ht ▸ ((hF u t).2 hB).1) ((hF u t).2 hB).2 hS1 hl)
  | t + 3, run => exact va_calll (a := #[]) run hS (fun q _ h => (hF σ s).1 q h) (fun q h => (hF σ s).1 q h) (fun v u t H1 locs1 ht hvm hw hB hz1 hk1 hS1 => hG (some (.long v)) u hw.1 hw.2 H1 locs1 ls hw.1 (ht ▸ ((hF u t).2 hB).1) ((hF u t).2 hB).2 hS1 hl)
set_option maxHeartbeats 4000000 in
theorem mj_callS {q : mjQm} {x k pc nL : Nat} {lv : mjL} {T r : List Value} {σ : mjS} {K' : mjK} {b : ByteArray} {d' : Nat}
    (hx : p.tables.exec = Jvm.exec) (hb : c.code = b) (hml : c.maxLocals = nL) (hown : s.vm.findClass RX13 = some mi.cls) (hkw : ∀ w ∈ kw, w.before args s = true) (hK : va_K (dC, dI) classes (mjTy dA) s) (hfx : fx s) (hA : ∀ a : Nat, s.heap.size ≤ a → A a)
    (hcal : mjCal (q x) k) (hin : Cond.static (q x).1 ∈ kw) (hd : decode b pc = .ok (.invokestatic k, 3))
    (hR : d' + 1 ≤ R.frames ∧ 41 * (d' + 1) ≤ R.locals) (hM : mjMet l dC dI dA ad (q x) d' T.reverse σ K') (hT : T.length = (q x).2.2.1) (hcat : (r.map fun v => v.category).sum ≤ 8)
    (hG : ∀ v u, mjTY u → K' v u → mjT p l e R s mi args below meth c A Qx dC dI dA ad nL (pc + 3) lv (mjPush v r) u) : mjT p l e R s mi args below meth c A Qx dC dI dA ad nL pc lv (T ++ r) σ := by
  intro H locs ls ty hP hD hS hl
  have hM := hM H.size
  obtain ⟨h1, h2, h3, h4, h5⟩ := hcal
  have hF := fun u t => mj_back (dC := dC) (dI := dI) (u := u) (t := t) hD hS hA
  generalize q x = Y at hM h1 h2 h3 h4 h5 hin hT
  obtain ⟨y, bb, n, mL, t⟩ := Y
  dsimp only at hM h1 h2 h3 h4 h5 hin hT
  have cw : CallB R s args RX13 k y bb mL (mjRt t) (Cond.code y bb mL (mjRt t) :: kw) (mjRm d') 0 0 n ∧ (Cond.static y).before args s = true := callSs n hkw (kwI h1) rfl rfl rfl (hkw _ h2) (hkw _ h3) (hkw _ hin) h4 ⟨hR.1, by show 8 + (mL + 11) + 41 * d' ≤ R.locals; omega⟩
  have hp : PreS s H (va_Pc (T.reverse.map (mjR ad)) (pW (dC, dI) (mjW dA ad σ) (mjTy dA) H.size)) (T.reverse.map (mjR ad)) := ⟨fbW, pW_in hP hK hD hfx⟩
  have hst : (F0 mi pc ls ((T ++ r).map (mjR ad))).stack = (T.reverse.map (mjR ad)).reverse ++ r.map (mjR ad) := by
    show (T ++ r).map (mjR ad) = _
    rw [List.map_append, List.map_reverse, List.reverse_reverse]
  have hc8 : (((r.map (mjR ad)).map fun v => v.category)).sum ≤ 8 := by
    rw [List.map_map, show (fun v : Value => v.category) ∘ mjR ad = fun v => v.category from funext fun v => mjR_cat ad v]; exact hcat
  have run := va_runS (g := F0 mi pc ls ((T ++ r).map (mjR ad))) (locs := locs) (cells := 0) (slots := 0) (e := e) (below := below) (meth := meth) ⟨hx, hb, hml, hown, hkw⟩ hM cw hp rfl (by rw [List.length_map, List.length_reverse]; exact hT) hl.1 hst (lv_room hc8) hd ⟨Nat.zero_le _, Nat.zero_le _⟩
  match t, run with
  | 0, run => exact va_callv (a := #[]) run hS (fun q _ h => (hF σ s).1 q h) (fun q h => (hF σ s).1 q h) (fun u t H1 locs1 ht hvm hw hB hz1 hk1 hS1 => hG none u hw.1 hw.2 H1 locs1 ls hw.1 (ht ▸ ((hF u t).2 hB).1) ((hF u t).2 hB).2 hS1 hl)
  | 1, run => exact va_calli (a := #[]) run hS (fun q _ h => (hF σ s).1 q h) (fun q h => (hF σ s).1 q h) (fun v u t H1 locs1 ht hvm hw hB hz1 hk1 hS1 => hG (some (.int v)) u hw.1 hw.2 H1 locs1 ls hw.1 (ht ▸ ((hF u t).2 hB).1) ((hF u t).2 hB).2 hS1 hl)
  | 2, run => exact va_calli (a := #[]) run hS (fun q _ h => (hF σ s).1 q h) (fun q h => (hF σ s).1 q h) (fun v u t H1 locs1 ht hvm hw hB hz1 hk1 hS1 => hG (some (.int v)) u hw.1 hw.2 H1 locs1 ls hw.1 (ht ▸ ((hF u t).2 hB).1) ((hF u t).2 hB).2 hS1 hl)
  | t + 3, run => exact va_calll (a := #[]) run hS (fun q _ h => (hF σ s).1 q h) (fun q h => (hF σ s).1 q h) (fun v u t H1 locs1 ht hvm hw hB hz1 hk1 hS1 => hG (some (.long v)) u hw.1 hw.2 H1 locs1 ls hw.1 (ht ▸ ((hF u t).2 hB).1) ((hF u t).2 hB).2 hS1 hl)
end MJT
