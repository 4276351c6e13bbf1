/-! The law's calls: both sides' worlds and its own row, side by side. -/
section LCALL
abbrev AL (s : State) : Nat → Prop := fun q => s.heap.size ≤ q
def LB (dC : Nat → ClassId) (dI : Nat → Nat → Nat) (s : State) (x m9 o9 : Nat) (H : Heap) (Z : kS) (σ : mjS) : Prop := ∃ (dA : Nat → ClassId) (ad : Nat → Nat) (dB : Nat → ClassId) (am : Nat → Nat) (ko : ClassId) (go : Nat → Int64),
  (ad 0 = x ∧ am 0 = m9) ∧ (kTY Z ∧ GKd Z ∧ mjTY σ) ∧ (va_P (dC, dI) classes (kW dA ad Z) H ∧ va_P (dC, dI) classes (mjW dB am σ) H ∧ va_P (dC, dI) classes (lOut o9 ko go) H) ∧ (va_K (dC, dI) classes (kTyp dA) s ∧ va_K (dC, dI) classes (mjTy dB) s ∧ va_K (dC, dI) classes [(ko, .long)] s) ∧
  (va_D (AL s) (kW dA ad Z) ∧ va_D (AL s) (mjW dB am σ) ∧ s.heap.size ≤ o9) ∧ ((∀ h k, h < Z.2.2.2.2.1 → k < mjKs.length → ¬ ad h = am k) ∧ (∀ h, h < Z.2.2.2.2.1 → ¬ ad h = o9) ∧ (∀ k, k < mjKs.length → ¬ am k = o9)) ∧ kX ad (AL s) s s.heap
variable {p : Program} {l : Launch} {e : Env} {R : Room} {s : State} {m : MethodId} {args : Array Value} {below : List Frame} {meth : Method} {c : Code} {H : Heap} {locs : List Loc} {cells slots : Nat} {Q : State → Prop} {dC : Nat → ClassId} {dI : Nat → Nat → Nat} {x m9 o9 : Nat} {Z : kS} {σ : mjS} {pc : Nat} {ls : Array Slot} {rest : List Value}
/-- behind a call of the class, with what it kept -/
theorem lk_ret {dA : Nat → ClassId} {ad : Nat → Nat} {σ : kS} {K : kK} {mc ms : Nat} {st0 : List Value} {a : Array Value} {A A1 : Nat → Prop} {free : Addr → Prop}
    (hr : va_Run p l e R s m args below meth c H locs cells slots mc ms (F0 m pc ls st0) rest (kjQ dC dI dA ad σ K A1 a) free) (hS : va_S A s.heap H locs) (hA : ∀ q, q < H.size → A1 q → A q) (hf : ∀ q, free q → A q)
    (kk : ∀ (v : Option Value) (u : kS) (t : State) (H1 : Heap) (locs1 : List Loc), t.heap = H1 → kTY u → kEx σ u → K v u → kjB dC dI dA ad A1 u t → H.size ≤ H1.size → (∀ q : Nat, q < H.size → ¬ A1 q → H1[q]? = H[q]?) → va_S A s.heap H1 locs1 → W p l e R s m args below meth c H1 locs1 (cells + (σ.2.2.2.2.2.1 - u.2.2.2.2.2.1)) (slots + (σ.2.2.2.2.2.2 - u.2.2.2.2.2.2)) Q (F0 m (pc + 3) ls ((v.map (mjR ad)).toList ++ rest))) : W p l e R s m args below meth c H locs cells slots Q (F0 m pc ls st0) := by
  intro T hT X
  obtain ⟨v, st₀, t, T', L, h0, X', hL, e1, e2, ⟨⟨v', u, hv, tu, xu, hk, hb, L2, hfe⟩, hz, hkp⟩, st⟩ := hr T hT X
  cases hv
  rw [h0] at hz hkp
  obtain ⟨-, -, -, f2, f3, -, f5, f6⟩ := hfe
  have X2 := kj_tight X X' (k := σ.2.2.2.2.2.1 - u.2.2.2.2.2.1) (n := σ.2.2.2.2.2.2 - u.2.2.2.2.2.2) (by rw [e1, hT, ← h0]; exact f3) (by rw [e1, hT, ← h0]; exact f5) (fun a c hc => by
    obtain ⟨c', g1, -, g3, -⟩ := f6 a c (by rw [h0, ← hT]; exact hc)
    exact ⟨c', by rw [e1]; exact g1, g3⟩)
  obtain ⟨t2, a1, b1⟩ := kk v' u t T'.heap (locs ++ L) e1.symm tu xu hk hb (by rw [e1]; exact hz) (fun q h1 h2 => by rw [e1]; exact hkp q h1 h2)
    ⟨Nat.le_trans hS.1 (by rw [e1]; exact hz), fun q h1 h2 => by rw [e1, hkp q (Nat.lt_of_lt_of_le h1 hS.1) (fun z => h2 (hA q (Nat.lt_of_lt_of_le h1 hS.1) z))]; exact hS.2.1 q h1 h2, fun q hq => by
      rcases List.mem_append.mp hq with h | h
      · exact hS.2.2 q h
      · exact hf _ (hL q h)⟩ T' rfl X2
  exact ⟨t2, st t2 a1, b1⟩
theorem mjW_A {dB : Nat → ClassId} {am : Nat → Nat} {a sz : Nat} : va_A (mjW dB am σ) sz a ↔ (∃ k, k < mjKs.length ∧ a = am k) ∨ sz ≤ a := by
  have len : (mjW dB am σ).length = mjKs.length := by unfold mjW; rw [List.length_map, List.length_range]
  constructor
  · rintro (⟨k, w, hk⟩ | h)
    · have hlt : k < mjKs.length := by rw [← len]; exact (List.getElem?_eq_some_iff.mp hk).1
      rw [mjW_get hlt] at hk
      exact Or.inl ⟨k, hlt, (congrArg Prod.fst (Option.some.inj hk)).symm⟩
    · exact Or.inr h
  · rintro (⟨h, hh, rfl⟩ | h)
    · exact Or.inl ⟨h, _, mjW_get hh⟩
    · exact Or.inr h
theorem mjW_lt {dB : Nat → ClassId} {am : Nat → Nat} (hP : va_P (dC, dI) classes (mjW dB am σ) H) {k : Nat} (hk : k < mjKs.length) : am k < H.size := (hP k _ (mjW_get hk)).lt
theorem mjW_kept {dB : Nat → ClassId} {am : Nat → Nat} {H1 : Heap} (hP : va_P (dC, dI) classes (mjW dB am σ) H) (h : ∀ k, k < mjKs.length → H1[am k]? = H[am k]?) : va_P (dC, dI) classes (mjW dB am σ) H1 := by
  intro k q hq
  have len : (mjW dB am σ).length = mjKs.length := by unfold mjW; rw [List.length_map, List.length_range]
  have hlt : k < mjKs.length := by rw [← len]; exact (List.getElem?_eq_some_iff.mp hq).1
  have hq' := hq
  rw [mjW_get hlt] at hq'
  cases hq'
  exact (hP k _ hq).kept (h k hlt)
theorem kW_kept {dA : Nat → ClassId} {ad : Nat → Nat} {H1 : Heap} (hP : va_P (dC, dI) classes (kW dA ad Z) H) (h : ∀ k, k < Z.2.2.2.2.1 → H1[ad k]? = H[ad k]?) : va_P (dC, dI) classes (kW dA ad Z) H1 := by
  intro k q hq
  have hlt : k < Z.2.2.2.2.1 := by rw [← kW_len (dA := dA) (ad := ad) (σ := Z)]; exact (List.getElem?_eq_some_iff.mp hq).1
  have hq' := hq
  rw [kW_get hlt] at hq'
  cases hq'
  exact (hP k _ hq).kept (h k hlt)
theorem lO_kept {ko : ClassId} {go : Nat → Int64} {H1 : Heap} (hP : va_P (dC, dI) classes (lOut o9 ko go) H) (h : H1[o9]? = H[o9]?) : va_P (dC, dI) classes (lOut o9 ko go) H1 := by
  intro k q hq
  have : q = (o9, .inl (ko, 1, .inr (.inl go))) := by
    cases k with
    | zero => cases hq; rfl
    | succ k => cases hq
  subst this
  exact (hP k _ hq).kept h
set_option maxHeartbeats 4000000 in
/-- a call of the class -/
theorem lb_class (hB : LB dC dI s x m9 o9 H Z σ) (hS : va_S (AL s) s.heap H locs) {cc : ByteArray} (hx : p.tables.exec = Jvm.exec) (hb : c.code = cc) (hml : c.maxLocals = 7) (hown : s.vm.findClass RL = some m.cls) (hkw : ∀ w ∈ kw, w.before args s = true) (hfx : fx s) (hls : ls.size = 7)
    {k mm d : Nat} {As : List Value} {K : kK} (hcode : Cond.code (kQQ kYN mm).1 (kQQ kYN mm).2.1 (kQQ kYN mm).2.2.2.1 (kRt (kQQ kYN mm).2.2.2.2.1) ∈ kw) (hlink : Cond.methodLink RL k (kQQ kYN mm).1 ∈ kw) (hin : Cond.instanceMethod (kQQ kYN mm).1 ∈ kw) (hsel : Cond.selects RX12 (kQQ kYN mm).1 (kQQ kYN mm).1 ∈ kw) (hcl : (kQQ kYN mm).1.cls = RX12)
    (hdesc : (parseMethodDescriptor (kQQ kYN mm).1.desc).map (fun d => d.parameters.length) = some As.length) (hd : decode cc pc = .ok (.invokevirtual k, 3)) (hmt : ¬ mm ∈ MTH) (har : (mjAr (.ref 0 :: As)).length ≤ (kQQ kYN mm).2.2.2.1) (hm22 : (kQQ kYN mm).2.2.2.1 ≤ 22) (hAs : ∀ ad, As.map (mjR ad) = As)
    (hM : kTY Z → kjY kPP (kQQ kYN) d mm 0 (mjL0 (kQQ kYN mm).2.2.2.1 (.ref 0 :: As)) [] Z K) (hc : cells + Z.2.2.2.2.2.1 ≤ R.cells ∧ slots + Z.2.2.2.2.2.2 ≤ R.slots) (hR : d + 1 ≤ R.frames ∧ 41 * (d + 1) ≤ R.locals) (hcat : (rest.map fun v => v.category).sum ≤ 8) (hv : ∀ v u, K v u → ∀ ad, v.map (mjR ad) = v)
    (kk : ∀ (v : Option Value) (u : kS) (H1 : Heap) (locs1 : List Loc), kEx Z u → K v u → LB dC dI s x m9 o9 H1 u σ → va_S (AL s) s.heap H1 locs1 → W p l e R s m args below meth c H1 locs1 (cells + (Z.2.2.2.2.2.1 - u.2.2.2.2.2.1)) (slots + (Z.2.2.2.2.2.2 - u.2.2.2.2.2.2)) Q (F0 m (pc + 3) ls (v.toList ++ rest))) : W p l e R s m args below meth c H locs cells slots Q (F0 m pc ls (As.reverse ++ .ref x :: rest)) := by
  obtain ⟨dA, ad, dB, am, ko, go, ⟨ex, em⟩, ⟨ty, gd, tm⟩, ⟨hP, hPm, hPo⟩, ⟨hK, hKm, hKo⟩, ⟨hD, hDm, hDo⟩, ⟨a1, a2, a3⟩, hX⟩ := hB
  have n76 := ty.2.2.2.1
  have lo : ∀ h, h < Z.2.2.2.2.1 → adN ad Z.2.2.2.2.1 H.size h = ad h := fun h hh => adN_lo hh
  have hi : ∀ h, 1000000 ≤ h → adN ad Z.2.2.2.2.1 H.size h = ad h := fun h hh => adN_hi hh
  have hP2 := kW_re (ad' := adN ad Z.2.2.2.2.1 H.size) ty gd lo hi hP
  have hD2 := kW_D (ad' := adN ad Z.2.2.2.2.1 H.size) lo hD
  have hX2 := hX.re (ad' := adN ad Z.2.2.2.2.1 H.size) hi
  have hA : ∀ a : Nat, s.heap.size ≤ a → AL s a := fun a h => h
  obtain ⟨f, hM⟩ := kjY_gd ty gd (hM ty)
  have hM := kj_met2 (l := l) (dC := dC) (dI := dI) (dA := dA) (ad := adN ad Z.2.2.2.2.1 H.size) kj_ok hmt (kj_sound2 kj_ok f) har ty hM H.size adN_ad
  have hob := kW_ob (dA := dA) (ad := adN ad Z.2.2.2.2.1 H.size) ty (ty.k (h := 0) (c := 9) (by decide) rfl) (by decide)
  have e0 : adN ad Z.2.2.2.2.1 H.size 0 = x := (lo 0 (by omega)).trans ex
  have eA : (Value.ref 0 :: As).map (mjR (adN ad Z.2.2.2.2.1 H.size)) = .ref x :: As := by
    rw [List.map_cons, hAs]; show Value.ref (adN ad Z.2.2.2.2.1 H.size 0) :: As = _; rw [e0]
  rw [eA] at hM
  have hAA : ∀ q : Nat, va_A (kW dA (adN ad Z.2.2.2.2.1 H.size) Z) H.size q → AL s q := by
    intro q hq
    rcases kW_A.mp hq with ⟨h, hh, rfl⟩ | h
    · exact hD2.2 h _ (kW_get hh)
    · exact Nat.le_trans hS.1 h
  have cw : CallW R s args RL RX12 k (kQQ kYN mm).1 (kQQ kYN mm).2.1 (kQQ kYN mm).2.2.2.1 (kRt (kQQ kYN mm).2.2.2.2.1) (Cond.code (kQQ kYN mm).1 (kQQ kYN mm).2.1 (kQQ kYN mm).2.2.2.1 (kRt (kQQ kYN mm).2.2.2.2.1) :: kw) (kRm d Z) Z.2.2.2.2.2.1 Z.2.2.2.2.2.2 As.length := callVv As.length hkw (kwI hcode) rfl rfl rfl (by rw [hcl]; exact hkw _ nw_iC) (hkw _ hlink) (hkw _ hin) (hkw _ hsel) ⟨by rw [hcl]; decide, by rw [hcl]; decide, hdesc⟩ ⟨hR.1, by show 8 + ((kQQ kYN mm).2.2.2.1 + 11) + 41 * d ≤ R.locals; omega⟩
  have hrv := va_recv hK hP2 (ci := 9) (q := kCl 9) (q0 := 0) rfl hob
  rw [e0] at hrv
  have hp : PreV s H RX12 x (va_Pc (Value.ref x :: As) (kP dC dI dA (adN ad Z.2.2.2.2.1 H.size) Z H.size)) As := ⟨kP_blind, hrv, kP_in hP2 hK hD2 hfx hX2 hS hA⟩
  have run := va_runV (g := F0 m pc ls (As.reverse ++ .ref x :: rest)) (locs := locs) (cells := cells) (slots := slots) (e := e) (below := below) (meth := meth) (rest := rest) ⟨hx, hb, hml, hown, hkw⟩ hM cw hp rfl rfl hls rfl (lv_room hcat) hd hc
  refine lk_ret run hS (fun q _ h => hAA q h) (fun q h => hAA q h) (fun v u t H1 locs1 ht tu xu hk hb1 hz1 hk1 hS1 => ?_)
  rw [hv v u hk.1]
  have ltm : ∀ k, k < mjKs.length → ¬ va_A (kW dA (adN ad Z.2.2.2.2.1 H.size) Z) H.size (am k) := fun k hk' hq => by
    rcases kW_A.mp hq with ⟨h, hh, e9⟩ | h
    · rw [lo h hh] at e9; exact a1 h k hh hk' e9.symm
    · have := mjW_lt hPm hk'; omega
  have lto : ¬ va_A (kW dA (adN ad Z.2.2.2.2.1 H.size) Z) H.size o9 := fun hq => by
    rcases kW_A.mp hq with ⟨h, hh, e9⟩ | h
    · rw [lo h hh] at e9; exact a2 h hh e9.symm
    · have := (hPo 0 _ rfl).lt
      have : o9 < H.size := this
      omega
  have own : ∀ h, h < u.2.2.2.2.1 → va_A (kW dA (adN ad Z.2.2.2.2.1 H.size) Z) H.size (adN ad Z.2.2.2.2.1 H.size h) := fun h hh => hb1.2.2.2 h _ (kW_get hh)
  refine kk v u H1 locs1 xu hk.1 ⟨dA, adN ad Z.2.2.2.2.1 H.size, dB, am, ko, go, ⟨e0, em⟩, ⟨tu, hk.2, tm⟩, ⟨by rw [← ht]; exact hb1.1, mjW_kept hPm (fun k hk' => hk1 _ (mjW_lt hPm hk') (ltm k hk')), lO_kept hPo (hk1 o9 (hPo 0 _ rfl).lt lto)⟩, ⟨hK, hKm, hKo⟩, ⟨⟨hb1.2.2.1, fun k q hq => hAA _ (hb1.2.2.2 k q hq)⟩, hDm, hDo⟩, ⟨fun h k hh hk' e9 => ltm k hk' (by rw [← e9]; exact own h hh), fun h hh e9 => lto (by rw [← e9]; exact own h hh), a3⟩, hX2⟩ hS1
end LCALL
