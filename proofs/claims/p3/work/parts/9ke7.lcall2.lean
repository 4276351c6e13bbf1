/-! The law's calls of the reference, and of its own helpers. -/
section LCALL2
variable {p : Program} {l : Launch} {e : Env} {R : Room} {s : State} {m : MethodId} {args : Array Value} {below : List Frame} {meth : Method} {c : Code} {H : Heap} {locs : List Loc} {cells slots : Nat} {Q : State → Prop} {dC : Nat → ClassId} {dI : Nat → Nat → Nat} {x m9 o9 : Nat} {Z : kS} {σ : mjS} {pc : Nat} {ls : Array Slot} {rest : List Value}
theorem lr_ret {mc ms : Nat} {st0 : List Value} {A A1 : Nat → Prop} {free : Addr → Prop} {Qa : State → Outcome → State → Prop}
    (hr : va_Run p l e R s m args below meth c H locs cells slots mc ms (F0 m pc ls st0) rest Qa free) (hS : va_S A s.heap H locs) (hA : ∀ q, q < H.size → A1 q → A q) (hf : ∀ q, free q → A q) (hQ : ∀ st v t, Qa st (.returned v) t → va_F A1 st t)
    (kk : ∀ (v : Option Value) (st t : State) (H1 : Heap) (locs1 : List Loc), t.heap = H1 → Qa st (.returned v) t → H.size ≤ H1.size → (∀ q : Nat, q < H.size → ¬ A1 q → H1[q]? = H[q]?) → va_S A s.heap H1 locs1 → W p l e R s m args below meth c H1 locs1 (cells + mc) (slots + ms) Q (F0 m (pc + 3) ls (v.toList ++ rest))) : W p l e R s m args below meth c H locs cells slots Q (F0 m pc ls st0) := by
  intro T hT X
  obtain ⟨v, st₀, t, T', L, h0, X', hL, e1, e2, hq, st⟩ := hr T hT X
  obtain ⟨hz, hkp⟩ := hQ _ _ _ hq
  rw [h0] at hz hkp
  obtain ⟨t2, a1, b1⟩ := kk v st₀ t T'.heap (locs ++ L) e1.symm hq (by rw [e1]; exact hz) (fun q h1 h2 => by rw [e1]; exact hkp q h1 h2)
    ⟨Nat.le_trans hS.1 (by rw [e1]; exact hz), fun q h1 h2 => by rw [e1, hkp q (Nat.lt_of_lt_of_le h1 hS.1) (fun z => h2 (hA q (Nat.lt_of_lt_of_le h1 hS.1) z))]; exact hS.2.1 q h1 h2, fun q hq => by
      rcases List.mem_append.mp hq with h | h
      · exact hS.2.2 q h
      · exact hf _ (hL q h)⟩ T' rfl X'
  exact ⟨t2, st t2 a1, b1⟩
theorem mjQ_x {rt : Nat} {K : mjK} {B : mjS → State → Prop} {A : Nat → Prop} {a : Array Value} {st t : State} {v : Option Value} (h : mjQ rt K B A a st (.returned v) t) : (∃ u, mjTY u ∧ K v u ∧ B u t) ∧ va_F A st t := by
  match rt, h with
  | 0, h => obtain ⟨⟨u, hv, hp, hb⟩, hF⟩ := h; cases hv; exact ⟨⟨u, hp.1, hp.2, hb⟩, hF⟩
  | 1, h => obtain ⟨⟨r, u, hv, hp, hb⟩, hF⟩ := h; cases hv; exact ⟨⟨u, hp.1, hp.2, hb⟩, hF⟩
  | 2, h => obtain ⟨⟨r, u, hv, hp, hb⟩, hF⟩ := h; cases hv; exact ⟨⟨u, hp.1, hp.2, hb⟩, hF⟩
  | n + 3, h => obtain ⟨⟨r, u, hv, hp, hb⟩, hF⟩ := h; cases hv; exact ⟨⟨u, hp.1, hp.2, hb⟩, hF⟩
set_option maxHeartbeats 4000000 in
/-- a call of the reference -/
theorem lb_ref (hB : LB dC dI s x m9 o9 H Z σ) (hS : va_S (AL s) s.heap H locs) {cc : ByteArray} (hx : p.tables.exec = Jvm.exec) (hb : c.code = cc) (hml : c.maxLocals = 7) (hown : s.vm.findClass RL = some m.cls) (hkw : ∀ w ∈ kw, w.before args s = true) (hfx : fx s) (hls : ls.size = 7)
    {k mm d : Nat} {As : List Value} {K : mjK} (hcode : Cond.code (mjQQ mjYN mm).1 (mjQQ mjYN mm).2.1 (mjQQ mjYN mm).2.2.2.1 (mjRt (mjQQ mjYN mm).2.2.2.2) ∈ kw) (hlink : Cond.methodLink RL k (mjQQ mjYN mm).1 ∈ kw) (hin : Cond.instanceMethod (mjQQ mjYN mm).1 ∈ kw) (hsel : Cond.selects RX13 (mjQQ mjYN mm).1 (mjQQ mjYN mm).1 ∈ kw) (hcl : (mjQQ mjYN mm).1.cls = RX13)
    (hdesc : (parseMethodDescriptor (mjQQ mjYN mm).1.desc).map (fun d => d.parameters.length) = some As.length) (hd : decode cc pc = .ok (.invokevirtual k, 3)) (hm22 : (mjQQ mjYN mm).2.2.2.1 ≤ 22) (hAs : ∀ ad, As.map (mjR ad) = As)
    (hM : mjTY σ → ∀ dB am, mjMet l dC dI dB am (mjQQ mjYN mm) d (.ref 0 :: As) σ K) (hc : cells ≤ R.cells ∧ slots ≤ R.slots) (hR : d + 1 ≤ R.frames ∧ 41 * (d + 1) ≤ R.locals) (hcat : (rest.map fun v => v.category).sum ≤ 8)
    (kk : ∀ (v : Option Value) (u : mjS) (H1 : Heap) (locs1 : List Loc), K v u → LB dC dI s x m9 o9 H1 Z u → va_S (AL s) s.heap H1 locs1 → W p l e R s m args below meth c H1 locs1 cells slots Q (F0 m (pc + 3) ls (v.toList ++ rest))) : W p l e R s m args below meth c H locs cells slots Q (F0 m pc ls (As.reverse ++ .ref m9 :: rest)) := by
  obtain ⟨dA, ad, dB, am, ko, go, ⟨ex, em⟩, ⟨ty, gd, tm⟩, ⟨hP, hPm, hPo⟩, ⟨hK, hKm, hKo⟩, ⟨hD, hDm, hDo⟩, ⟨a1, a2, a3⟩, hX⟩ := hB
  have hM := hM tm dB am H.size
  have eA : (Value.ref 0 :: As).map (mjR am) = .ref m9 :: As := by
    rw [List.map_cons, hAs]; show Value.ref (am 0) :: As = _; rw [em]
  rw [eA] at hM
  have hAA : ∀ q : Nat, va_A (mjW dB am σ) H.size q → AL s q := by
    intro q hq
    rcases mjW_A.mp hq with ⟨h, hh, rfl⟩ | h
    · exact hDm.2 h _ (mjW_get hh)
    · exact Nat.le_trans hS.1 h
  have cw : CallW R s args RL RX13 k (mjQQ mjYN mm).1 (mjQQ mjYN mm).2.1 (mjQQ mjYN mm).2.2.2.1 (mjRt (mjQQ mjYN mm).2.2.2.2) (Cond.code (mjQQ mjYN mm).1 (mjQQ mjYN mm).2.1 (mjQQ mjYN mm).2.2.2.1 (mjRt (mjQQ mjYN mm).2.2.2.2) :: kw) (mjRm d) 0 0 As.length := callVv As.length hkw (kwI hcode) rfl rfl rfl (by rw [hcl]; exact hkw _ nw_iM) (hkw _ hlink) (hkw _ hin) (hkw _ hsel) ⟨by rw [hcl]; decide, by rw [hcl]; decide, hdesc⟩ ⟨hR.1, by show 8 + ((mjQQ mjYN mm).2.2.2.1 + 11) + 41 * d ≤ R.locals; omega⟩
  have hrv := va_recv hKm hPm (ci := 10) (q := kCl 10) (q0 := 0) rfl mjW_obj
  rw [em] at hrv
  have hp : PreV s H RX13 m9 (va_Pc (Value.ref m9 :: As) (pW (dC, dI) (mjW dB am σ) (mjTy dB) H.size)) As := ⟨fbW, hrv, pW_in hPm hKm hDm hfx⟩
  have run := va_runV (g := F0 m pc ls (As.reverse ++ .ref m9 :: rest)) (locs := locs) (cells := cells) (slots := slots) (e := e) (below := below) (meth := meth) (rest := rest) ⟨hx, hb, hml, hown, hkw⟩ hM cw hp rfl rfl hls rfl (lv_room hcat) hd hc
  refine lr_ret run hS (fun q _ h => hAA q h) (fun q h => hAA q h) (fun st v t h => (mjQ_x h).2) (fun v st t H1 locs1 ht hq hz1 hk1 hS1 => ?_)
  obtain ⟨⟨u, tu, hk, hb1⟩, -⟩ := mjQ_x hq
  have hb1 : va_P (dC, dI) classes (mjW dB am u) t.heap ∧ va_K (dC, dI) classes (mjTy dB) t ∧ va_D (va_A (mjW dB am σ) H.size) (mjW dB am u) := hb1
  have ltk : ∀ h, h < Z.2.2.2.2.1 → ¬ va_A (mjW dB am σ) H.size (ad h) := fun h hh hq => by
    rcases mjW_A.mp hq with ⟨k, hk', e9⟩ | h9
    · exact a1 h k hh hk' e9
    · have := (hP h _ (kW_get hh)).lt
      have : ad h < H.size := this
      omega
  have lto : ¬ va_A (mjW dB am σ) H.size o9 := fun hq => by
    rcases mjW_A.mp hq with ⟨k, hk', e9⟩ | h9
    · exact a3 k hk' e9.symm
    · have := (hPo 0 _ rfl).lt
      have : o9 < H.size := this
      omega
  exact kk v u H1 locs1 hk ⟨dA, ad, dB, am, ko, go, ⟨ex, em⟩, ⟨ty, gd, tu⟩, ⟨kW_kept hP (fun h hh => hk1 _ (hP h _ (kW_get hh)).lt (ltk h hh)), by rw [← ht]; exact hb1.1, lO_kept hPo (hk1 o9 (hPo 0 _ rfl).lt lto)⟩, ⟨hK, hKm, hKo⟩, ⟨hD, ⟨hb1.2.2.1, fun k q hq => hAA _ (hb1.2.2.2 k q hq)⟩, hDo⟩, ⟨a1, a2, a3⟩, hX⟩ hS1
/-- one cell and six slots for a throw -/
def k16 (Z : kS) : kS := (Z.1, Z.2.1, Z.2.2.1, Z.2.2.2.1, Z.2.2.2.2.1, 1, 6)
theorem k16_ty (ty : kTY Z) (h : 1 ≤ Z.2.2.2.2.2.1) : kTY (k16 Z) := by
  obtain ⟨t1, t2, t3, t4, t5, t6, t7, t8, t9, t10⟩ := ty
  exact ⟨t1, t2, t3, t4, by show Z.2.2.2.2.1 + 1 < 1000000; omega, t6, t7, t8, t9, t10⟩
set_option maxHeartbeats 4000000 in
/-- a call of the law's own outAt or logAt -/
theorem lb_help (hB : LB dC dI s x m9 o9 H Z σ) (hS : va_S (AL s) s.heap H locs) {cc : ByteArray} (hx : p.tables.exec = Jvm.exec) (hb : c.code = cc) (hml : c.maxLocals = 7) (hown : s.vm.findClass RL = some m.cls) (hkw : ∀ w ∈ kw, w.before args s = true) (hfx : fx s) (hU : tU (AL s) s s.heap) (hls : ls.size = 7)
    {k mL : Nat} {y : MethodName} {bb : ByteArray} {hh : List (Nat × Nat × Nat × Nat)} {As : List Value} (hcode : Cond.codeWith y bb mL (some .int) hh ∈ kw) (hlink : Cond.methodLink RL k y ∈ kw) (hst : Cond.static y ∈ kw) (hcl : y.cls = RL)
    (hdesc : (parseMethodDescriptor y.desc).map (fun d => d.parameters.length) = some (As.length + 2)) (hd : decode cc pc = .ok (.invokestatic k, 3)) (hm22 : mL ≤ 22) (h1 : 1 ≤ Z.2.2.2.2.2.1)
    (hM : kTY (k16 Z) → ∀ dA ad ko go sz, kAd ad Z.2.2.2.2.1 sz → Met l y (Cond.codeWith y bb mL (some .int) hh :: kw) { frames := 10, cells := 1, slots := 6, locals := 410 } (va_Pc (.ref (ad 0) :: (As ++ [.ref o9])) (lP dC dI dA ad (k16 Z) o9 ko go sz)) (lQ dC dI dA ad (k16 Z) o9 ko go sz) 1 6 (va_A (kW dA ad (k16 Z) ++ lOut o9 ko go) sz)) (hc : cells + 1 ≤ R.cells ∧ slots + 6 ≤ R.slots) (hR : 11 ≤ R.frames ∧ 451 ≤ R.locals) (hcat : (rest.map fun v => v.category).sum ≤ 8)
    (kk : ∀ (v : Int32) (H1 : Heap) (locs1 : List Loc), LB dC dI s x m9 o9 H1 Z σ → va_S (AL s) s.heap H1 locs1 → W p l e R s m args below meth c H1 locs1 (cells + 1) (slots + 6) Q (F0 m (pc + 3) ls (.int v :: rest))) : W p l e R s m args below meth c H locs cells slots Q (F0 m pc ls (.ref o9 :: (As.reverse ++ .ref x :: rest))) := by
  obtain ⟨dA, ad, dB, am, ko, go, ⟨ex, em⟩, ⟨ty, gd, tm⟩, ⟨hP, hPm, hPo⟩, ⟨hK, hKm, hKo⟩, ⟨hD, hDm, hDo⟩, ⟨a1, a2, a3⟩, hX⟩ := hB
  have n76 := ty.2.2.2.1
  have lo : ∀ h, h < Z.2.2.2.2.1 → adN ad Z.2.2.2.2.1 H.size h = ad h := fun h hh => adN_lo hh
  have hi : ∀ h, 1000000 ≤ h → adN ad Z.2.2.2.2.1 H.size h = ad h := fun h hh => adN_hi hh
  have hP2 := kW_re (ad' := adN ad Z.2.2.2.2.1 H.size) ty gd lo hi hP
  have hD2 := kW_D (ad' := adN ad Z.2.2.2.2.1 H.size) lo hD
  have hX2 := hX.re (ad' := adN ad Z.2.2.2.2.1 H.size) hi
  have hA : ∀ a : Nat, s.heap.size ≤ a → AL s a := fun a h => h
  have e0 : adN ad Z.2.2.2.2.1 H.size 0 = x := (lo 0 (by omega)).trans ex
  have hol : o9 < H.size := (hPo 0 _ rfl).lt
  have hM := hM (k16_ty ty h1) dA (adN ad Z.2.2.2.2.1 H.size) ko go H.size adN_ad
  rw [e0] at hM
  have hDw : va_D (AL s) (kW dA (adN ad Z.2.2.2.2.1 H.size) (k16 Z) ++ lOut o9 ko go) := va_D.app hD2 ⟨fun i j p q h1 h2 _ => by
      have hi' : i = 0 := by cases i with | zero => rfl | succ i => cases h1
      have hj' : j = 0 := by cases j with | zero => rfl | succ j => cases h2
      rw [hi', hj'], fun k q hq => by
      cases k with
      | zero => cases hq; exact hDo
      | succ k => cases hq⟩ (fun i j p q h1 h2 e9 => by
      cases j with
      | succ j => cases h2
      | zero =>
        cases h2
        have hlt : i < Z.2.2.2.2.1 := by rw [← kW_len (dA := dA) (ad := adN ad Z.2.2.2.2.1 H.size) (σ := Z)]; exact (List.getElem?_eq_some_iff.mp h1).1
        have h1 : (kW dA (adN ad Z.2.2.2.2.1 H.size) Z)[i]? = some p := h1
        rw [kW_get hlt] at h1
        cases h1
        have e9 : adN ad Z.2.2.2.2.1 H.size i = o9 := e9
        rw [lo i hlt] at e9
        exact a2 i hlt e9)
  have hAA : ∀ q : Nat, va_A (kW dA (adN ad Z.2.2.2.2.1 H.size) (k16 Z) ++ lOut o9 ko go) H.size q → AL s q := by
    rintro q (⟨k, w, hk⟩ | h)
    · exact hDw.2 k (q, w) hk
    · exact Nat.le_trans hS.1 h
  have cw : vx_CSW R s args RL k y bb mL (some .int) hh (Cond.codeWith y bb mL (some .int) hh :: kw) { frames := 10, cells := 1, slots := 6, locals := 410 } 1 6 (As.length + 2) := vx_cwSW (As.length + 2) hkw (fun w hw => by
    have hw2 : w ∈ kw := by
      rcases List.mem_append.mp hw with q | q
      · simp only [List.mem_cons, List.not_mem_nil, or_false] at q
        rcases q with rfl | rfl | rfl
        · exact hlink
        · exact hst
        · rw [hcl]; exact nw_iL
      · rcases List.mem_cons.mp q with rfl | q
        · exact hcode
        · exact q
    exact ⟨hw2, good_of_word (kw_good w hw2)⟩) rfl rfl rfl ⟨by rw [hcl]; decide, by rw [hcl]; decide, hdesc⟩ ⟨hR.1, by show 8 + (mL + 11) + 410 ≤ R.locals; omega⟩
  have hp : PreS s H (va_Pc (Value.ref x :: (As ++ [.ref o9])) (lP dC dI dA (adN ad Z.2.2.2.2.1 H.size) (k16 Z) o9 ko go H.size)) (.ref x :: (As ++ [.ref o9])) := ⟨lP_blind, fun U hU' hW => ⟨rfl, (kPx_in (av := []) (σ := k16 Z) (dA := dA) (ad := adN ad Z.2.2.2.2.1 H.size) hP2 hK hD2 hfx hX2 hU hS hA U hU' hW).2, by rw [hU']; exact hPo, va_K.moved hW.alike hKo, hDw.weaken (fun _ _ _ _ => trivial)⟩⟩
  have hst0 : (F0 m pc ls (.ref o9 :: (As.reverse ++ .ref x :: rest))).stack = (Value.ref x :: (As ++ [.ref o9])).reverse ++ rest := by
    show Value.ref o9 :: (As.reverse ++ .ref x :: rest) = _
    simp
  have run := vx_runSW (g := F0 m pc ls (.ref o9 :: (As.reverse ++ .ref x :: rest))) (locs := locs) (cells := cells) (slots := slots) (e := e) (below := below) (meth := meth) (rest := rest) ⟨hx, hb, hml, hown, hkw⟩ hM cw hp rfl (by simp) hls hst0 (lv_room hcat) hd hc
  refine lr_ret run hS (fun q _ h => hAA q h) (fun q h => hAA q h) (fun st v t h => h.2) (fun v st t H1 locs1 ht hq hz1 hk1 hS1 => ?_)
  obtain ⟨⟨r, g', hv, -, hP1⟩, -⟩ := hq
  cases hv
  have hP1 : va_P (dC, dI) classes (kW dA (adN ad Z.2.2.2.2.1 H.size) Z ++ lOut o9 ko g') H1 := by rw [← ht]; exact hP1
  have ltm : ∀ k, k < mjKs.length → ¬ va_A (kW dA (adN ad Z.2.2.2.2.1 H.size) (k16 Z) ++ lOut o9 ko go) H.size (am k) := by
    rintro k hk' (⟨j, w, hj⟩ | h)
    · rcases List.getElem?_append (l₁ := kW dA (adN ad Z.2.2.2.2.1 H.size) (k16 Z)) (l₂ := lOut o9 ko go) (i := j) ▸ hj with hj
      split at hj
      · have hq : va_A (kW dA (adN ad Z.2.2.2.2.1 H.size) Z) H.size (am k) := Or.inl ⟨j, w, hj⟩
        rcases kW_A.mp hq with ⟨h, hh, e9⟩ | h
        · rw [lo h hh] at e9; exact a1 h k hh hk' e9.symm
        · have := mjW_lt hPm hk'; omega
      · generalize j - (kW dA (adN ad Z.2.2.2.2.1 H.size) (k16 Z)).length = j' at hj
        cases j' with
        | zero => exact a3 k hk' (congrArg Prod.fst (Option.some.inj hj)).symm
        | succ j' => cases hj
    · have := mjW_lt hPm hk'; omega
  refine kk r H1 locs1 ⟨dA, adN ad Z.2.2.2.2.1 H.size, dB, am, ko, g', ⟨e0, em⟩, ⟨ty, gd, tm⟩, ⟨fun k q hq => hP1 k q (lW_lo hq), mjW_kept hPm (fun k hk' => hk1 _ (mjW_lt hPm hk') (ltm k hk')), fun k q hq => ?_⟩, ⟨hK, hKm, hKo⟩, ⟨hD2, hDm, hDo⟩, ⟨fun h k hh hk' e9 => a1 h k hh hk' (by rw [← lo h hh]; exact e9), fun h hh e9 => a2 h hh (by rw [← lo h hh]; exact e9), a3⟩, hX2⟩ hS1
  cases k with
  | zero => cases hq; exact hP1 Z.2.2.2.2.1 _ lW_at
  | succ k => cases hq
end LCALL2
