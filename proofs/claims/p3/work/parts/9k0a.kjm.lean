/-! Whole methods: what the second reader says of a method is a contract of it. -/
/-- the tables of a program are right -/
def kjOk (P : Nat → List mjEn) (q : kQm) : Prop := (P 9999 = [] ∧ kOrW ∧ kChW ∧ kVaW) ∧ ∀ m i pc ins x z, (P m)[i]? = some (pc, ins, x, z) → kjGE P q m i pc ins x z ∧ (∀ e', (P m)[i + 1]? = some e' → e'.1 = pc + kLen ins z) ∧ plainName (q m).1.cls = true ∧ ∀ e', (P m)[0]? = some e' → e'.1 = 0
section KJV
variable {l : Launch} {dC : Nat → ClassId} {dI : Nat → Nat → Nat} {dA : Nat → ClassId} {ad : Nat → Nat}
def kjSo (l : Launch) (dC : Nat → ClassId) (dI : Nat → Nat → Nat) (dA : Nat → ClassId) (ad : Nat → Nat) (P : Nat → List mjEn) (q : kQm) (f : Nat) : Prop :=
  ∀ (d m i : Nat) (lv : mjL) (st : List Value) (σ σ0 : kS) (K : kK), kjX P q f d m i lv st σ K → lv.length = (q m).2.2.2.1 → kEx σ0 σ → ∀ (p : Program) (e : Env) (s : State) (mi : MethodId) (args : Array Value) (below : List Frame) (meth : Method) (c : Code) (A : Nat → Prop) (n0 pc : Nat), p.tables.exec = Jvm.exec → c.code = (q m).2.1 → c.maxLocals = (q m).2.2.2.1 → meth.sig.returnType = kRt (q m).2.2.2.2.1 → s.vm.findClass (q m).1.cls = some mi.cls → (∀ w ∈ kw, w.before args s = true) → meth.locks = false → va_K (dC, dI) classes (kTyp dA) s → fx s → kX ad A s s.heap → (∀ a : Nat, s.heap.size ≤ a → A a) → (∀ a : Nat, A a → s.heap.size ≤ a ∨ ∃ h, h < n0 ∧ a = ad h) → kAd ad n0 s.heap.size → (∀ e', (P m)[i]? = some e' → e'.1 = pc) →
    kjT p l e (kRm d σ0) s mi args below meth c A (MQ below (kjQ dC dI dA ad σ0 K A) args s σ0.2.2.2.2.2.1 σ0.2.2.2.2.2.2 A) dC dI dA ad n0 (q m).2.2.2.1 pc lv st σ
set_option maxHeartbeats 4000000 in
theorem kj_met {P : Nat → List mjEn} {q : kQm} (hok : kjOk P q) {f d m : Nat} {ar : List Value} {σ : kS} {K : kK} (hS : kjSo l dC dI dA ad P q f) (har : (mjAr ar).length ≤ (q m).2.2.2.1) (ty : kTY σ) (h : kjX P q f d m 0 (mjL0 (q m).2.2.2.1 ar) [] σ K) : kjMet l dC dI dA ad (q m) d ar σ K := by
  intro sz had
  have h0 : ∃ e', (P m)[0]? = some e' := by
    cases f with
    | zero => exact False.elim h
    | succ f =>
      cases he : (P m)[0]? with
      | none => unfold kjX at h; rw [he] at h; exact False.elim h
      | some e' => exact ⟨e', rfl⟩
  obtain ⟨⟨pc0, ins0, x0, z0⟩, he0⟩ := h0
  obtain ⟨-, -, hpn, hz⟩ := hok.2 m 0 pc0 ins0 x0 z0 he0
  refine Met.ofW (cc := (q m).2.1) (maxL := (q m).2.2.2.1) (ret := kRt (q m).2.2.2.2.1) hpn rfl ?_
  intro p e s mi args below meth c s₁ B hml hv
  obtain ⟨rfl, hsz, hP, hK, hD0, hfx, hX⟩ := hv
  have hts := atoms_spec (ws := Cond.code (q m).1 (q m).2.1 (q m).2.2.2.1 (kRt (q m).2.2.2.2.1) :: kw) B.pre
  have hkw : ∀ w ∈ kw, w.before _ s = true := fun w h => hts w (List.mem_cons_of_mem _ h)
  have hown : s.vm.findClass (q m).1.cls = some mi.cls := findClass_of_methodNamed B.named
  subst hsz
  have hD := hD0.self (sz := s.heap.size)
  have hA : ∀ a : Nat, s.heap.size ≤ a → va_A (kW dA ad σ) s.heap.size a := fun a h => Or.inr h
  have hA2 : ∀ a : Nat, va_A (kW dA ad σ) s.heap.size a → s.heap.size ≤ a ∨ ∃ h, h < σ.2.2.2.2.1 ∧ a = ad h := by
    rintro a (⟨k, w, hk⟩ | h)
    · right
      have hlt : k < σ.2.2.2.2.1 := by rw [← kW_len (dA := dA) (ad := ad) (σ := σ)]; exact (List.getElem?_eq_some_iff.mp hk).1
      rw [kW_get hlt] at hk
      exact ⟨k, hlt, (congrArg Prod.fst (Option.some.inj hk)).symm⟩
    · exact Or.inl h
  have hl := lv_entry (ar.map (mjR ad)) (n := (q m).2.2.2.1) (by rw [mj_sl]; exact har)
  rw [lg_entry_eq]
  exact hS d m 0 (mjL0 (q m).2.2.2.1 ar) [] σ σ K h (mjL0_len har) kEx.rf p e s mi _ below meth c (va_A (kW dA ad σ) s.heap.size) σ.2.2.2.2.1 0 B.exec B.bytes hml B.returns hown hkw B.notSynchronized hK hfx hX hA hA2 had hz s.heap [] _ 0 0 ty hP hD va_S.rf (mjL0_has hl) ⟨Nat.zero_add _, Nat.zero_add _, rfl⟩
set_option maxHeartbeats 4000000 in
theorem kj_sound {P : Nat → List mjEn} {q : kQm} (hok : kjOk P q) : ∀ f, kjSo l dC dI dA ad P q f := by
  intro f
  induction f with
  | zero => intro d m i lv st σ σ0 K h; exact False.elim h
  | succ f ih =>
    intro d m i lv st σ σ0 K h hlen hx0 p e s mi args below meth c A n0 pc hx hb hml hr hown hkw hlocks hK hfx hX hA hA2 had hpc
    cases he : (P m)[i]? with
    | none => unfold kjX at h; rw [he] at h; exact False.elim h
    | some e0 =>
      obtain ⟨pc0, ins, x, z⟩ := e0
      have epc : pc0 = pc := hpc _ he
      subst epc
      unfold kjX at h
      rw [he] at h
      obtain ⟨hge, hnx, -, -⟩ := hok.2 m i pc0 ins x z he
      refine kj_step (R := kRm d σ0) (σ0 := σ0) P q hx hb hml hr hown hkw hlocks hK hfx hX hA hA2 had hok.1.2 ⟨rfl, rfl⟩ ⟨rfl, rfl⟩ hx0 hge hnx hlen (fun i' lv' st' σ' pc' hx' hg hl' hp' => ih d m i' lv' st' σ' σ0 K hg hl' hx' p e s mi args below meth c A n0 pc' hx hb hml hr hown hkw hlocks hK hfx hX hA hA2 had hp') ?_ rfl h
      intro x' ar σ' K' ty' hc
      cases d with
      | zero => exact False.elim hc
      | succ d' =>
        refine ⟨fun e9 => ?_, d', ⟨Nat.le_refl _, Nat.le_refl _⟩, kj_met hok ih hc.1 ty' hc.2⟩
        subst e9
        have h2 := hc.2
        cases f with
        | zero => exact False.elim h2
        | succ f => unfold kjX at h2; rw [hok.1.1] at h2; exact False.elim h2
end KJV
