/-! Whole methods: what the reader says of a method is a contract of it. -/
theorem mj_sl (ad : Nat → Nat) : ∀ vs : List Value, (lg_sl (vs.map (mjR ad))).length = (mjAr vs).length := by
  intro vs
  induction vs with
  | nil => rfl
  | cons v r ih =>
    have e : lg_sl ((v :: r).map (mjR ad)) = (if v.category = 2 then [.val (mjR ad v), .second] else [.val (mjR ad v)]) ++ lg_sl (r.map (mjR ad)) := by
      show (List.flatMap _ (mjR ad v :: r.map (mjR ad))) = _
      rw [List.flatMap_cons, mjR_cat]; rfl
    rw [e, List.length_append, ih]
    show _ = (if v.category = 2 then some v :: none :: mjAr r else some v :: mjAr r).length
    by_cases c : v.category = 2
    · rw [if_pos c, if_pos c]; simp only [List.length_cons, List.length_nil]; omega
    · rw [if_neg c, if_neg c]; simp only [List.length_cons, List.length_nil]; omega
theorem mjL0_len {n : Nat} {vs : List Value} (h : (mjAr vs).length ≤ n) : (mjL0 n vs).length = n := by
  unfold mjL0; rw [List.length_append, List.length_replicate]; omega
/-- the tables of a program are right -/
def mjOk (P : Nat → List mjEn) (q : mjQm) : Prop := ∀ m i pc ins x z, (P m)[i]? = some (pc, ins, x, z) → mjGE P q m pc ins x z ∧ (∀ e', (P m)[i + 1]? = some e' → e'.1 = pc + mjLen ins) ∧ plainName (q m).1.cls = true ∧ (q m).1.cls = RX13 ∧ ∀ e', (P m)[0]? = some e' → e'.1 = 0
section MJV
variable {l : Launch} {dC : Nat → ClassId} {dI : Nat → Nat → Nat} {dA : Nat → ClassId} {ad : Nat → Nat}
def mjSo (l : Launch) (dC : Nat → ClassId) (dI : Nat → Nat → Nat) (dA : Nat → ClassId) (ad : Nat → Nat) (P : Nat → List mjEn) (q : mjQm) (f : Nat) : Prop :=
  ∀ (d m i : Nat) (lv : mjL) (st : List Value) (σ : mjS) (K : mjK), mjX P q f d m i lv st σ K → lv.length = (q m).2.2.2.1 → ∀ (p : Program) (e : Env) (s : State) (mi : MethodId) (args : Array Value) (below : List Frame) (meth : Method) (c : Code) (A : Nat → Prop) (pc : Nat), p.tables.exec = Jvm.exec → c.code = (q m).2.1 → c.maxLocals = (q m).2.2.2.1 → meth.sig.returnType = mjRt (q m).2.2.2.2 → s.vm.findClass RX13 = some mi.cls → (∀ w ∈ kw, w.before args s = true) → meth.locks = false → va_K (dC, dI) classes (mjTy dA) s → fx s → (∀ a : Nat, s.heap.size ≤ a → A a) → (∀ e', (P m)[i]? = some e' → e'.1 = pc) → mjT p l e (mjRm d) s mi args below meth c A (MQ below (mjQ (q m).2.2.2.2 K (mjB dC dI dA ad A) A) args s 0 0 A) dC dI dA ad (q m).2.2.2.1 pc lv st σ
set_option maxHeartbeats 4000000 in
theorem mj_met {P : Nat → List mjEn} {q : mjQm} (hok : mjOk P q) {f d m : Nat} {ar : List Value} {σ : mjS} {K : mjK} (hS : mjSo l dC dI dA ad P q f) (har : (mjAr ar).length ≤ (q m).2.2.2.1) (ty : mjTY σ) (h : mjX P q f d m 0 (mjL0 (q m).2.2.2.1 ar) [] σ K) : mjMet l dC dI dA ad (q m) d ar σ K := by
  intro sz
  have h0 : ∃ e', (P m)[0]? = some e' := by
    cases f with
    | zero => exact False.elim h
    | succ f =>
      cases he : (P m)[0]? with
      | none => unfold mjX at h; rw [he] at h; exact False.elim h
      | some e' => exact ⟨e', rfl⟩
  obtain ⟨⟨pc0, ins0, x0, z0⟩, he0⟩ := h0
  obtain ⟨-, -, hpn, hcl, hz⟩ := hok m 0 pc0 ins0 x0 z0 he0
  refine Met.ofW (cc := (q m).2.1) (maxL := (q m).2.2.2.1) (ret := mjRt (q m).2.2.2.2) hpn rfl ?_
  intro p e s mi args below meth c s₁ B hml hv
  obtain ⟨rfl, hsz, hP, hK, hD0, hfx⟩ := hv
  have hts := atoms_spec (ws := Cond.code (q m).1 (q m).2.1 (q m).2.2.2.1 (mjRt (q m).2.2.2.2) :: kw) B.pre
  have hkw : ∀ w ∈ kw, w.before _ s = true := fun w h => hts w (List.mem_cons_of_mem _ h)
  have hown : s.vm.findClass RX13 = some mi.cls := by rw [← hcl]; exact findClass_of_methodNamed B.named
  subst hsz
  have hD := hD0.self (sz := s.heap.size)
  have hA : ∀ a : Nat, s.heap.size ≤ a → va_A (mjW dA ad σ) s.heap.size a := fun a h => Or.inr h
  have hl := lv_entry (ar.map (mjR ad)) (n := (q m).2.2.2.1) (by rw [mj_sl]; exact har)
  rw [lg_entry_eq]
  exact hS d m 0 (mjL0 (q m).2.2.2.1 ar) [] σ K h (mjL0_len har) p e s mi _ below meth c (va_A (mjW dA ad σ) s.heap.size) 0 B.exec B.bytes hml B.returns hown hkw B.notSynchronized hK hfx hA hz s.heap [] _ ty hP hD va_S.rf (mjL0_has hl)
set_option maxHeartbeats 4000000 in
theorem mj_sound {P : Nat → List mjEn} {q : mjQm} (hok : mjOk P q) : ∀ f, mjSo l dC dI dA ad P q f := by
  intro f
  induction f with
  | zero => intro d m i lv st σ K h; exact False.elim h
  | succ f ih =>
    intro d m i lv st σ K h hlen p e s mi args below meth c A pc hx hb hml hr hown hkw hlocks hK hfx hA hpc
    cases he : (P m)[i]? with
    | none => unfold mjX at h; rw [he] at h; exact False.elim h
    | some e0 =>
      obtain ⟨pc0, ins, x, z⟩ := e0
      have epc : pc0 = pc := hpc _ he
      subst epc
      unfold mjX at h
      rw [he] at h
      obtain ⟨hge, hnx, -, -, -⟩ := hok m i pc0 ins x z he
      intro H locs ls ty
      refine mj_step P q hx hb hml hr hown hkw hlocks hK hfx hA hge hnx hlen (fun i' lv' st' σ' pc' hg hl' hp' => ih d m i' lv' st' σ' K hg hl' p e s mi args below meth c A pc' hx hb hml hr hown hkw hlocks hK hfx hA hp') ?_ rfl h H locs ls ty
      intro x' ar σ' K' ty' hc
      cases d with
      | zero => exact False.elim hc
      | succ d' => exact ⟨d', ⟨Nat.le_refl _, Nat.le_refl _⟩, mj_met hok ih hc.1 ty' hc.2⟩
end MJV
