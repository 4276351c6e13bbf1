/-! The world between commands. -/
def CNs : List Nat := [12, 21, 30, 39]
def CHT (σ : kS) : Prop := ∀ c ∈ CNs, ∃ n, n ≤ 32 ∧ σ.1 c 11 = nI n
/-- fields of the outer things -/
def ouF : List (Nat × Nat) := [(0, 10), (0, 11), (0, 12), (0, 13), (0, 14), (0, 15), (0, 16), (0, 17), (53, 3), (53, 4), (53, 5), (53, 6), (53, 7), (53, 8), (53, 9), (53, 10), (53, 11), (53, 12), (53, 13), (53, 14), (53, 15), (53, 16), (59, 16), (59, 17), (59, 18), (67, 3), (67, 4), (67, 5), (67, 6), (75, 3), (75, 4), (75, 5), (75, 6), (75, 7), (75, 8)] ++ CNs.flatMap (fun c => [(c, 0), (c, 3), (c, 4), (c, 5), (c, 6), (c, 7)])
def KG (B : List (List Int32)) (σ : kS) (nm : List (List Int32)) (ks : List KC) : Prop := (OWN σ ∧ POT σ) ∧ (WRD σ nm ∧ ∀ w ∈ nm, w ∈ B) ∧ STO σ nm ks ∧ (∀ b ∈ OWb, ∃ l, kBY σ b l) ∧ POO σ ∧ WAT σ ∧ CHT σ
section KGLOB
variable {σ u : kS} {B ws nm nm' : List (List Int32)} {ks ks' : List KC}
theorem KG.in_ (ty : kTY σ) (g : KG B σ nm ks) (hq : RQ σ ws) (h6 : ∃ b ∈ ANb, σ.2.2.1 53 6 = some b) : KWd σ B σ ws nm ks := ⟨⟨ty, Ch.rf⟩, g.1, g.2.1, hq, g.2.2.1, fun b hb => g.2.2.2.1 b (ANn_b b hb).1, h6, g.2.2.2.2.1, g.2.2.2.2.2.1⟩
theorem KG.out_ (ty : kTY σ) (g : KG B σ nm ks) (w : KWd σ B u ws nm' ks') : KG B u nm' ks' := by
  obtain ⟨⟨-, ch⟩, w2, w3, w4, w5, w6, w7, w8, w9⟩ := w
  refine ⟨w2, w3, w5, fun b hb => ?_, w8, w9, fun c hc => ?_⟩
  · by_cases z : b ∈ ANn
    · exact w6 b z
    · obtain ⟨l, hl⟩ := g.2.2.2.1 b hb
      have q : ∀ b ∈ OWb, ¬ b ∈ ANn → (∀ p ∈ kcF, ¬ p.1 = b) ∧ ∀ p ∈ kcO, p ∈ OWs ∧ ¬ p.1 = b := by decide +kernel
      exact ⟨l, hl.fr ty g.1.1 hb ch (q b hb z).1 (q b hb z).2⟩
  · obtain ⟨n, hn, e⟩ := g.2.2.2.2.2.2 c hc
    have q : ∀ c ∈ CNs, c < 76 ∧ (kd0 c).1 = 1 ∧ ¬ (c, 11) ∈ kcF := by decide +kernel
    exact ⟨n, hn, by rw [(ch.fld ty (q c hc).1 (q c hc).2.1 (by decide) (fun z => (q c hc).2.2 z)).1]; exact e⟩
theorem ouF_ok : ∀ p ∈ ouF, ¬ p.1 = 48 ∧ ¬ p.1 = 71 ∧ p.1 < 76 ∧ ¬ p ∈ stKf ∧ (∀ b ∈ OWb, ¬ p.1 = b) ∧ (∀ c ∈ CNs, ¬ p = (c, 9) ∧ ¬ p = (c, 11)) ∧ (kd0 p.1).1 < 20 ∧ ¬ p = (59, 6) ∧ ¬ p ∈ OWs := by decide +kernel
/-- outer fields change -/
theorem KG.fl (ty : kTY σ) (g : KG B σ nm ks) {fs : List (Nat × Nat)} (ch : Ch false fs [] σ u) (hf : ∀ p ∈ fs, p ∈ ouF) (ow : OWN u) (po : POT u) : KG B u nm ks := by
  obtain ⟨w2, w3, ⟨fr, vs, w5, w5'⟩, w6, w8, w9, w10⟩ := g
  refine ⟨⟨ow, po⟩, ⟨w3.1.fr ty w2.1 ch (fun p hp => (ouF_ok p (hf p hp)).1) (fun p hp => by cases hp), w3.2⟩, ⟨fr, vs, w5.fr ty w2.1 ch (fun p hp => ⟨(ouF_ok p (hf p hp)).2.2.1, (ouF_ok p (hf p hp)).2.2.2.1⟩) (fun p hp => by cases hp), w5'⟩, fun b hb => ?_, w8.fr ty w2.1 ch (fun p hp => (ouF_ok p (hf p hp)).2.1) (fun p hp => by cases hp), fun c hc => ?_, fun c hc => ?_⟩
  · obtain ⟨l, hl⟩ := w6 b hb
    exact ⟨l, hl.fr ty w2.1 hb ch (fun p hp => (ouF_ok p (hf p hp)).2.2.2.2.1 b hb) (fun p hp => by cases hp)⟩
  · obtain ⟨n, hn, e⟩ := w9 c hc
    have q : ∀ c ∈ CNs, c < 76 ∧ (kd0 c).1 = 1 := by decide
    exact ⟨n, hn, by rw [(ch.fld ty (q c hc).1 (q c hc).2 (by decide) (fun z => ((ouF_ok _ (hf _ z)).2.2.2.2.2.1 c hc).1 rfl)).1]; exact e⟩
  · obtain ⟨n, hn, e⟩ := w10 c hc
    have q : ∀ c ∈ CNs, c < 76 ∧ (kd0 c).1 = 1 := by decide
    exact ⟨n, hn, by rw [(ch.fld ty (q c hc).1 (q c hc).2 (by decide) (fun z => ((ouF_ok _ (hf _ z)).2.2.2.2.2.1 c hc).2 rfl)).1]; exact e⟩
theorem KG.pi (ty : kTY σ) (g : KG B σ nm ks) {h x : Nat} {v : Int32} (hm : (h, x) ∈ ouF) : KG B (mjIu σ.1 h x v, σ.2) nm ks := by
  have q := ouF_ok _ hm
  have q1 : h < 76 := q.2.2.1
  have q2 : (kd0 h).1 < 20 := q.2.2.2.2.2.2.1
  refine g.fl ty (Ch_i (by rw [ty.2.2.1 h q1]; exact q2)) (fun p hp => by rw [List.mem_singleton.mp hp]; exact hm) (g.1.1.same (fun _ _ => rfl)) (g.1.2.same (fun p hp => kl_eq ty kEx_i hp rfl) (fun b hb => ?_) ?_ ⟨rfl, rfl⟩)
  · show mjIu σ.1 h x v b 2 = _
    rw [mjIu_at, if_neg (fun z => q.2.2.2.2.1 b hb z.1.symm)]
  · show mjIu σ.1 h x v 59 6 = _
    rw [mjIu_at, if_neg (fun z => q.2.2.2.2.2.2.2.1 (by rw [← z.1, ← z.2]))]
theorem KG.pl (ty : kTY σ) (g : KG B σ nm ks) {h x : Nat} {v : Int64} (hm : (h, x) ∈ ouF) : KG B (σ.1, mjLu σ.2.1 h x v, σ.2.2) nm ks := by
  have q := ouF_ok _ hm
  have q1 : h < 76 := q.2.2.1
  have q2 : (kd0 h).1 < 20 := q.2.2.2.2.2.2.1
  exact g.fl ty (Ch_l (by rw [ty.2.2.1 h q1]; exact q2)) (fun p hp => by rw [List.mem_singleton.mp hp]; exact hm) (g.1.1.same (fun _ _ => rfl)) (g.1.2.same (fun p hp => kl_eq ty kEx_l hp rfl) (fun b hb => rfl) rfl ⟨rfl, rfl⟩)
theorem KG.pf (ty : kTY σ) (g : KG B σ nm ks) {h x : Nat} {o : Option Nat} (hm : (h, x) ∈ ouF) : KG B (σ.1, σ.2.1, kFu σ.2.2.1 h x o, σ.2.2.2) nm ks := by
  have q := ouF_ok _ hm
  have q1 : h < 76 := q.2.2.1
  have q2 : (kd0 h).1 < 20 := q.2.2.2.2.2.2.1
  have e : ∀ p ∈ OWs, kFu σ.2.2.1 h x o p.1 p.2 = σ.2.2.1 p.1 p.2 := fun p hp => by
    rw [kFu_at, if_neg (fun z => q.2.2.2.2.2.2.2.2 (by rw [← z.1, ← z.2]; exact hp))]
  exact g.fl ty (Ch_f (os := []) (by rw [ty.2.2.1 h q1]; exact q2) (fun z => absurd z q.2.2.2.2.2.2.2.2)) (fun p hp => by rw [List.mem_singleton.mp hp]; exact hm) (g.1.1.same e) (g.1.2.same (fun p hp => kl_eq ty kEx_f hp (e p hp)) (fun b hb => rfl) rfl ⟨rfl, rfl⟩)
/-- a row of bytes has changed -/
theorem KG.by_ (ty : kTY σ) (g : KG B σ nm ks) {b : Nat} (hb : b ∈ OWb) {l : List Int32} (ch : Ch false [(b, 1), (b, 2), (b, 3)] [(b, 1)] σ u) (ow : OWN u) (po : POT u) (h : kBY u b l) : KG B u nm ks ∧ ∀ b' ∈ OWb, ¬ b' = b → ∀ l', kBY σ b' l' → kBY u b' l' := by
  have f1 : ∀ p ∈ [(b, 1), (b, 2), (b, 3)], p.1 = b := by simp
  have f2 : ∀ p ∈ [(b, 1)], p.1 = b ∧ p ∈ OWs := fun p hp => by rw [List.mem_singleton.mp hp]; exact ⟨rfl, ow_b hb⟩
  have qb : ∀ b ∈ OWb, ¬ b = 48 ∧ ¬ b = 59 ∧ ¬ b = 71 ∧ b < 76 ∧ ∀ c ∈ CNs, ¬ b = c := by decide
  obtain ⟨q1, q2, q3, q4, q5⟩ := qb b hb
  have n59 : ∀ p ∈ stKf, p.1 = 59 := by decide
  have n59' : ∀ p ∈ stKo, p.1 = 59 := by decide
  have oth : ∀ b' ∈ OWb, ¬ b' = b → ∀ l', kBY σ b' l' → kBY u b' l' := fun b' hb' hne l' hl' => hl'.fr ty g.1.1 hb' ch (fun p hp => by rw [f1 p hp]; exact fun z => hne z.symm) (fun p hp => ⟨(f2 p hp).2, by rw [(f2 p hp).1]; exact fun z => hne z.symm⟩)
  refine ⟨?_, oth⟩
  obtain ⟨w2, w3, ⟨fr, vs, w5, w5'⟩, w6, w8, w9, w10⟩ := g
  refine ⟨⟨ow, po⟩, ⟨w3.1.fr ty w2.1 ch (fun p hp => by rw [f1 p hp]; exact q1) (fun p hp => ⟨(f2 p hp).2, by rw [(f2 p hp).1]; exact q1⟩), w3.2⟩, ⟨fr, vs, w5.fr ty w2.1 ch (fun p hp => ⟨by rw [f1 p hp]; exact q4, fun z => q2 (by rw [← f1 p hp]; exact n59 p z)⟩) (fun p hp => ⟨(f2 p hp).2, fun z => q2 (by rw [← (f2 p hp).1]; exact n59' p z)⟩), w5'⟩, fun b' hb' => ?_, w8.fr ty w2.1 ch (fun p hp => by rw [f1 p hp]; exact q3) (fun p hp => ⟨(f2 p hp).2, by rw [(f2 p hp).1]; exact q3⟩), fun c hc => ?_, fun c hc => ?_⟩
  · by_cases z : b' = b
    · rw [z]; exact ⟨l, h⟩
    · obtain ⟨l', hl'⟩ := w6 b' hb'
      exact ⟨l', oth b' hb' z l' hl'⟩
  · obtain ⟨n, hn, e⟩ := w9 c hc
    have q : ∀ c ∈ CNs, c < 76 ∧ (kd0 c).1 = 1 := by decide
    exact ⟨n, hn, by rw [(ch.fld ty (q c hc).1 (q c hc).2 (by decide) (fun z => q5 c hc (f1 _ z).symm)).1]; exact e⟩
  · obtain ⟨n, hn, e⟩ := w10 c hc
    have q : ∀ c ∈ CNs, c < 76 ∧ (kd0 c).1 = 1 := by decide
    exact ⟨n, hn, by rw [(ch.fld ty (q c hc).1 (q c hc).2 (by decide) (fun z => q5 c hc (f1 _ z).symm)).1]; exact e⟩
end KGLOB
