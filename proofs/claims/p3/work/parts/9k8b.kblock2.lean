/-! A block begins to run. -/
def bbF (c : Nat) : List (Nat × Nat) := AFf c ++ ([(0, 12), (0, 13), (0, 14), (0, 15)] ++ [(c, 3)])
theorem bbF_o {c : Nat} : ∀ p ∈ AFf c, p ∈ bbF c := fun p hp => List.mem_append_left _ hp
theorem bbF_in {c : Nat} : ((0, 12) ∈ bbF c ∧ ∀ x ∈ [13, 14, 15], (0, x) ∈ bbF c) ∧ (c, 3) ∈ bbF c := by
  have q : ∀ x ∈ [12, 13, 14, 15], (0, x) ∈ [((0, 12) : Nat × Nat), (0, 13), (0, 14), (0, 15)] := by decide
  have q2 : ∀ x ∈ [13, 14, 15], x ∈ [12, 13, 14, 15] := by decide
  exact ⟨⟨List.mem_append_right _ (List.mem_append_left _ (q 12 (by decide))), fun x hx => List.mem_append_right _ (List.mem_append_left _ (q x (q2 x hx)))⟩, List.mem_append_right _ (List.mem_append_right _ List.mem_cons_self)⟩
/-- what blocks hold stays -/
def KPb (σ u : kS) : Prop := ∀ b ∈ payB, ∀ l, kBY σ b l → kBY u b l ∧ u.1 b 3 = σ.1 b 3
section KBLOCK2
variable {Y : Nat → MethodName × ByteArray} {d : Nat} {σ u : kS} {B ws nm nm' : List (List Int32)} {ks ks' : List KC}
theorem KPb.rf : KPb σ σ := fun _ _ _ h => ⟨h, rfl⟩
theorem KPb.tr {v : kS} (a : KPb σ u) (b : KPb u v) : KPb σ v := fun x hx l h => ⟨(b x hx l (a x hx l h).1).1, (b x hx l (a x hx l h).1).2.trans (a x hx l h).2⟩
theorem KPb.ch (ty : kTY σ) (ow : OWN σ) {vs : Bool} (ch : Ch vs kcF kcO σ u) : KPb σ u := fun b hb l h => by
  obtain ⟨p1, p2, p3, -⟩ := payB_k b hb
  have kb := (P_ok b hb).2.2.2.2
  have k0 : (kd0 b).1 = 0 := by
    have q : ∀ b ∈ payB, (kd0 b).1 = 0 := by decide
    exact q b hb
  exact ⟨h.fr ty ow p1 ch (fun p hp => (p2 p hp).1) p3, (ch.fld ty kb k0 (by decide) (fun z => (p2 _ z).1 rfl)).1⟩
/-- a reference to a block is set -/
theorem KO.fi (ty : kTY σ) (g : KO B σ ws nm ks) {c h x : Nat} (hc : c ∈ CNs) {o : Option Nat} (hm : (h, x) = (0, 12) ∨ (h, x) = (c, 3)) (eu : u = (σ.1, σ.2.1, kFu σ.2.2.1 h x o, σ.2.2.2)) : KO B u ws nm ks ∧ KPb σ u ∧ Ch true (bbF c) AFo σ u := by
  have hmo : (h, x) ∈ ouF ∧ ¬ h = 53 ∧ ∀ p ∈ RQo, ¬ (p.1 = h ∧ p.2 = x) := by
    have q : ∀ p ∈ (0, 12) :: CNs.map (fun c => (c, 3)), p ∈ ouF ∧ ¬ p.1 = 53 ∧ ∀ q ∈ RQo, ¬ (q.1 = p.1 ∧ q.2 = p.2) := by decide +kernel
    refine q (h, x) ?_
    rcases hm with e | e
    · rw [e]; exact List.mem_cons_self
    · rw [e]; exact List.mem_cons_of_mem _ (List.mem_map.mpr ⟨c, hc, rfl⟩)
  have h2 : (h, x) ∈ bbF c := by
    rcases hm with e | e
    · rw [e]; exact bbF_in.1.1
    · rw [e]; exact bbF_in.2
  obtain ⟨h1, h3, h4⟩ := hmo
  have q := ouF_ok _ h1
  have q1 : h < 76 := q.2.2.1
  have q2 : (kd0 h).1 < 20 := q.2.2.2.2.2.2.1
  have ch : Ch false [(h, x)] [] σ u := by rw [eu]; exact Ch_f (os := []) (by rw [ty.2.2.1 h q1]; exact q2) (fun z => absurd z q.2.2.2.2.2.2.2.2)
  have eF : ∀ y z, ¬ (y = h ∧ z = x) → u.2.2.1 y z = σ.2.2.1 y z := fun y z n => by rw [eu]; show kFu σ.2.2.1 h x o y z = _; rw [kFu_at, if_neg n]
  obtain ⟨gg, M, ⟨a1, a2, a3⟩, ⟨p, hp, a4⟩, a5, a7⟩ := g.2.1
  have eI : u.1 = σ.1 := by rw [eu]
  have eD : u.2.2.2.1 = σ.2.2.2.1 := by rw [eu]
  refine ⟨⟨by rw [eu]; exact g.1.pf ty h1, ⟨gg, M, ⟨by rw [eF _ _ (fun z => h3 z.1.symm)]; exact a1, by rw [eD]; exact a2, a3⟩, ⟨p, hp, by rw [eF _ _ (h4 p hp)]; exact a4⟩, by rw [eI]; exact a5, by rw [eI]; exact a7⟩, ?_⟩, fun b hb l hl => ⟨?_, by rw [eI]⟩, ch.up (fun _ => rfl) (fun p hp => by rw [List.mem_singleton.mp hp]; exact h2) (fun p hp => by cases hp)⟩
  · obtain ⟨b, hb, e⟩ := g.2.2
    exact ⟨b, hb, by rw [eF _ _ (fun z => h3 z.1.symm)]; exact e⟩
  · exact hl.fr ty g.1.1.1 (P_ok b hb).1 ch (fun p hp => by rw [List.mem_singleton.mp hp]; exact fun z => q.2.2.2.2.1 b (P_ok b hb).1 z) (fun p hp => by cases hp)
theorem KO.oi2 (ty : kTY σ) (g : KO B σ ws nm ks) {c x : Nat} {v : Int32} (hx : x ∈ [13, 14, 15]) (eu : u = (mjIu σ.1 0 x v, σ.2)) : KO B u ws nm ks ∧ KPb σ u ∧ Ch true (bbF c) AFo σ u := by
  obtain ⟨g1, o1⟩ := g.oi ty (x := x) (v := v) (by
    have : ∀ x ∈ [13, 14, 15], x ∈ [13, 14, 15, 16, 17] := by decide
    exact this x hx) eu
  have ch : Ch false [(0, x)] [] σ u := by rw [eu]; exact Ch_i (by rw [ty.k (h := 0) (c := 9) (by decide) rfl]; decide)
  refine ⟨g1, fun b hb l hl => ⟨o1 b (P_ok b hb).1 l hl, ?_⟩, ch.up (fun _ => rfl) (fun p hp => by rw [List.mem_singleton.mp hp]; exact bbF_in.1.2 x hx) (fun p hp => by cases hp)⟩
  rw [eu]; show mjIu σ.1 0 x v b 3 = _
  rw [mjIu_at, if_neg (fun z => (P_ok b hb).2.2.2.1 z.1)]
/-- a connection's block ends, with all that is known -/
theorem kO_endBlock2 (ty : kTY σ) (g : KO B σ ws nm ks) {c bk : Nat} (hc : c ∈ CNs) (h1 : bk ∈ payB) (h2 : σ.2.2.1 c 3 = some bk) : kjY kPP (kQQ Y) (d + 1) 64 0 (mjL0 1 [.ref c]) [] σ (fun r z => r = none ∧ KO B z ws nm ks ∧ Ch true (bbF c) AFo σ z ∧ (z.1 c 4 = 0 ∧ z.1 c 7 = 0) ∧ (kBY z bk [] ∧ z.1 bk 3 = 0) ∧ (∀ b ∈ payB, ¬ b = bk → ∀ l, kBY σ b l → kBY z b l ∧ z.1 b 3 = σ.1 b 3) ∧ z.2.2.1 = σ.2.2.1 ∧ ∀ x, z.1 0 x = σ.1 0 x) := by
  obtain ⟨b1, b2, b3, b4, b5, b6, b7, b8, b9⟩ := payB_ok bk h1
  obtain ⟨q1, q2, q3, -⟩ := CN_ok c hc
  have qc : ∀ c ∈ CNs, ¬ c = 53 ∧ ¬ c = 54 ∧ ¬ c = 55 ∧ (∀ b ∈ payB, ¬ b = c) ∧ ¬ c = 0 := by decide +kernel
  obtain ⟨n1, n2, n3, n7, n9⟩ := qc c hc
  have n8 : ∀ x ∈ [4, 5, 6, 7, 9], (c, x) ∈ bbF c := fun x hx => bbF_o _ (AFf_c x hx)
  refine kjY_mono ty (fun r z tz xz h => ?_) (k_endBlock ty g.1 hc b1 h2)
  obtain ⟨hr, kg, em, fl, keep, e2, eI, i4, -, -, i7, -⟩ := h
  have kc : (σ.2.2.2.1 c).1 = 1 := ty.k q1 q2
  have kbk := ob_k ty b1
  have oth : ∀ h, ¬ h = c → ¬ h = bk → z.1 h = σ.1 h := fun h a1 a3 => funext fun x => eI h x (fun y => a1 y.1) (fun y => a3 y.1)
  have eF : z.2.2.1 = σ.2.2.1 := congrArg (fun t => t.2.1) e2
  have eD : z.2.2.2.1 = σ.2.2.2.1 := congrArg (fun t => t.2.2.1) e2
  refine ⟨hr, ⟨kg, g.2.1.same eF eD (by rw [oth 53 (fun y => n1 y.symm) (fun y => b3 y.symm)]) (oth 54 (fun y => n2 y.symm) (fun y => b4 y.symm)) (oth 55 (fun y => n3 y.symm) (fun y => b5 y.symm)) (fun g' M hg => oth g' (fun y => ?_) (fun y => ?_)), ?_⟩, ?_, ⟨i4, i7⟩, ⟨em, fl⟩, fun b hb hne l hl => ⟨keep b (P_ok b hb).1 hne l hl, by rw [oth b (n7 b hb) hne]⟩, eF, fun x => by rw [oth 0 (fun y => n9 y.symm) (fun y => (P_ok bk h1).2.2.2.1 y.symm)]⟩
  · rw [y] at hg; rw [hg] at kc; exact absurd kc (show ¬ (21 : Nat) = 1 by decide)
  · rw [y] at hg; rw [hg] at kbk; exact absurd kbk (show ¬ (21 : Nat) = 0 by decide)
  · obtain ⟨b, hb, e⟩ := g.2.2
    exact ⟨b, hb, by rw [eF]; exact e⟩
  · have hF20 : ∀ p ∈ bbF c, p.1 < 76 ∧ (kd0 p.1).1 < 20 := by
      have q : ∀ c ∈ CNs, ∀ p ∈ bbF c, p.1 < 76 ∧ (kd0 p.1).1 < 20 := by decide +kernel
      exact q c hc
    refine Ch_ints e2 (fun h x hn => eI h x (fun y => hn ?_) (fun y => hn ?_)) (fun p hp => by rw [ty.2.2.1 p.1 (hF20 p hp).1]; exact (hF20 p hp).2)
    · rw [y.1]; exact n8 x y.2
    · rw [y.1]
      rcases List.mem_cons.mp y.2 with y | y
      · rw [y]; exact bbF_o _ (AF_pay bk h1 2 (by decide))
      · rw [List.mem_singleton.mp y]; exact bbF_o _ (AF_pay bk h1 3 (by decide))
end KBLOCK2
