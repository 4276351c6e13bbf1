/-! The world of the other commands; WATCH. -/
def OFb : List Nat := [13, 22, 31, 40, 9, 17, 26, 35, 44]
def OFf : List (Nat × Nat) := kcF ++ (CNs.flatMap (fun c => [(c, 0), (c, 4), (c, 5), (c, 7), (c, 9), (c, 11)]) ++ OFb.flatMap (fun b => [(b, 1), (b, 2), (b, 3)]))
def OFo : List (Nat × Nat) := kcO ++ (CNs.flatMap (fun c => [(c, 8), (c, 10)]) ++ OFb.map (fun b => (b, 1)))
theorem OFo_in : ∀ p ∈ OFo, p ∈ OWs := by decide +kernel
theorem OFf_k : ∀ p ∈ kcF, p ∈ OFf := fun p hp => List.mem_append_left _ hp
theorem OFo_k : ∀ p ∈ kcO, p ∈ OFo := fun p hp => List.mem_append_left _ hp
/-- the blocks of the connections are apart -/
def BLK (σ : kS) : Prop := ∀ c ∈ CNs, ∃ bk ∈ payB, σ.2.2.1 c 3 = some bk
def BLJ (σ : kS) : Prop := BLK σ ∧ ∀ c ∈ CNs, ∀ c' ∈ CNs, σ.2.2.1 c 3 = σ.2.2.1 c' 3 → c = c'
/-- what a row of bytes holds stays; it is empty -/
def SMb (b : Nat) (σ u : kS) : Prop := (∀ l, kBY σ b l → kBY u b l) ∧ u.1 b 3 = σ.1 b 3
def EMb (b : Nat) (u : kS) : Prop := kBY u b [] ∧ u.1 b 3 = 0
/-- connections, their inputs (but those of X) and their blocks: as they were, or closed -/
def CQ (X : List Nat) (σ u : kS) : Prop := (∀ c ∈ CNs, u.2.2.1 c 3 = σ.2.2.1 c 3) ∧ (∀ c ∈ CNs, ¬ c ∈ X → (SMb (c + 1) σ u ∧ u.1 c 0 = σ.1 c 0) ∨ (EMb (c + 1) u ∧ u.1 c 0 = 0)) ∧ (∀ c ∈ CNs, ∀ b ∈ payB, σ.2.2.1 c 3 = some b → (SMb b σ u ∧ u.1 c 7 = σ.1 c 7) ∨ (EMb b u ∧ u.1 c 7 = 0)) ∧ ∀ b ∈ payB, (∀ c ∈ CNs, ¬ σ.2.2.1 c 3 = some b) → SMb b σ u
/-- all as it was -/
def ALS (σ u : kS) : Prop := (∀ b ∈ OFb, SMb b σ u) ∧ ∀ c ∈ CNs, u.2.2.1 c 3 = σ.2.2.1 c 3 ∧ u.1 c 0 = σ.1 c 0 ∧ u.1 c 7 = σ.1 c 7
def Cq (σ u : kS) : Prop := Ch true OFf OFo σ u ∧ CQ [] σ u
section KCQ
variable {σ u v z : kS} {X : List Nat} {b c : Nat}
theorem SMb.rf : SMb b σ σ := ⟨fun _ h => h, rfl⟩
theorem SMb.tr (a : SMb b σ u) (c : SMb b u v) : SMb b σ v := ⟨fun l h => c.1 l (a.1 l h), c.2.trans a.2⟩
theorem EMb.sm (a : EMb b u) (c : SMb b u v) : EMb b v := ⟨c.1 _ a.1, c.2.trans a.2⟩
theorem ALS.cq (h : ALS σ u) : CQ X σ u := by
  have q : (∀ c ∈ CNs, c + 1 ∈ OFb) ∧ ∀ b ∈ payB, b ∈ OFb := by decide
  exact ⟨fun c hc => (h.2 c hc).1, fun c hc _ => Or.inl ⟨h.1 _ (q.1 c hc), (h.2 c hc).2.1⟩, fun c hc b hb _ => Or.inl ⟨h.1 b (q.2 b hb), (h.2 c hc).2.2⟩, fun b hb _ => h.1 b (q.2 b hb)⟩
theorem ALS.rf : ALS σ σ := ⟨fun _ _ => SMb.rf, fun _ _ => ⟨rfl, rfl, rfl⟩⟩
theorem ALS.tr (a : ALS σ u) (c : ALS u v) : ALS σ v := ⟨fun b hb => (a.1 b hb).tr (c.1 b hb), fun x hx => ⟨(c.2 x hx).1.trans (a.2 x hx).1, (c.2 x hx).2.1.trans (a.2 x hx).2.1, (c.2 x hx).2.2.trans (a.2 x hx).2.2⟩⟩
theorem CQ.rf : CQ X σ σ := ALS.rf.cq
theorem CQ.tr (a : CQ X σ u) (h : CQ X u v) : CQ X σ v := by
  obtain ⟨a1, a2, a3, a4⟩ := a
  obtain ⟨b1, b2, b3, b4⟩ := h
  refine ⟨fun c hc => (b1 c hc).trans (a1 c hc), fun c hc hx => ?_, fun c hc b hb e => ?_, fun b hb n => (a4 b hb n).tr (b4 b hb (fun c hc => by rw [a1 c hc]; exact n c hc))⟩
  · rcases b2 c hc hx with ⟨q1, q2⟩ | q
    · rcases a2 c hc hx with ⟨p1, p2⟩ | ⟨p1, p2⟩
      · exact Or.inl ⟨p1.tr q1, q2.trans p2⟩
      · exact Or.inr ⟨p1.sm q1, q2.trans p2⟩
    · exact Or.inr q
  · rcases b3 c hc b hb (by rw [a1 c hc]; exact e) with ⟨q1, q2⟩ | q
    · rcases a3 c hc b hb e with ⟨p1, p2⟩ | ⟨p1, p2⟩
      · exact Or.inl ⟨p1.tr q1, q2.trans p2⟩
      · exact Or.inr ⟨p1.sm q1, q2.trans p2⟩
    · exact Or.inr q
theorem CQ.less (h : CQ [] σ u) : CQ X σ u := ⟨h.1, fun c hc _ => h.2.1 c hc List.not_mem_nil, h.2.2⟩
theorem OFb_w : ∀ b ∈ OFb, b ∈ OWb ∧ b < 76 ∧ (kd0 b).1 = 0 := by decide
theorem CN_w : ∀ c ∈ CNs, c < 76 ∧ (kd0 c).1 = 1 := by decide
theorem ALS.ch (ty : kTY σ) (ow : OWN σ) {vs : Bool} {fs os : List (Nat × Nat)} (ch : Ch vs fs os σ u) (hf : ∀ p ∈ fs, (¬ p.1 ∈ OFb) ∧ ∀ c ∈ CNs, (¬ p = (c, 0)) ∧ (¬ p = (c, 3)) ∧ ¬ p = (c, 7)) (ho : ∀ p ∈ os, p ∈ OWs ∧ ¬ p.1 ∈ OFb) : ALS σ u := by
  refine ⟨fun b hb => ⟨fun l h => h.fr ty ow (OFb_w b hb).1 ch (fun p hp z => (hf p hp).1 (by rw [z]; exact hb)) (fun p hp => ⟨(ho p hp).1, fun z => (ho p hp).2 (by rw [z]; exact hb)⟩), (ch.fld ty (OFb_w b hb).2.1 (OFb_w b hb).2.2 (by decide) (fun z => (hf _ z).1 hb)).1⟩, fun c hc => ⟨?_, ?_, ?_⟩⟩
  · exact (ch.fld ty (CN_w c hc).1 (CN_w c hc).2 (by decide) (fun z => ((hf _ z).2 c hc).2.1 rfl)).2.2
  · exact (ch.fld ty (CN_w c hc).1 (CN_w c hc).2 (by decide) (fun z => ((hf _ z).2 c hc).1 rfl)).1
  · exact (ch.fld ty (CN_w c hc).1 (CN_w c hc).2 (by decide) (fun z => ((hf _ z).2 c hc).2.2 rfl)).1
theorem kc_als : (∀ p ∈ kcF, (¬ p.1 ∈ OFb) ∧ ∀ c ∈ CNs, (¬ p = (c, 0)) ∧ (¬ p = (c, 3)) ∧ ¬ p = (c, 7)) ∧ ∀ p ∈ kcO, p ∈ OWs ∧ ¬ p.1 ∈ OFb := by
  refine ⟨?_, ?_⟩
  · decide +kernel
  · decide +kernel
theorem ALS.kc (ty : kTY σ) (ow : OWN σ) {vs : Bool} (ch : Ch vs kcF kcO σ u) : ALS σ u := ALS.ch ty ow ch kc_als.1 kc_als.2
theorem Cq.rf : Cq σ σ := ⟨Ch.rf, CQ.rf⟩
theorem Cq.tr (ty : kTY σ) (a : Cq σ u) (b : Cq u v) : Cq σ v := ⟨Ch.tr ty OFo_in a.1 b.1, a.2.tr b.2⟩
theorem cn_ne : ∀ c ∈ CNs, ∀ c' ∈ CNs, ¬ c' = c → ¬ c' + 1 = c ∧ ¬ c' + 1 = c + 1 ∧ ¬ c' = c + 1 := by decide
theorem cn_nb : ∀ c ∈ CNs, ∀ b ∈ payB, (¬ b = c) ∧ (¬ b = c + 1) ∧ (¬ c + 1 = b) ∧ ¬ c = b := by decide
theorem pay_w : (∀ b ∈ payB, b ∈ OWb) ∧ ∀ c ∈ CNs, c + 1 ∈ OWb := by decide
theorem CQ.chX (ty : kTY σ) (ow : OWN σ) {vs : Bool} {fs os : List (Nat × Nat)} (ch : Ch vs fs os σ u) (hf : ∀ p ∈ fs, (∀ b ∈ payB, ¬ p.1 = b) ∧ ∀ c ∈ CNs, (¬ p = (c, 3)) ∧ (¬ p = (c, 7)) ∧ (¬ c ∈ X → (¬ p.1 = c + 1) ∧ ¬ p = (c, 0))) (ho : ∀ p ∈ os, p ∈ OWs ∧ (∀ b ∈ payB, ¬ p.1 = b) ∧ ∀ c ∈ CNs, ¬ c ∈ X → ¬ p.1 = c + 1) : CQ X σ u := by
  have kw : ∀ b ∈ OWb, b < 76 ∧ (kd0 b).1 = 0 := by decide
  have sm : ∀ b ∈ OWb, (∀ p ∈ fs, ¬ p.1 = b) → (∀ p ∈ os, ¬ p.1 = b) → SMb b σ u := fun b hb h1 h2 => ⟨fun l h => h.fr ty ow hb ch h1 (fun p hp => ⟨(ho p hp).1, h2 p hp⟩), (ch.fld ty (kw b hb).1 (kw b hb).2 (by decide) (fun z => h1 _ z rfl)).1⟩
  refine ⟨fun c hc => (ch.fld ty (CN_w c hc).1 (CN_w c hc).2 (by decide) (fun z => ((hf _ z).2 c hc).1 rfl)).2.2, fun c hc hx => Or.inl ⟨sm _ (pay_w.2 c hc) (fun p hp => (((hf p hp).2 c hc).2.2 hx).1) (fun p hp => (ho p hp).2.2 c hc hx), (ch.fld ty (CN_w c hc).1 (CN_w c hc).2 (by decide) (fun z => (((hf _ z).2 c hc).2.2 hx).2 rfl)).1⟩, fun c hc b hb _ => Or.inl ⟨sm b (pay_w.1 b hb) (fun p hp => (hf p hp).1 b hb) (fun p hp => (ho p hp).2.1 b hb), (ch.fld ty (CN_w c hc).1 (CN_w c hc).2 (by decide) (fun z => ((hf _ z).2 c hc).2.1 rfl)).1⟩, fun b hb _ => sm b (pay_w.1 b hb) (fun p hp => (hf p hp).1 b hb) (fun p hp => (ho p hp).2.1 b hb)⟩
/-- one closes -/
theorem CQ_close (hj : BLJ σ) {bk : Nat} (hc : c ∈ CNs) (hbk : bk ∈ payB) (eb : σ.2.2.1 c 3 = some bk) (t1 : kBY z bk []) (t2 : kBY z (c + 1) []) (t3 : z.1 bk 3 = 0) (t4 : z.1 (c + 1) 3 = 0) (t5 : ∀ b' ∈ OWb, ¬ b' = bk → ¬ b' = c + 1 → ∀ l', kBY σ b' l' → kBY z b' l') (t6 : cnX c bk σ z) (t7 : z.1 c 0 = 0) (t9 : z.1 c 7 = 0) : CQ [] σ z := by
  have eF : z.2.2.1 = σ.2.2.1 := congrArg (fun t => t.2.1) t6.1
  have eI : ∀ h x, ¬ h = c → ¬ h = c + 1 → ¬ h = bk → z.1 h x = σ.1 h x := fun h x n1 n2 n3 => t6.2 h x (fun y => n1 y.1) (fun y => n2 y.1) (fun y => n3 y.1)
  refine ⟨fun c' _ => by rw [eF], fun c' hc' _ => ?_, fun c' hc' b hb e => ?_, fun b hb n => ?_⟩
  · by_cases w : c' = c
    · rw [w]; exact Or.inr ⟨⟨t2, t4⟩, t7⟩
    · obtain ⟨n1, n2, n3⟩ := cn_ne c hc c' hc' w
      have n4 := (cn_nb c' hc' bk hbk).2.2
      exact Or.inl ⟨⟨fun l hl => t5 _ (pay_w.2 c' hc') n4.1 n2 l hl, eI _ 3 n1 n2 n4.1⟩, eI c' 0 w n3 n4.2⟩
  · by_cases w : c' = c
    · rw [w] at e ⊢
      rw [eb] at e
      rw [← Option.some.inj e]; exact Or.inr ⟨⟨t1, t3⟩, t9⟩
    · have nb : ¬ b = bk := fun y => w (hj.2 c' hc' c hc (by rw [e, eb, y]))
      have n1 := cn_nb c hc b hb
      have n4 := (cn_nb c' hc' bk hbk).2.2
      exact Or.inl ⟨⟨fun l hl => t5 _ (pay_w.1 b hb) nb n1.2.1 l hl, eI _ 3 n1.1 n1.2.1 nb⟩, eI c' 7 w (cn_ne c hc c' hc' w).2.2 n4.2⟩
  · have nb : ¬ b = bk := fun y => n c hc (by rw [y]; exact eb)
    have n1 := cn_nb c hc b hb
    exact ⟨fun l hl => t5 _ (pay_w.1 b hb) nb n1.2.1 l hl, eI _ 3 n1.1 n1.2.1 nb⟩
/-- a block ends -/
theorem CQ_end (hj : BLJ σ) {bk : Nat} (hc : c ∈ CNs) (hbk : bk ∈ payB) (eb : σ.2.2.1 c 3 = some bk) (t1 : kBY z bk []) (t3 : z.1 bk 3 = 0) (t5 : ∀ b' ∈ OWb, ¬ b' = bk → ∀ l', kBY σ b' l' → kBY z b' l') (e2 : z.2 = σ.2) (t6 : ∀ h x, ¬ (h = c ∧ x ∈ [4, 5, 6, 7, 9]) → ¬ (h = bk ∧ x ∈ [2, 3]) → z.1 h x = σ.1 h x) (t9 : z.1 c 7 = 0) : CQ [] σ z := by
  have eF : z.2.2.1 = σ.2.2.1 := congrArg (fun t => t.2.1) e2
  have eI : ∀ h x, ¬ h = c → ¬ h = bk → z.1 h x = σ.1 h x := fun h x n1 n3 => t6 h x (fun y => n1 y.1) (fun y => n3 y.1)
  refine ⟨fun c' _ => by rw [eF], fun c' hc' _ => ?_, fun c' hc' b hb e => ?_, fun b hb n => ?_⟩
  · have n4 := (cn_nb c' hc' bk hbk).2.2
    have n5 : ¬ c' + 1 = c := by
      by_cases w : c' = c
      · omega
      · exact (cn_ne c hc c' hc' w).1
    refine Or.inl ⟨⟨fun l hl => t5 _ (pay_w.2 c' hc') n4.1 l hl, eI _ 3 n5 n4.1⟩, ?_⟩
    by_cases w : c' = c
    · rw [w]; exact t6 c 0 (fun y => absurd y.2 (by decide)) (fun y => (cn_nb c hc bk hbk).2.2.2 y.1)
    · exact eI c' 0 w n4.2
  · by_cases w : c' = c
    · rw [w] at e ⊢
      rw [eb] at e
      rw [← Option.some.inj e]; exact Or.inr ⟨⟨t1, t3⟩, t9⟩
    · have nb : ¬ b = bk := fun y => w (hj.2 c' hc' c hc (by rw [e, eb, y]))
      have n1 := cn_nb c hc b hb
      have n4 := (cn_nb c' hc' bk hbk).2.2
      exact Or.inl ⟨⟨fun l hl => t5 _ (pay_w.1 b hb) nb l hl, eI _ 3 n1.1 nb⟩, eI c' 7 w n4.2⟩
  · have nb : ¬ b = bk := fun y => n c hc (by rw [y]; exact eb)
    have n1 := cn_nb c hc b hb
    exact ⟨fun l hl => t5 _ (pay_w.1 b hb) nb l hl, eI _ 3 n1.1 nb⟩
end KCQ
def KO (B : List (List Int32)) (σ : kS) (ws nm : List (List Int32)) (ks : List KC) : Prop := KG B σ nm ks ∧ RQ σ ws ∧ ∃ b ∈ ANb, σ.2.2.1 53 6 = some b
def otP (B : List (List Int32)) (σ : kS) (ws nm : List (List Int32)) (ks : List KC) : kK := fun r u => r = none ∧ ∃ nm', PRE nm nm' ∧ KO B u ws nm' ks ∧ SCl scA σ u ∧ Cq σ u
section KWATCH
variable {Y : Nat → MethodName × ByteArray} {d : Nat} {σ u : kS} {B ws nm nm' : List (List Int32)} {ks ks' : List KC}
theorem KO.in_ (ty : kTY σ) (g : KO B σ ws nm ks) : KWd σ B σ ws nm ks := g.1.in_ ty g.2.1 g.2.2
theorem KO.st (ty : kTY σ) (g : KO B σ ws nm ks) (w : KWd σ B u ws nm' ks') : KO B u ws nm' ks' ∧ Ch true OFf OFo σ u := ⟨⟨g.1.out_ ty w, w.2.2.2.1, w.2.2.2.2.2.2.1⟩, w.1.2.up (fun z => z) OFf_k OFo_k⟩
theorem KO.stq (ty : kTY σ) (g : KO B σ ws nm ks) (w : KWd σ B u ws nm' ks') : KO B u ws nm' ks' ∧ Cq σ u := ⟨(g.st ty w).1, (g.st ty w).2, (ALS.kc ty g.1.1.1 w.1.2).cq⟩
theorem RQ.same (h : RQ σ ws) (eF : u.2.2.1 = σ.2.2.1) (eD : u.2.2.2.1 = σ.2.2.2.1) (h4 : u.1 53 4 = σ.1 53 4) (h54 : u.1 54 = σ.1 54) (h55 : u.1 55 = σ.1 55) (hg : ∀ g M, σ.2.2.2.1 g = (21, M) → u.1 g = σ.1 g) : RQ u ws := by
  obtain ⟨g, M, ⟨a1, a2, a3⟩, ⟨p, hp, a4⟩, ⟨a5, a6⟩, a7⟩ := h
  exact ⟨g, M, ⟨by rw [eF]; exact a1, by rw [eD]; exact a2, a3⟩, ⟨p, hp, by rw [eF]; exact a4⟩, ⟨h4.trans a5, a6⟩, fun i w hi => by rw [hg g M a2, h54, h55]; exact a7 i w hi⟩
/-- an int of a connection's is set -/
theorem KO.ci (ty : kTY σ) (g : KO B σ ws nm ks) {c x : Nat} {v : Int32} (hc : c ∈ CNs) (hx : x ∈ [0, 4, 5, 6, 7] ∨ ∃ n, v = nI n ∧ ((x = 9 ∧ n ≤ 64) ∨ (x = 11 ∧ n ≤ 32))) (eu : u = (mjIu σ.1 c x v, σ.2)) : KO B u ws nm ks ∧ SCl scA σ u ∧ Ch true OFf OFo σ u := by
  obtain ⟨q1, q2, q3, q4, q5, q6, q7, q8, q9, q10⟩ := CN_ok c hc
  have kc : (σ.2.2.2.1 c).1 = 1 := ty.k q1 q2
  have eI : ∀ h y, u.1 h y = if h = c ∧ y = x then v else σ.1 h y := fun h y => by
    rw [eu]; show mjIu σ.1 c x v h y = _; rw [mjIu_at]
  have e2 : u.2 = σ.2 := by rw [eu]
  have q : ∀ c ∈ CNs, ¬ c = 53 ∧ ¬ c = 54 ∧ ¬ c = 55 ∧ ∀ p ∈ scA, ¬ p.1 = c := by decide +kernel
  obtain ⟨n53, n54, n55, nsc⟩ := q c hc
  have kg : KG B u nm ks := by
    rcases hx with hx | ⟨n, hv, hx⟩
    · have : (c, x) ∈ ouF := by
        rcases List.mem_cons.mp hx with z | hx
        · rw [z]; exact q5
        · rcases List.mem_cons.mp hx with z | hx
          · rw [z]; exact q7
          · rcases List.mem_cons.mp hx with z | hx
            · rw [z]; exact q8
            · rcases List.mem_cons.mp hx with z | hx
              · rw [z]; exact q9
              · rw [List.mem_singleton.mp hx]; exact q10
      exact (g.1.pi2 ty this eu).1
    · rw [hv] at eu
      exact (g.1.cn ty hc hx eu).1
  refine ⟨⟨kg, g.2.1.same (congrArg (fun t => t.2.1) e2) (congrArg (fun t => t.2.2.1) e2) (by rw [eI, if_neg (fun z => n53 z.1.symm)]) (funext fun y => by rw [eI, if_neg (fun z => n54 z.1.symm)]) (funext fun y => by rw [eI, if_neg (fun z => n55 z.1.symm)]) (fun g' M hg => funext fun y => ?_), ?_⟩, fun p hp => ⟨by rw [eI, if_neg (fun z => nsc p hp z.1)], by rw [eu], by rw [eu]⟩, ?_⟩
  · rw [eI, if_neg (fun z => ?_)]
    rw [z.1] at hg; rw [hg] at kc; exact absurd kc (show ¬ (21 : Nat) = 1 by decide)
  · obtain ⟨b, hb, e⟩ := g.2.2
    exact ⟨b, hb, by rw [show u.2.2.1 = σ.2.2.1 from congrArg (fun t => t.2.1) e2]; exact e⟩
  · have ch : Ch false [(c, x)] [] σ u := by rw [eu]; exact Ch_i (by rw [kc]; decide)
    refine ch.up (fun _ => rfl) (fun p hp => ?_) (fun p hp => by cases hp)
    rw [List.mem_singleton.mp hp]
    have h9 : ∀ c ∈ CNs, ∀ x ∈ [0, 4, 5, 6, 7, 9, 11], (c, x) ∈ OFf := by decide +kernel
    refine h9 c hc x ?_
    rcases hx with hx | ⟨n, -, ⟨hx, -⟩ | ⟨hx, -⟩⟩
    · have h10 : ∀ x ∈ [0, 4, 5, 6, 7], x ∈ [0, 4, 5, 6, 7, 9, 11] := by decide
      exact h10 x hx
    · rw [hx]; decide
    · rw [hx]; decide
theorem KO.ciq (ty : kTY σ) (g : KO B σ ws nm ks) {c x : Nat} {v : Int32} (hc : c ∈ CNs) (hx : x ∈ [4, 5, 6] ∨ ∃ n, v = nI n ∧ ((x = 9 ∧ n ≤ 64) ∨ (x = 11 ∧ n ≤ 32))) (eu : u = (mjIu σ.1 c x v, σ.2)) : KO B u ws nm ks ∧ SCl scA σ u ∧ Cq σ u := by
  have h := g.ci ty hc (hx.imp (fun y => by
    have q : ∀ x ∈ [4, 5, 6], x ∈ [0, 4, 5, 6, 7] := by decide
    exact q x y) id) eu
  have hx2 : x ∈ [4, 5, 6, 9, 11] := by
    rcases hx with hx | ⟨n, -, ⟨hx, -⟩ | ⟨hx, -⟩⟩
    · have h10 : ∀ x ∈ [4, 5, 6], x ∈ [4, 5, 6, 9, 11] := by decide
      exact h10 x hx
    · rw [hx]; decide
    · rw [hx]; decide
  obtain ⟨q1, q2, -⟩ := CN_ok c hc
  have kc : (σ.2.2.2.1 c).1 = 1 := ty.k q1 q2
  have ch : Ch false [(c, x)] [] σ u := by rw [eu]; exact Ch_i (by rw [kc]; decide)
  have q : ∀ c ∈ CNs, ∀ x ∈ [4, 5, 6, 9, 11], (¬ c ∈ OFb) ∧ ∀ c' ∈ CNs, (¬ (c, x) = (c', 0)) ∧ (¬ (c, x) = (c', 3)) ∧ ¬ (c, x) = (c', 7) := by decide +kernel
  exact ⟨h.1, h.2.1, h.2.2, (ALS.ch ty g.1.1.1 ch (fun p hp => by rw [List.mem_singleton.mp hp]; exact q c hc x hx2) (fun p hp => by cases hp)).cq⟩
/-- a watch, a channel is set -/
theorem KO.rw_ (ty : kTY σ) (g : KO B σ ws nm ks) {c r o : Nat} {f : Nat → Int32} (hc : c ∈ CNs) (hr : (r = c + 7 ∧ o = 8) ∨ (r = c + 8 ∧ o = 10)) (eu : u = (kUp σ.1 r f, σ.2)) : KO B u ws nm ks ∧ SCl scA σ u ∧ Ch true OFf OFo σ u := by
  have q : ∀ c ∈ CNs, c < 76 ∧ (kd0 c).1 = 1 ∧ (∀ x ∈ [7, 8], c + x < 76 ∧ (kd0 (c + x)).1 = 20 ∧ ¬ c + x = 53 ∧ ¬ c + x = 54 ∧ ¬ c + x = 55 ∧ ¬ c + x = 59 ∧ (∀ b ∈ OWb, ¬ c + x = b) ∧ (∀ p ∈ scA, ¬ p.1 = c + x) ∧ ∀ c' ∈ CNs, ¬ c + x = c') ∧ (c, 8) ∈ OWs ∧ (c, 10) ∈ OWs ∧ (c, 8) ∈ OFo ∧ (c, 10) ∈ OFo ∧ ¬ c = 48 ∧ ¬ c = 59 ∧ ¬ c = 71 ∧ ∀ b ∈ OWb, ¬ c = b := by decide +kernel
  obtain ⟨q1, q2, q3, q4, q5, q6, q7, q8, q9, q10, q11⟩ := q c hc
  have kc : (σ.2.2.2.1 c).1 = 1 := ty.k q1 q2
  obtain ⟨x, hx, hrx⟩ : ∃ x, x ∈ [7, 8] ∧ r = c + x := by
    rcases hr with ⟨h, -⟩ | ⟨h, -⟩
    · exact ⟨7, by decide, h⟩
    · exact ⟨8, by decide, h⟩
  obtain ⟨r1, r2, r3, r4, r5, r6, r7, r8, r9⟩ := q3 x hx
  have kr : (σ.2.2.2.1 r).1 = 20 := by rw [hrx]; exact ty.k r1 r2
  have how : (c, o) ∈ OWs ∧ (c, o) ∈ OFo := by
    rcases hr with ⟨-, h⟩ | ⟨-, h⟩
    · rw [h]; exact ⟨q4, q6⟩
    · rw [h]; exact ⟨q5, q7⟩
  have fo : σ.2.2.1 c o = some r := by
    have hq := ty.2.2.2.2.2.2.2.1 c o (by rw [kc]; decide) (by
      rw [kc]
      rcases hr with ⟨-, h⟩ | ⟨-, h⟩
      · rw [h]; decide
      · rw [h]; decide)
    rw [kc] at hq
    rcases hr with ⟨h, h'⟩ | ⟨h, h'⟩
    · rw [h'] at hq ⊢; rw [h]; exact hq.1
    · rw [h'] at hq ⊢; rw [h]; exact hq.1
  have e2 : u.2 = σ.2 := by rw [eu]
  have eF : u.2.2.1 = σ.2.2.1 := congrArg (fun t => t.2.1) e2
  have eI : ∀ h, ¬ h = r → u.1 h = σ.1 h := fun h z => by rw [eu]; show kUp σ.1 r f h = _; rw [kUp_n z]
  have ch : Ch false [] [(c, o)] σ u := by rw [eu]; exact Ch_ra fo (by rw [kr]; decide)
  have f2 : ∀ p ∈ [(c, o)], p.1 = c ∧ p ∈ OWs := fun p hp => by rw [List.mem_singleton.mp hp]; exact ⟨rfl, how.1⟩
  have n59' : ∀ p ∈ stKo, p.1 = 59 := by decide
  have ow : OWN u := g.1.1.1.same (fun p _ => by rw [eF])
  have po : POT u := g.1.1.2.same (fun p hp => kl_eq ty ch.1 hp (by rw [eF])) (fun b hb => by rw [eI b (fun z => r7 b hb (by rw [← hrx]; exact z.symm))]) (by rw [eI 59 (fun z => r6 (by rw [← hrx]; exact z.symm))]) ⟨by rw [e2], by rw [e2]⟩
  have kg : KG B u nm ks := by
    obtain ⟨w2, w3, ⟨fr, vs, w5, w5'⟩, w6, w8, w9, w10⟩ := g.1
    refine ⟨⟨ow, po⟩, ⟨w3.1.fr ty w2.1 ch (fun p hp => by cases hp) (fun p hp => ⟨(f2 p hp).2, by rw [(f2 p hp).1]; exact q8⟩), w3.2⟩, ⟨fr, vs, w5.fr ty w2.1 ch (fun p hp => by cases hp) (fun p hp => ⟨(f2 p hp).2, fun z => q9 (by rw [← (f2 p hp).1]; exact n59' p z)⟩), w5'⟩, fun b' hb' => ?_, w8.fr ty w2.1 ch (fun p hp => by cases hp) (fun p hp => ⟨(f2 p hp).2, by rw [(f2 p hp).1]; exact q10⟩), fun c' hc' => ?_, fun c' hc' => ?_⟩
    · obtain ⟨l', hl'⟩ := w6 b' hb'
      exact ⟨l', hl'.fr ty w2.1 hb' ch (fun p hp => by cases hp) (fun p hp => ⟨(f2 p hp).2, by rw [(f2 p hp).1]; exact q11 b' hb'⟩)⟩
    · obtain ⟨n, hn, e⟩ := w9 c' hc'
      exact ⟨n, hn, by rw [eI c' (fun z => r9 c' hc' (by rw [← hrx]; exact z.symm))]; exact e⟩
    · obtain ⟨n, hn, e⟩ := w10 c' hc'
      exact ⟨n, hn, by rw [eI c' (fun z => r9 c' hc' (by rw [← hrx]; exact z.symm))]; exact e⟩
  refine ⟨⟨kg, g.2.1.same eF (congrArg (fun t => t.2.2.1) e2) (by rw [eI 53 (fun z => r3 (by rw [← hrx]; exact z.symm))]) (eI 54 (fun z => r4 (by rw [← hrx]; exact z.symm))) (eI 55 (fun z => r5 (by rw [← hrx]; exact z.symm))) (fun g' M hg => eI g' (fun z => ?_)), ?_⟩, fun p hp => ⟨by rw [eI p.1 (fun z => r8 p hp (by rw [← hrx]; exact z))], by rw [eu], by rw [eu]⟩, ?_⟩
  · rw [z] at hg; rw [hg] at kr; exact absurd kr (show ¬ (21 : Nat) = 20 by decide)
  · obtain ⟨b, hb, e⟩ := g.2.2
    exact ⟨b, hb, by rw [eF]; exact e⟩
  · exact ch.up (fun _ => rfl) (fun p hp => by cases hp) (fun p hp => by rw [List.mem_singleton.mp hp]; exact how.2)
theorem KO.rwq (ty : kTY σ) (g : KO B σ ws nm ks) {c r o : Nat} {f : Nat → Int32} (hc : c ∈ CNs) (hr : (r = c + 7 ∧ o = 8) ∨ (r = c + 8 ∧ o = 10)) (eu : u = (kUp σ.1 r f, σ.2)) : KO B u ws nm ks ∧ SCl scA σ u ∧ Cq σ u := by
  have h := g.rw_ ty hc hr eu
  have q : ∀ c ∈ CNs, ∀ x ∈ [7, 8], (∀ b ∈ OFb, ¬ b = c + x) ∧ (∀ c' ∈ CNs, ¬ c' = c + x) ∧ c + x < 76 ∧ (kd0 (c + x)).1 = 20 := by decide +kernel
  obtain ⟨x, hx, hrx⟩ : ∃ x, x ∈ [7, 8] ∧ r = c + x := by
    rcases hr with ⟨h, -⟩ | ⟨h, -⟩
    · exact ⟨7, by decide, h⟩
    · exact ⟨8, by decide, h⟩
  obtain ⟨r1, r2, r3, r4⟩ := q c hc x hx
  have e2 : u.2 = σ.2 := by rw [eu]
  have eF : u.2.2.1 = σ.2.2.1 := congrArg (fun t => t.2.1) e2
  have eD : u.2.2.2.1 = σ.2.2.2.1 := congrArg (fun t => t.2.2.1) e2
  have eI : ∀ h, ¬ h = r → u.1 h = σ.1 h := fun h z => by rw [eu]; show kUp σ.1 r f h = _; rw [kUp_n z]
  have kr : (σ.2.2.2.1 r).1 = 20 := by rw [hrx]; exact ty.k r3 r4
  refine ⟨h.1, h.2.1, h.2.2, ALS.cq ⟨fun b hb => ⟨fun l hl => ?_, ?_⟩, fun c' hc' => ⟨by rw [eF], ?_, ?_⟩⟩⟩
  · obtain ⟨g', N, a1, a2, a3, a4, a5, a6, a7⟩ := hl
    have nb : ¬ b = r := by rw [hrx]; exact r1 b hb
    have ng : ¬ g' = r := fun z => by rw [z] at a2; rw [a2] at kr; exact absurd kr (show ¬ (21 : Nat) = 20 by decide)
    exact ⟨g', N, by rw [eF]; exact a1, by rw [eD]; exact a2, a3, by rw [eI b nb]; exact a4, by rw [eI b nb]; exact a5, a6, by rw [eI g' ng]; exact a7⟩
  · rw [eI b (by rw [hrx]; exact r1 b hb)]
  · rw [eI c' (by rw [hrx]; exact r2 c' hc')]
  · rw [eI c' (by rw [hrx]; exact r2 c' hc')]
theorem k_watches (ty : kTY σ) {c n : Nat} (hc : c ∈ CNs) (hn : n ≤ 64) (en : σ.1 c 9 = nI n) (x : Int32) : kjY kPP (kQQ Y) d 68 0 (mjL0 3 [.ref c, .int x]) [] σ (fun r u => u = σ ∧ (r = some (.int 0) ∨ r = some (.int 1))) := by
  have q : ∀ c ∈ CNs, c < 76 ∧ (kd0 c).1 = 1 ∧ c + 7 < 76 ∧ kd0 (c + 7) = (20, 64) := by decide
  obtain ⟨q1, q2, q3, q4⟩ := q c hc
  have kc : (σ.2.2.2.1 c).1 = 1 := ty.k q1 q2
  have kr : σ.2.2.2.1 (c + 7) = (20, 64) := ty.kl q3 q4
  have lp : ∀ (f i : Nat) (x2 : Int32), i + f = n → x2 = nI i → kjY kPP (kQQ Y) d 68 2 [some (.ref c), some (.int x), some (.int x2)] [] σ (fun r u => u = σ ∧ (r = some (.int 0) ∨ r = some (.int 1))) := by
    intro f
    induction f with
    | zero =>
      intro i x2 hi e2
      refine kjZ_y rfl rfl 4 _ _ _ _ ty ?_
      refine (And.intro (by assumption) (And.intro (fun c1 => ?_) (fun c1 => ?_)))
      rotate_left
      · refine absurd (show σ.1 c 9 ≤ x2 from ?_) c1
        rw [en, e2, nle (by omega) (by omega)]; omega
      refine kjZ_y rfl rfl 2 _ _ _ _ ty ?_
      refine And.intro rfl (And.intro (Or.inr (Or.inl ⟨rfl, Or.inl rfl⟩)) ?_)
      exact ⟨rfl, Or.inl rfl⟩
    | succ f ih =>
      intro i x2 hi e2
      have v2 : vp_in x2 64 := by rw [e2]; exact vp_in_nI (by omega) (by decide)
      refine kjZ_y rfl rfl 4 _ _ _ _ ty ?_
      refine (And.intro (by assumption) (And.intro (fun c1 => ?_) (fun c1 => ?_)))
      · refine kjZ_y rfl rfl 2 _ _ _ _ ty ?_
        refine And.intro rfl (And.intro (Or.inr (Or.inl ⟨rfl, Or.inl rfl⟩)) ?_)
        exact ⟨rfl, Or.inl rfl⟩
      refine kjZ_y rfl rfl 6 _ _ _ _ ty ?_
      refine (And.intro (by assumption) (Or.inl (And.intro (kdk kr) (And.intro (kdv kr v2) (And.intro (fun c2 => ?_) (fun c2 => ?_))))))
      · refine kjZ_y rfl rfl 2 _ _ _ _ ty ?_
        exact ih (i + 1) _ (by omega) (by rw [e2]; exact nI_1 i)
      · refine kjZ_y rfl rfl 2 _ _ _ _ ty ?_
        refine And.intro rfl (And.intro (Or.inr (Or.inl ⟨rfl, Or.inr rfl⟩)) ?_)
        exact ⟨rfl, Or.inr rfl⟩
  refine kjZ_y rfl rfl 2 _ _ _ _ ty ?_
  refine (And.intro (Nat.le_of_ble_eq_true rfl) ?_)
  exact lp n 0 _ (Nat.zero_add _) rfl
theorem k_watch_l (hB : BOK B ws) {c : Nat} (hc : c ∈ CNs) {n0 : Nat} (hn0 : n0 ≤ 64) (x2 : Int32) (e2 : x2 = nI n0) : ∀ (f i : Nat) (x3 : Int32) (l4 : Option Value) (nm' : List (List Int32)) (u : kS), i + f = ws.length → x3 = nI i → kTY u → PRE nm nm' → KO B u ws nm' ks → SCl scA σ u → Cq σ u → kTY σ →
    kjY kPP (kQQ Y) (d + 8) 70 12 [some (.ref c), some (.ref 53), some (.int x2), some (.int x3), l4] [] u (otP B σ ws nm ks) := by
  obtain ⟨q1, q2, -⟩ := CN_ok c hc
  have q7 : ∀ c ∈ CNs, c + 7 < 76 ∧ kd0 (c + 7) = (20, 64) := by decide
  intro f
  induction f with
  | zero =>
    intro i x3 l4 nm' u hi e3 tu hp g su hu ts
    have kc : (u.2.2.2.1 c).1 = 1 := tu.k q1 q2
    obtain ⟨-, -, -, -, ⟨h4, h1024⟩, -⟩ := g.2.1
    refine kjZ_y rfl rfl 4 _ _ _ _ tu ?_
    refine (And.intro (tu.k (by decide) rfl) (And.intro (fun c1 => ?_) (fun c1 => ?_)))
    rotate_left
    · refine absurd (show u.1 53 4 ≤ x3 from ?_) c1
      rw [h4, e3, nle (by omega) (by omega)]; omega
    refine kjZ_y rfl rfl 2 _ _ _ _ tu ?_
    refine (And.intro (Nat.le_of_ble_eq_true rfl) (And.intro (Or.inl ⟨(Nat.le_of_ble_eq_true rfl), (tu.k (by decide) rfl)⟩) (And.intro (Nat.le_of_ble_eq_true rfl) (And.intro (Nat.le_of_ble_eq_true rfl) (kjY_mono tu (fun q_ u1 ty1 xu1 h_ => ?_) (kx_accept tu (g.in_ tu)))))))
    obtain ⟨rfl, w1, s1⟩ := h_
    intro _ _
    obtain ⟨g1, h1⟩ := g.stq tu w1
    refine kjZ_y rfl rfl 1 _ _ _ _ ty1 ?_
    refine And.intro rfl (And.intro rfl ?_)
    exact ⟨rfl, nm', hp, g1, su.tr s1, Cq.tr ts hu h1⟩
  | succ f ih =>
    intro i x3 l4 nm' u hi e3 tu hp g su hu ts
    have kc : (u.2.2.2.1 c).1 = 1 := tu.k q1 q2
    obtain ⟨-, -, -, -, ⟨h4, h1024⟩, -⟩ := g.2.1
    refine kjZ_y rfl rfl 4 _ _ _ _ tu ?_
    refine (And.intro (tu.k (by decide) rfl) (And.intro (fun c1 => ?_) (fun c1 => ?_)))
    · refine absurd (show u.1 53 4 ≤ x3 from c1) ?_
      rw [h4, e3, nle (by omega) (by omega)]; omega
    have hv := List.getElem?_eq_getElem (show i < ws.length by omega)
    generalize ws[i] = v at hv
    refine kjZ_y rfl rfl 3 _ _ _ _ tu ?_
    refine (And.intro (Nat.le_of_ble_eq_true rfl) (And.intro (Or.inl ⟨(Nat.le_of_ble_eq_true rfl), (tu.k (by decide) rfl)⟩) (And.intro (Nat.le_of_ble_eq_true rfl) (And.intro (Nat.le_of_ble_eq_true rfl) (kjY_mono tu (fun q_ u1 ty1 xu1 h_ => ?_) (kx_id tu (g.in_ tu) hB hv _ e3))))))
    obtain ⟨k, nm2, rfl, p2, p3, w1, s1⟩ := h_
    intro _ _
    obtain ⟨g1, h1⟩ := g.stq tu w1
    have kc1 : (u1.2.2.2.1 c).1 = 1 := ty1.k q1 q2
    obtain ⟨n, hn, en⟩ := g1.1.2.2.2.2.2.1 c hc
    have nx : ∀ (z : kS), kTY z → KO B z ws nm2 ks → SCl scA σ z → Cq σ z → kjY kPP (kQQ Y) (d + 8) 70 48 [some (.ref c), some (.ref 53), some (.int x2), some (.int x3), some (.int (nI k))] [] z (otP B σ ws nm ks) := by
      intro z tz gz sz hz
      have kz : (z.2.2.2.1 c).1 = 1 := tz.k q1 q2
      refine kjZ_y rfl rfl 2 _ _ _ _ tz ?_
      exact ih (i + 1) _ _ nm2 z (by omega) (by rw [e3]; exact nI_1 i) tz (hp.tr p3) gz sz hz ts
    refine kjZ_y rfl rfl 4 _ _ _ _ ty1 ?_
    refine (And.intro (Nat.le_of_ble_eq_true rfl) (And.intro (Nat.le_of_ble_eq_true rfl) (And.intro (Or.inl ⟨(Nat.le_of_ble_eq_true rfl), (by assumption)⟩) (And.intro (Nat.le_of_ble_eq_true rfl) (And.intro (Nat.le_of_ble_eq_true rfl) (kjY_mono ty1 (fun q_ u2 ty2 xu2 h_ => ?_) (k_watches ty1 hc hn en _)))))))
    obtain ⟨rfl, q⟩ := h_
    intro _ _
    have hs2 := su.tr s1
    have hu2 := Cq.tr ts hu h1
    rcases q with rfl | rfl
    rotate_left
    · refine kjZ_y rfl rfl 1 _ _ _ _ ty2 ?_
      refine And.intro (fun c2 => ?_) (fun c2 => ?_)
      · exact absurd (show (1 : Int32) = 0 from c2) (by decide)
      refine kjZ_y rfl rfl 1 _ _ _ _ ty2 ?_
      exact nx u2 ty2 g1 hs2 hu2
    refine kjZ_y rfl rfl 1 _ _ _ _ ty2 ?_
    refine And.intro (fun c2 => ?_) (fun c2 => ?_)
    rotate_left
    · exact absurd rfl c2
    refine kjZ_y rfl rfl 4 _ _ _ _ ty2 ?_
    refine (And.intro (by assumption) (And.intro (fun c3 => ?_) (fun c3 => ?_)))
    · have c3 : ¬ u2.1 c 9 = (Int8.ofInt 64).toInt32 := c3
      rw [en, show (Int8.ofInt 64).toInt32 = nI 64 by decide, nI_eq (by omega) (by decide)] at c3
      have kr : u2.2.2.2.1 (c + 7) = (20, 64) := ty2.kl (q7 c hc).1 (q7 c hc).2
      have vn : vp_in (u2.1 c 9) 64 := by rw [en]; exact vp_in_nI (by omega) (by decide)
      refine kjZ_y rfl rfl 6 _ _ _ _ ty2 ?_
      refine (And.intro (by assumption) (And.intro (by assumption) (And.intro (kdk kr) (And.intro (kdv kr vn) (fun ty2' => ?_)))))
      have go : ∀ z, kTY z → z = (mjIu u2.1 (c + 7) (u2.1 c 9).toNatClampNeg (nI k), u2.2) → kjY kPP (kQQ Y) (d + 8) 70 42 [some (.ref c), some (.ref 53), some (.int x2), some (.int x3), some (.int (nI k))] [] z (otP B σ ws nm ks) := by
        intro z tz ez
        rw [mjIu_up] at ez
        obtain ⟨g3, s3, h3⟩ := g1.rwq ty2 hc (Or.inl ⟨rfl, rfl⟩) ez
        have kz : (z.2.2.2.1 c).1 = 1 := tz.k q1 q2
        have z9 : z.1 c 9 = nI n := by
          rw [ez]; show kUp u2.1 (c + 7) _ c 9 = _
          rw [kUp_n (by omega)]; exact en
        refine kjZ_y rfl rfl 6 _ _ _ _ tz ?_
        refine (And.intro (by assumption) (And.intro (by assumption) (And.intro (Or.inl rfl) (fun tz' => ?_))))
        have go2 : ∀ y, kTY y → y = (mjIu z.1 c 9 (z.1 c 9 + Int32.ofInt 1), z.2) → kjY kPP (kQQ Y) (d + 8) 70 48 [some (.ref c), some (.ref 53), some (.int x2), some (.int x3), some (.int (nI k))] [] y (otP B σ ws nm ks) := by
          intro y t9 ey
          obtain ⟨g4, s4, h4'⟩ := g3.ciq tz hc (Or.inr ⟨n + 1, by rw [z9]; exact nI_1 n, Or.inl ⟨rfl, by omega⟩⟩) ey
          exact nx y t9 g4 ((hs2.tr s3).tr s4) (Cq.tr ts (Cq.tr ts hu2 h3) h4')
        exact go2 _ tz' rfl
      exact go _ ty2' rfl
    · refine kjZ_y rfl rfl 3 _ _ _ _ ty2 ?_
      refine (And.intro (by assumption) (And.intro (Or.inl rfl) (fun ty2' => ?_)))
      have go : ∀ z, kTY z → z = (mjIu u2.1 c 9 x2, u2.2) → kjY kPP (kQQ Y) (d + 8) 70 32 [some (.ref c), some (.ref 53), some (.int x2), some (.int x3), some (.int (nI k))] [] z (otP B σ ws nm ks) := by
        intro z tz ez
        obtain ⟨g3, s3, h3⟩ := g1.ciq ty2 hc (Or.inr ⟨n0, e2, Or.inl ⟨rfl, hn0⟩⟩) ez
        have kz : (z.2.2.2.1 c).1 = 1 := tz.k q1 q2
        refine kjZ_y rfl rfl 3 _ _ _ _ tz ?_
        refine (And.intro rfl (And.intro (Nat.le_of_ble_eq_true rfl) (And.intro (Or.inl ⟨(Nat.le_of_ble_eq_true rfl), (tz.k (by decide) rfl)⟩) (And.intro (Nat.le_of_ble_eq_true rfl) (And.intro (Nat.le_of_ble_eq_true rfl) (kjY_mono tz (fun q_ u3 ty3 xu3 h_ => ?_) (kx_refuse tz (g3.in_ tz) (by decide))))))))
        obtain ⟨rfl, w3, s4⟩ := h_
        intro _ _
        obtain ⟨g4, h4'⟩ := g3.stq tz w3
        refine kjZ_y rfl rfl 1 _ _ _ _ ty3 ?_
        refine And.intro rfl (And.intro rfl ?_)
        exact ⟨rfl, nm2, hp.tr p3, g4, (hs2.tr s3).tr s4, Cq.tr ts (Cq.tr ts hu2 h3) h4'⟩
      exact go _ ty2' rfl
theorem kx_watch (ty : kTY σ) (g : KO B σ ws nm ks) (hB : BOK B ws) (hl : 1 ≤ ws.length) {c : Nat} (hc : c ∈ CNs) : kjY kPP (kQQ Y) (d + 8) 70 0 (mjL0 5 [.ref c, .ref 53]) [] σ (otP B σ ws nm ks) := by
  obtain ⟨q1, q2, -⟩ := CN_ok c hc
  have kc : (σ.2.2.2.1 c).1 = 1 := ty.k q1 q2
  obtain ⟨n, hn, en⟩ := g.1.2.2.2.2.2.1 c hc
  refine kjZ_y rfl rfl 3 _ _ _ _ ty ?_
  refine (And.intro (by assumption) (And.intro (fun c1 => ?_) (fun c1 => ?_)))
  rotate_left
  · refine kjZ_y rfl rfl 3 _ _ _ _ ty ?_
    refine (And.intro rfl (And.intro (Nat.le_of_ble_eq_true rfl) (And.intro (Or.inl ⟨(Nat.le_of_ble_eq_true rfl), (ty.k (by decide) rfl)⟩) (And.intro (Nat.le_of_ble_eq_true rfl) (And.intro (Nat.le_of_ble_eq_true rfl) (kjY_mono ty (fun q_ u3 ty3 xu3 h_ => ?_) (kx_refuse ty (g.in_ ty) (by decide))))))))
    obtain ⟨rfl, w3, s4⟩ := h_
    intro _ _
    obtain ⟨g4, h4'⟩ := g.stq ty w3
    refine kjZ_y rfl rfl 1 _ _ _ _ ty3 ?_
    refine And.intro rfl (And.intro rfl ?_)
    exact ⟨rfl, nm, PRE.rf, g4, s4, h4'⟩
  refine kjZ_y rfl rfl 5 _ _ _ _ ty ?_
  refine (And.intro (by assumption) (And.intro (Nat.le_of_ble_eq_true rfl) (And.intro (Nat.le_of_ble_eq_true rfl) ?_)))
  exact k_watch_l (σ := σ) hB hc hn _ en (ws.length - 1) 1 _ _ nm σ (by omega) rfl ty PRE.rf g SCl.rf Cq.rf ty
end KWATCH
