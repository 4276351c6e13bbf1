/-! Keys: packCells. -/
def pcLy (vs : List VR) (ls : List (Nat × Nat)) : List (Nat × Nat) := (List.range vs.length).map (fun s => match vs[s]? with
  | some r => if r.2.1 = 0 then ls.getD s (0, 0) else (clS (vs.take s), r.2.2.1)
  | none => (0, 0))
theorem pcLy_get {vs : List VR} {ls : List (Nat × Nat)} {s : Nat} {r : VR} {l : Nat × Nat} (hr : vs[s]? = some r) (h : (pcLy vs ls)[s]? = some l) : ((¬ r.2.1 = 0) ∧ l = (clS (vs.take s), r.2.2.1)) ∨ (r.2.1 = 0 ∧ l = ls.getD s (0, 0)) := by
  have hs := (List.getElem?_eq_some_iff.mp hr).1
  unfold pcLy at h
  rw [List.getElem?_map, List.getElem?_range hs] at h
  have h : (match vs[s]? with | some r => if r.2.1 = 0 then ls.getD s (0, 0) else (clS (vs.take s), r.2.2.1) | none => (0, 0)) = l := Option.some.inj h
  rw [hr] at h
  have h : (if r.2.1 = 0 then ls.getD s (0, 0) else (clS (vs.take s), r.2.2.1)) = l := h
  by_cases c : r.2.1 = 0
  · rw [if_pos c] at h; exact Or.inr ⟨c, h.symm⟩
  · rw [if_neg c] at h; exact Or.inl ⟨c, h.symm⟩
abbrev clF : List (Nat × Nat) := [(59, 10), (59, 11), (59, 12)]
abbrev clO : List (Nat × Nat) := [(59, 10), (59, 11)]
def gclA : List (Nat × Nat) := OWb.map (fun b => (b, 1)) ++ (OWr ++ [(59, 7), (59, 8)])
def gclC : List (Nat × Nat) := [(48, 3), (53, 1), (53, 2), (12, 8), (12, 10), (21, 8), (21, 10), (30, 8), (30, 10), (39, 8), (39, 10)]
theorem gcs_cl (σ : kS) : gcs σ = (gclA.map (fun p => glg (kl σ p))).sum + (glg (kl σ (59, 10)) + (glg (kl σ (59, 11)) + (gclC.map (fun p => glg (kl σ p))).sum)) := by
  have e : OWs = gclA ++ ((59, 10) :: (59, 11) :: gclC) := by decide +kernel
  unfold gcs
  rw [e, List.map_append, List.sum_append, List.map_cons, List.map_cons, List.sum_cons, List.sum_cons]
theorem POT.cl {σ u : kS} (po : POT σ) (e1 : ∀ p ∈ OWs, ¬ p ∈ clO → kl u p = kl σ p) (e2 : ∀ b ∈ OWb, u.1 b 2 = σ.1 b 2) (e3 : u.1 59 6 = σ.1 59 6) (hb : kl σ (59, 10) ≤ 65536 ∧ kl σ (59, 11) ≤ 65536) (h : (u.2.2.2.2.2.1 = σ.2.2.2.2.2.1 ∧ u.2.2.2.2.2.2 = σ.2.2.2.2.2.2 ∧ kl u (59, 10) = kl σ (59, 11) ∧ kl u (59, 11) = kl σ (59, 10)) ∨ (∃ L, u.2.2.2.2.2.1 + 1 = σ.2.2.2.2.2.1 ∧ u.2.2.2.2.2.2 + L = σ.2.2.2.2.2.2 ∧ kl u (59, 10) = L ∧ kl u (59, 11) = kl σ (59, 10) ∧ 2 * kl σ (59, 11) ≤ L ∧ kl σ (59, 10) ≤ L ∧ L ≤ 65536 ∧ 64 ≤ L)) : POT u := by
  have hO : ∀ x ∈ OWb, (x, 1) ∈ OWs ∧ ¬ (x, 1) ∈ clO := fun x hx => ⟨ow_b hx, fun z => by
    have q : ∀ p ∈ clO, ¬ p.1 ∈ OWb := by decide
    exact q _ z hx⟩
  have hR : ∀ x ∈ OWr, x ∈ OWs ∧ ¬ x ∈ clO := by decide
  have a1 : potB u (ksz u) = potB σ (ksz σ) := sum_eq fun x hx => by
    rw [e1 _ (hO x hx).1 (hO x hx).2]; unfold ksz; rw [e2 x hx]
  have a2 : potR u = potR σ := sum_eq fun x hx => by rw [e1 _ (hR x hx).1 (hR x hx).2]
  have a3 : kmade u = kmade σ := by unfold kmade; rw [e3]
  have c1 := e1 (59, 7) (by decide) (by decide)
  have c2 := e1 (59, 8) (by decide) (by decide)
  have hA : ∀ x ∈ gclA, x ∈ OWs ∧ ¬ x ∈ clO := by decide +kernel
  have hC : ∀ x ∈ gclC, x ∈ OWs ∧ ¬ x ∈ clO := by decide +kernel
  have b1 : (gclA.map (fun p => glg (kl u p))).sum = (gclA.map (fun p => glg (kl σ p))).sum := sum_eq fun x hx => by rw [e1 x (hA x hx).1 (hA x hx).2]
  have b2 : (gclC.map (fun p => glg (kl u p))).sum = (gclC.map (fun p => glg (kl σ p))).sum := sum_eq fun x hx => by rw [e1 x (hC x hx).1 (hC x hx).2]
  have b3 := gcs_cl u
  have b4 := gcs_cl σ
  obtain ⟨h2, h3⟩ := po
  rcases h with ⟨g1, g2, g3, g4⟩ | ⟨L, g1, g2, g3, g4, g5, g6, g7, g8⟩
  · have a5 : potT u = potT σ := by unfold potT; rw [c1, c2, a3, g3, g4]; omega
    exact ⟨by rw [a1, a2, a5, g2]; exact h2, by rw [g3, g4] at b3; rw [a3, g1]; omega⟩
  · have a5 : potT u + L ≤ potT σ := by unfold potT; rw [c1, c2, a3, g3, g4]; omega
    have b5 : glg L + 1 ≤ glg (kl σ (59, 11)) := glg_lt (Or.inl g5) g8 (by omega)
    rw [g3, g4] at b3
    exact ⟨by rw [a1, a2]; omega, by rw [a3]; omega⟩
theorem POT.clroom {σ : kS} {L : Nat} (po : POT σ) (hb : kl σ (59, 10) ≤ L ∧ 2 * kl σ (59, 11) ≤ L ∧ L ≤ 65536 ∧ 64 ≤ L) : 1 ≤ σ.2.2.2.2.2.1 ∧ L ≤ σ.2.2.2.2.2.2 := by
  have a5 : L ≤ potT σ := by unfold potT; omega
  have g1 : 1 ≤ gcs σ := gcs_1 (p := (59, 11)) (by decide) (by omega)
  obtain ⟨h2, h3⟩ := po
  omega
section KPACKC2
variable {Y : Nat → MethodName × ByteArray} {d : Nat} {σ u : kS}
/-- what packCells leaves -/
def pcP (σ : kS) (il sl : List Nat) (vs : List VR) (M T : Int32) (m : Nat) : kK := fun v u => v = none ∧ RST u il sl vs M T ∧ u.1 59 12 = nI (clS vs) ∧ (∃ rc NC, u.2.2.1 59 10 = some rc ∧ u.2.2.2.1 rc = (23, NC) ∧ m + clS vs ≤ NC) ∧ OWN u ∧ POT u ∧ Ch true clF clO σ u
theorem packC_fin (ty : kTY σ) (ow : OWN σ) (po : POT σ) {il sl : List Nat} {vs : List VR} {M T : Int32} {ri rs rh NK rt NT rn Nn te rc NC rm Nm ce : Nat} {ls : List (Nat × Nat)} (h : RSG σ il sl vs M T ri rs rh NK rt NT rn Nn te rc NC rm Nm ce ls) {gp L m : Nat} {σ1 w : kS} (ty1 : kTY σ1) (f2 : ∀ h, h < σ.2.2.2.2.1 → σ1.2.2.2.1 h = σ.2.2.2.1 h ∧ σ1.1 h = σ.1 h ∧ σ1.2.2.1 h = σ.2.2.1 h ∧ σ1.2.1 h = σ.2.1 h) (f3 : σ1.2.2.2.1 gp = (23, L)) (f4 : ¬ gp = rc) (hL : m + clS vs ≤ L ∧ L ≤ 65536 ∧ P2 L ∧ clS vs ≤ 49152) (ex1 : kEx σ σ1)
    (hgp : (σ1 = σ ∧ gp = rm) ∨ (gp = σ.2.2.2.2.1 ∧ σ1.2.2.2.2.2.1 + 1 = σ.2.2.2.2.2.1 ∧ σ1.2.2.2.2.2.2 + L = σ.2.2.2.2.2.2 ∧ NC ≤ L ∧ 2 * Nm ≤ L)) (pk : PCI σ1 vs gp vs.length u) (ew : w = (u.1, u.2.1, kFu (kFu u.2.2.1 59 11 (some rc)) 59 10 (some gp), u.2.2.2)) : RST w il sl vs M T ∧ w.1 59 12 = nI (clS vs) ∧ (∃ rc NC, w.2.2.1 59 10 = some rc ∧ w.2.2.2.1 rc = (23, NC) ∧ m + clS vs ≤ NC) ∧ OWN w ∧ POT w ∧ Ch true clF clO σ w := by
  have t76 := ty.2.2.2.1
  have hap := h.ap ty ow
  have hGo := h
  obtain ⟨⟨⟨i1, i2⟩, ⟨i3, i4⟩, ⟨i5, i6⟩, i7, i8⟩, ⟨⟨t1, t2⟩, ⟨t3, t4⟩, t5, t6, t7, t8, t9, t10⟩, ⟨⟨c1, c2⟩, ⟨c3, c4⟩, c5, c6, c7, c8, c9, c10⟩, ⟨⟨b1, b2, b3, b4, b5⟩, ⟨b6, b6b, b6c⟩, b7, b8, b9, b10⟩, a5, a6, a7⟩ := h
  obtain ⟨p1, p2, ⟨p3, p4⟩, p5, p6⟩ := hap
  obtain ⟨k1, k0, k2, k3, k4, k5⟩ := pk
  have lrc := ty.lr c2 (by decide)
  have lrm := ty.lr c4 (by decide)
  have eD : ∀ g, w.2.2.2.1 g = σ1.2.2.2.1 g := fun g => by rw [ew]; exact congrFun (congrArg (fun t => t.2.1) k1) g
  have eL : ∀ g, ¬ g = gp → w.2.1 g = σ1.2.1 g := fun g z => by rw [ew]; exact k0 g z
  have eF : ∀ g y, ¬ (g = 59 ∧ (y = 10 ∨ y = 11)) → w.2.2.1 g y = σ1.2.2.1 g y := fun g y z => by
    rw [ew]; show kFu (kFu u.2.2.1 59 11 _) 59 10 _ g y = _
    rw [kFu_at, if_neg (fun q => z ⟨q.1, Or.inl q.2⟩), kFu_at, if_neg (fun q => z ⟨q.1, Or.inr q.2⟩)]
    exact congrFun (congrFun (congrArg (fun t => t.1) k1) g) y
  have eF7 : w.2.2.1 59 10 = some gp := by rw [ew]; show kFu (kFu u.2.2.1 59 11 (some rc)) 59 10 (some gp) 59 10 = _; rw [kFu_at, if_pos ⟨rfl, rfl⟩]
  have eF8 : w.2.2.1 59 11 = some rc := by rw [ew]; show kFu (kFu u.2.2.1 59 11 (some rc)) 59 10 (some gp) 59 11 = _; rw [kFu_at, if_neg (fun q => absurd q.2 (by decide)), kFu_at, if_pos ⟨rfl, rfl⟩]
  have eI : ∀ g x, g < σ.2.2.2.2.1 → ¬ σ.2.2.2.1 g = (11, 0) → ¬ (g = 59 ∧ x = 12) → w.1 g x = σ.1 g x := fun g x z0 z1 z3 => by
    rw [ew]; show u.1 g x = _
    rw [k2 g x (by rw [(f2 g z0).1]; exact z1) z3, (f2 g z0).2.1]
  have d59 : ¬ σ.2.2.2.1 59 = (11, 0) := by rw [ty.kl (h := 59) (c := (4, 0)) (by decide) rfl]; decide
  have e59 : ∀ x, ¬ x = 12 → w.1 59 x = σ.1 59 x := fun x z => eI 59 x (by omega) d59 (fun q => z q.2)
  have e9 : w.1 59 12 = nI (clS vs) := by rw [ew]; show u.1 59 12 = _; rw [k5, List.take_length]
  have q59 : ∀ y, ¬ (y = 10 ∨ y = 11) → w.2.2.1 59 y = σ.2.2.1 59 y := fun y z => by rw [eF 59 y (fun q => z q.2), (f2 59 (by omega)).2.2.1]
  have dD : ∀ g, g < σ.2.2.2.2.1 → w.2.2.2.1 g = σ.2.2.2.1 g := fun g z => by rw [eD, (f2 g z).1]
  have ngk : ∀ g, g < σ.2.2.2.2.1 → ¬ (σ.2.2.2.1 g).1 = 23 → ¬ g = gp := fun g z z1 q => by
    have e3 := f3
    rw [← q, (f2 g z).1] at e3
    exact z1 (by rw [e3])
  have ex : kEx σ w := by
    refine ⟨?_, fun g z => dD g z, ?_, ?_⟩
    · rw [ew]; show _ ≤ u.2.2.2.2.1; rw [k1]; exact ex1.1
    · rw [ew]; show u.2.2.2.2.1 + u.2.2.2.2.2.1 = _; rw [k1]; exact ex1.2.2.1
    · rw [ew]; show u.2.2.2.2.2.2 ≤ _; rw [k1]; exact ex1.2.2.2
  have nrh : ¬ rh = 59 := (p2 rh (by simp)).2
  have hV : ∀ (i : Nat) r l, vs[i]? = some r → (pcLy vs ls)[i]? = some l → VOK w rt gp te (clS vs) r l := by
    intro i r l hr hl
    obtain ⟨l0, hl0, hv, -⟩ := hGo.v hr
    have lv := ty.lt (h := r.1) (by rw [hv.1.1]; decide)
    have eV : ∀ x, ((¬ x = 7 ∧ ¬ x = 8) ∨ r.2.1 = 0) → w.1 r.1 x = σ.1 r.1 x := fun x z => by
      rw [ew]; show u.1 r.1 x = _
      rw [k3 i r x hr (z.elim Or.inl (fun y => Or.inr (Or.inr y))), (f2 _ lv).2.1]
    have eVL : w.2.1 r.1 = σ.2.1 r.1 := by rw [eL r.1 (ngk _ lv (by rw [hv.1.1]; decide)), (f2 _ lv).2.2.2]
    rcases pcLy_get hr hl with ⟨z1, z2⟩ | ⟨z1, z2⟩
    · rw [z2]
      obtain ⟨⟨v1, v2, v3, v4, v5, v6, v7⟩, ⟨w1, w2, w3⟩, x1, x2, x3⟩ := hv
      obtain ⟨y1, y2, y3, y4⟩ := x3 z1
      obtain ⟨m1, m2, m3⟩ := k4 i r hr (List.getElem?_eq_some_iff.mp hr).1 z1
      refine ⟨⟨by rw [dD _ lv]; exact v1, v2, (eV 1 (Or.inl (by decide))).trans v3, (eV 2 (Or.inl (by decide))).trans v4, by rw [eVL]; exact v5, (eV 4 (Or.inl (by decide))).trans v6, (eV 5 (Or.inl (by decide))).trans v7⟩, ⟨(eV 6 (Or.inl (by decide))).trans w1, ?_, ?_⟩, Nat.le_refl _, fun z => absurd z z1, fun _ => ⟨y1, y2.imp id (fun z => ⟨z.1, by have := z.2; show r.2.2.1 = 0; omega⟩), Or.inl (clS_at hr), fun p q hp => ?_⟩⟩
      · rw [ew]; exact m1
      · rw [ew]; exact m2
      · rw [ew]; exact m3 p q hp
    · have el : ls.getD i (0, 0) = l0 := by rw [List.getD_eq_getElem?_getD, hl0]; rfl
      rw [z2, el]
      obtain ⟨⟨v1, v2, v3, v4, v5, v6, v7⟩, ⟨w1, w2, w3⟩, x1, x2, x3⟩ := hv
      obtain ⟨y1, y2, y3, y4, y5⟩ := x2 z1
      refine ⟨⟨by rw [dD _ lv]; exact v1, v2, (eV 1 (Or.inr z1)).trans v3, (eV 2 (Or.inr z1)).trans v4, by rw [eVL]; exact v5, (eV 4 (Or.inr z1)).trans v6, (eV 5 (Or.inr z1)).trans v7⟩, ⟨(eV 6 (Or.inr z1)).trans w1, (eV 7 (Or.inr z1)).trans w2, (eV 8 (Or.inr z1)).trans w3⟩, x1, fun _ => ⟨y1, y2, y3, by rw [dD rt (ty.lr t2 (by decide))]; exact y4, ?_⟩, fun z => absurd z1 z⟩
      refine Eq.trans (wd_congr fun k hk => eI rt _ (ty.lr t2 (by decide)) (p2 rt (by simp)).1.2 (fun z => (p2 rt (by simp)).2 z.1)) y5
  have owW : OWN w := by
    have pw : ∀ p ∈ OWs, ¬ p ∈ clO → w.2.2.1 p.1 p.2 = σ.2.2.1 p.1 p.2 := fun p hp z => by
      rw [eF p.1 p.2 (fun q => z ?_), (f2 p.1 (p76 ty hp)).2.2.1]
      rcases q.2 with y | y
      · have : p = (59, 10) := Prod.ext q.1 y
        rw [this]; decide
      · have : p = (59, 11) := Prod.ext q.1 y
        rw [this]; decide
    have key : ∀ p ∈ OWs, (p = (59, 10) ∧ gp = σ.2.2.2.2.1) ∨ ∃ q ∈ OWs, w.2.2.1 p.1 p.2 = σ.2.2.1 q.1 q.2 ∧ (p = (59, 11) ∧ q = (59, 10) ∨ p = (59, 10) ∧ q = (59, 11) ∨ (¬ p ∈ clO ∧ q = p)) := fun p hp => by
      by_cases z : p ∈ clO
      · have z : p = (59, 10) ∨ p = (59, 11) := by simpa using z
        rcases z with z | z
        · rcases hgp with ⟨-, y⟩ | ⟨y, -⟩
          · exact Or.inr ⟨(59, 11), by decide, by rw [z]; show w.2.2.1 59 10 = σ.2.2.1 59 11; rw [eF7, c3, y], Or.inr (Or.inl ⟨z, rfl⟩)⟩
          · exact Or.inl ⟨z, y⟩
        · exact Or.inr ⟨(59, 10), by decide, by rw [z]; show w.2.2.1 59 11 = σ.2.2.1 59 10; rw [eF8, c1], Or.inl ⟨z, rfl⟩⟩
      · exact Or.inr ⟨p, hp, pw p hp z, Or.inr (Or.inr ⟨z, rfl⟩)⟩
    intro p hp q hq e
    have old : ∀ q ∈ OWs, ¬ σ.2.2.1 q.1 q.2 = some σ.2.2.2.2.1 := fun q hq z => by
      obtain ⟨g, h1, -, h3⟩ := ow_some ty hq
      rw [h1] at z; cases z; omega
    rcases key p hp with ⟨z1, z2⟩ | ⟨p', hp', ep, cp⟩
    · rcases key q hq with ⟨y1, y2⟩ | ⟨q', hq', eq, cq⟩
      · rw [z1, y1]
      · rw [z1] at e
        have e : w.2.2.1 59 10 = w.2.2.1 q.1 q.2 := e
        rw [eF7, z2, eq] at e
        exact absurd e.symm (old q' hq')
    · rcases key q hq with ⟨y1, y2⟩ | ⟨q', hq', eq, cq⟩
      · rw [y1] at e
        have e : w.2.2.1 p.1 p.2 = w.2.2.1 59 10 := e
        rw [eF7, y2, ep] at e
        exact absurd e (old p' hp')
      · have e2 : p' = q' := ow p' hp' q' hq' (by rw [← ep, ← eq]; exact e)
        rcases cp with ⟨u1, u2⟩ | ⟨u1, u2⟩ | ⟨u1, u2⟩
        · rcases cq with ⟨v1, v2⟩ | ⟨v1, v2⟩ | ⟨v1, v2⟩
          · rw [u1, v1]
          · rw [u2, v2] at e2; exact absurd e2 (by decide)
          · rw [u2, v2] at e2; rw [← e2] at v1; exact absurd (by decide) v1
        · rcases cq with ⟨v1, v2⟩ | ⟨v1, v2⟩ | ⟨v1, v2⟩
          · rw [u2, v2] at e2; exact absurd e2 (by decide)
          · rw [u1, v1]
          · rw [u2, v2] at e2; rw [← e2] at v1; exact absurd (by decide) v1
        · rcases cq with ⟨v1, v2⟩ | ⟨v1, v2⟩ | ⟨v1, v2⟩
          · rw [u2, v2] at e2; rw [e2] at u1; exact absurd (by decide) u1
          · rw [u2, v2] at e2; rw [e2] at u1; exact absurd (by decide) u1
          · rw [← u2, ← v2]; exact e2
  have kl7 : kl σ (59, 10) = NC := by unfold kl; show (σ.2.2.2.1 ((σ.2.2.1 59 10).getD 0)).2 = NC; rw [c1]; show (σ.2.2.2.1 rc).2 = NC; rw [c2]
  have kl8 : kl σ (59, 11) = Nm := by unfold kl; show (σ.2.2.2.1 ((σ.2.2.1 59 11).getD 0)).2 = Nm; rw [c3]; show (σ.2.2.2.1 rm).2 = Nm; rw [c4]
  have kw7 : kl w (59, 10) = L := by unfold kl; show (w.2.2.2.1 ((w.2.2.1 59 10).getD 0)).2 = L; rw [eF7]; show (w.2.2.2.1 gp).2 = L; rw [eD, f3]
  have kw8 : kl w (59, 11) = NC := by unfold kl; show (w.2.2.2.1 ((w.2.2.1 59 11).getD 0)).2 = NC; rw [eF8]; show (w.2.2.2.1 rc).2 = NC; rw [dD rc lrc, c2]
  refine ⟨⟨ri, rs, rh, NK, rt, NT, rn, Nn, te, gp, L, rc, NC, clS vs, pcLy vs ls, ⟨⟨by rw [q59 3 (by decide)]; exact i1, by rw [dD ri (ty.lr i2 (by decide))]; exact i2⟩, ⟨by rw [q59 4 (by decide)]; exact i3, by rw [dD rs (ty.lr i4 (by decide))]; exact i4⟩, ⟨by rw [q59 5 (by decide)]; exact i5, by rw [dD rh (ty.lr i6 (by decide))]; exact i6⟩, i7, i8⟩, ⟨⟨by rw [q59 7 (by decide)]; exact t1, by rw [dD rt (ty.lr t2 (by decide))]; exact t2⟩, ⟨by rw [q59 8 (by decide)]; exact t3, by rw [dD rn (ty.lr t4 (by decide))]; exact t4⟩, t5, t6, t7, t8, (e59 9 (by decide)).trans t9, t10⟩, ⟨⟨eF7, by rw [eD]; exact f3⟩, ⟨eF8, by rw [dD rc lrc]; exact c2⟩, hL.2.2.1, Or.inr c5, hL.2.1, c7, e9, by omega⟩, ⟨⟨(e59 13 (by decide)).trans b1, (e59 6 (by decide)).trans b2, b3, b4, b5⟩, ⟨b6, b6b, b6c⟩, fun i k hk => ?_, fun i k hk => ?_, fun i r hr => ?_, b10⟩, ⟨?_, hV, fun i j r l r' l' hij q1 q2 q3 q4 => ?_⟩, (e59 14 (by decide)).trans a6, (e59 15 (by decide)).trans a7⟩, e9, ⟨gp, L, eF7, by rw [eD]; exact f3, hL.1⟩, owW, po.cl (fun p hp z => kl_eq ty ex hp ?_) (fun b q => ?_) (e59 6 (by decide)) ⟨by rw [kl7]; exact c7, by rw [kl8]; exact c8⟩ ?_, ex, fun g y g1 g2 g3 => ?_, fun g g1 g2 g3 => ?_, fun p hp g hg => ?_⟩
  · rw [eI ri i (ty.lr i2 (by decide)) (p2 ri (by simp)).1.2 (fun z => (p2 ri (by simp)).2 z.1)]; exact b7 i k hk
  · rw [eI rs i (ty.lr i4 (by decide)) (p2 rs (by simp)).1.2 (fun z => (p2 rs (by simp)).2 z.1)]; exact b8 i k hk
  · rw [eF rh i (fun z => nrh z.1), (f2 rh (ty.lr i6 (by decide))).2.2.1]; exact b9 i r hr
  · unfold pcLy; rw [List.length_map, List.length_range]
  · rcases pcLy_get q1 q2 with ⟨z1, z2⟩ | ⟨z1, z2⟩
    · rcases pcLy_get q3 q4 with ⟨y1, y2⟩ | ⟨y1, y2⟩
      · intro _
        rw [z2, y2]; unfold spc; rw [if_neg z1, if_neg y1]
        show clS (vs.take i) + pts r.2.1 * r.2.2.1 ≤ clS (vs.take j) ∨ clS (vs.take j) + pts r'.2.1 * r'.2.2.1 ≤ clS (vs.take i) ∨ pts r.2.1 * r.2.2.1 = 0 ∨ pts r'.2.1 * r'.2.2.1 = 0
        have u1 := clS_take q1
        have u2 := clS_take q3
        rcases Nat.lt_or_gt_of_ne hij with z | z
        · have := clS_mono vs (show i + 1 ≤ j from z); exact Or.inl (by omega)
        · have := clS_mono vs (show j + 1 ≤ i from z); exact Or.inr (Or.inl (by omega))
      · intro z; exact absurd (z.mpr y1) z1
    · rcases pcLy_get q3 q4 with ⟨y1, y2⟩ | ⟨y1, y2⟩
      · intro z; exact absurd (z.mp z1) y1
      · obtain ⟨l0, hl0, -⟩ := hGo.v q1
        obtain ⟨l1, hl1, -⟩ := hGo.v q3
        have el : ls.getD i (0, 0) = l0 := by rw [List.getD_eq_getElem?_getD, hl0]; rfl
        have el1 : ls.getD j (0, 0) = l1 := by rw [List.getD_eq_getElem?_getD, hl1]; rfl
        rw [z2, y2, el, el1]
        exact a5.2.2 i j r l0 r' l1 hij q1 hl0 q3 hl1
  · refine (eF p.1 p.2 (fun q => z ?_)).trans (by rw [(f2 p.1 (p76 ty hp)).2.2.1])
    rcases q.2 with y | y
    · rw [show p = (59, 10) from Prod.ext q.1 y]; decide
    · rw [show p = (59, 11) from Prod.ext q.1 y]; decide
  · have hb : ∀ b ∈ OWb, b < 76 ∧ ¬ b = 59 := by decide
    have kb0 := ob_k ty q
    exact eI b 2 (by have := (hb b q).1; omega) (fun z => by rw [z] at kb0; exact absurd kb0 (by decide)) (fun z => (hb b q).2 z.1)
  · rw [kw7, kw8, kl7, kl8]
    rcases hgp with ⟨z1, z2⟩ | ⟨z1, z2, z3, z4, z5⟩
    · left
      refine ⟨?_, ?_, ?_, rfl⟩
      · rw [ew]; show u.2.2.2.2.2.1 = _; rw [k1, z1]
      · rw [ew]; show u.2.2.2.2.2.2 = _; rw [k1, z1]
      · rw [z1, z2, c4] at f3; exact (congrArg Prod.snd f3).symm
    · right
      refine ⟨L, ?_, ?_, rfl, rfl, z5, z4, hL.2.1, hL.2.2.1.le⟩
      · rw [ew]; show u.2.2.2.2.2.1 + 1 = _; rw [k1]; exact z2
      · rw [ew]; show u.2.2.2.2.2.2 + L = _; rw [k1]; exact z3
  · have hl := ty.lt (h := g) (by omega)
    refine ⟨eI g y hl (fun z => g2 rfl (by rw [z])) (fun z => g3 (by rw [z.1, z.2]; decide)), by rw [eL g (ngk g hl (by omega)), (f2 g hl).2.2.2], ?_⟩
    rw [eF g y (fun z => g3 ?_), (f2 g hl).2.2.1]
    rcases z.2 with q | q
    · rw [z.1, q]; decide
    · rw [z.1, q]; decide
  · have hl := ty.lt (h := g) (by omega)
    have n59 : ¬ g = 59 := fun z => by rw [z, ty.k (h := 59) (by decide) rfl] at g1; exact absurd g1 (by decide)
    have ng : ¬ g = gp := fun z => by
      rcases hgp with ⟨-, q⟩ | ⟨q, -⟩
      · exact g3 (59, 11) (by decide) (by rw [z, q]; exact c3)
      · omega
    exact ⟨funext fun y => eI g y hl (fun z => by rw [z] at g1; exact absurd g1 (by decide)) (fun z => n59 z.1), by rw [eL g ng, (f2 g hl).2.2.2], funext fun y => by rw [eF g y (fun z => n59 z.1), (f2 g hl).2.2.1]⟩
  · by_cases z : p ∈ clO
    · have z : p = (59, 10) ∨ p = (59, 11) := by simpa using z
      rcases z with z | z
      · rw [z] at hg
        have hg : w.2.2.1 59 10 = some g := hg
        rw [eF7] at hg; cases hg
        rcases hgp with ⟨-, q⟩ | ⟨q, -⟩
        · exact Or.inr (Or.inr ⟨(59, 11), by decide, by rw [q]; exact c3⟩)
        · exact Or.inr (Or.inl (by omega))
      · rw [z] at hg
        have hg : w.2.2.1 59 11 = some g := hg
        rw [eF8] at hg; cases hg
        exact Or.inr (Or.inr ⟨(59, 10), by decide, c1⟩)
    · left
      rw [eF p.1 p.2 (fun q => z ?_), (f2 p.1 (p76 ty hp)).2.2.1]
      rcases q.2 with y | y
      · rw [show p = (59, 10) from Prod.ext q.1 y]; decide
      · rw [show p = (59, 11) from Prod.ext q.1 y]; decide
theorem k_packCells (ty : kTY σ) (ow : OWN σ) (po : POT σ) {il sl : List Nat} {vs : List VR} {M T : Int32} (h : RST σ il sl vs M T) {m : Nat} (hm : m + clS vs ≤ 49152) (x1 : Int32) (e1 : x1 = nI m) :
    kjY kPP (kQQ Y) (d + 1) 144 0 (mjL0 8 [.ref 59, .int x1]) [] σ (pcP σ il sl vs M T m) := by
  have ho := h
  obtain ⟨ri, rs, rh, NK, rt, NT, rn, Nn, te, rc, NC, rm, Nm, ce, ls, hG⟩ := h
  obtain ⟨p1, p2, ⟨p3, p4⟩, p5, p6⟩ := hG.ap ty ow
  have hGo := hG
  obtain ⟨⟨⟨i1, i2⟩, ⟨i3, i4⟩, ⟨i5, i6⟩, i7, i8⟩, a2, ⟨⟨c1, c2⟩, ⟨c3, c4⟩, c5, c6, c7, c8, c9, c10⟩, ⟨⟨b1, b2, b3, b4, b5⟩, ⟨b6, b6b, b6c⟩, b7, b8, b9, b10⟩, a5, a6, a7⟩ := hG
  have t76 := ty.2.2.2.1
  have lrc := ty.lr c2 (by decide)
  have kl7 : kl σ (59, 10) = NC := by unfold kl; show (σ.2.2.2.1 ((σ.2.2.1 59 10).getD 0)).2 = NC; rw [c1]; show (σ.2.2.2.1 rc).2 = NC; rw [c2]
  have kl8 : kl σ (59, 11) = Nm := by unfold kl; show (σ.2.2.2.1 ((σ.2.2.1 59 11).getD 0)).2 = Nm; rw [c3]; show (σ.2.2.2.1 rm).2 = Nm; rw [c4]
  have lv : ∀ r ∈ vs, r.1 < σ.2.2.2.2.1 ∧ σ.2.2.2.1 r.1 = (11, 0) := fun r hr => by
    obtain ⟨i, hi⟩ := List.getElem?_of_mem hr
    obtain ⟨l, hl, hV, -⟩ := hGo.v hi
    exact ⟨ty.lt (by rw [hV.1.1]; decide), hV.1.1⟩
  have third : ∀ (σ1 : kS) (gp L' : Nat) (x2 x3 : Int32), kTY σ1 → (∀ h, h < σ.2.2.2.2.1 → σ1.2.2.2.1 h = σ.2.2.2.1 h ∧ σ1.1 h = σ.1 h ∧ σ1.2.2.1 h = σ.2.2.1 h ∧ σ1.2.1 h = σ.2.1 h) → σ1.2.2.2.1 gp = (23, L') → (¬ gp = rc) → (m + clS vs ≤ L' ∧ L' ≤ 65536 ∧ P2 L' ∧ clS vs ≤ 49152) → kEx σ σ1 → ((σ1 = σ ∧ gp = rm) ∨ (gp = σ.2.2.2.2.1 ∧ σ1.2.2.2.2.2.1 + 1 = σ.2.2.2.2.2.1 ∧ σ1.2.2.2.2.2.2 + L' = σ.2.2.2.2.2.2 ∧ NC ≤ L' ∧ 2 * Nm ≤ L')) →
      kjY kPP (kQQ Y) (d + 1) 144 58 [some (.ref 59), some (.int x1), some (.int x2), some (.int x3), some (.ref gp), none, none, none] [] σ1 (pcP σ il sl vs M T m) := by
    intro σ1 gp L' x2 x3 ty1 f2 f3 f4 hL ex1 hgp
    have k59 : ¬ σ1.2.2.2.1 59 = (11, 0) := by rw [ty1.kl (h := 59) (c := (4, 0)) (by decide) rfl]; decide
    refine kjZ_y rfl rfl 5 _ _ _ _ ty1 ?_
    refine (And.intro (ty1.k (by decide) rfl) (And.intro (Or.inl rfl) (fun ty1' => (And.intro (Nat.le_of_ble_eq_true rfl) ?_))))
    have go : ∀ w, kTY w → w = (mjIu σ1.1 59 12 (Int32.ofInt 0), σ1.2) → kjY kPP (kQQ Y) (d + 1) 144 63 [some (.ref 59), some (.int x1), some (.int x2), some (.int x3), some (.ref gp), some (.int (Int32.ofInt 0)), none, none] [] w (pcP σ il sl vs M T m) := by
      intro w tw ew
      refine k_packC3 _ ty ow hGo ty1 x1 x2 x3 ⟨by rw [(f2 59 (by omega)).2.2.1]; exact i5, by rw [(f2 59 (by omega)).2.2.1]; exact c1⟩ f2 f3 f4 ⟨by omega, hL.2.1⟩ (fun y o5 o6 o7 tyy pk => ?_) vs.length 0 _ none none w (by omega) rfl tw ⟨by rw [ew], fun h _ => by rw [ew], fun h x _ z => by rw [ew]; show mjIu σ1.1 59 12 _ h x = _; rw [mjIu_at, if_neg z], fun s r x hs _ => ?_, fun s r _ hs => absurd hs (Nat.not_lt_zero s), ?_⟩
      · have j7 : y.2.2.1 59 10 = some rc := by
          have e : y.2.2.1 = σ1.2.2.1 := congrArg (fun t => t.1) pk.1
          rw [e, (f2 59 (by omega)).2.2.1]; exact c1
        have kgp : (y.2.2.2.1 gp).1 = 23 := by
          have e : y.2.2.2.1 = σ1.2.2.2.1 := congrArg (fun t => t.2.1) pk.1
          rw [e, f3]
        have krc : (y.2.2.2.1 rc).1 = 23 := by
          have e : y.2.2.2.1 = σ1.2.2.2.1 := congrArg (fun t => t.2.1) pk.1
          rw [e, (f2 rc lrc).1, c2]
        refine kjZ_y rfl rfl 7 _ _ _ _ tyy ?_
        refine (And.intro (tyy.k (by decide) rfl) (Exists.intro _ (And.intro j7 (And.intro (tyy.k (by decide) rfl) (And.intro (Or.inl ⟨rfl, by assumption⟩) (fun tyy' => (And.intro (tyy'.k (by decide) rfl) (And.intro (Or.inl ⟨rfl, by assumption⟩) (fun tyy'' => ?_)))))))))
        have fin : ∀ z, kTY z → z = (y.1, y.2.1, kFu (kFu y.2.2.1 59 11 (some rc)) 59 10 (some gp), y.2.2.2) → kjY kPP (kQQ Y) (d + 1) 144 128 [some (.ref 59), some (.int x1), some (.int x2), some (.int x3), some (.ref gp), o5, o6, o7] [] z (pcP σ il sl vs M T m) := by
          intro z tz ez
          refine kjZ_y rfl rfl 1 _ _ _ _ tz ?_
          refine And.intro rfl (And.intro rfl ?_)
          exact ⟨rfl, packC_fin ty ow po hGo ty1 f2 f3 f4 hL ex1 hgp pk ez⟩
        exact fin _ tyy'' rfl
      · rw [ew]; show mjIu σ1.1 59 12 _ r.1 x = _
        rw [mjIu_at, if_neg (fun z => k11 ty (lv r (List.mem_of_getElem? hs)).2 (show 59 < 76 by decide) z.1.symm)]
      · rw [ew]; show mjIu σ1.1 59 12 (Int32.ofInt 0) 59 12 = _; rw [mjIu_at, if_pos ⟨rfl, rfl⟩]; rfl
    exact go _ ty1' rfl
  refine kjZ_y rfl rfl 4 _ _ _ _ ty ?_
  refine (And.intro (Nat.le_of_ble_eq_true rfl) (And.intro (Nat.le_of_ble_eq_true rfl) ?_))
  refine k_packC1 _ ty ho hm x1 (fun x2 x3 e2 => ?_) vs.length 0 _ _ (by omega) rfl (by rw [e1]; rfl)
  refine kjZ_y rfl rfl 4 _ _ _ _ ty ?_
  refine (And.intro (ty.k (by decide) rfl) (Exists.intro _ (And.intro c1 (Or.inl (And.intro (kdq c2) (And.intro (Nat.le_of_ble_eq_true rfl) ?_))))))
  refine k_packC2 (L0 := NC) _ ty hm x1 x2 e2 (fun L x3 hp hL hL0 hq e3 => ?_) 131073 NC _ (by omega) c5 c7 (Nat.le_refl _) (by rw [c2])
  have hpq := hp.q
  refine kjZ_y rfl rfl 3 _ _ _ _ ty ?_
  refine And.intro (fun c => ?_) (fun c => ?_)
  rotate_left
  · exact absurd (show x2 ≤ x3 by rw [e2, e3, nle (by omega) (by omega)]; omega) c
  refine kjZ_y rfl rfl 5 _ _ _ _ ty ?_
  refine (And.intro (ty.k (by decide) rfl) (Exists.intro _ (And.intro c3 (Or.inl (And.intro (kdq c4) (And.intro (fun d2 => ?_) (fun d2 => ?_)))))))
  · have d2 : x3 ≤ nI (σ.2.2.2.1 rm).2 := d2
    rw [c4, e3, nle (by omega) (by omega)] at d2
    have hNn : P2 Nm := c6.resolve_left (by have := hp.le; omega)
    refine kjZ_y rfl rfl 3 _ _ _ _ ty ?_
    refine (And.intro (ty.k (by decide) rfl) (Exists.intro _ (And.intro c3 (And.intro (Nat.le_of_ble_eq_true rfl) ?_))))
    exact third σ rm Nm x2 x3 ty (fun h _ => ⟨rfl, rfl, rfl, rfl⟩) c4 (fun z => p4 z.symm) ⟨by omega, c8, hNn, by omega⟩ kEx.rf (Or.inl ⟨rfl, rfl⟩)
  · have d2 : ¬ x3 ≤ nI (σ.2.2.2.1 rm).2 := d2
    rw [c4, e3, nle (by omega) (by omega)] at d2
    have h2n : 2 * Nm ≤ L := by
      rcases c6 with z | z
      · omega
      · exact P2.lt z hp (by omega)
    have hroom := po.clroom (L := L) ⟨by rw [kl7]; exact hL0, by rw [kl8]; exact h2n, hL, hp.le⟩
    refine kjZ_y rfl rfl 4 _ _ _ _ ty ?_
    refine (Exists.intro L (And.intro e3 (And.intro ⟨(by omega), Or.inr (Or.inr rfl)⟩ (And.intro ⟨hroom.1, hroom.2⟩ (fun ty' => (And.intro (Nat.le_of_ble_eq_true rfl) ?_))))))
    refine third (kNew σ 23 L) σ.2.2.2.2.1 L x2 x3 ty' (fun h hh => ⟨kUp_n (by omega), kUp_n (by omega), kUp_n (by omega), kUp_n (by omega)⟩) kUp_s (by omega) ⟨by omega, hL, hp, by omega⟩ (kNew_ex hroom.1) (Or.inr ⟨rfl, ?_, ?_, hL0, h2n⟩)
    · show σ.2.2.2.2.2.1 - 1 + 1 = _; have := hroom.1; omega
    · show σ.2.2.2.2.2.2 - L + L = _; have := hroom.2; omega
end KPACKC2
