/-! Keys: packTexts whole. -/
def pkLy (vs : List VR) (ls : List (Nat × Nat)) : List (Nat × Nat) := (List.range vs.length).map (fun s => match vs[s]? with
  | some r => if r.2.1 = 0 then (txS (vs.take s), r.2.2.1) else ls.getD s (0, 0)
  | none => (0, 0))
theorem pkLy_get {vs : List VR} {ls : List (Nat × Nat)} {s : Nat} {r : VR} {l : Nat × Nat} (hr : vs[s]? = some r) (h : (pkLy vs ls)[s]? = some l) : (r.2.1 = 0 ∧ l = (txS (vs.take s), r.2.2.1)) ∨ ((¬ r.2.1 = 0) ∧ l = ls.getD s (0, 0)) := by
  have hs := (List.getElem?_eq_some_iff.mp hr).1
  unfold pkLy at h
  rw [List.getElem?_map, List.getElem?_range hs] at h
  have h : (match vs[s]? with | some r => if r.2.1 = 0 then (txS (vs.take s), r.2.2.1) else ls.getD s (0, 0) | none => (0, 0)) = l := Option.some.inj h
  rw [hr] at h
  have h : (if r.2.1 = 0 then (txS (vs.take s), r.2.2.1) else ls.getD s (0, 0)) = l := h
  by_cases c : r.2.1 = 0
  · rw [if_pos c] at h; exact Or.inl ⟨c, h.symm⟩
  · rw [if_neg c] at h; exact Or.inr ⟨c, h.symm⟩
abbrev txF : List (Nat × Nat) := [(59, 7), (59, 8), (59, 9)]
abbrev txO : List (Nat × Nat) := [(59, 7), (59, 8)]
def gtxA : List (Nat × Nat) := OWb.map (fun b => (b, 1)) ++ OWr
def gtxC : List (Nat × Nat) := [(59, 10), (59, 11), (48, 3), (53, 1), (53, 2), (12, 8), (12, 10), (21, 8), (21, 10), (30, 8), (30, 10), (39, 8), (39, 10)]
theorem gcs_tx (σ : kS) : gcs σ = (gtxA.map (fun p => glg (kl σ p))).sum + (glg (kl σ (59, 7)) + (glg (kl σ (59, 8)) + (gtxC.map (fun p => glg (kl σ p))).sum)) := by
  have e : OWs = gtxA ++ ((59, 7) :: (59, 8) :: gtxC) := by decide +kernel
  unfold gcs
  rw [e, List.map_append, List.sum_append, List.map_cons, List.map_cons, List.sum_cons, List.sum_cons]
theorem POT.tx {σ u : kS} (po : POT σ) (e1 : ∀ p ∈ OWs, ¬ p ∈ txO → kl u p = kl σ p) (e2 : ∀ b ∈ OWb, u.1 b 2 = σ.1 b 2) (e3 : u.1 59 6 = σ.1 59 6) (hb : kl σ (59, 7) ≤ 131072 ∧ kl σ (59, 8) ≤ 131072) (h : (u.2.2.2.2.2.1 = σ.2.2.2.2.2.1 ∧ u.2.2.2.2.2.2 = σ.2.2.2.2.2.2 ∧ kl u (59, 7) = kl σ (59, 8) ∧ kl u (59, 8) = kl σ (59, 7)) ∨ (∃ L, u.2.2.2.2.2.1 + 1 = σ.2.2.2.2.2.1 ∧ u.2.2.2.2.2.2 + L = σ.2.2.2.2.2.2 ∧ kl u (59, 7) = L ∧ kl u (59, 8) = kl σ (59, 7) ∧ 2 * kl σ (59, 8) ≤ L ∧ kl σ (59, 7) ≤ L ∧ L ≤ 131072 ∧ 64 ≤ L)) : POT u := by
  have hO : ∀ x ∈ OWb, (x, 1) ∈ OWs ∧ ¬ (x, 1) ∈ txO := fun x hx => ⟨ow_b hx, fun z => by
    have q : ∀ p ∈ txO, ¬ p.1 ∈ OWb := by decide
    exact q _ z hx⟩
  have hR : ∀ x ∈ OWr, x ∈ OWs ∧ ¬ x ∈ txO := by decide
  have a1 : potB u (ksz u) = potB σ (ksz σ) := sum_eq fun x hx => by
    rw [e1 _ (hO x hx).1 (hO x hx).2]; unfold ksz; rw [e2 x hx]
  have a2 : potR u = potR σ := sum_eq fun x hx => by rw [e1 _ (hR x hx).1 (hR x hx).2]
  have a3 : kmade u = kmade σ := by unfold kmade; rw [e3]
  have c1 := e1 (59, 10) (by decide) (by decide)
  have c2 := e1 (59, 11) (by decide) (by decide)
  have hA : ∀ x ∈ gtxA, x ∈ OWs ∧ ¬ x ∈ txO := by decide +kernel
  have hC : ∀ x ∈ gtxC, x ∈ OWs ∧ ¬ x ∈ txO := by decide +kernel
  have b1 : (gtxA.map (fun p => glg (kl u p))).sum = (gtxA.map (fun p => glg (kl σ p))).sum := sum_eq fun x hx => by rw [e1 x (hA x hx).1 (hA x hx).2]
  have b2 : (gtxC.map (fun p => glg (kl u p))).sum = (gtxC.map (fun p => glg (kl σ p))).sum := sum_eq fun x hx => by rw [e1 x (hC x hx).1 (hC x hx).2]
  have b3 := gcs_tx u
  have b4 := gcs_tx σ
  obtain ⟨h2, h3⟩ := po
  rcases h with ⟨g1, g2, g3, g4⟩ | ⟨L, g1, g2, g3, g4, g5, g6, g7, g8⟩
  · have a5 : potT u = potT σ := by unfold potT; rw [c1, c2, a3, g3, g4]; omega
    exact ⟨by rw [a1, a2, a5, g2]; exact h2, by rw [g3, g4] at b3; rw [a3, g1]; omega⟩
  · have a5 : potT u + L ≤ potT σ := by unfold potT; rw [c1, c2, a3, g3, g4]; omega
    have b5 : glg L + 1 ≤ glg (kl σ (59, 8)) := glg_lt (Or.inl g5) g8 (by omega)
    rw [g3, g4] at b3
    exact ⟨by rw [a1, a2]; omega, by rw [a3]; omega⟩
theorem POT.txroom {σ : kS} {L : Nat} (po : POT σ) (hb : kl σ (59, 7) ≤ L ∧ 2 * kl σ (59, 8) ≤ L ∧ L ≤ 131072 ∧ 64 ≤ L) : 1 ≤ σ.2.2.2.2.2.1 ∧ L ≤ σ.2.2.2.2.2.2 := by
  have a5 : L ≤ potT σ := by unfold potT; omega
  have g1 : 1 ≤ gcs σ := gcs_1 (p := (59, 8)) (by decide) (by omega)
  obtain ⟨h2, h3⟩ := po
  omega
section KPACKT2
variable {Y : Nat → MethodName × ByteArray} {d : Nat} {σ u : kS}
/-- what packTexts leaves -/
def ptP (σ : kS) (il sl : List Nat) (vs : List VR) (M T : Int32) (m : Nat) : kK := fun v u => v = none ∧ RST u il sl vs M T ∧ u.1 59 9 = nI (txS vs) ∧ (∃ rt NT, u.2.2.1 59 7 = some rt ∧ u.2.2.2.1 rt = (21, NT) ∧ m + txS vs ≤ NT) ∧ OWN u ∧ POT u ∧ Ch true txF txO σ u
theorem packT_fin (ty : kTY σ) (ow : OWN σ) (po : POT σ) {il sl : List Nat} {vs : List VR} {M T : Int32} {ri rs rh NK rt NT rn Nn te rc NC rm Nm ce : Nat} {ls : List (Nat × Nat)} (h : RSG σ il sl vs M T ri rs rh NK rt NT rn Nn te rc NC rm Nm ce ls) {gp L m : Nat} {σ1 w : kS} (ty1 : kTY σ1) (f2 : ∀ h, h < σ.2.2.2.2.1 → σ1.2.2.2.1 h = σ.2.2.2.1 h ∧ σ1.1 h = σ.1 h ∧ σ1.2.2.1 h = σ.2.2.1 h ∧ σ1.2.1 h = σ.2.1 h) (f3 : σ1.2.2.2.1 gp = (21, L)) (f4 : ¬ gp = rt ∧ ¬ gp = 59 ∧ ∀ r ∈ vs, ¬ gp = r.1) (hL : m + txS vs ≤ L ∧ L ≤ 131072 ∧ P2 L ∧ txS vs ≤ 98304) (ex1 : kEx σ σ1)
    (hgp : (σ1 = σ ∧ gp = rn) ∨ (gp = σ.2.2.2.2.1 ∧ σ1.2.2.2.2.2.1 + 1 = σ.2.2.2.2.2.1 ∧ σ1.2.2.2.2.2.2 + L = σ.2.2.2.2.2.2 ∧ NT ≤ L ∧ 2 * Nn ≤ L)) (pk : PKI σ1 vs gp vs.length u) (ew : w = (u.1, u.2.1, kFu (kFu u.2.2.1 59 8 (some rt)) 59 7 (some gp), u.2.2.2)) : RST w il sl vs M T ∧ w.1 59 9 = nI (txS vs) ∧ (∃ rt NT, w.2.2.1 59 7 = some rt ∧ w.2.2.2.1 rt = (21, NT) ∧ m + txS vs ≤ NT) ∧ OWN w ∧ POT w ∧ Ch true txF txO σ w := by
  have t76 := ty.2.2.2.1
  have hap := h.ap ty ow
  have hGo := h
  obtain ⟨⟨⟨i1, i2⟩, ⟨i3, i4⟩, ⟨i5, i6⟩, i7, i8⟩, ⟨⟨t1, t2⟩, ⟨t3, t4⟩, t5, t6, t7, t8, t9, t10⟩, ⟨⟨c1, c2⟩, ⟨c3, c4⟩, c5, c6, c7, c8, c9, c10⟩, ⟨⟨b1, b2, b3, b4, b5⟩, ⟨b6, b6b, b6c⟩, b7, b8, b9, b10⟩, a5, a6, a7⟩ := h
  obtain ⟨p1, p2, ⟨p3, p4⟩, p5, p6⟩ := hap
  obtain ⟨k1, k2, k3, k4, k5⟩ := pk
  have lrt := ty.lr t2 (by decide)
  have lrn := ty.lr t4 (by decide)
  have eD : ∀ g, w.2.2.2.1 g = σ1.2.2.2.1 g := fun g => by rw [ew]; exact congrFun (congrArg (fun t => t.2.2.1) k1) g
  have eL : ∀ g, w.2.1 g = σ1.2.1 g := fun g => by rw [ew]; exact congrFun (congrArg (fun t => t.1) k1) g
  have eF : ∀ g y, ¬ (g = 59 ∧ (y = 7 ∨ y = 8)) → w.2.2.1 g y = σ1.2.2.1 g y := fun g y z => by
    rw [ew]; show kFu (kFu u.2.2.1 59 8 _) 59 7 _ g y = _
    rw [kFu_at, if_neg (fun q => z ⟨q.1, Or.inl q.2⟩), kFu_at, if_neg (fun q => z ⟨q.1, Or.inr q.2⟩)]
    exact congrFun (congrFun (congrArg (fun t => t.2.1) k1) g) y
  have eF7 : w.2.2.1 59 7 = some gp := by rw [ew]; show kFu (kFu u.2.2.1 59 8 (some rt)) 59 7 (some gp) 59 7 = _; rw [kFu_at, if_pos ⟨rfl, rfl⟩]
  have eF8 : w.2.2.1 59 8 = some rt := by rw [ew]; show kFu (kFu u.2.2.1 59 8 (some rt)) 59 7 (some gp) 59 8 = _; rw [kFu_at, if_neg (fun q => absurd q.2 (by decide)), kFu_at, if_pos ⟨rfl, rfl⟩]
  have eI : ∀ g x, g < σ.2.2.2.2.1 → ¬ σ.2.2.2.1 g = (11, 0) → ¬ g = gp → ¬ (g = 59 ∧ x = 9) → w.1 g x = σ.1 g x := fun g x z0 z1 z2 z3 => by
    rw [ew]; show u.1 g x = _
    rw [k2 g x (by rw [(f2 g z0).1]; exact z1) z2 z3, (f2 g z0).2.1]
  have d59 : ¬ σ.2.2.2.1 59 = (11, 0) := by rw [ty.kl (h := 59) (c := (4, 0)) (by decide) rfl]; decide
  have e59 : ∀ x, ¬ x = 9 → w.1 59 x = σ.1 59 x := fun x z => eI 59 x (by omega) d59 (fun q => f4.2.1 q.symm) (fun q => z q.2)
  have e9 : w.1 59 9 = nI (txS vs) := by rw [ew]; show u.1 59 9 = _; rw [k5, List.take_length]
  have q59 : ∀ y, ¬ (y = 7 ∨ y = 8) → w.2.2.1 59 y = σ.2.2.1 59 y := fun y z => by rw [eF 59 y (fun q => z q.2), (f2 59 (by omega)).2.2.1]
  have dD : ∀ g, g < σ.2.2.2.2.1 → w.2.2.2.1 g = σ.2.2.2.1 g := fun g z => by rw [eD, (f2 g z).1]
  have ngp : ∀ {g k N : Nat}, σ.2.2.2.1 g = (k, N) → ¬ k = 21 → ¬ k = 99 → ¬ g = gp := fun {g k N} e z1 z2 q => by
    have z := ty.lr e z2
    have e3 := f3
    rw [← q, (f2 g z).1, e] at e3
    exact z1 (congrArg Prod.fst e3)
  have ex : kEx σ w := by
    refine ⟨?_, fun g z => dD g z, ?_, ?_⟩
    · rw [ew]; show _ ≤ u.2.2.2.2.1; rw [k1]; exact ex1.1
    · rw [ew]; show u.2.2.2.2.1 + u.2.2.2.2.2.1 = _; rw [k1]; exact ex1.2.2.1
    · rw [ew]; show u.2.2.2.2.2.2 ≤ _; rw [k1]; exact ex1.2.2.2
  have nrh : ¬ rh = 59 := (p2 rh (by simp)).2
  have hV : ∀ (i : Nat) r l, vs[i]? = some r → (pkLy vs ls)[i]? = some l → VOK w gp rc (txS vs) ce r l := by
    intro i r l hr hl
    obtain ⟨l0, hl0, hv, -⟩ := hGo.v hr
    have lv := ty.lt (h := r.1) (by rw [hv.1.1]; decide)
    have eV : ∀ x, ((¬ x = 7 ∧ ¬ x = 8) ∨ ¬ r.2.1 = 0) → w.1 r.1 x = σ.1 r.1 x := fun x z => by
      rw [ew]; show u.1 r.1 x = _
      rw [k3 i r x hr (z.elim Or.inl (fun y => Or.inr (Or.inr y))), (f2 _ lv).2.1]
    have eVL : w.2.1 r.1 = σ.2.1 r.1 := by rw [eL, (f2 _ lv).2.2.2]
    rcases pkLy_get hr hl with ⟨z1, z2⟩ | ⟨z1, z2⟩
    · rw [z2]
      obtain ⟨⟨v1, v2, v3, v4, v5, v6, v7⟩, ⟨w1, w2, w3⟩, x1, x2, x3⟩ := hv
      obtain ⟨y1, y2, y3, y4, y5⟩ := x2 z1
      obtain ⟨m1, m2, m3⟩ := k4 i r hr (List.getElem?_eq_some_iff.mp hr).1 z1
      refine ⟨⟨by rw [dD _ lv]; exact v1, v2, (eV 1 (Or.inl (by decide))).trans v3, (eV 2 (Or.inl (by decide))).trans v4, by rw [eVL]; exact v5, (eV 4 (Or.inl (by decide))).trans v6, (eV 5 (Or.inl (by decide))).trans v7⟩, ⟨(eV 6 (Or.inl (by decide))).trans w1, ?_, ?_⟩, Nat.le_refl _, fun _ => ⟨y1, y2.imp id (fun z => ⟨z.1, by have := z.2; show r.2.2.1 = 0; omega⟩), by show r.2.2.1 ≤ _; omega, Or.inl (txS_at hr z1), ?_⟩, fun z => absurd z1 z⟩
      · rw [ew]; exact m1
      · rw [ew]; exact m2
      · rw [ew]; exact m3
    · have el : ls.getD i (0, 0) = l0 := by rw [List.getD_eq_getElem?_getD, hl0]; rfl
      rw [z2, el]
      obtain ⟨⟨v1, v2, v3, v4, v5, v6, v7⟩, ⟨w1, w2, w3⟩, x1, x2, x3⟩ := hv
      obtain ⟨y1, y2, y3, y4⟩ := x3 z1
      refine ⟨⟨by rw [dD _ lv]; exact v1, v2, (eV 1 (Or.inr z1)).trans v3, (eV 2 (Or.inr z1)).trans v4, by rw [eVL]; exact v5, (eV 4 (Or.inr z1)).trans v6, (eV 5 (Or.inr z1)).trans v7⟩, ⟨(eV 6 (Or.inr z1)).trans w1, (eV 7 (Or.inr z1)).trans w2, (eV 8 (Or.inr z1)).trans w3⟩, x1, fun z => absurd z z1, fun _ => ⟨y1, y2, by rw [dD rc (ty.lr c2 (by decide))]; exact y3, fun p q hp => ?_⟩⟩
      rw [eL rc, (f2 rc (ty.lr c2 (by decide))).2.2.2]; exact y4 p q hp
  have owW : OWN w := by
    have pw : ∀ p ∈ OWs, ¬ p ∈ txO → w.2.2.1 p.1 p.2 = σ.2.2.1 p.1 p.2 := fun p hp z => by
      rw [eF p.1 p.2 (fun q => z ?_), (f2 p.1 (p76 ty hp)).2.2.1]
      rcases q.2 with y | y
      · have : p = (59, 7) := Prod.ext q.1 y
        rw [this]; decide
      · have : p = (59, 8) := Prod.ext q.1 y
        rw [this]; decide
    -- whom a thing belonged to before
    have key : ∀ p ∈ OWs, (p = (59, 7) ∧ gp = σ.2.2.2.2.1) ∨ ∃ q ∈ OWs, w.2.2.1 p.1 p.2 = σ.2.2.1 q.1 q.2 ∧ (p = (59, 8) ∧ q = (59, 7) ∨ p = (59, 7) ∧ q = (59, 8) ∨ (¬ p ∈ txO ∧ q = p)) := fun p hp => by
      by_cases z : p ∈ txO
      · have z : p = (59, 7) ∨ p = (59, 8) := by simpa using z
        rcases z with z | z
        · rcases hgp with ⟨-, y⟩ | ⟨y, -⟩
          · exact Or.inr ⟨(59, 8), by decide, by rw [z]; show w.2.2.1 59 7 = σ.2.2.1 59 8; rw [eF7, t3, y], Or.inr (Or.inl ⟨z, rfl⟩)⟩
          · exact Or.inl ⟨z, y⟩
        · exact Or.inr ⟨(59, 7), by decide, by rw [z]; show w.2.2.1 59 8 = σ.2.2.1 59 7; rw [eF8, t1], Or.inl ⟨z, rfl⟩⟩
      · exact Or.inr ⟨p, hp, pw p hp z, Or.inr (Or.inr ⟨z, rfl⟩)⟩
    intro p hp q hq e
    have old : ∀ q ∈ OWs, ¬ σ.2.2.1 q.1 q.2 = some σ.2.2.2.2.1 := fun q hq z => by
      obtain ⟨g, h1, -, h3⟩ := ow_some ty hq
      rw [h1] at z; cases z; omega
    rcases key p hp with ⟨z1, z2⟩ | ⟨p', hp', ep, cp⟩
    · rcases key q hq with ⟨y1, y2⟩ | ⟨q', hq', eq, cq⟩
      · rw [z1, y1]
      · rw [z1] at e
        have e : w.2.2.1 59 7 = w.2.2.1 q.1 q.2 := e
        rw [eF7, z2, eq] at e
        exact absurd e.symm (old q' hq')
    · rcases key q hq with ⟨y1, y2⟩ | ⟨q', hq', eq, cq⟩
      · rw [y1] at e
        have e : w.2.2.1 p.1 p.2 = w.2.2.1 59 7 := e
        rw [eF7, y2, ep] at e
        exact absurd e (old p' hp')
      · have e2 : p' = q' := ow p' hp' q' hq' (by rw [← ep, ← eq]; exact e)
        rcases cp with ⟨u1, u2⟩ | ⟨u1, u2⟩ | ⟨u1, u2⟩
        · rcases cq with ⟨v1, v2⟩ | ⟨v1, v2⟩ | ⟨v1, v2⟩
          · rw [u1, v1]
          · rw [u2, v2] at e2; exact absurd e2 (by decide)
          · rw [u2, v2] at e2; rw [← e2] at v1; exact absurd (by decide) v1
        · rcases cq with ⟨v1, v2⟩ | ⟨v1, v2⟩ | ⟨v1, v2⟩
          · rw [u2, v2] at e2; exact absurd e2 (by decide)
          · rw [u1, v1]
          · rw [u2, v2] at e2; rw [← e2] at v1; exact absurd (by decide) v1
        · rcases cq with ⟨v1, v2⟩ | ⟨v1, v2⟩ | ⟨v1, v2⟩
          · rw [u2, v2] at e2; rw [e2] at u1; exact absurd (by decide) u1
          · rw [u2, v2] at e2; rw [e2] at u1; exact absurd (by decide) u1
          · rw [← u2, ← v2]; exact e2
  have kl7 : kl σ (59, 7) = NT := by unfold kl; show (σ.2.2.2.1 ((σ.2.2.1 59 7).getD 0)).2 = NT; rw [t1]; show (σ.2.2.2.1 rt).2 = NT; rw [t2]
  have kl8 : kl σ (59, 8) = Nn := by unfold kl; show (σ.2.2.2.1 ((σ.2.2.1 59 8).getD 0)).2 = Nn; rw [t3]; show (σ.2.2.2.1 rn).2 = Nn; rw [t4]
  have kw7 : kl w (59, 7) = L := by unfold kl; show (w.2.2.2.1 ((w.2.2.1 59 7).getD 0)).2 = L; rw [eF7]; show (w.2.2.2.1 gp).2 = L; rw [eD, f3]
  have kw8 : kl w (59, 8) = NT := by unfold kl; show (w.2.2.2.1 ((w.2.2.1 59 8).getD 0)).2 = NT; rw [eF8]; show (w.2.2.2.1 rt).2 = NT; rw [dD rt lrt, t2]
  refine ⟨⟨ri, rs, rh, NK, gp, L, rt, NT, txS vs, rc, NC, rm, Nm, ce, pkLy vs ls, ⟨⟨by rw [q59 3 (by decide)]; exact i1, by rw [dD ri (ty.lr i2 (by decide))]; exact i2⟩, ⟨by rw [q59 4 (by decide)]; exact i3, by rw [dD rs (ty.lr i4 (by decide))]; exact i4⟩, ⟨by rw [q59 5 (by decide)]; exact i5, by rw [dD rh (ty.lr i6 (by decide))]; exact i6⟩, i7, i8⟩, ⟨⟨eF7, by rw [eD]; exact f3⟩, ⟨eF8, by rw [dD rt lrt]; exact t2⟩, hL.2.2.1, Or.inr t5, hL.2.1, t7, e9, by omega⟩, ⟨⟨by rw [q59 10 (by decide)]; exact c1, by rw [dD rc (ty.lr c2 (by decide))]; exact c2⟩, ⟨by rw [q59 11 (by decide)]; exact c3, by rw [dD rm (ty.lr c4 (by decide))]; exact c4⟩, c5, c6, c7, c8, (e59 12 (by decide)).trans c9, c10⟩, ⟨⟨(e59 13 (by decide)).trans b1, (e59 6 (by decide)).trans b2, b3, b4, b5⟩, ⟨b6, b6b, b6c⟩, fun i k hk => ?_, fun i k hk => ?_, fun i r hr => ?_, b10⟩, ⟨?_, hV, fun i j r l r' l' hij q1 q2 q3 q4 => ?_⟩, (e59 14 (by decide)).trans a6, (e59 15 (by decide)).trans a7⟩, e9, ⟨gp, L, eF7, by rw [eD]; exact f3, hL.1⟩, owW, po.tx (fun p hp z => kl_eq ty ex hp ?_) (fun b q => ?_) (e59 6 (by decide)) ⟨by rw [kl7]; exact t7, by rw [kl8]; exact t8⟩ ?_, ex, fun g y g1 g2 g3 => ?_, fun g g1 g2 g3 => ?_, fun p hp g hg => ?_⟩
  · rw [eI ri i (ty.lr i2 (by decide)) (p2 ri (by simp)).1.2 (ngp i2 (by decide) (by decide)) (fun z => (p2 ri (by simp)).2 z.1)]; exact b7 i k hk
  · rw [eI rs i (ty.lr i4 (by decide)) (p2 rs (by simp)).1.2 (ngp i4 (by decide) (by decide)) (fun z => (p2 rs (by simp)).2 z.1)]; exact b8 i k hk
  · rw [eF rh i (fun z => nrh z.1), (f2 rh (ty.lr i6 (by decide))).2.2.1]; exact b9 i r hr
  · unfold pkLy; rw [List.length_map, List.length_range]
  · rcases pkLy_get q1 q2 with ⟨z1, z2⟩ | ⟨z1, z2⟩
    · rcases pkLy_get q3 q4 with ⟨y1, y2⟩ | ⟨y1, y2⟩
      · intro _
        rw [z2, y2]; unfold spc; rw [if_pos z1, if_pos y1]
        show txS (vs.take i) + r.2.2.1 ≤ txS (vs.take j) ∨ txS (vs.take j) + r'.2.2.1 ≤ txS (vs.take i) ∨ r.2.2.1 = 0 ∨ r'.2.2.1 = 0
        have u1 := txS_take q1
        have u2 := txS_take q3
        rw [if_pos z1] at u1; rw [if_pos y1] at u2
        rcases Nat.lt_or_gt_of_ne hij with z | z
        · have := txS_mono vs (show i + 1 ≤ j from z); exact Or.inl (by omega)
        · have := txS_mono vs (show j + 1 ≤ i from z); exact Or.inr (Or.inl (by omega))
      · intro z; exact absurd (z.mp z1) y1
    · rcases pkLy_get q3 q4 with ⟨y1, y2⟩ | ⟨y1, y2⟩
      · intro z; exact absurd (z.mpr y1) z1
      · obtain ⟨l0, hl0, -⟩ := hGo.v q1
        obtain ⟨l1, hl1, -⟩ := hGo.v q3
        have el : ls.getD i (0, 0) = l0 := by rw [List.getD_eq_getElem?_getD, hl0]; rfl
        have el1 : ls.getD j (0, 0) = l1 := by rw [List.getD_eq_getElem?_getD, hl1]; rfl
        rw [z2, y2, el, el1]
        exact a5.2.2 i j r l0 r' l1 hij q1 hl0 q3 hl1
  · refine (eF p.1 p.2 (fun q => z ?_)).trans (by rw [(f2 p.1 (p76 ty hp)).2.2.1])
    rcases q.2 with y | y
    · rw [show p = (59, 7) from Prod.ext q.1 y]; decide
    · rw [show p = (59, 8) from Prod.ext q.1 y]; decide
  · have hb : ∀ b ∈ OWb, b < 76 ∧ ¬ b = 59 := by decide
    have kb := ty.2.2.1 b (hb b q).1
    have kb0 := ob_k ty q
    refine eI b 2 (by have := (hb b q).1; omega) (fun z => by rw [z] at kb0; exact absurd kb0 (by decide)) (fun z => ?_) (fun z => (hb b q).2 z.1)
    have e3 := f3
    rw [← z, (f2 b (by have := (hb b q).1; omega)).1] at e3
    rw [e3] at kb0; exact absurd kb0 (show ¬ (21 : Nat) = 0 by decide)
  · rw [kw7, kw8, kl7, kl8]
    rcases hgp with ⟨z1, z2⟩ | ⟨z1, z2, z3, z4, z5⟩
    · left
      refine ⟨?_, ?_, ?_, rfl⟩
      · rw [ew]; show u.2.2.2.2.2.1 = _; rw [k1, z1]
      · rw [ew]; show u.2.2.2.2.2.2 = _; rw [k1, z1]
      · rw [z1, z2, t4] at f3; exact (congrArg Prod.snd f3).symm
    · right
      refine ⟨L, ?_, ?_, rfl, rfl, z5, z4, hL.2.1, hL.2.2.1.le⟩
      · rw [ew]; show u.2.2.2.2.2.1 + 1 = _; rw [k1]; exact z2
      · rw [ew]; show u.2.2.2.2.2.2 + L = _; rw [k1]; exact z3
  · have hl := ty.lt (h := g) (by omega)
    refine ⟨eI g y hl (fun z => g2 rfl (by rw [z])) (fun z => ?_) (fun z => g3 (by rw [z.1, z.2]; decide)), by rw [eL, (f2 g hl).2.2.2], ?_⟩
    · have e3 := f3
      rw [← z, (f2 g hl).1] at e3
      rw [e3] at g1; exact absurd g1 (show ¬ (21 : Nat) < 20 by decide)
    · rw [eF g y (fun z => g3 ?_), (f2 g hl).2.2.1]
      rcases z.2 with q | q
      · rw [z.1, q]; decide
      · rw [z.1, q]; decide
  · have hl := ty.lt (h := g) (by omega)
    have n59 : ¬ g = 59 := fun z => by rw [z, ty.k (h := 59) (by decide) rfl] at g1; exact absurd g1 (by decide)
    refine ⟨funext fun y => eI g y hl (fun z => by rw [z] at g1; exact absurd g1 (by decide)) (fun z => ?_) (fun z => n59 z.1), by rw [eL, (f2 g hl).2.2.2], funext fun y => by rw [eF g y (fun z => n59 z.1), (f2 g hl).2.2.1]⟩
    rcases hgp with ⟨-, q⟩ | ⟨q, -⟩
    · exact g3 (59, 8) (by decide) (by rw [z, q]; exact t3)
    · omega
  · by_cases z : p ∈ txO
    · have z : p = (59, 7) ∨ p = (59, 8) := by simpa using z
      rcases z with z | z
      · rw [z] at hg
        have hg : w.2.2.1 59 7 = some g := hg
        rw [eF7] at hg; cases hg
        rcases hgp with ⟨-, q⟩ | ⟨q, -⟩
        · exact Or.inr (Or.inr ⟨(59, 8), by decide, by rw [q]; exact t3⟩)
        · exact Or.inr (Or.inl (by omega))
      · rw [z] at hg
        have hg : w.2.2.1 59 8 = some g := hg
        rw [eF8] at hg; cases hg
        exact Or.inr (Or.inr ⟨(59, 7), by decide, t1⟩)
    · left
      rw [eF p.1 p.2 (fun q => z ?_), (f2 p.1 (p76 ty hp)).2.2.1]
      rcases q.2 with y | y
      · rw [show p = (59, 7) from Prod.ext q.1 y]; decide
      · rw [show p = (59, 8) from Prod.ext q.1 y]; decide
end KPACKT2
