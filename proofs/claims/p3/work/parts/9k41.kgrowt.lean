/-! Keys: packTexts; a text gets room. -/
theorem set_self {α : Type} {l : List α} {s : Nat} {a : α} (h : l[s]? = some a) : l.set s a = l := by
  refine List.ext_getElem? fun i => ?_
  rw [List.getElem?_set]
  by_cases c : s = i
  · rw [if_pos c, if_pos (List.getElem?_eq_some_iff.mp h).1, ← c, h]
  · rw [if_neg c]
section KGROWT
variable {Y : Nat → MethodName × ByteArray} {d : Nat} {σ u : kS}
theorem k_packTexts (ty : kTY σ) (ow : OWN σ) (po : POT σ) {il sl : List Nat} {vs : List VR} {M T : Int32} (h : RST σ il sl vs M T) {m : Nat} (hm : m + txS vs ≤ 98304) (x1 : Int32) (e1 : x1 = nI m) :
    kjY kPP (kQQ Y) (d + 1) 142 0 (mjL0 7 [.ref 59, .int x1]) [] σ (ptP σ il sl vs M T m) := by
  have ho := h
  obtain ⟨ri, rs, rh, NK, rt, NT, rn, Nn, te, rc, NC, rm, Nm, ce, ls, hG⟩ := h
  obtain ⟨p1, p2, ⟨p3, p4⟩, p5, p6⟩ := hG.ap ty ow
  have hGo := hG
  obtain ⟨⟨⟨i1, i2⟩, ⟨i3, i4⟩, ⟨i5, i6⟩, i7, i8⟩, ⟨⟨t1, t2⟩, ⟨t3, t4⟩, t5, t6, t7, t8, t9, t10⟩, a3, ⟨⟨b1, b2, b3, b4, b5⟩, ⟨b6, b6b, b6c⟩, b7, b8, b9, b10⟩, a5, a6, a7⟩ := hG
  have t76 := ty.2.2.2.1
  have lrt := ty.lr t2 (by decide)
  have lrn := ty.lr t4 (by decide)
  have kl7 : kl σ (59, 7) = NT := by unfold kl; show (σ.2.2.2.1 ((σ.2.2.1 59 7).getD 0)).2 = NT; rw [t1]; show (σ.2.2.2.1 rt).2 = NT; rw [t2]
  have kl8 : kl σ (59, 8) = Nn := by unfold kl; show (σ.2.2.2.1 ((σ.2.2.1 59 8).getD 0)).2 = Nn; rw [t3]; show (σ.2.2.2.1 rn).2 = Nn; rw [t4]
  have lv : ∀ r ∈ vs, r.1 < σ.2.2.2.2.1 ∧ σ.2.2.2.1 r.1 = (11, 0) := fun r hr => by
    obtain ⟨i, hi⟩ := List.getElem?_of_mem hr
    obtain ⟨l, hl, hV, -⟩ := hGo.v hi
    exact ⟨ty.lt (by rw [hV.1.1]; decide), hV.1.1⟩
  -- from the copying on
  have third : ∀ (σ1 : kS) (gp L' L : Nat) (x2 x3 : Int32), kTY σ1 → (∀ h, h < σ.2.2.2.2.1 → σ1.2.2.2.1 h = σ.2.2.2.1 h ∧ σ1.1 h = σ.1 h ∧ σ1.2.2.1 h = σ.2.2.1 h ∧ σ1.2.1 h = σ.2.1 h) → σ1.2.2.2.1 gp = (21, L') → (¬ gp = rt ∧ ¬ gp = 59 ∧ ∀ r ∈ vs, ¬ gp = r.1) → (m + txS vs ≤ L' ∧ L' ≤ 131072 ∧ P2 L' ∧ txS vs ≤ 98304) → kEx σ σ1 → ((σ1 = σ ∧ gp = rn) ∨ (gp = σ.2.2.2.2.1 ∧ σ1.2.2.2.2.2.1 + 1 = σ.2.2.2.2.2.1 ∧ σ1.2.2.2.2.2.2 + L' = σ.2.2.2.2.2.2 ∧ NT ≤ L' ∧ 2 * Nn ≤ L')) →
      kjY kPP (kQQ Y) (d + 1) 142 60 [some (.ref 59), some (.int x1), some (.int x2), some (.int x3), some (.ref gp), none, none] [] σ1 (ptP σ il sl vs M T m) := by
    intro σ1 gp L' L x2 x3 ty1 f2 f3 f4 hL ex1 hgp
    have k59 : ¬ σ1.2.2.2.1 59 = (11, 0) := by rw [ty1.kl (h := 59) (c := (4, 0)) (by decide) rfl]; decide
    refine kjZ_y rfl rfl 5 _ _ _ _ ty1 ?_
    refine (And.intro (ty1.k (by decide) rfl) (And.intro (Or.inl rfl) (fun ty1' => (And.intro (Nat.le_of_ble_eq_true rfl) ?_))))
    have go : ∀ w, kTY w → w = (mjIu σ1.1 59 9 (Int32.ofInt 0), σ1.2) → kjY kPP (kQQ Y) (d + 1) 142 65 [some (.ref 59), some (.int x1), some (.int x2), some (.int x3), some (.ref gp), some (.int (Int32.ofInt 0)), none] [] w (ptP σ il sl vs M T m) := by
      intro w tw ew
      refine k_packT3 _ ty ow hGo ty1 x1 x2 x3 ⟨by rw [(f2 59 (by omega)).2.2.1]; exact i5, by rw [(f2 59 (by omega)).2.2.1]; exact t1⟩ (fun h hh => ⟨(f2 h hh).1, (f2 h hh).2.1, (f2 h hh).2.2.1⟩) f3 f4 ⟨by omega, hL.2.1⟩ (fun y o5 o6 tyy pk => ?_) vs.length 0 _ none w (by omega) rfl tw ⟨by rw [ew], fun h x _ _ z => by rw [ew]; show mjIu σ1.1 59 9 _ h x = _; rw [mjIu_at, if_neg z], fun s r x hs _ => ?_, fun s r _ hs => absurd hs (Nat.not_lt_zero s), ?_⟩
      · have j7 : y.2.2.1 59 7 = some rt := by
          have e : y.2.2.1 = σ1.2.2.1 := congrArg (fun t => t.2.1) pk.1
          rw [e, (f2 59 (by omega)).2.2.1]; exact t1
        have kgp : (y.2.2.2.1 gp).1 = 21 := by
          have e : y.2.2.2.1 = σ1.2.2.2.1 := congrArg (fun t => t.2.2.1) pk.1
          rw [e, f3]
        have krt : (y.2.2.2.1 rt).1 = 21 := by
          have e : y.2.2.2.1 = σ1.2.2.2.1 := congrArg (fun t => t.2.2.1) pk.1
          rw [e, (f2 rt lrt).1, t2]
        refine kjZ_y rfl rfl 7 _ _ _ _ tyy ?_
        refine (And.intro (tyy.k (by decide) rfl) (Exists.intro _ (And.intro j7 (And.intro (tyy.k (by decide) rfl) (And.intro (Or.inl ⟨rfl, by assumption⟩) (fun tyy' => (And.intro (tyy'.k (by decide) rfl) (And.intro (Or.inl ⟨rfl, by assumption⟩) (fun tyy'' => ?_)))))))))
        have fin : ∀ z, kTY z → z = (y.1, y.2.1, kFu (kFu y.2.2.1 59 8 (some rt)) 59 7 (some gp), y.2.2.2) → kjY kPP (kQQ Y) (d + 1) 142 111 [some (.ref 59), some (.int x1), some (.int x2), some (.int x3), some (.ref gp), o5, o6] [] z (ptP σ il sl vs M T m) := by
          intro z tz ez
          refine kjZ_y rfl rfl 1 _ _ _ _ tz ?_
          refine And.intro rfl (And.intro rfl ?_)
          exact ⟨rfl, packT_fin ty ow po hGo ty1 f2 f3 f4 hL ex1 hgp pk ez⟩
        exact fin _ tyy'' rfl
      · rw [ew]; show mjIu σ1.1 59 9 _ r.1 x = _
        rw [mjIu_at, if_neg (fun z => k11 ty (lv r (List.mem_of_getElem? hs)).2 (show 59 < 76 by decide) z.1.symm)]
      · rw [ew]; show mjIu σ1.1 59 9 (Int32.ofInt 0) 59 9 = _; rw [mjIu_at, if_pos ⟨rfl, rfl⟩]; rfl
    exact go _ ty1' rfl
  refine kjZ_y rfl rfl 4 _ _ _ _ ty ?_
  refine (And.intro (Nat.le_of_ble_eq_true rfl) (And.intro (Nat.le_of_ble_eq_true rfl) ?_))
  refine k_packT1 _ ty ho hm x1 (fun x2 x3 e2 => ?_) vs.length 0 _ _ (by omega) rfl (by rw [e1]; rfl)
  refine kjZ_y rfl rfl 4 _ _ _ _ ty ?_
  refine (And.intro (ty.k (by decide) rfl) (Exists.intro _ (And.intro t1 (Or.inl (And.intro (kdq t2) (And.intro (Nat.le_of_ble_eq_true rfl) ?_))))))
  refine k_packT2 (L0 := NT) _ ty hm x1 x2 e2 (fun L x3 hp hL hL0 hq e3 => ?_) 262145 NT _ (by omega) t5 t7 (Nat.le_refl _) (by rw [t2])
  have hpq := hp.q
  refine kjZ_y rfl rfl 3 _ _ _ _ ty ?_
  refine And.intro (fun c => ?_) (fun c => ?_)
  rotate_left
  · exact absurd (show x2 ≤ x3 by rw [e2, e3, nle (by omega) (by omega)]; omega) c
  refine kjZ_y rfl rfl 5 _ _ _ _ ty ?_
  refine (And.intro (ty.k (by decide) rfl) (Exists.intro _ (And.intro t3 (Or.inl (And.intro (kdq t4) (And.intro (fun c2 => ?_) (fun c2 => ?_)))))))
  · have c2 : x3 ≤ nI (σ.2.2.2.1 rn).2 := c2
    rw [t4, e3, nle (by omega) (by omega)] at c2
    have hNn : P2 Nn := t6.resolve_left (by have := hp.le; omega)
    refine kjZ_y rfl rfl 3 _ _ _ _ ty ?_
    refine (And.intro (ty.k (by decide) rfl) (Exists.intro _ (And.intro t3 (And.intro (Nat.le_of_ble_eq_true rfl) ?_))))
    exact third σ rn Nn L x2 x3 ty (fun h _ => ⟨rfl, rfl, rfl, rfl⟩) t4 ⟨fun z => p3 z.symm, (p2 rn (by simp)).2, fun r hr z => (p2 rn (by simp)).1.2 (by rw [z]; exact (lv r hr).2)⟩ ⟨by omega, t8, hNn, by omega⟩ kEx.rf (Or.inl ⟨rfl, rfl⟩)
  · have c2 : ¬ x3 ≤ nI (σ.2.2.2.1 rn).2 := c2
    rw [t4, e3, nle (by omega) (by omega)] at c2
    have h2n : 2 * Nn ≤ L := by
      rcases t6 with z | z
      · omega
      · exact P2.lt z hp (by omega)
    have hroom := po.txroom (L := L) ⟨by rw [kl7]; exact hL0, by rw [kl8]; exact h2n, hL, hp.le⟩
    refine kjZ_y rfl rfl 4 _ _ _ _ ty ?_
    refine (Exists.intro L (And.intro e3 (And.intro ⟨(by omega), Or.inr (Or.inl rfl)⟩ (And.intro ⟨hroom.1, hroom.2⟩ (fun ty' => (And.intro (Nat.le_of_ble_eq_true rfl) ?_))))))
    refine third (kNew σ 21 L) σ.2.2.2.2.1 L L x2 x3 ty' (fun h hh => ⟨kUp_n (by omega), kUp_n (by omega), kUp_n (by omega), kUp_n (by omega)⟩) kUp_s ⟨by omega, by omega, fun r hr z => by have := (lv r hr).1; omega⟩ ⟨by omega, hL, hp, by omega⟩ (kNew_ex hroom.1) (Or.inr ⟨rfl, ?_, ?_, hL0, h2n⟩)
    · show σ.2.2.2.2.2.1 - 1 + 1 = _; have := hroom.1; omega
    · show σ.2.2.2.2.2.2 - L + L = _; have := hroom.2; omega
/-- what growText leaves: the same values, and room -/
def gtP (σ : kS) (il sl : List Nat) (vs : List VR) (M T : Int32) (v need : Nat) : kK := fun q u => q = none ∧ RST u il sl vs M T ∧ (∃ ρ, u.1 v 8 = nI ρ ∧ need ≤ ρ ∧ ρ ≤ 16384) ∧ OWN u ∧ POT u ∧ Ch true txF txO σ u
/-- a text moves to the end -/
theorem k_moveT {σ0 : kS} (ty0 : kTY σ0) (ty : kTY σ) (ow : OWN σ) (po : POT σ) {il sl : List Nat} {vs : List VR} {M T : Int32} (h : RST σ il sl vs M T) {s v n : Nat} {w c : Int32} {e : Int64} {t : List Int32} {cs : List (List Int64)} (hs : vs[s]? = some (v, 0, n, w, c, e, t, cs)) (hcs : cs = []) {need ρ : Nat} (hn : need ≤ ρ) (hρ : ρ ≤ 16384) (hnn : n ≤ ρ) (hfit : ∀ rt NT te, σ.2.2.1 59 7 = some rt → σ.2.2.2.1 rt = (21, NT) → σ.1 59 9 = nI te → te ≤ NT → te + ρ ≤ NT) (ch : Ch true txF txO σ0 σ) (x2 x3 : Int32) (e3 : x3 = nI ρ) :
    kjY kPP (kQQ Y) (d + 1) 141 25 [some (.ref 59), some (.ref v), some (.int x2), some (.int x3)] [] σ (gtP σ0 il sl vs M T v need) := by
  obtain ⟨ri, rs, rh, NK, rt, NT, rn, Nn, te, rc, NC, rm, Nm, ce, ls, hG⟩ := h
  obtain ⟨p1, p2, ⟨p3, p4⟩, p5, p6⟩ := hG.ap ty ow
  have hGo := hG
  obtain ⟨l, hl, hV, g1, g2, g3, g4, g5, g6, g7⟩ := hG.v hs
  obtain ⟨⟨⟨i1, i2⟩, ⟨i3, i4⟩, ⟨i5, i6⟩, i7, i8⟩, ⟨⟨t1, t2⟩, ⟨t3, t4⟩, t5, t6, t7, t8, t9, t10⟩, ⟨⟨c1, c2⟩, ⟨c3, c4⟩, c5, c6, c7, c8, c9, c10⟩, hIX, a5, a6, a7⟩ := hG
  obtain ⟨⟨v1, v2, v3, v4, v5, v6, v7⟩, ⟨w1, w2, w3⟩, x1, xT, -⟩ := hV
  obtain ⟨y1, y2, y3, y4, y5⟩ := xT rfl
  have v1 : σ.2.2.2.1 v = (11, 0) := v1
  have w1 : σ.1 v 6 = nI n := w1
  have w2 : σ.1 v 7 = nI l.1 := w2
  have x1 : n ≤ l.2 := x1
  have y5 : wd (σ.1 rt) l.1 n = t := y5
  have y4 : l.1 + l.2 ≤ te ∨ (l.2 = 0 ∧ l.1 ≤ NT) := by rw [t2] at y4; exact y4
  have kv : (σ.2.2.2.1 v).1 = 11 := by rw [v1]
  have hft := hfit rt NT te t1 t2 t9 t10
  have n59 : ¬ 59 = v := k11 ty v1 (by decide)
  have nrt : ¬ rt = 59 := (p2 rt (by simp)).2
  have nrv : ¬ rt = v := fun z => (p2 rt (by simp)).1.2 (by rw [z]; exact v1)
  refine kjZ_y rfl rfl 8 _ _ _ _ ty ?_
  refine (And.intro (ty.k (by decide) rfl) (Exists.intro _ (And.intro t1 (Or.inl (And.intro (kdq t2) (And.intro (ty.k (by decide) rfl) (And.intro (fun o => ?_) (fun o => ?_))))))))
  · refine absurd (show nI (σ.2.2.2.1 rt).2 - σ.1 59 9 < x3 from o) ?_
    rw [t2, t9, e3, pk_sub (by omega), nlt (by omega) (by omega)]; omega
  refine kjZ_y rfl rfl 11 _ _ _ _ ty ?_
  refine (And.intro (ty.k (by decide) rfl) (Exists.intro _ (And.intro t1 (And.intro (by assumption) (And.intro (ty.k (by decide) rfl) (Exists.intro _ (And.intro t1 (And.intro (ty.k (by decide) rfl) (And.intro (by assumption) (Exists.intro l.1 (Exists.intro te (Exists.intro n (And.intro ⟨w2, t9, w1⟩ (And.intro ⟨rfl, by rw [t2]; show _ ≤ NT; omega, by rw [t2]; show _ ≤ NT; omega⟩ (And.intro ⟨(Nat.le_of_ble_eq_true rfl), (Nat.le_of_ble_eq_true rfl)⟩ (Or.inl (And.intro (Or.inr (kdk t2)) (fun ty' => ?_))))))))))))))))))
  have go1 : ∀ u1, kTY u1 → u1 = (kUp σ.1 rt (va_cpy (σ.1 rt) (σ.1 rt) l.1 te n), σ.2) → kjY kPP (kQQ Y) (d + 1) 141 44 [some (.ref 59), some (.ref v), some (.int x2), some (.int x3)] [] u1 (gtP σ0 il sl vs M T v need) := by
    intro u1 ty1 eu1
    have kv1 : (u1.2.2.2.1 v).1 = 11 := by rw [eu1]; exact kv
    have f9 : u1.1 59 9 = nI te := by rw [eu1]; show kUp σ.1 rt _ 59 9 = _; rw [kUp_n (fun z => nrt z.symm)]; exact t9
    refine kjZ_y rfl rfl 13 _ _ _ _ ty1 ?_
    refine (And.intro (ty1.k (by decide) rfl) (And.intro (by assumption) (And.intro (Or.inl rfl) (fun ty1' => (And.intro (by assumption) (And.intro (Or.inl rfl) (fun ty1'' => (And.intro (ty1''.k (by decide) rfl) (And.intro (ty1''.k (by decide) rfl) (And.intro (Or.inl rfl) (fun ty1''' => ?_)))))))))))
    have go2 : ∀ w, kTY w → w = (mjIu (mjIu (mjIu u1.1 v 7 (u1.1 59 9)) v 8 x3) 59 9 (mjIu (mjIu u1.1 v 7 (u1.1 59 9)) v 8 x3 59 9 + x3), u1.2) → kjY kPP (kQQ Y) (d + 1) 141 57 [some (.ref 59), some (.ref v), some (.int x2), some (.int x3)] [] w (gtP σ0 il sl vs M T v need) := by
      intro w tw ew
      have e99 : mjIu (mjIu u1.1 v 7 (u1.1 59 9)) v 8 x3 59 9 + x3 = nI (te + ρ) := by
        rw [mjIu_at, if_neg (fun z => n59 z.1), mjIu_at, if_neg (fun z => n59 z.1), f9, e3, nI_add]
      rw [e99, f9, e3] at ew
      have eW : ∀ h x, w.1 h x = if h = 59 ∧ x = 9 then nI (te + ρ) else if h = v ∧ x = 8 then nI ρ else if h = v ∧ x = 7 then nI te else if h = rt then va_cpy (σ.1 rt) (σ.1 rt) l.1 te n x else σ.1 h x := by
        intro h x
        rw [ew]; show mjIu (mjIu (mjIu u1.1 v 7 _) v 8 _) 59 9 _ h x = _
        rw [mjIu_at, mjIu_at, mjIu_at, eu1]
        by_cases z : h = rt
        · rw [if_pos z, z]; show (if _ then _ else if _ then _ else if _ then _ else kUp σ.1 rt _ rt x) = _; rw [kUp_s]
        · rw [if_neg z]; show (if _ then _ else if _ then _ else if _ then _ else kUp σ.1 rt _ h x) = _; rw [kUp_n z]
      have e2 : w.2 = σ.2 := by rw [ew, eu1]
      have eF : w.2.2.1 = σ.2.2.1 := congrArg (fun t => t.2.1) e2
      have eD : w.2.2.2.1 = σ.2.2.2.1 := congrArg (fun t => t.2.2.1) e2
      have eL : w.2.1 = σ.2.1 := congrArg (fun t => t.1) e2
      have ex : kEx σ w := ⟨by rw [e2]; exact Nat.le_refl _, fun h _ => by rw [eD], by rw [e2], by rw [e2]; exact Nat.le_refl _⟩
      have eo : ∀ h x, ¬ h = v → ¬ h = rt → ¬ (h = 59 ∧ x = 9) → w.1 h x = σ.1 h x := fun h x z1 z2 z3 => by rw [eW, if_neg z3, if_neg (fun q => z1 q.1), if_neg (fun q => z1 q.1), if_neg z2]
      have o59 : ∀ x, ¬ x = 9 → w.1 59 x = σ.1 59 x := fun x z => eo 59 x n59 (fun q => nrt q.symm) (fun q => z q.2)
      have ertj : ∀ j, ¬ (te ≤ j ∧ j < te + n) → w.1 rt j = σ.1 rt j := fun j z => by rw [eW, if_neg (fun q => nrt q.1), if_neg (fun q => nrv q.1), if_neg (fun q => nrv q.1), if_pos rfl, pk_cpy_out (by omega)]
      have w7 : w.1 v 7 = nI te := by rw [eW, if_neg (fun q => n59 q.1.symm), if_neg (fun q => absurd q.2 (by decide)), if_pos ⟨rfl, rfl⟩]
      have w8 : w.1 v 8 = nI ρ := by rw [eW, if_neg (fun q => n59 q.1.symm), if_pos ⟨rfl, rfl⟩]
      have wo : ∀ x, ¬ x = 7 → ¬ x = 8 → w.1 v x = σ.1 v x := fun x z7 z8 => by rw [eW, if_neg (fun q => n59 q.1.symm), if_neg (fun q => z8 q.2), if_neg (fun q => z7 q.2), if_neg (fun q => nrv q.symm)]
      refine kjZ_y rfl rfl 1 _ _ _ _ tw ?_
      refine And.intro rfl (And.intro rfl ?_)
      have hdis : ∀ {i : Nat} {r : VR} {k : Nat × Nat}, vs[i]? = some r → ls[i]? = some k → r.2.1 = 0 → k.1 + k.2 ≤ te ∨ k.2 = 0 := fun {i r k} hq hk2 hr0 => ((a5.2.1 i r k hq hk2).2.2.2.1 hr0).2.2.2.1.imp id (fun z => z.1)
      refine ⟨rfl, ⟨ri, rs, rh, NK, rt, NT, rn, Nn, te + ρ, rc, NC, rm, Nm, ce, ls.set s (te, ρ), ⟨⟨by rw [eF]; exact i1, by rw [eD]; exact i2⟩, ⟨by rw [eF]; exact i3, by rw [eD]; exact i4⟩, ⟨by rw [eF]; exact i5, by rw [eD]; exact i6⟩, i7, i8⟩, ⟨⟨by rw [eF]; exact t1, by rw [eD]; exact t2⟩, ⟨by rw [eF]; exact t3, by rw [eD]; exact t4⟩, t5, t6, t7, t8, (eW 59 9).trans (if_pos ⟨rfl, rfl⟩), hft⟩, ⟨⟨by rw [eF]; exact c1, by rw [eD]; exact c2⟩, ⟨by rw [eF]; exact c3, by rw [eD]; exact c4⟩, c5, c6, c7, c8, (o59 12 (by decide)).trans c9, c10⟩, ?_, ?_, (o59 14 (by decide)).trans a6, (o59 15 (by decide)).trans a7⟩, ⟨ρ, w8, hn, hρ⟩, ow.same (fun p _ => by rw [eF]), po.same (fun p hp => kl_eq ty ex hp (by rw [eF])) (fun b q => ?_) (o59 6 (by decide)) ⟨by rw [e2], by rw [e2]⟩, Ch.tr ty0 (by decide) ch ⟨ex, fun h x h1 h2 h3 => ⟨?_, by rw [eL], by rw [eF]⟩, fun g h1 h2 h3 => ⟨funext fun x => ?_, by rw [eL], by rw [eF]⟩, fun p _ _ _ => Or.inl (by rw [eF])⟩⟩
      · have e := hIX.upd (u := w) (r' := (v, 0, n, _, _, _, t, cs)) hs rfl (o59 13 (by decide)) (o59 6 (by decide)) (funext fun x => eo ri x (fun z => (p2 ri (by simp)).1.2 (by rw [z]; exact v1)) (fun z => p5 z) (fun z => (p2 ri (by simp)).2 z.1)) (funext fun x => eo rs x (fun z => (p2 rs (by simp)).1.2 (by rw [z]; exact v1)) (fun z => p6 z) (fun z => (p2 rs (by simp)).2 z.1)) (by rw [eF])
        rw [set_self hs] at e; exact e
      · have e := a5.upd (u := w) (te' := te + ρ) (ce' := ce) (r' := (v, 0, n, _, _, _, t, cs)) (l' := (te, ρ)) hIX.2.2.2.2.2 hs hl (by omega) (Nat.le_refl _) ⟨by rw [eD]; exact Nat.le_refl _, by rw [eD]; exact Nat.le_refl _⟩ (fun v' hv' => by rw [eD]; exact hv') (fun v' x hv' z => ⟨eo v' x z (fun y => (p2 rt (by simp)).1.2 (by rw [← y]; exact hv')) (fun y => k11 ty hv' (show 59 < 76 by decide) y.1.symm), by rw [eL]⟩) (fun j hj _ => ertj j (by omega)) (fun j _ _ => by rw [eL]) ⟨⟨by rw [eD]; exact v1, v2, (wo 1 (by decide) (by decide)).trans v3, (wo 2 (by decide) (by decide)).trans v4, by rw [eL]; exact v5, (wo 4 (by decide) (by decide)).trans v6, (wo 5 (by decide) (by decide)).trans v7⟩, ⟨(wo 6 (by decide) (by decide)).trans w1, w7, w8⟩, hnn, fun _ => ⟨y1, Or.inl hcs, hρ, Or.inl (Nat.le_refl _), ?_⟩, fun z => absurd rfl z⟩ (fun i q k hi hq hk2 => ?_)
        · rw [set_self hs] at e; exact e
        · refine Eq.trans (wd_congr fun k hk => ?_) y5
          have hk : k < n := hk
          rw [eW, if_neg (fun q => nrt q.1), if_neg (fun q => nrv q.1), if_neg (fun q => nrv q.1), if_pos rfl]
          show va_cpy _ _ _ _ _ (te + k) = _
          rw [pk_cpy_in (by omega) (by omega)]; exact congrArg (σ.1 rt) (by omega)
        · intro z
          have z0 : q.2.1 = 0 := z.mp rfl
          right
          unfold spc; rw [if_pos z0]
          rcases hdis hq hk2 z0 with y | y
          · exact Or.inl y
          · exact Or.inr (Or.inr y)
      · have hb : ∀ b ∈ OWb, b < 76 ∧ ¬ b = 59 := by decide
        refine eo b 2 (k11 ty v1 (hb b q).1) (fun z => ?_) (fun z => (hb b q).2 z.1)
        have kb := ob_k ty q
        rw [z, t2] at kb; exact absurd kb (show ¬ (21 : Nat) = 0 by decide)
      · refine eo h x (fun z => h2 rfl (by rw [z, v1])) (fun z => ?_) (fun z => h3 (by rw [z.1, z.2]; decide))
        rw [z, t2] at h1; exact absurd h1 (show ¬ (21 : Nat) < 20 by decide)
      · refine eo g x (fun z => ?_) (fun z => h3 (59, 7) (by decide) (by rw [z]; exact t1)) (fun z => ?_)
        · rw [z, v1] at h1; exact absurd h1 (by decide)
        · rw [z.1, ty.k (h := 59) (by decide) rfl] at h1; exact absurd h1 (by decide)
    exact go2 _ ty1''' rfl
  exact go1 _ ty' rfl
theorem k_growText (ty : kTY σ) (ow : OWN σ) (po : POT σ) {il sl : List Nat} {vs : List VR} {M T : Int32} (h : RST σ il sl vs M T) {s v n : Nat} {w c : Int32} {e : Int64} {t : List Int32} {cs : List (List Int64)} (hs : vs[s]? = some (v, 0, n, w, c, e, t, cs)) (hcs : cs = []) {need : Nat} (hneed : need ≤ 16384) (hcap : txS vs + 16384 ≤ 98304) (x2 : Int32) (e2 : x2 = nI need) :
    kjY kPP (kQQ Y) (d + 2) 141 0 (mjL0 4 [.ref 59, .ref v, .int x2]) [] σ (gtP σ il sl vs M T v need) := by
  have ho := h
  obtain ⟨ri, rs, rh, NK, rt, NT, rn, Nn, te, rc, NC, rm, Nm, ce, ls, hG⟩ := h
  obtain ⟨l, hl, hV, g1, g2, g3, g4, g5, g6, g7⟩ := hG.v hs
  obtain ⟨⟨t1, t2⟩, ⟨t3, t4⟩, t5, t6, t7, t8, t9, t10⟩ := hG.2.1
  obtain ⟨⟨v1, -⟩, ⟨w1, w2, w3⟩, x1, xT, -⟩ := hV
  obtain ⟨y1, y2, y3, y4, y5⟩ := xT rfl
  have v1 : σ.2.2.2.1 v = (11, 0) := v1
  have w3 : σ.1 v 8 = nI l.2 := w3
  have x1 : n ≤ l.2 := x1
  have kv : (σ.2.2.2.1 v).1 = 11 := by rw [v1]
  refine kjZ_y rfl rfl 4 _ _ _ _ ty ?_
  refine (And.intro (by assumption) (And.intro (fun o => ?_) (fun o => ?_)))
  rotate_left
  · refine kjZ_y rfl rfl 1 _ _ _ _ ty ?_
    refine And.intro rfl (And.intro rfl ?_)
    have o : ¬ σ.1 v 8 < x2 := o
    rw [w3, e2, nlt (by omega) (by omega)] at o
    exact ⟨rfl, ho, ⟨l.2, w3, by omega, y3⟩, ow, po, Ch.rf⟩
  have o : σ.1 v 8 < x2 := o
  rw [w3, e2, nlt (by omega) (by omega)] at o
  refine kjZ_y rfl rfl 7 _ _ _ _ ty ?_
  refine (And.intro (by assumption) (And.intro (Nat.le_of_ble_eq_true rfl) (And.intro (Nat.le_of_ble_eq_true rfl) (And.intro (Nat.le_of_ble_eq_true rfl) (kjY_mono ty (fun q_ u1 ty1 xu1 h_ => ?_) (k_min ty _ _))))))
  obtain ⟨rfl, rfl⟩ := h_
  intro _ _
  have em : (if (Int16.ofInt 16384).toInt32 < Int32.ofInt 2 * u1.1 v 8 then (Int16.ofInt 16384).toInt32 else Int32.ofInt 2 * u1.1 v 8) = nI (min 16384 (2 * l.2)) := by
    rw [w3, nI_2, show (Int16.ofInt 16384).toInt32 = nI 16384 by decide]
    by_cases q : 16384 < 2 * l.2
    · rw [if_pos (nI_lt q (by omega)), Nat.min_eq_left (by omega)]
    · rw [if_neg (Int32.not_lt.mpr (nI_le (by omega) (by omega))), Nat.min_eq_right (by omega)]
  refine kjZ_y rfl rfl 1 _ _ _ _ ty1 ?_
  refine (And.intro (Nat.le_of_ble_eq_true rfl) (And.intro (Nat.le_of_ble_eq_true rfl) (And.intro (Nat.le_of_ble_eq_true rfl) (kjY_mono ty1 (fun q_ u2 ty2 xu2 h_ => ?_) (k_max ty1 _ _)))))
  obtain ⟨rfl, rfl⟩ := h_
  intro _ _
  have eM : (if x2 < (if (Int16.ofInt 16384).toInt32 < Int32.ofInt 2 * u2.1 v 8 then (Int16.ofInt 16384).toInt32 else Int32.ofInt 2 * u2.1 v 8) then (if (Int16.ofInt 16384).toInt32 < Int32.ofInt 2 * u2.1 v 8 then (Int16.ofInt 16384).toInt32 else Int32.ofInt 2 * u2.1 v 8) else x2) = nI (max need (min 16384 (2 * l.2))) := by
    rw [em, e2]
    by_cases q : need < min 16384 (2 * l.2)
    · rw [if_pos (nI_lt q (by omega))]; congr 1; omega
    · rw [if_neg (Int32.not_lt.mpr (nI_le (by omega) (by omega)))]; congr 1; omega
  refine kjZ_y rfl rfl 1 _ _ _ _ ty2 ?_
  refine (And.intro (Nat.le_of_ble_eq_true rfl) ?_)
  have go : ∀ x3, x3 = nI (max need (min 16384 (2 * l.2))) → kjY kPP (kQQ Y) (d + 2) 141 14 [some (.ref 59), some (.ref v), some (.int x2), some (.int x3)] [] u2 (gtP u2 il sl vs M T v need) := by
    intro x3 e3
    obtain ⟨ρ, eρ⟩ : ∃ ρ, ρ = max need (min 16384 (2 * l.2)) := ⟨_, rfl⟩
    rw [← eρ] at e3
    refine kjZ_y rfl rfl 8 _ _ _ _ ty2 ?_
    refine (And.intro (ty2.k (by decide) rfl) (Exists.intro _ (And.intro t1 (Or.inl (And.intro (kdq t2) (And.intro (ty2.k (by decide) rfl) (And.intro (fun o2 => ?_) (fun o2 => ?_))))))))
    · have o2 : x3 ≤ nI (u2.2.2.2.1 rt).2 - u2.1 59 9 := o2
      rw [t2, t9, e3, pk_sub (by omega), nle (by omega) (by omega)] at o2
      refine k_moveT (d := d + 1) ty2 ty2 ow po ho hs hcs (by omega) (by omega) (by omega) (fun rt' NT' te' q1 q2 q3 q4 => ?_) Ch.rf x2 x3 e3
      rw [t1] at q1; cases q1
      rw [t2] at q2
      have e7 : NT = NT' := congrArg Prod.snd q2
      rw [t9] at q3
      have e8 : te = te' := (nI_eq (by omega) (by omega)).mp q3
      omega
    · refine kjZ_y rfl rfl 3 _ _ _ _ ty2 ?_
      refine (And.intro (Nat.le_of_ble_eq_true rfl) (And.intro (Or.inl ⟨(Nat.le_of_ble_eq_true rfl), (ty2.k (by decide) rfl)⟩) (And.intro (Nat.le_of_ble_eq_true rfl) (And.intro (Nat.le_of_ble_eq_true rfl) (kjY_mono ty2 (fun q_ u3 ty3 xu3 h_ => ?_) (k_packTexts ty2 ow po ho (m := ρ) (by omega) _ e3))))))
      obtain ⟨rfl, q1, q2, ⟨rt', NT', q3, q4, q5⟩, q6, q7, q8⟩ := h_
      intro _ _
      refine k_moveT (d := d + 1) ty2 ty3 q6 q7 q1 hs hcs (by omega) (by omega) (by omega) (fun rt2 NT2 te2 r1 r2 r3 r4 => ?_) q8 x2 x3 e3
      rw [q3] at r1; cases r1
      rw [q4] at r2
      have e7 : NT' = NT2 := congrArg Prod.snd r2
      rw [q2] at r3
      have hNT : NT' ≤ 131072 := by
        obtain ⟨_, _, _, _, rt9, NT9, _, _, _, _, _, _, _, _, _, hG9⟩ := q1
        obtain ⟨-, ⟨⟨z1, z2⟩, -, -, -, z5, -⟩, -⟩ := hG9
        rw [q3] at z1; cases z1
        rw [q4] at z2; rw [show NT' = NT9 from congrArg Prod.snd z2]; exact z5
      have e8 : txS vs = te2 := (nI_eq (by omega) (by omega)).mp r3
      omega
  exact go _ eM
end KGROWT
