/-! Keys: all cells move together into the other row. -/
def clS : List VR → Nat
  | [] => 0
  | r :: q => pts r.2.1 * r.2.2.1 + clS q
theorem clS_app (a b : List VR) : clS (a ++ b) = clS a + clS b := by
  induction a with
  | nil => exact (Nat.zero_add _).symm
  | cons x r ih => show _ + clS (r ++ b) = _ + clS r + clS b; rw [ih]; omega
theorem clS_take {vs : List VR} {i : Nat} {r : VR} (h : vs[i]? = some r) : clS (vs.take (i + 1)) = clS (vs.take i) + pts r.2.1 * r.2.2.1 := by
  rw [List.take_succ, h]
  show clS (vs.take i ++ [r]) = _
  rw [clS_app]; rfl
theorem clS_mono (vs : List VR) {i j : Nat} (h : i ≤ j) : clS (vs.take i) ≤ clS (vs.take j) := by
  have e : vs.take j = (vs.take j).take i ++ (vs.take j).drop i := (List.take_append_drop _ _).symm
  rw [List.take_take, Nat.min_eq_left h] at e
  rw [e, clS_app]; omega
theorem clS_le (vs : List VR) (i : Nat) : clS (vs.take i) ≤ clS vs := by
  have e : vs = vs.take i ++ vs.drop i := (List.take_append_drop _ _).symm
  have : clS vs = clS (vs.take i) + clS (vs.drop i) := by rw [← clS_app, ← e]
  omega
theorem clS_at {vs : List VR} {i : Nat} {r : VR} (h : vs[i]? = some r) : clS (vs.take i) + pts r.2.1 * r.2.2.1 ≤ clS vs := by
  have a := clS_take h
  have b := clS_le vs (i + 1)
  omega
section KPACKC
variable {Y : Nat → MethodName × ByteArray} {d : Nat} {σ u : kS}
theorem k_packC1 (K : kK) (ty : kTY σ) {il sl : List Nat} {vs : List VR} {M T : Int32} (h : RST σ il sl vs M T) {m : Nat} (hm : m + clS vs ≤ 49152) (x1 : Int32) (hK : ∀ x2 x3, x2 = nI (m + clS vs) → kjY kPP (kQQ Y) d 144 24 [some (.ref 59), some (.int x1), some (.int x2), some (.int x3), none, none, none, none] [] σ K) : ∀ (f i : Nat) (x2 x3 : Int32), i + f = vs.length → x3 = nI i → x2 = nI (m + clS (vs.take i)) →
    kjY kPP (kQQ Y) d 144 4 [some (.ref 59), some (.int x1), some (.int x2), some (.int x3), none, none, none, none] [] σ K := by
  obtain ⟨ri, rs, rh, NK, rt, NT, rn, Nn, te, rc, NC, rm, Nm, ce, ls, hG⟩ := h
  have hGo := hG
  obtain ⟨⟨⟨i1, i2⟩, ⟨i3, i4⟩, ⟨i5, i6⟩, i7, i8⟩, a2, a3, ⟨⟨b1, b2, b3, b4, b5⟩, ⟨b6, b6b, b6c⟩, b7, b8, b9, b10⟩, a5, a6, a7⟩ := hG
  intro f
  induction f with
  | zero =>
    intro i x2 x3 hi e3 e2
    refine kjZ_y rfl rfl 4 _ _ _ _ ty ?_
    refine (And.intro (ty.k (by decide) rfl) (And.intro (fun c => ?_) (fun c => ?_)))
    · refine hK x2 x3 ?_
      rw [e2, List.take_of_length_le (by omega)]
    · refine absurd (show σ.1 59 6 ≤ x3 from ?_) c
      rw [b2, e3, nle (by omega) (by omega)]; omega
  | succ f ih =>
    intro i x2 x3 hi e3 e2
    have hr : vs[i]? = some vs[i] := List.getElem?_eq_getElem (by omega)
    obtain ⟨l, hl, hV, g1, g2, g3, g4, g5, g6, g7⟩ := hGo.v hr
    have v3 : vp_in x3 NK := by rw [e3]; exact vp_in_nI (by omega) (by omega)
    have ef : σ.2.2.1 rh x3.toNatClampNeg = some vs[i].1 := by rw [e3, nI_clamp (by omega)]; exact b9 i _ hr
    have kv : (σ.2.2.2.1 vs[i].1).1 = 11 := by rw [hV.1.1]
    have htk := clS_take hr
    refine kjZ_y rfl rfl 4 _ _ _ _ ty ?_
    refine (And.intro (ty.k (by decide) rfl) (And.intro (fun c => ?_) (fun c => ?_)))
    · refine absurd (show σ.1 59 6 ≤ x3 from c) ?_
      rw [b2, e3, nle (by omega) (by omega)]; omega
    refine kjZ_y rfl rfl 16 _ _ _ _ ty ?_
    refine (And.intro (ty.k (by decide) rfl) (Exists.intro _ (And.intro i5 (Or.inl (And.intro (Or.inr (kdk i6)) (And.intro (kdv i6 v3) (Exists.intro _ (And.intro ef (And.intro (by assumption) (And.intro (ty.k (by decide) rfl) (Exists.intro _ (And.intro i5 (Or.inl (And.intro (Or.inr (kdk i6)) (And.intro (kdv i6 v3) (Exists.intro _ (And.intro ef (And.intro (by assumption) (And.intro (Nat.le_of_ble_eq_true rfl) ?_)))))))))))))))))))
    refine ih (i + 1) _ _ (by omega) (by rw [e3]; exact nI_1 i) ?_
    show x2 + σ.1 vs[i].1 2 * σ.1 vs[i].1 6 = _
    rw [htk, e2, hV.1.2.2.2.1, hV.2.1.1, pk_mul, nI_add]; congr 1; omega
theorem k_packC2 (K : kK) (ty : kTY σ) {H L0 : Nat} (hH : H ≤ 49152) (x1 x2 : Int32) (e2 : x2 = nI H) (hK : ∀ L x3, P2 L → L ≤ 65536 → L0 ≤ L → H ≤ L / 4 * 3 → x3 = nI L → kjY kPP (kQQ Y) d 144 43 [some (.ref 59), some (.int x1), some (.int x2), some (.int x3), none, none, none, none] [] σ K) : ∀ (f L : Nat) (x3 : Int32), 131072 < L + f → P2 L → L ≤ 65536 → L0 ≤ L → x3 = nI L →
    kjY kPP (kQQ Y) d 144 28 [some (.ref 59), some (.int x1), some (.int x2), some (.int x3), none, none, none, none] [] σ K := by
  intro f
  induction f using Nat.strongRecOn with
  | _ f ih =>
    intro L x3 hf hp hL hL0 e3
    have e4 : x3 / Int32.ofInt 4 * Int32.ofInt 3 = nI (L / 4 * 3) := by
      rw [e3, show nI L / Int32.ofInt 4 = nI (L / 4) from pk_div (d := 4) (by omega) (by decide) (by decide)]; exact pk_mul _ 3
    have hq := hp.q
    refine kjZ_y rfl rfl 7 _ _ _ _ ty ?_
    refine (And.intro (by decide) (And.intro (fun c => ?_) (fun c => ?_)))
    · have c : x2 ≤ x3 / Int32.ofInt 4 * Int32.ofInt 3 := c
      rw [e4, e2, nle (by omega) (by omega)] at c
      exact hK L x3 hp hL hL0 c e3
    have c : ¬ x2 ≤ x3 / Int32.ofInt 4 * Int32.ofInt 3 := c
    rw [e4, e2, nle (by omega) (by omega)] at c
    refine kjZ_y rfl rfl 3 _ _ _ _ ty ?_
    refine And.intro (fun c2 => ?_) (fun c2 => ?_)
    · refine absurd (show nI 1048576 ≤ x3 from c2) ?_
      rw [e3, nle (by omega) (by omega)]; omega
    refine kjZ_y rfl rfl 5 _ _ _ _ ty ?_
    refine (And.intro (Nat.le_of_ble_eq_true rfl) ?_)
    have h2 : 2 * L ≤ 65536 := P2.cap (c := 10) hp (by show L < 65536; omega)
    refine ih (f - L) (by have := hp.le; omega) (2 * L) _ (by omega) hp.two h2 (by omega) ?_
    rw [e3, show nI L * Int32.ofInt 2 = nI (L * 2) from pk_mul L 2]; congr 1; omega
/-- how far the cells have moved -/
def PCI (σ : kS) (vs : List VR) (gp i : Nat) (u : kS) : Prop := u.2.2 = σ.2.2 ∧ (∀ h, ¬ h = gp → u.2.1 h = σ.2.1 h) ∧ (∀ h x, ¬ σ.2.2.2.1 h = (11, 0) → ¬ (h = 59 ∧ x = 12) → u.1 h x = σ.1 h x) ∧ (∀ s r x, vs[s]? = some r → ((¬ x = 7 ∧ ¬ x = 8) ∨ i ≤ s ∨ r.2.1 = 0) → u.1 r.1 x = σ.1 r.1 x) ∧ (∀ s r, vs[s]? = some r → s < i → (¬ r.2.1 = 0) → u.1 r.1 7 = nI (clS (vs.take s)) ∧ u.1 r.1 8 = nI r.2.2.1 ∧ ∀ p q, r.2.2.2.2.2.2.2[p]? = some q → wl (u.2.1 gp) (clS (vs.take s) + p * r.2.2.1) r.2.2.1 = q) ∧ u.1 59 12 = nI (clS (vs.take i))
/-- the parts of one value -/
def PCJ (u0 : kS) (gp b n j : Nat) (cs : List (List Int64)) (u : kS) : Prop := u.2.2 = u0.2.2 ∧ (∀ h, ¬ h = gp → u.2.1 h = u0.2.1 h) ∧ (∀ h x, ¬ (h = 59 ∧ x = 12) → u.1 h x = u0.1 h x) ∧ u.1 59 12 = nI (b + j * n) ∧ (∀ k, k < b → u.2.1 gp k = u0.2.1 gp k) ∧ ∀ p q, p < j → cs[p]? = some q → wl (u.2.1 gp) (b + p * n) n = q
theorem k_packC4 (K : kK) {u0 : kS} (ty0 : kTY u0) {v n rc NC gp L b a r P : Nat} (kv : (u0.2.2.2.1 v).1 = 11) (n59 : ¬ v = 59) (fc : u0.2.2.1 59 10 = some rc) (kc : u0.2.2.2.1 rc = (23, NC)) (kg : u0.2.2.2.1 gp = (23, L)) (hgc : ¬ rc = gp) (hb : b + P * n ≤ L) (hL : L ≤ 65536 ∧ NC ≤ 65536) (w2 : u0.1 v 2 = nI P) (w6 : u0.1 v 6 = nI n) (w7 : u0.1 v 7 = nI a) (w8 : u0.1 v 8 = nI r) (hP : P ≤ 4) (hnr : n ≤ r) (ha : a + P * r ≤ NC) {cs : List (List Int64)} (hcs : ∀ p q, cs[p]? = some q → wl (u0.2.1 rc) (a + p * r) n = q) (x1 x2 x3 x5 : Int32)
    (hK : ∀ u x7, kTY u → PCJ u0 gp b n P cs u → kjY kPP (kQQ Y) (d + 1) 144 102 [some (.ref 59), some (.int x1), some (.int x2), some (.int x3), some (.ref gp), some (.int x5), some (.ref v), some (.int x7)] [] u K) : ∀ (f j : Nat) (x7 : Int32) (u : kS), j + f = P → x7 = nI j → kTY u → PCJ u0 gp b n j cs u →
    kjY kPP (kQQ Y) (d + 1) 144 74 [some (.ref 59), some (.int x1), some (.int x2), some (.int x3), some (.ref gp), some (.int x5), some (.ref v), some (.int x7)] [] u K := by
  intro f
  induction f with
  | zero =>
    intro j x7 u hj e7 tu pj
    have kvu : (u.2.2.2.1 v).1 = 11 := by
      have e : u.2.2.2.1 = u0.2.2.2.1 := congrArg (fun t => t.2.1) pj.1
      rw [e]; exact kv
    have e2 : u.1 v 2 = nI P := by rw [pj.2.2.1 v 2 (fun z => n59 z.1)]; exact w2
    refine kjZ_y rfl rfl 4 _ _ _ _ tu ?_
    refine (And.intro (by assumption) (And.intro (fun c => ?_) (fun c => ?_)))
    · exact hK u x7 tu (by rw [show P = j by omega]; exact pj)
    · refine absurd (show u.1 v 2 ≤ x7 from ?_) c
      rw [e2, e7, nle (by omega) (by omega)]; omega
  | succ f ih =>
    intro j x7 u hj e7 tu pj
    have eF : u.2.2.1 = u0.2.2.1 := congrArg (fun t => t.1) pj.1
    have eD : u.2.2.2.1 = u0.2.2.2.1 := congrArg (fun t => t.2.1) pj.1
    have kvu : (u.2.2.2.1 v).1 = 11 := by rw [eD]; exact kv
    have eV : ∀ x, u.1 v x = u0.1 v x := fun x => pj.2.2.1 v x (fun z => n59 z.1)
    have fcu : u.2.2.1 59 10 = some rc := by rw [eF]; exact fc
    have kcu : u.2.2.2.1 rc = (23, NC) := by rw [eD]; exact kc
    have kgu : u.2.2.2.1 gp = (23, L) := by rw [eD]; exact kg
    have hjr : j * r + r ≤ P * r := by
      have := Nat.mul_le_mul_right r (show j + 1 ≤ P by omega)
      rw [Nat.succ_mul] at this; exact this
    have hjn : j * n + n ≤ P * n := by
      have := Nat.mul_le_mul_right n (show j + 1 ≤ P by omega)
      rw [Nat.succ_mul] at this; exact this
    have esp : u.1 v 7 + x7 * u.1 v 8 = nI (a + j * r) := by rw [eV, eV, w7, w8, e7, pk_mul, nI_add]
    refine kjZ_y rfl rfl 4 _ _ _ _ tu ?_
    refine (And.intro (by assumption) (And.intro (fun c => ?_) (fun c => ?_)))
    · refine absurd (show u.1 v 2 ≤ x7 from c) ?_
      rw [eV, w2, e7, nle (by omega) (by omega)]; omega
    refine kjZ_y rfl rfl 15 _ _ _ _ tu ?_
    refine (And.intro (tu.k (by decide) rfl) (Exists.intro _ (And.intro fcu (And.intro (by assumption) (And.intro (by assumption) (And.intro (tu.k (by decide) rfl) (And.intro (by assumption) (Exists.intro (a + j * r) (Exists.intro (b + j * n) (Exists.intro n (And.intro ⟨esp, pj.2.2.2.1, by rw [eV]; exact w6⟩ (And.intro ⟨by rw [kcu, kgu], by rw [kcu]; show _ ≤ NC; omega, by rw [kgu]; show _ ≤ L; omega⟩ (And.intro ⟨(Nat.le_of_ble_eq_true rfl), (Nat.le_of_ble_eq_true rfl)⟩ (Or.inr (And.intro (kdk kgu) (fun tu' => ?_))))))))))))))))
    have go : ∀ w, kTY w → w = (u.1, kUp u.2.1 gp (va_cpy (u.2.1 rc) (u.2.1 gp) (a + j * r) (b + j * n) n), u.2.2) → kjY kPP (kQQ Y) (d + 1) 144 93 [some (.ref 59), some (.int x1), some (.int x2), some (.int x3), some (.ref gp), some (.int x5), some (.ref v), some (.int x7)] [] w K := by
      intro w tw ew
      have kvw : (w.2.2.2.1 v).1 = 11 := by rw [ew]; exact kvu
      refine kjZ_y rfl rfl 9 _ _ _ _ tw ?_
      refine (And.intro (tw.k (by decide) rfl) (And.intro (by assumption) (And.intro (tw.k (by decide) rfl) (And.intro (Or.inl rfl) (fun tw' => ?_)))))
      have go2 : ∀ y, kTY y → y = (mjIu w.1 59 12 (w.1 59 12 + w.1 v 6), w.2) → kjY kPP (kQQ Y) (d + 1) 144 74 [some (.ref 59), some (.int x1), some (.int x2), some (.int x3), some (.ref gp), some (.int x5), some (.ref v), some (.int (x7 + Int32.ofInt 1))] [] y K := by
        intro y tyy ey
        have e12 : w.1 59 12 + w.1 v 6 = nI (b + (j + 1) * n) := by
          rw [ew]; show u.1 59 12 + u.1 v 6 = _
          rw [pj.2.2.2.1, eV, w6, nI_add, Nat.succ_mul, Nat.add_assoc]
        rw [e12] at ey
        have eLg : ∀ k, y.2.1 gp k = va_cpy (u.2.1 rc) (u.2.1 gp) (a + j * r) (b + j * n) n k := fun k => by rw [ey, ew]; show kUp u.2.1 gp _ gp k = _; rw [kUp_s]
        refine ih (j + 1) _ y (by omega) (by rw [e7]; exact nI_1 j) tyy ⟨by rw [ey, ew]; exact pj.1, fun h z => ?_, fun h x z => ?_, ?_, fun k hk => ?_, fun p q hp hq => ?_⟩
        · rw [ey, ew]; show kUp u.2.1 gp _ h = _; rw [kUp_n z]; exact pj.2.1 h z
        · rw [ey]; show mjIu w.1 59 12 _ h x = _; rw [mjIu_at, if_neg z, ew]; exact pj.2.2.1 h x z
        · rw [ey]; show mjIu w.1 59 12 (nI (b + (j + 1) * n)) 59 12 = _; rw [mjIu_at, if_pos ⟨rfl, rfl⟩]
        · rw [eLg, pk_cpy_out (Or.inl (by omega))]; exact pj.2.2.2.2.1 k hk
        · by_cases z : p = j
          · rw [z] at hq ⊢
            refine Eq.trans (wl_congr fun k hk => (eLg _).trans ?_) (hcs j q hq)
            rw [pk_cpy_in (by omega) (by omega), pj.2.1 rc hgc]; exact congrArg (u0.2.1 rc) (by omega)
          · have hpj : p * n + n ≤ j * n := by
              have := Nat.mul_le_mul_right n (show p + 1 ≤ j by omega)
              rw [Nat.succ_mul] at this; exact this
            refine Eq.trans (wl_congr fun k hk => (eLg _).trans ?_) (pj.2.2.2.2.2 p q (by omega) hq)
            rw [pk_cpy_out (Or.inl (by omega))]
      exact go2 _ tw' rfl
    exact go _ tu' rfl
theorem k_packC3 (K : kK) (ty : kTY σ) (ow : OWN σ) {il sl : List Nat} {vs : List VR} {M T : Int32} {ri rs rh NK rt NT rn Nn te rc NC rm Nm ce : Nat} {ls : List (Nat × Nat)} (h : RSG σ il sl vs M T ri rs rh NK rt NT rn Nn te rc NC rm Nm ce ls) {gp L : Nat} {σ1 : kS} (ty1 : kTY σ1) (x1 x2 x3 : Int32)
    (f1 : σ1.2.2.1 59 5 = some rh ∧ σ1.2.2.1 59 10 = some rc) (f2 : ∀ h, h < σ.2.2.2.2.1 → σ1.2.2.2.1 h = σ.2.2.2.1 h ∧ σ1.1 h = σ.1 h ∧ σ1.2.2.1 h = σ.2.2.1 h ∧ σ1.2.1 h = σ.2.1 h) (f3 : σ1.2.2.2.1 gp = (23, L)) (f4 : ¬ gp = rc) (hL : clS vs ≤ L ∧ L ≤ 65536)
    (hK : ∀ u o5 o6 o7, kTY u → PCI σ1 vs gp vs.length u → kjY kPP (kQQ Y) (d + 1) 144 121 [some (.ref 59), some (.int x1), some (.int x2), some (.int x3), some (.ref gp), o5, o6, o7] [] u K) : ∀ (f i : Nat) (x5 : Int32) (o6 o7 : Option Value) (u : kS), i + f = vs.length → x5 = nI i → kTY u → PCI σ1 vs gp i u →
    kjY kPP (kQQ Y) (d + 1) 144 63 [some (.ref 59), some (.int x1), some (.int x2), some (.int x3), some (.ref gp), some (.int x5), o6, o7] [] u K := by
  have t76 := ty.2.2.2.1
  have hGo := h
  obtain ⟨⟨⟨i1, i2⟩, ⟨i3, i4⟩, ⟨i5, i6⟩, i7, i8⟩, a2, ⟨⟨c1, c2⟩, ⟨c3, c4⟩, c5, c6, c7, c8, c9, c10⟩, ⟨⟨b1, b2, b3, b4, b5⟩, ⟨b6, b6b, b6c⟩, b7, b8, b9, b10⟩, a5, a6, a7⟩ := h
  have lrh := ty.lr i6 (by decide)
  have lrc := ty.lr c2 (by decide)
  have k59 : ¬ σ1.2.2.2.1 59 = (11, 0) := by rw [ty1.kl (h := 59) (c := (4, 0)) (by decide) rfl]; decide
  have lv : ∀ {s : Nat} {r : VR}, vs[s]? = some r → σ.2.2.2.1 r.1 = (11, 0) ∧ r.1 < σ.2.2.2.2.1 ∧ σ1.2.2.2.1 r.1 = (11, 0) := fun {s r} hs => by
    obtain ⟨l, hl, hV, -⟩ := hGo.v hs
    have q := ty.lt (h := r.1) (by rw [hV.1.1]; decide)
    exact ⟨hV.1.1, q, by rw [(f2 _ q).1]; exact hV.1.1⟩
  intro f
  induction f with
  | zero =>
    intro i x5 o6 o7 u hi e5 tu pk
    have e6 : u.1 59 6 = nI vs.length := by rw [pk.2.2.1 59 6 k59 (fun z => by omega), (f2 59 (by omega)).2.1]; exact b2
    refine kjZ_y rfl rfl 4 _ _ _ _ tu ?_
    refine (And.intro (tu.k (by decide) rfl) (And.intro (fun c => ?_) (fun c => ?_)))
    · exact hK u _ _ _ tu (by rw [show vs.length = i by omega]; exact pk)
    · refine absurd (show u.1 59 6 ≤ x5 from ?_) c
      rw [e6, e5, nle (by omega) (by omega)]; omega
  | succ f ih =>
    intro i x5 o6 o7 u hi e5 tu pk
    have e6 : u.1 59 6 = nI vs.length := by rw [pk.2.2.1 59 6 k59 (fun z => by omega), (f2 59 (by omega)).2.1]; exact b2
    have hr : vs[i]? = some vs[i] := List.getElem?_eq_getElem (by omega)
    obtain ⟨l, hl, hV, g1, g2, g3, g4, g5, g6, g7⟩ := hGo.v hr
    obtain ⟨v1, v2, v3⟩ := lv hr
    have eF : u.2.2.1 = σ1.2.2.1 := congrArg (fun t => t.1) pk.1
    have eD : u.2.2.2.1 = σ1.2.2.2.1 := congrArg (fun t => t.2.1) pk.1
    have vp5 : vp_in x5 NK := by rw [e5]; exact vp_in_nI (by omega) (by omega)
    have j5 : u.2.2.1 59 5 = some rh := by rw [eF]; exact f1.1
    have j6 : u.2.2.2.1 rh = (25, NK) := by rw [eD, (f2 rh lrh).1]; exact i6
    have ef : u.2.2.1 rh x5.toNatClampNeg = some vs[i].1 := by rw [e5, nI_clamp (by omega), eF, (f2 rh lrh).2.2.1]; exact b9 i _ hr
    have kv : (u.2.2.2.1 vs[i].1).1 = 11 := by rw [eD, v3]
    have eI : ∀ x, u.1 vs[i].1 x = σ.1 vs[i].1 x := fun x => by rw [pk.2.2.2.1 i _ x hr (Or.inr (Or.inl (Nat.le_refl _))), (f2 _ v2).2.1]
    have n59v : ¬ vs[i].1 = 59 := fun z => k11 ty v1 (show 59 < 76 by decide) z.symm
    have hat := clS_at hr
    have htk := clS_take hr
    have ncs : ∀ p q, vs[i].2.2.2.2.2.2.2[p]? = some q → wl (u.2.1 rc) (l.1 + p * l.2) vs[i].2.2.1 = q := fun p q hp => by
      by_cases hk : vs[i].2.1 = 0
      · rcases (hV.2.2.2.1 hk).2.1 with z | z
        · rw [z] at hp; cases hp
        · have h1 := hV.2.2.1
          have h0 : vs[i].2.2.1 = 0 := by have := z.2; omega
          have hp0 : p = 0 := by have := (List.getElem?_eq_some_iff.mp hp).1; rw [z.1] at this; have : p < 1 := this; omega
          rw [z.1, hp0] at hp; cases hp
          rw [h0]; rfl
      rw [pk.2.1 rc (fun z => f4 z.symm), (f2 rc lrc).2.2.2]; exact (hV.2.2.2.2 hk).2.2.2 p q hp
    have hal : l.1 + pts vs[i].2.1 * l.2 ≤ NC ∨ vs[i].2.1 = 0 := by
      by_cases z : vs[i].2.1 = 0
      · exact Or.inr z
      · left; have q := (hV.2.2.2.2 z).2.2.1; rw [c2] at q; have q : l.1 + pts vs[i].2.1 * l.2 ≤ ce ∨ (l.2 = 0 ∧ pts vs[i].2.1 * l.2 = 0 ∧ l.1 ≤ NC) := q; omega
    refine kjZ_y rfl rfl 4 _ _ _ _ tu ?_
    refine (And.intro (tu.k (by decide) rfl) (And.intro (fun c => ?_) (fun c => ?_)))
    · refine absurd (show u.1 59 6 ≤ x5 from c) ?_
      rw [e6, e5, nle (by omega) (by omega)]; omega
    have nxt : ∀ w o7', kTY w → PCI σ1 vs gp (i + 1) w → kjY kPP (kQQ Y) (d + 1) 144 119 [some (.ref 59), some (.int x1), some (.int x2), some (.int x3), some (.ref gp), some (.int x5), some (.ref vs[i].1), o7'] [] w K := by
      intro w o7' tw pw
      refine kjZ_y rfl rfl 2 _ _ _ _ tw ?_
      exact ih (i + 1) _ _ o7' w (by omega) (by rw [e5]; exact nI_1 i) tw pw
    refine kjZ_y rfl rfl 7 _ _ _ _ tu ?_
    refine (And.intro (tu.k (by decide) rfl) (Exists.intro _ (And.intro j5 (Or.inl (And.intro (Or.inr (kdk j6)) (And.intro (kdv j6 vp5) (Exists.intro _ (And.intro ef (And.intro (Nat.le_of_ble_eq_true rfl) (And.intro (Nat.le_of_ble_eq_true rfl) ?_))))))))))
    -- behind the parts
    have behind : ∀ w x7, kTY w → PCJ u gp (clS (vs.take i)) vs[i].2.2.1 (pts vs[i].2.1) vs[i].2.2.2.2.2.2.2 w → kjY kPP (kQQ Y) (d + 1) 144 102 [some (.ref 59), some (.int x1), some (.int x2), some (.int x3), some (.ref gp), some (.int x5), some (.ref vs[i].1), some (.int x7)] [] w K := by
      intro w x7 tw pj
      have eDw : w.2.2.2.1 = u.2.2.2.1 := congrArg (fun t => t.2.1) pj.1
      have kw : (w.2.2.2.1 vs[i].1).1 = 11 := by rw [eDw]; exact kv
      have eW : ∀ x, w.1 vs[i].1 x = σ.1 vs[i].1 x := fun x => by rw [pj.2.2.1 _ x (fun z => n59v z.1)]; exact eI x
      have hpp := pts_le vs[i].2.1
      have old : ∀ s r, vs[s]? = some r → s < i → (¬ r.2.1 = 0) → ∀ p q, r.2.2.2.2.2.2.2[p]? = some q → wl (w.2.1 gp) (clS (vs.take s) + p * r.2.2.1) r.2.2.1 = q := fun s r hs hsi hk0 p q hp => by
        obtain ⟨ls', hls', hVs, -⟩ := hGo.v hs
        have hpl : p < pts r.2.1 := cs_lt (hVs.2.2.2.2 hk0).2.1 hp
        have hpp := part_le (r := r.2.2.1) hpl
        have hm := clS_mono vs (show s + 1 ≤ i by omega)
        have ht := clS_take hs
        refine Eq.trans (wl_congr fun k hk => pj.2.2.2.2.1 _ (by omega)) ((pk.2.2.2.2.1 s r hs hsi hk0).2.2 p q hp)
      refine kjZ_y rfl rfl 3 _ _ _ _ tw ?_
      refine (And.intro (by assumption) (And.intro (fun c2 => ?_) (fun c2 => ?_)))
      · have c2 : w.1 vs[i].1 2 ≤ nI 0 := c2
        rw [eW, hV.1.2.2.2.1, nle (by omega) (by omega)] at c2
        have hk : vs[i].2.1 = 0 := by
          refine Decidable.byContradiction fun z => ?_
          have := pts_pos z; omega
        have hp0 : pts vs[i].2.1 = 0 := by omega
        refine nxt w _ tw ⟨pj.1.trans pk.1, fun h z => (pj.2.1 h z).trans (pk.2.1 h z), fun h x z1 z2 => (pj.2.2.1 h x z2).trans (pk.2.2.1 h x z1 z2), fun s r x hs q => ?_, fun s r hs hsi hk0 => ?_, ?_⟩
        · have nr59 : ¬ r.1 = 59 := fun z => k11 ty (lv hs).1 (show 59 < 76 by decide) z.symm
          rw [pj.2.2.1 r.1 x (fun z => nr59 z.1)]
          by_cases z : s = i
          · rw [z] at hs; exact pk.2.2.2.1 i r x hs (Or.inr (Or.inl (Nat.le_refl _)))
          · refine pk.2.2.2.1 s r x hs ?_
            rcases q with q | q | q
            · exact Or.inl q
            · exact Or.inr (Or.inl (by omega))
            · exact Or.inr (Or.inr q)
        · have hsi : s < i := Nat.lt_of_le_of_ne (by omega) (fun z => by rw [z, hr] at hs; cases hs; exact hk0 hk)
          have nr59 : ¬ r.1 = 59 := fun z => k11 ty (lv hs).1 (show 59 < 76 by decide) z.symm
          obtain ⟨o1, o2, -⟩ := pk.2.2.2.2.1 s r hs hsi hk0
          exact ⟨(pj.2.2.1 r.1 7 (fun z => nr59 z.1)).trans o1, (pj.2.2.1 r.1 8 (fun z => nr59 z.1)).trans o2, old s r hs hsi hk0⟩
        · rw [pj.2.2.2.1, htk, hp0]
      · have c2 : ¬ w.1 vs[i].1 2 ≤ nI 0 := c2
        rw [eW, hV.1.2.2.2.1, nle (by omega) (by omega)] at c2
        have hk : ¬ vs[i].2.1 = 0 := fun z => c2 (by rw [z]; exact Nat.le_refl _)
        refine kjZ_y rfl rfl 14 _ _ _ _ tw ?_
        refine (And.intro (tw.k (by decide) rfl) (And.intro (by assumption) (And.intro (by assumption) (And.intro (by assumption) (And.intro (Or.inl rfl) (fun tw' => (And.intro (by assumption) (And.intro (by assumption) (And.intro (Or.inl rfl) (fun tw'' => ?_))))))))))
        have go : ∀ y, kTY y → y = (mjIu (mjIu w.1 vs[i].1 7 (w.1 59 12 - w.1 vs[i].1 2 * w.1 vs[i].1 6)) vs[i].1 8 (mjIu w.1 vs[i].1 7 (w.1 59 12 - w.1 vs[i].1 2 * w.1 vs[i].1 6) vs[i].1 6), w.2) → kjY kPP (kQQ Y) (d + 1) 144 119 [some (.ref 59), some (.int x1), some (.int x2), some (.int x3), some (.ref gp), some (.int x5), some (.ref vs[i].1), some (.int x7)] [] y K := by
          intro y tyy ey
          have e1 : w.1 59 12 - w.1 vs[i].1 2 * w.1 vs[i].1 6 = nI (clS (vs.take i)) := by
            rw [pj.2.2.2.1, eW, eW, hV.1.2.2.2.1, hV.2.1.1, pk_mul, pk_sub (by omega)]; congr 1; omega
          rw [e1, mjIu_at, if_neg (show ¬ (vs[i].1 = vs[i].1 ∧ 6 = 7) from fun z => absurd z.2 (by decide)), eW 6, hV.2.1.1] at ey
          have eY : ∀ h x, y.1 h x = if h = vs[i].1 ∧ x = 8 then nI vs[i].2.2.1 else if h = vs[i].1 ∧ x = 7 then nI (clS (vs.take i)) else w.1 h x := fun h x => by rw [ey]; show mjIu (mjIu w.1 vs[i].1 7 _) vs[i].1 8 _ h x = _; rw [mjIu_at, mjIu_at]
          have eYL : y.2.1 = w.2.1 := by rw [ey]
          refine nxt y _ tyy ⟨by rw [ey]; exact pj.1.trans pk.1, fun h z => by rw [eYL]; exact (pj.2.1 h z).trans (pk.2.1 h z), fun h x z1 z2 => ?_, fun s r x hs q => ?_, fun s r hs hsi hk0 => ?_, ?_⟩
          · rw [eY, if_neg (fun z => z1 (by rw [z.1]; exact v3)), if_neg (fun z => z1 (by rw [z.1]; exact v3))]; exact (pj.2.2.1 h x z2).trans (pk.2.2.1 h x z1 z2)
          · have nr59 : ¬ r.1 = 59 := fun z => k11 ty (lv hs).1 (show 59 < 76 by decide) z.symm
            by_cases z : s = i
            · rw [z, hr] at hs; cases hs
              rcases q with q | q | q
              · rw [eY, if_neg (fun y => q.2 y.2), if_neg (fun y => q.1 y.2), pj.2.2.1 _ x (fun z => nr59 z.1)]; exact pk.2.2.2.1 i _ x hr (Or.inr (Or.inl (Nat.le_refl _)))
              · omega
              · exact absurd q hk
            · have nri := nd_ne b10 hs hr z
              rw [eY, if_neg (fun y => nri y.1), if_neg (fun y => nri y.1), pj.2.2.1 r.1 x (fun z => nr59 z.1)]
              refine pk.2.2.2.1 s r x hs ?_
              rcases q with q | q | q
              · exact Or.inl q
              · exact Or.inr (Or.inl (by omega))
              · exact Or.inr (Or.inr q)
          · have nr59 : ¬ r.1 = 59 := fun z => k11 ty (lv hs).1 (show 59 < 76 by decide) z.symm
            by_cases z : s = i
            · rw [z, hr] at hs; cases hs
              refine ⟨by rw [eY, if_neg (fun y => absurd y.2 (by decide)), if_pos ⟨rfl, rfl⟩, z], by rw [eY, if_pos ⟨rfl, rfl⟩], fun p q hp => ?_⟩
              rw [eYL, z]
              exact pj.2.2.2.2.2 p q (cs_lt (hV.2.2.2.2 hk).2.1 hp) hp
            · have hsi : s < i := by omega
              have nri := nd_ne b10 hs hr z
              obtain ⟨o1, o2, -⟩ := pk.2.2.2.2.1 s r hs hsi hk0
              refine ⟨?_, ?_, ?_⟩
              · rw [eY, if_neg (fun y => nri y.1), if_neg (fun y => nri y.1)]; exact (pj.2.2.1 r.1 7 (fun z => nr59 z.1)).trans o1
              · rw [eY, if_neg (fun y => nri y.1), if_neg (fun y => nri y.1)]; exact (pj.2.2.1 r.1 8 (fun z => nr59 z.1)).trans o2
              · rw [eYL]; exact old s r hs hsi hk0
          · rw [eY, if_neg (fun z => n59v z.1.symm), if_neg (fun z => n59v z.1.symm), pj.2.2.2.1, htk]
        exact go _ tw'' rfl
    rcases hal with hal | hk0
    · exact k_packC4 K tu kv n59v (by rw [eF]; exact f1.2) (by rw [eD, (f2 rc lrc).1]; exact c2) (by rw [eD]; exact f3) (fun z => f4 z.symm) (by omega) ⟨hL.2, by omega⟩ (by rw [eI]; exact hV.1.2.2.2.1) (by rw [eI]; exact hV.2.1.1) (by rw [eI]; exact hV.2.1.2.1) (by rw [eI]; exact hV.2.1.2.2) (pts_le _) hV.2.2.1 hal ncs x1 x2 x3 x5 behind (pts vs[i].2.1) 0 _ u (by omega) rfl tu ⟨rfl, fun _ _ => rfl, fun _ _ _ => rfl, by rw [pk.2.2.2.2.2]; congr 1; omega, fun _ _ => rfl, fun p q hp => absurd hp (Nat.not_lt_zero p)⟩
    · have hp0 : pts vs[i].2.1 = 0 := by rw [hk0]; rfl
      have e2 : u.1 vs[i].1 2 = nI 0 := by rw [eI, hV.1.2.2.2.1, hp0]
      refine kjZ_y rfl rfl 4 _ _ _ _ tu ?_
      refine (And.intro (by assumption) (And.intro (fun c3 => ?_) (fun c3 => ?_)))
      · exact behind u _ tu ⟨rfl, fun _ _ => rfl, fun _ _ _ => rfl, by rw [pk.2.2.2.2.2, hp0]; congr 1; omega, fun _ _ => rfl, fun p q hp => absurd hp (by omega)⟩
      · refine absurd (show u.1 vs[i].1 2 ≤ nI 0 from ?_) c3
        rw [e2]; exact Int32.le_refl _
end KPACKC
