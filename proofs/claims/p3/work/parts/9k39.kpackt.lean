/-! Keys: all texts move together into the other row. -/
def txS : List VR → Nat
  | [] => 0
  | r :: q => (if r.2.1 = 0 then r.2.2.1 else 0) + txS q
theorem txS_app (a b : List VR) : txS (a ++ b) = txS a + txS b := by
  induction a with
  | nil => exact (Nat.zero_add _).symm
  | cons x r ih => show _ + txS (r ++ b) = _ + txS r + txS b; rw [ih]; omega
theorem txS_take {vs : List VR} {i : Nat} {r : VR} (h : vs[i]? = some r) : txS (vs.take (i + 1)) = txS (vs.take i) + (if r.2.1 = 0 then r.2.2.1 else 0) := by
  rw [List.take_succ, h]
  show txS (vs.take i ++ [r]) = _
  rw [txS_app]; rfl
theorem txS_mono (vs : List VR) {i j : Nat} (h : i ≤ j) : txS (vs.take i) ≤ txS (vs.take j) := by
  have e : vs.take j = (vs.take j).take i ++ (vs.take j).drop i := (List.take_append_drop _ _).symm
  rw [List.take_take, Nat.min_eq_left h] at e
  rw [e, txS_app]; omega
theorem txS_le (vs : List VR) (i : Nat) : txS (vs.take i) ≤ txS vs := by
  have e : vs = vs.take i ++ vs.drop i := (List.take_append_drop _ _).symm
  have : txS vs = txS (vs.take i) + txS (vs.drop i) := by rw [← txS_app, ← e]
  omega
theorem txS_at {vs : List VR} {i : Nat} {r : VR} (h : vs[i]? = some r) (hk : r.2.1 = 0) : txS (vs.take i) + r.2.2.1 ≤ txS vs := by
  have a := txS_take h
  have b := txS_le vs (i + 1)
  rw [if_pos hk] at a; omega
theorem P2.le {L : Nat} (h : P2 L) : 64 ≤ L := by
  obtain ⟨j, rfl⟩ := h
  have := Nat.one_le_two_pow (n := j); omega
theorem P2.lt {a b : Nat} (ha : P2 a) (hb : P2 b) (h : a < b) : 2 * a ≤ b := by
  obtain ⟨i, rfl⟩ := ha
  obtain ⟨j, rfl⟩ := hb
  have hij : i < j := by
    refine Nat.lt_of_not_le (fun z => ?_)
    have := Nat.pow_le_pow_right (show 0 < 2 by decide) z
    omega
  have := Nat.pow_le_pow_right (show 0 < 2 by decide) (show i + 1 ≤ j from hij)
  rw [Nat.pow_succ] at this; omega
theorem P2.two {L : Nat} (h : P2 L) : P2 (2 * L) := by
  obtain ⟨j, rfl⟩ := h
  exact ⟨j + 1, by rw [Nat.pow_succ]; omega⟩
theorem P2.cap {L c : Nat} (h : P2 L) (hL : L < 64 * 2 ^ c) : 2 * L ≤ 64 * 2 ^ c := P2.lt h ⟨c, rfl⟩ hL
theorem P2.q {L : Nat} (h : P2 L) : L / 4 * 3 + L / 4 = L := by
  obtain ⟨j, rfl⟩ := h
  omega
section KPACKT
variable {Y : Nat → MethodName × ByteArray} {d : Nat} {σ u : kS}
/-- how much the texts hold -/
theorem k_packT1 (K : kK) (ty : kTY σ) {il sl : List Nat} {vs : List VR} {M T : Int32} (h : RST σ il sl vs M T) {m : Nat} (hm : m + txS vs ≤ 98304) (x1 : Int32) (hK : ∀ x2 x3, x2 = nI (m + txS vs) → kjY kPP (kQQ Y) d 142 26 [some (.ref 59), some (.int x1), some (.int x2), some (.int x3), none, none, none] [] σ K) : ∀ (f i : Nat) (x2 x3 : Int32), i + f = vs.length → x3 = nI i → x2 = nI (m + txS (vs.take i)) →
    kjY kPP (kQQ Y) d 142 4 [some (.ref 59), some (.int x1), some (.int x2), some (.int x3), none, none, none] [] σ K := by
  obtain ⟨ri, rs, rh, NK, rt, NT, rn, Nn, te, rc, NC, rm, Nm, ce, ls, hG⟩ := h
  have hGo := hG
  obtain ⟨⟨⟨i1, i2⟩, ⟨i3, i4⟩, ⟨i5, i6⟩, i7, i8⟩, a2, a3, ⟨⟨b1, b2, b3, b4, b5⟩, ⟨b6, b6b, b6c⟩, b7, b8, b9, b10⟩, a5, a6, a7⟩ := hG
  intro f
  induction f with
  | zero =>
    intro i x2 x3 hi e3 e2
    refine kjZ_y rfl rfl 4 _ _ _ _ ty ?_
    refine (And.intro (ty.k (by decide) rfl) (And.intro (fun c => ?_) (fun c => ?_)))
    · refine hK x2 x3 ?_
      rw [e2, List.take_of_length_le (by omega)]
    · refine absurd (show σ.1 59 6 ≤ x3 from ?_) c
      rw [b2, e3, nle (by omega) (by omega)]; omega
  | succ f ih =>
    intro i x2 x3 hi e3 e2
    have hr : vs[i]? = some vs[i] := List.getElem?_eq_getElem (by omega)
    obtain ⟨l, hl, hV, g1, g2, g3, g4, g5, g6, g7⟩ := hGo.v hr
    have v3 : vp_in x3 NK := by rw [e3]; exact vp_in_nI (by omega) (by omega)
    have ef : σ.2.2.1 rh x3.toNatClampNeg = some vs[i].1 := by rw [e3, nI_clamp (by omega)]; exact b9 i _ hr
    have kv : (σ.2.2.2.1 vs[i].1).1 = 11 := by rw [hV.1.1]
    have hle := txS_le vs (i + 1)
    have htk := txS_take hr
    refine kjZ_y rfl rfl 4 _ _ _ _ ty ?_
    refine (And.intro (ty.k (by decide) rfl) (And.intro (fun c => ?_) (fun c => ?_)))
    · refine absurd (show σ.1 59 6 ≤ x3 from c) ?_
      rw [b2, e3, nle (by omega) (by omega)]; omega
    refine kjZ_y rfl rfl 7 _ _ _ _ ty ?_
    refine (And.intro (ty.k (by decide) rfl) (Exists.intro _ (And.intro i5 (Or.inl (And.intro (Or.inr (kdk i6)) (And.intro (kdv i6 v3) (Exists.intro _ (And.intro ef (And.intro (by assumption) (And.intro (fun c2 => ?_) (fun c2 => ?_)))))))))))
    · have c2 : ¬ σ.1 vs[i].1 1 = 0 := c2
      have hk : ¬ vs[i].2.1 = 0 := fun z => c2 (by rw [hV.1.2.2.1, z]; rfl)
      refine kjZ_y rfl rfl 5 _ _ _ _ ty ?_
      refine (And.intro (Nat.le_of_ble_eq_true rfl) ?_)
      refine ih (i + 1) _ _ (by omega) (by rw [e3]; exact nI_1 i) ?_
      rw [htk, if_neg hk, e2]; exact nI_add _ 0
    · have c2 : σ.1 vs[i].1 1 = 0 := Decidable.not_not.mp c2
      rw [hV.1.2.2.1] at c2
      have hk : vs[i].2.1 = 0 := (nI_eq (b := 0) (by have := hV.1.2.1; omega) (by decide)).mp c2
      refine kjZ_y rfl rfl 10 _ _ _ _ ty ?_
      refine (And.intro (ty.k (by decide) rfl) (Exists.intro _ (And.intro i5 (Or.inl (And.intro (Or.inr (kdk i6)) (And.intro (kdv i6 v3) (Exists.intro _ (And.intro ef (And.intro (by assumption) (And.intro (Nat.le_of_ble_eq_true rfl) ?_))))))))))
      refine ih (i + 1) _ _ (by omega) (by rw [e3]; exact nI_1 i) ?_
      rw [htk, if_pos hk, e2, hV.2.1.1, nI_add]; congr 1; omega
/-- how long the row must be -/
theorem k_packT2 (K : kK) (ty : kTY σ) {H L0 : Nat} (hH : H ≤ 98304) (x1 x2 : Int32) (e2 : x2 = nI H) (hK : ∀ L x3, P2 L → L ≤ 131072 → L0 ≤ L → H ≤ L / 4 * 3 → x3 = nI L → kjY kPP (kQQ Y) d 142 45 [some (.ref 59), some (.int x1), some (.int x2), some (.int x3), none, none, none] [] σ K) : ∀ (f L : Nat) (x3 : Int32), 262144 < L + f → P2 L → L ≤ 131072 → L0 ≤ L → x3 = nI L →
    kjY kPP (kQQ Y) d 142 30 [some (.ref 59), some (.int x1), some (.int x2), some (.int x3), none, none, none] [] σ K := by
  intro f
  induction f using Nat.strongRecOn with
  | _ f ih =>
    intro L x3 hf hp hL hL0 e3
    have e4 : x3 / Int32.ofInt 4 * Int32.ofInt 3 = nI (L / 4 * 3) := by
      rw [e3, show nI L / Int32.ofInt 4 = nI (L / 4) from pk_div (d := 4) (by omega) (by decide) (by decide)]; exact pk_mul _ 3
    have hq := hp.q
    refine kjZ_y rfl rfl 7 _ _ _ _ ty ?_
    refine (And.intro (by decide) (And.intro (fun c => ?_) (fun c => ?_)))
    · have c : x2 ≤ x3 / Int32.ofInt 4 * Int32.ofInt 3 := c
      rw [e4, e2, nle (by omega) (by omega)] at c
      exact hK L x3 hp hL hL0 c e3
    have c : ¬ x2 ≤ x3 / Int32.ofInt 4 * Int32.ofInt 3 := c
    rw [e4, e2, nle (by omega) (by omega)] at c
    refine kjZ_y rfl rfl 3 _ _ _ _ ty ?_
    refine And.intro (fun c2 => ?_) (fun c2 => ?_)
    · refine absurd (show nI 1048576 ≤ x3 from c2) ?_
      rw [e3, nle (by omega) (by omega)]; omega
    refine kjZ_y rfl rfl 5 _ _ _ _ ty ?_
    refine (And.intro (Nat.le_of_ble_eq_true rfl) ?_)
    have h2 : 2 * L ≤ 131072 := P2.cap (c := 11) hp (by show L < 131072; omega)
    refine ih (f - L) (by have := hp.le; omega) (2 * L) _ (by omega) hp.two h2 (by omega) ?_
    rw [e3, show nI L * Int32.ofInt 2 = nI (L * 2) from pk_mul L 2]; congr 1; omega
/-- how far the texts have moved -/
def PKI (σ : kS) (vs : List VR) (gp i : Nat) (u : kS) : Prop := u.2 = σ.2 ∧ (∀ h x, ¬ σ.2.2.2.1 h = (11, 0) → ¬ h = gp → ¬ (h = 59 ∧ x = 9) → u.1 h x = σ.1 h x) ∧ (∀ s r x, vs[s]? = some r → ((¬ x = 7 ∧ ¬ x = 8) ∨ i ≤ s ∨ ¬ r.2.1 = 0) → u.1 r.1 x = σ.1 r.1 x) ∧ (∀ s r, vs[s]? = some r → s < i → r.2.1 = 0 → u.1 r.1 7 = nI (txS (vs.take s)) ∧ u.1 r.1 8 = nI r.2.2.1 ∧ wd (u.1 gp) (txS (vs.take s)) r.2.2.1 = r.2.2.2.2.2.2.1) ∧ u.1 59 9 = nI (txS (vs.take i))
theorem k_packT3 (K : kK) (ty : kTY σ) (ow : OWN σ) {il sl : List Nat} {vs : List VR} {M T : Int32} {ri rs rh NK rt NT rn Nn te rc NC rm Nm ce : Nat} {ls : List (Nat × Nat)} (h : RSG σ il sl vs M T ri rs rh NK rt NT rn Nn te rc NC rm Nm ce ls) {gp L : Nat} {σ1 : kS} (ty1 : kTY σ1) (x1 x2 x3 : Int32)
    (f1 : σ1.2.2.1 59 5 = some rh ∧ σ1.2.2.1 59 7 = some rt) (f2 : ∀ h, h < σ.2.2.2.2.1 → σ1.2.2.2.1 h = σ.2.2.2.1 h ∧ σ1.1 h = σ.1 h ∧ σ1.2.2.1 h = σ.2.2.1 h) (f3 : σ1.2.2.2.1 gp = (21, L)) (f4 : ¬ gp = rt ∧ ¬ gp = 59 ∧ ∀ r ∈ vs, ¬ gp = r.1) (hL : txS vs ≤ L ∧ L ≤ 131072)
    (hK : ∀ u o5 o6, kTY u → PKI σ1 vs gp vs.length u → kjY kPP (kQQ Y) (d + 1) 142 104 [some (.ref 59), some (.int x1), some (.int x2), some (.int x3), some (.ref gp), o5, o6] [] u K) : ∀ (f i : Nat) (x5 : Int32) (o6 : Option Value) (u : kS), i + f = vs.length → x5 = nI i → kTY u → PKI σ1 vs gp i u →
    kjY kPP (kQQ Y) (d + 1) 142 65 [some (.ref 59), some (.int x1), some (.int x2), some (.int x3), some (.ref gp), some (.int x5), o6] [] u K := by
  have t76 := ty.2.2.2.1
  have hGo := h
  obtain ⟨⟨⟨i1, i2⟩, ⟨i3, i4⟩, ⟨i5, i6⟩, i7, i8⟩, ⟨⟨t1, t2⟩, ⟨t3, t4⟩, t5, t6, t7, t8, t9, t10⟩, a3, ⟨⟨b1, b2, b3, b4, b5⟩, ⟨b6, b6b, b6c⟩, b7, b8, b9, b10⟩, a5, a6, a7⟩ := h
  have lrh := ty.lr i6 (by decide)
  have lrt := ty.lr t2 (by decide)
  have k59 : ¬ σ1.2.2.2.1 59 = (11, 0) := by rw [ty1.kl (h := 59) (c := (4, 0)) (by decide) rfl]; decide
  have lv : ∀ {s : Nat} {r : VR}, vs[s]? = some r → σ.2.2.2.1 r.1 = (11, 0) ∧ r.1 < σ.2.2.2.2.1 ∧ σ1.2.2.2.1 r.1 = (11, 0) := fun {s r} hs => by
    obtain ⟨l, hl, hV, -⟩ := hGo.v hs
    have q := ty.lt (h := r.1) (by rw [hV.1.1]; decide)
    exact ⟨hV.1.1, q, by rw [(f2 _ q).1]; exact hV.1.1⟩
  have nrt : ¬ σ1.2.2.2.1 rt = (11, 0) := by rw [(f2 rt lrt).1, t2]; simp
  intro f
  induction f with
  | zero =>
    intro i x5 o6 u hi e5 tu pk
    have e6 : u.1 59 6 = nI vs.length := by rw [pk.2.1 59 6 k59 (fun z => f4.2.1 z.symm) (fun z => by omega), (f2 59 (by omega)).2.1]; exact b2
    refine kjZ_y rfl rfl 4 _ _ _ _ tu ?_
    refine (And.intro (tu.k (by decide) rfl) (And.intro (fun c => ?_) (fun c => ?_)))
    · exact hK u _ _ tu (by rw [show vs.length = i by omega]; exact pk)
    · refine absurd (show u.1 59 6 ≤ x5 from ?_) c
      rw [e6, e5, nle (by omega) (by omega)]; omega
  | succ f ih =>
    intro i x5 o6 u hi e5 tu pk
    have e6 : u.1 59 6 = nI vs.length := by rw [pk.2.1 59 6 k59 (fun z => f4.2.1 z.symm) (fun z => by omega), (f2 59 (by omega)).2.1]; exact b2
    have hr : vs[i]? = some vs[i] := List.getElem?_eq_getElem (by omega)
    obtain ⟨l, hl, hV, g1, g2, g3, g4, g5, g6, g7⟩ := hGo.v hr
    obtain ⟨v1, v2, v3⟩ := lv hr
    have eF : u.2.2.1 = σ1.2.2.1 := congrArg (fun t => t.2.1) pk.1
    have eD : u.2.2.2.1 = σ1.2.2.2.1 := congrArg (fun t => t.2.2.1) pk.1
    have vp5 : vp_in x5 NK := by rw [e5]; exact vp_in_nI (by omega) (by omega)
    have j5 : u.2.2.1 59 5 = some rh := by rw [eF]; exact f1.1
    have j6 : u.2.2.2.1 rh = (25, NK) := by rw [eD, (f2 rh lrh).1]; exact i6
    have ef : u.2.2.1 rh x5.toNatClampNeg = some vs[i].1 := by rw [e5, nI_clamp (by omega), eF, (f2 rh lrh).2.2]; exact b9 i _ hr
    have kv : (u.2.2.2.1 vs[i].1).1 = 11 := by rw [eD, v3]
    have eI : ∀ x, u.1 vs[i].1 x = σ.1 vs[i].1 x := fun x => by rw [pk.2.2.1 i _ x hr (Or.inr (Or.inl (Nat.le_refl _))), (f2 _ v2).2.1]
    refine kjZ_y rfl rfl 4 _ _ _ _ tu ?_
    refine (And.intro (tu.k (by decide) rfl) (And.intro (fun c => ?_) (fun c => ?_)))
    · refine absurd (show u.1 59 6 ≤ x5 from c) ?_
      rw [e6, e5, nle (by omega) (by omega)]; omega
    have htk := txS_take hr
    have nxt : ∀ w o6', kTY w → PKI σ1 vs gp (i + 1) w → kjY kPP (kQQ Y) (d + 1) 142 102 [some (.ref 59), some (.int x1), some (.int x2), some (.int x3), some (.ref gp), some (.int x5), o6'] [] w K := by
      intro w o6' tw pw
      refine kjZ_y rfl rfl 2 _ _ _ _ tw ?_
      exact ih (i + 1) _ o6' w (by omega) (by rw [e5]; exact nI_1 i) tw pw
    refine kjZ_y rfl rfl 8 _ _ _ _ tu ?_
    refine (And.intro (tu.k (by decide) rfl) (Exists.intro _ (And.intro j5 (Or.inl (And.intro (Or.inr (kdk j6)) (And.intro (kdv j6 vp5) (Exists.intro _ (And.intro ef (And.intro (Nat.le_of_ble_eq_true rfl) (And.intro (by assumption) (And.intro (fun c2 => ?_) (fun c2 => ?_))))))))))))
    · have c2 : ¬ u.1 vs[i].1 1 = 0 := c2
      have hk : ¬ vs[i].2.1 = 0 := fun z => c2 (by rw [eI 1, hV.1.2.2.1, z]; rfl)
      refine nxt u _ tu ⟨pk.1, pk.2.1, fun s r x hs q => ?_, fun s r hs hsi hk0 => ?_, ?_⟩
      · by_cases z : s = i
        · rw [z] at hs
          exact pk.2.2.1 i r x hs (Or.inr (Or.inl (Nat.le_refl _)))
        · refine pk.2.2.1 s r x hs ?_
          rcases q with q | q | q
          · exact Or.inl q
          · exact Or.inr (Or.inl (by omega))
          · exact Or.inr (Or.inr q)
      · refine pk.2.2.2.1 s r hs (Nat.lt_of_le_of_ne (by omega) (fun z => ?_)) hk0
        rw [z, hr] at hs; cases hs; exact hk hk0
      · rw [htk, if_neg hk]; exact pk.2.2.2.2
    · have c2 : u.1 vs[i].1 1 = 0 := Decidable.not_not.mp c2
      rw [eI 1, hV.1.2.2.1] at c2
      have hk : vs[i].2.1 = 0 := (nI_eq (b := 0) (by have := hV.1.2.1; omega) (by decide)).mp c2
      have hat := txS_at hr hk
      obtain ⟨d1, d2, d3, d4, d5⟩ := hV.2.2.2.1 hk
      have d4 : l.1 + l.2 ≤ te ∨ (l.2 = 0 ∧ l.1 ≤ NT) := by rw [t2] at d4; exact d4
      have j7 : u.2.2.1 59 7 = some rt := by rw [eF]; exact f1.2
      have j7d : u.2.2.2.1 rt = (21, NT) := by rw [eD, (f2 rt lrt).1]; exact t2
      have jgp : u.2.2.2.1 gp = (21, L) := by rw [eD]; exact f3
      have hnl := hV.2.2.1
      refine kjZ_y rfl rfl 10 _ _ _ _ tu ?_
      refine (And.intro (tu.k (by decide) rfl) (Exists.intro _ (And.intro j7 (And.intro (by assumption) (And.intro (tu.k (by decide) rfl) (And.intro (by assumption) (Exists.intro l.1 (Exists.intro (txS (vs.take i)) (Exists.intro (vs[i].2.2.1) (And.intro ⟨by rw [eI 7]; exact hV.2.1.2.1, pk.2.2.2.2, by rw [eI 6]; exact hV.2.1.1⟩ (And.intro ⟨by rw [j7d, jgp], by rw [j7d]; show _ ≤ NT; omega, by rw [jgp]; show _ ≤ L; omega⟩ (And.intro ⟨(Nat.le_of_ble_eq_true rfl), (Nat.le_of_ble_eq_true rfl)⟩ (Or.inl (And.intro (Or.inr (kdk jgp)) (fun tu' => ?_)))))))))))))))
      have ert : u.1 rt = σ.1 rt := funext fun j => by rw [pk.2.1 rt j nrt (fun z => f4.1 z.symm) (fun z => by
        rw [z.1, ty.kl (h := 59) (c := (4, 0)) (by decide) rfl] at t2; exact absurd t2 (by simp)), (f2 rt lrt).2.1]
      have go : ∀ w, kTY w → w = (kUp u.1 gp (va_cpy (u.1 rt) (u.1 gp) l.1 (txS (vs.take i)) vs[i].2.2.1), u.2) → kjY kPP (kQQ Y) (d + 1) 142 87 [some (.ref 59), some (.int x1), some (.int x2), some (.int x3), some (.ref gp), some (.int x5), some (.ref vs[i].1)] [] w K := by
        intro w tw ew
        have ngv : ¬ vs[i].1 = gp := fun z => f4.2.2 _ (List.mem_of_getElem? hr) z.symm
        have kw : (w.2.2.2.1 vs[i].1).1 = 11 := by rw [ew]; exact kv
        have ew9 : w.1 59 9 = nI (txS (vs.take i)) := by rw [ew]; show kUp u.1 gp _ 59 9 = _; rw [kUp_n (fun z => f4.2.1 z.symm)]; exact pk.2.2.2.2
        have ew6 : w.1 vs[i].1 6 = nI vs[i].2.2.1 := by rw [ew]; show kUp u.1 gp _ vs[i].1 6 = _; rw [kUp_n ngv, eI 6]; exact hV.2.1.1
        have n59v : ¬ 59 = vs[i].1 := k11 ty v1 (by decide)
        refine kjZ_y rfl rfl 15 _ _ _ _ tw ?_
        refine (And.intro (tw.k (by decide) rfl) (And.intro (by assumption) (And.intro (Or.inl rfl) (fun tw' => (And.intro (by assumption) (And.intro (by assumption) (And.intro (Or.inl rfl) (fun tw'' => (And.intro (tw''.k (by decide) rfl) (And.intro (by assumption) (And.intro (tw''.k (by decide) rfl) (And.intro (Or.inl rfl) (fun tw''' => ?_)))))))))))))
        have en : mjIu (mjIu w.1 vs[i].1 7 (w.1 59 9)) vs[i].1 8 (mjIu w.1 vs[i].1 7 (w.1 59 9) vs[i].1 6) 59 9 + mjIu (mjIu w.1 vs[i].1 7 (w.1 59 9)) vs[i].1 8 (mjIu w.1 vs[i].1 7 (w.1 59 9) vs[i].1 6) vs[i].1 6 = nI (txS (vs.take (i + 1))) := by
          rw [mjIu_at, if_neg (fun z => n59v z.1), mjIu_at, if_neg (fun z => n59v z.1), mjIu_at, if_neg (fun z => absurd z.2 (by decide)), mjIu_at, if_neg (fun z => absurd z.2 (by decide)), ew9, ew6, htk, if_pos hk, nI_add]
        refine nxt _ _ tw''' ?_
        have eW : ∀ h x, mjIu (mjIu (mjIu w.1 vs[i].1 7 (w.1 59 9)) vs[i].1 8 (mjIu w.1 vs[i].1 7 (w.1 59 9) vs[i].1 6)) 59 9 (mjIu (mjIu w.1 vs[i].1 7 (w.1 59 9)) vs[i].1 8 (mjIu w.1 vs[i].1 7 (w.1 59 9) vs[i].1 6) 59 9 + mjIu (mjIu w.1 vs[i].1 7 (w.1 59 9)) vs[i].1 8 (mjIu w.1 vs[i].1 7 (w.1 59 9) vs[i].1 6) vs[i].1 6) h x = if h = 59 ∧ x = 9 then nI (txS (vs.take (i + 1))) else if h = vs[i].1 ∧ x = 8 then nI vs[i].2.2.1 else if h = vs[i].1 ∧ x = 7 then nI (txS (vs.take i)) else if h = gp then va_cpy (u.1 rt) (u.1 gp) l.1 (txS (vs.take i)) vs[i].2.2.1 x else u.1 h x := by
          intro h x
          rw [en, mjIu_at, mjIu_at, mjIu_at (i := 7), mjIu_at (i := 7), if_neg (show ¬ (vs[i].1 = vs[i].1 ∧ 6 = 7) from fun z => absurd z.2 (by decide)), ew6, ew9]
          by_cases z : h = gp
          · rw [if_pos z]
            have : w.1 h x = va_cpy (u.1 rt) (u.1 gp) l.1 (txS (vs.take i)) vs[i].2.2.1 x := by rw [ew, z]; show kUp u.1 gp _ gp x = _; rw [kUp_s]
            rw [this]
          · rw [if_neg z]
            have : w.1 h x = u.1 h x := by rw [ew]; show kUp u.1 gp _ h x = _; rw [kUp_n z]
            rw [this]
        refine ⟨by show w.2 = _; rw [ew]; exact pk.1, fun h x z1 z2 z3 => (eW h x).trans ?_, fun s r x hs q => (eW r.1 x).trans ?_, fun s r hs hsi hk0 => ⟨(eW r.1 7).trans ?_, (eW r.1 8).trans ?_, ?_⟩, (eW 59 9).trans (if_pos ⟨rfl, rfl⟩)⟩
        · rw [if_neg z3, if_neg (fun y => z1 (by rw [y.1]; exact v3)), if_neg (fun y => z1 (by rw [y.1]; exact v3)), if_neg z2]; exact pk.2.1 h x z1 z2 z3
        · have nr59 : ¬ r.1 = 59 := fun z => k11 ty (lv hs).1 (show 59 < 76 by decide) z.symm
          have nrg : ¬ r.1 = gp := fun z => f4.2.2 _ (List.mem_of_getElem? hs) z.symm
          rw [if_neg (fun y => nr59 y.1)]
          by_cases z : s = i
          · rw [z, hr] at hs; cases hs
            rcases q with q | q | q
            · rw [if_neg (fun y => q.2 y.2), if_neg (fun y => q.1 y.2), if_neg nrg]; exact pk.2.2.1 i _ x hr (Or.inr (Or.inl (Nat.le_refl _)))
            · omega
            · exact absurd hk q
          · have nri := nd_ne b10 hs hr z
            rw [if_neg (fun y => nri y.1), if_neg (fun y => nri y.1), if_neg nrg]
            refine pk.2.2.1 s r x hs ?_
            rcases q with q | q | q
            · exact Or.inl q
            · exact Or.inr (Or.inl (by omega))
            · exact Or.inr (Or.inr q)
        · have nr59 : ¬ r.1 = 59 := fun z => k11 ty (lv hs).1 (show 59 < 76 by decide) z.symm
          have nrg : ¬ r.1 = gp := fun z => f4.2.2 _ (List.mem_of_getElem? hs) z.symm
          rw [if_neg (fun y => nr59 y.1), if_neg (fun y => absurd y.2 (by decide))]
          by_cases z : s = i
          · rw [z, hr] at hs; cases hs; rw [if_pos ⟨rfl, rfl⟩, z]
          · have nri := nd_ne b10 hs hr z
            rw [if_neg (fun y => nri y.1), if_neg nrg]; exact (pk.2.2.2.1 s r hs (by omega) hk0).1
        · have nr59 : ¬ r.1 = 59 := fun z => k11 ty (lv hs).1 (show 59 < 76 by decide) z.symm
          have nrg : ¬ r.1 = gp := fun z => f4.2.2 _ (List.mem_of_getElem? hs) z.symm
          rw [if_neg (fun y => nr59 y.1)]
          by_cases z : s = i
          · rw [z, hr] at hs; cases hs; rw [if_pos ⟨rfl, rfl⟩]
          · have nri := nd_ne b10 hs hr z
            rw [if_neg (fun y => nri y.1), if_neg (fun y => nri y.1), if_neg nrg]; exact (pk.2.2.2.1 s r hs (by omega) hk0).2.1
        · have eg : ∀ j, mjIu (mjIu (mjIu w.1 vs[i].1 7 (w.1 59 9)) vs[i].1 8 (mjIu w.1 vs[i].1 7 (w.1 59 9) vs[i].1 6)) 59 9 (mjIu (mjIu w.1 vs[i].1 7 (w.1 59 9)) vs[i].1 8 (mjIu w.1 vs[i].1 7 (w.1 59 9) vs[i].1 6) 59 9 + mjIu (mjIu w.1 vs[i].1 7 (w.1 59 9)) vs[i].1 8 (mjIu w.1 vs[i].1 7 (w.1 59 9) vs[i].1 6) vs[i].1 6) gp j = va_cpy (u.1 rt) (u.1 gp) l.1 (txS (vs.take i)) vs[i].2.2.1 j := fun j => by rw [eW, if_neg (fun y => f4.2.1 y.1), if_neg (fun y => ngv y.1.symm), if_neg (fun y => ngv y.1.symm), if_pos rfl]
          by_cases z : s = i
          · rw [z, hr] at hs; cases hs
            rw [z]
            refine Eq.trans (wd_congr fun k hk2 => (eg _).trans ?_) d5
            rw [pk_cpy_in (by omega) (by omega), ert]; exact congrArg (σ.1 rt) (by omega)
          · have hm := txS_mono vs (show s + 1 ≤ i by omega)
            have h2 := txS_take hs
            rw [if_pos hk0] at h2
            refine Eq.trans (wd_congr fun k hk2 => (eg _).trans ?_) (pk.2.2.2.1 s r hs (by omega) hk0).2.2
            rw [pk_cpy_out (Or.inl (by omega))]
      exact go _ tu' rfl
end KPACKT
