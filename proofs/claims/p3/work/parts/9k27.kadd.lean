/-! Words: a new word; a word's number. -/
theorem nle {a b : Nat} (ha : a < 2 ^ 31) (hb : b < 2 ^ 31) : nI a ≤ nI b ↔ a ≤ b := by
  rw [Int32.le_iff_toInt_le, nI_toInt ha, nI_toInt hb]; omega
theorem nlt {a b : Nat} (ha : a < 2 ^ 31) (hb : b < 2 ^ 31) : nI a < nI b ↔ a < b := by
  rw [Int32.lt_iff_toInt_lt, nI_toInt ha, nI_toInt hb]; omega
theorem gr_ow {σ u : kS} {p : Nat × Nat} {r N M k : Nat} (ty : kTY σ) (ow : OWN σ) (g : grP σ p r N M k u) : OWN u :=
  OWN.new ty ow (fun q hq c => g.2.2.2.2.1 q.1 q.2 (p76 ty hq) c) g.1 (Nat.le_refl _)
theorem gr_pot {σ u : kS} {p : Nat × Nat} {r N M k c : Nat} (ty : kTY σ) (hp : p ∈ OWr) (po : POT σ) (hr : σ.2.2.1 p.1 p.2 = some r) (hk : σ.2.2.2.1 r = (k, N)) (hc : c ≤ (kcapR p).1) (hN : N < c ∧ c ≤ M ∧ 64 ≤ M ∧ 2 * N ≤ M ∧ M ≤ 2 * c) (g : grP σ p r N M k u) : POT u := by
  have hps : p ∈ OWs := List.mem_append_right _ (List.mem_append_left _ hp)
  have ek : kl σ p = N := by unfold kl; rw [hr]; show (σ.2.2.2.1 r).2 = N; rw [hk]
  obtain ⟨g1, g2, g3, g4, g5, g6, g7, g8⟩ := g
  have t76 := ty.2.2.2.1
  refine POT.growR (c := c) (N := M) hp po (by rw [ek]; exact hN.1) hc ⟨hN.2.1, hN.2.2.1, by rw [ek]; exact hN.2.2.2.1, hN.2.2.2.2⟩ ?_ (fun q hq c => kl_eq ty g6 hq (g5 q.1 q.2 (p76 ty hq) c)) (fun b hb => by rw [(g4 b (p76 ty (ow_b hb))).1]) (by rw [(g4 59 (by omega)).1]) g7
  unfold kl; rw [g1]; show (u.2.2.2.1 σ.2.2.2.2.1).2 = M; rw [g2]
def WRG (σ : kS) (nm : List (List Int32)) (rb NB rs NS rc NC : Nat) : Prop := (σ.2.2.1 48 0 = some rb ∧ σ.2.2.2.1 rb = (21, NB) ∧ NB ≤ 470000 ∧ 64 ≤ NB) ∧ (σ.2.2.1 48 1 = some rs ∧ σ.2.2.2.1 rs = (20, NS) ∧ σ.2.2.1 48 2 = some rc ∧ σ.2.2.2.1 rc = (20, NC) ∧ NS ≤ 72000 ∧ 64 ≤ NS) ∧ nm.length + 1 ≤ NS ∧ σ.1 48 4 = nI nm.length ∧
  (∀ i, i ≤ nm.length → σ.1 rs i = nI (sl (nm.take i))) ∧ sl nm ≤ NB ∧ (∀ i w, nm[i]? = some w → wd (σ.1 rb) (sl (nm.take i)) w.length = w) ∧ nm.Nodup ∧ (∀ b, b < 1024 → σ.1 52 b = lastB nm b nm.length + 1) ∧ (∀ i, i < nm.length → σ.1 rc i = lastB nm (hB (nm.getD i [])).toNatClampNeg i)
theorem WRG.d {σ : kS} {nm : List (List Int32)} {rb NB rs NS rc : Nat} (h : WRG σ nm rb NB rs NS rc NS) : WRD σ nm := ⟨rb, NB, rs, NS, rc, h⟩
theorem WRD.g {σ : kS} {nm : List (List Int32)} (h : WRD σ nm) : ∃ rb NB rs NS rc, WRG σ nm rb NB rs NS rc NS := h
theorem WRG.of {σ u : kS} {nm : List (List Int32)} {rb NB rs NS rc NC rb' NB' rs' NS' rc' NC' : Nat} (h : WRG σ nm rb NB rs NS rc NC) (hn : nm.length ≤ NC) (fb : u.2.2.1 48 0 = some rb' ∧ u.2.2.2.1 rb' = (21, NB') ∧ NB ≤ NB' ∧ NB' ≤ 470000) (fs : u.2.2.1 48 1 = some rs' ∧ u.2.2.2.1 rs' = (20, NS') ∧ NS ≤ NS' ∧ NS' ≤ 72000) (fc : u.2.2.1 48 2 = some rc' ∧ u.2.2.2.1 rc' = (20, NC')) (e4 : u.1 48 4 = σ.1 48 4) (eb : ∀ j, j < sl nm → u.1 rb' j = σ.1 rb j) (es : ∀ j, j < NS → u.1 rs' j = σ.1 rs j) (ec : ∀ j, j < NC → u.1 rc' j = σ.1 rc j) (eh : ∀ b, u.1 52 b = σ.1 52 b) : WRG u nm rb' NB' rs' NS' rc' NC' := by
  obtain ⟨⟨b1, b2, b3, b3'⟩, ⟨s1, s2, s3, s4, s5, s5'⟩, a1, a2, a3, a4, a5, a6, a7, a8⟩ := h
  refine ⟨⟨fb.1, fb.2.1, fb.2.2.2, by omega⟩, ⟨fs.1, fs.2.1, fc.1, fc.2, fs.2.2.2, by omega⟩, by omega, e4.trans a2, fun i hi => (es i (by omega)).trans (a3 i hi), by omega, fun i w hi => ?_, a6, fun b hb => (eh b).trans (a7 b hb), fun i hi => (ec i (by omega)).trans (a8 i hi)⟩
  have q := a5 i w hi
  have q3 := sl_take_s hi
  have q4 := sl_take_le nm (i + 1)
  refine Eq.trans (wd_congr fun k hk => ?_) q
  exact eb _ (by omega)
theorem WRG.ne {σ : kS} {nm : List (List Int32)} {rb NB rs NS rc NC : Nat} (ow : OWN σ) (ty : kTY σ) (h : WRG σ nm rb NB rs NS rc NC) : (¬ rb = rs ∧ ¬ rb = rc ∧ ¬ rs = rc) ∧ (¬ rb = 52 ∧ ¬ rs = 52 ∧ ¬ rc = 52) ∧ (¬ rb = 48 ∧ ¬ rs = 48 ∧ ¬ rc = 48) := by
  obtain ⟨⟨b1, b2, b3, b3'⟩, ⟨s1, s2, s3, s4, s5, s5'⟩, -⟩ := h
  have k48 : (σ.2.2.2.1 48).1 = 2 := ty.k (by decide) rfl
  have f52 : σ.2.2.1 48 3 = some 52 := (ty.2.2.2.2.2.2.2.1 48 3 (by rw [k48]; decide) (by rw [k48]; decide) |> fun z => by rw [k48] at z; exact z.1)
  refine ⟨⟨fun z => ?_, fun z => ?_, fun z => ?_⟩, ⟨fun z => ?_, fun z => ?_, fun z => ?_⟩, ⟨fun z => ?_, fun z => ?_, fun z => ?_⟩⟩
  · exact absurd (ow (48, 0) (by decide) (48, 1) (by decide) (by show σ.2.2.1 48 0 = σ.2.2.1 48 1; rw [b1, s1, z])) (by decide)
  · exact absurd (ow (48, 0) (by decide) (48, 2) (by decide) (by show σ.2.2.1 48 0 = σ.2.2.1 48 2; rw [b1, s3, z])) (by decide)
  · exact absurd (ow (48, 1) (by decide) (48, 2) (by decide) (by show σ.2.2.1 48 1 = σ.2.2.1 48 2; rw [s1, s3, z])) (by decide)
  · exact absurd (ow (48, 0) (by decide) (48, 3) (by decide) (by show σ.2.2.1 48 0 = σ.2.2.1 48 3; rw [b1, f52, z])) (by decide)
  · exact absurd (ow (48, 1) (by decide) (48, 3) (by decide) (by show σ.2.2.1 48 1 = σ.2.2.1 48 3; rw [s1, f52, z])) (by decide)
  · exact absurd (ow (48, 2) (by decide) (48, 3) (by decide) (by show σ.2.2.1 48 2 = σ.2.2.1 48 3; rw [s3, f52, z])) (by decide)
  · rw [z] at b2; rw [b2] at k48; exact absurd k48 (show ¬ (21 : Nat) = 2 by decide)
  · rw [z] at s2; rw [s2] at k48; exact absurd k48 (show ¬ (20 : Nat) = 2 by decide)
  · rw [z] at s4; rw [s4] at k48; exact absurd k48 (show ¬ (20 : Nat) = 2 by decide)
theorem lastB_app {nm : List (List Int32)} {w : List Int32} {b : Nat} : ∀ {k : Nat}, k ≤ nm.length → lastB (nm ++ [w]) b k = lastB nm b k := by
  intro k
  induction k with
  | zero => intro _; rfl
  | succ k ih =>
    intro hk
    have e : (nm ++ [w]).getD k [] = nm.getD k [] := by rw [List.getD_eq_getElem?_getD, List.getD_eq_getElem?_getD, List.getElem?_append_left (by omega)]
    show (if (hB ((nm ++ [w]).getD k [])).toNatClampNeg = b then nI k else lastB (nm ++ [w]) b k) = if (hB (nm.getD k [])).toNatClampNeg = b then nI k else lastB nm b k
    rw [e, ih (by omega)]
theorem getD_last (nm : List (List Int32)) (w : List Int32) : (nm ++ [w]).getD nm.length [] = w := by
  rw [List.getD_eq_getElem?_getD, List.getElem?_append_right (Nat.le_refl _), Nat.sub_self]; rfl
/-- what the words' own methods may change -/
abbrev wFs : List (Nat × Nat) := [(48, 0), (48, 1), (48, 2), (48, 4)]
abbrev wOs : List (Nat × Nat) := [(48, 0), (48, 1), (48, 2), (48, 3)]
theorem wOs_in : ∀ p ∈ wOs, p ∈ OWs := by decide
def adP (σ : kS) (nm : List (List Int32)) (w : List Int32) : kK := fun r u => r = some (.int (nI nm.length)) ∧ WRD u (nm ++ [w]) ∧ OWN u ∧ POT u ∧ Ch false wFs wOs σ u
section KADD
variable {Y : Nat → MethodName × ByteArray} {d : Nat} {σ : kS}
/-- the last writes -/
theorem k_add3 {σ0 : kS} (ty0 : kTY σ0) (ty : kTY σ) (ow : OWN σ) (po : POT σ) {nm : List (List Int32)} {rb NB rs NS rc : Nat} (hw : WRG σ nm rb NB rs NS rc NS) (hn : nm.length + 2 ≤ NS) {w : List Int32} (hx : w ∉ nm) (hb : sl nm + w.length ≤ NB) (hwd : wd (σ.1 rb) (sl nm) w.length = w) (ch : Ch false wFs wOs σ0 σ) (x1 x3 x4 x5 : Int32) (g : Nat) (e1 : x1 = hB w) (e4 : x4 = nI w.length) (e5 : x5 = nI (sl nm)) :
    kjY kPP (kQQ Y) d 78 64 [some (.ref 48), some (.int x1), some (.ref g), some (.int x3), some (.int x4), some (.int x5)] [] σ (adP σ0 nm w) := by
  obtain ⟨⟨n1, n2, n3⟩, ⟨n4, n5, n6⟩, ⟨n7, n8, n9⟩⟩ := hw.ne ow ty
  have hwo := hw
  obtain ⟨⟨b1, b2, b3, b3'⟩, ⟨s1, s2, s3, s4, s5, s5'⟩, a1, a2, a3, a4, a5, a6, a7, a8⟩ := hw
  have vh : vp_in x1 1024 := by rw [e1]; exact hB_lt w
  have vc : vp_in (σ.1 48 4) NS := by rw [a2]; exact vp_in_nI (by omega) (by omega)
  have vs : vp_in (σ.1 48 4 + Int32.ofInt 1) NS := by rw [a2, show nI nm.length + Int32.ofInt 1 = nI (nm.length + 1) from nI_1 _]; exact vp_in_nI (by omega) (by omega)
  have c1 : (σ.1 48 4).toNatClampNeg = nm.length := by rw [a2]; exact nI_clamp (by omega)
  have c2 : (σ.1 48 4 + Int32.ofInt 1).toNatClampNeg = nm.length + 1 := by rw [a2, show nI nm.length + Int32.ofInt 1 = nI (nm.length + 1) from nI_1 _]; exact nI_clamp (by omega)
  have hh : x1.toNatClampNeg < 1024 := Nat.lt_of_not_le (fun z => vh (Or.inr z))
  have g0 : ∀ (v : Int32), mjIu σ.1 rc (σ.1 48 4).toNatClampNeg v 48 4 = σ.1 48 4 := fun v => by rw [mjIu_at, if_neg (fun z => n9 z.1.symm)]
  refine kjZ_y rfl rfl 11 _ _ _ _ ty ?_
  refine (And.intro (ty.k (by decide) rfl) (Exists.intro _ (And.intro s3 (And.intro (ty.k (by decide) rfl) (And.intro (ty.k (by decide) rfl) (Or.inl (And.intro (ty.k (by decide) rfl) (And.intro (kdw ty (by decide) rfl vh) (And.intro (kdk s4) (And.intro (kdv s4 vc) (fun ty' => ?_)))))))))))
  have go1 : ∀ u, kTY u → u = (mjIu σ.1 rc (σ.1 48 4).toNatClampNeg (σ.1 52 x1.toNatClampNeg - Int32.ofInt 1), σ.2) → kjY kPP (kQQ Y) d 78 75 [some (.ref 48), some (.int x1), some (.ref g), some (.int x3), some (.int x4), some (.int x5)] [] u (adP σ0 nm w) := by
    intro u tu eu
    rw [c1] at eu
    have f4 : u.1 48 4 = σ.1 48 4 := by rw [eu]; show mjIu σ.1 rc nm.length _ 48 4 = _; rw [mjIu_at, if_neg (fun z => n9 z.1.symm)]
    have us1 : u.2.2.1 48 1 = some rs := by rw [eu]; exact s1
    have us2 : u.2.2.2.1 rs = (20, NS) := by rw [eu]; exact s2
    refine kjZ_y rfl rfl 10 _ _ _ _ tu ?_
    refine (And.intro (tu.k (by decide) rfl) (Exists.intro _ (And.intro us1 (And.intro (tu.k (by decide) rfl) (And.intro (kdk us2) (And.intro (kdv us2 (by rw [f4]; exact vs)) (fun tu' => ?_)))))))
    have go2 : ∀ v, kTY v → v = (mjIu u.1 rs (u.1 48 4 + Int32.ofInt 1).toNatClampNeg (x5 + x4), u.2) → kjY kPP (kQQ Y) d 78 85 [some (.ref 48), some (.int x1), some (.ref g), some (.int x3), some (.int x4), some (.int x5)] [] v (adP σ0 nm w) := by
      intro v tv ev
      rw [f4, c2] at ev
      have f5 : v.1 48 4 = nI nm.length := by rw [ev]; show mjIu u.1 rs _ _ 48 4 = _; rw [mjIu_at, if_neg (fun z => n8 z.1.symm), f4, a2]
      refine kjZ_y rfl rfl 6 _ _ _ _ tv ?_
      refine (And.intro (tv.k (by decide) rfl) (And.intro (tv.k (by decide) rfl) (And.intro (Or.inl rfl) (fun tv' => ?_))))
      have go3 : ∀ y, kTY y → y = (mjIu v.1 48 4 (v.1 48 4 + Int32.ofInt 1), v.2) → kjY kPP (kQQ Y) d 78 91 [some (.ref 48), some (.int x1), some (.ref g), some (.int x3), some (.int x4), some (.int x5)] [] y (adP σ0 nm w) := by
        intro y ty1 ey
        rw [f5, show nI nm.length + Int32.ofInt 1 = nI (nm.length + 1) from nI_1 _] at ey
        have f6 : y.1 48 4 = nI (nm.length + 1) := by rw [ey]; show mjIu v.1 48 4 (nI (nm.length + 1)) 48 4 = nI (nm.length + 1); exact mjIu_p
        refine kjZ_y rfl rfl 6 _ _ _ _ ty1 ?_
        refine (And.intro (ty1.k (by decide) rfl) (And.intro (ty1.k (by decide) rfl) (And.intro (ty1.k (by decide) rfl) (And.intro (kdw ty1 (by decide) rfl vh) (fun ty1' => ?_)))))
        have go4 : ∀ z, kTY z → z = (mjIu y.1 52 x1.toNatClampNeg (y.1 48 4), y.2) → kjY kPP (kQQ Y) d 78 97 [some (.ref 48), some (.int x1), some (.ref g), some (.int x3), some (.int x4), some (.int x5)] [] z (adP σ0 nm w) := by
          intro z tz ez
          rw [f6] at ez
          have f7 : z.1 48 4 = nI (nm.length + 1) := by rw [ez]; show mjIu y.1 52 x1.toNatClampNeg (nI (nm.length + 1)) 48 4 = _; rw [mjIu_at, if_neg (fun q => absurd q.1 (by decide)), f6]
          refine kjZ_y rfl rfl 5 _ _ _ _ tz ?_
          refine (And.intro (tz.k (by decide) rfl) (And.intro rfl (And.intro (Or.inl rfl) ?_)))
          have eI : ∀ h k, z.1 h k = if h = 52 ∧ k = x1.toNatClampNeg then nI (nm.length + 1) else if h = 48 ∧ k = 4 then nI (nm.length + 1) else if h = rs ∧ k = nm.length + 1 then x5 + x4 else if h = rc ∧ k = nm.length then σ.1 52 x1.toNatClampNeg - Int32.ofInt 1 else σ.1 h k := by
            intro h k
            rw [ez]; show mjIu y.1 52 _ _ h k = _
            rw [mjIu_at, ey]; show (if _ then _ else mjIu v.1 48 4 _ h k) = _
            rw [mjIu_at, ev]; show (if _ then _ else if _ then _ else mjIu u.1 rs _ _ h k) = _
            rw [mjIu_at, eu]; show (if _ then _ else if _ then _ else if _ then _ else mjIu σ.1 rc _ _ h k) = _
            rw [mjIu_at]
          have e2 : z.2 = σ.2 := by rw [ez, ey, ev, eu]
          have eF : z.2.2.1 = σ.2.2.1 := congrArg (fun t => t.2.1) e2
          have eD : z.2.2.2.1 = σ.2.2.2.1 := congrArg (fun t => t.2.2.1) e2
          have ex : kEx σ z := ⟨by rw [e2]; exact Nat.le_refl _, fun h _ => by rw [eD], by rw [e2], by rw [e2]; exact Nat.le_refl _⟩
          have ow59 : ∀ q ∈ OWb, ¬ q = rs ∧ ¬ q = rc ∧ ¬ q = 52 ∧ ¬ q = 48 := fun q hq => by
            have kq := ob_k ty hq
            refine ⟨fun z => ?_, fun z => ?_, fun z => ?_, fun z => ?_⟩
            · rw [z, s2] at kq; exact absurd kq (show ¬ (20 : Nat) = 0 by decide)
            · rw [z, s4] at kq; exact absurd kq (show ¬ (20 : Nat) = 0 by decide)
            · rw [z] at hq; exact absurd hq (by decide)
            · rw [z] at hq; exact absurd hq (by decide)
          have n59 : ¬ 59 = rs ∧ ¬ 59 = rc := by
            have k59 : (σ.2.2.2.1 59).1 = 4 := ty.k (by decide) rfl
            exact ⟨fun z => by rw [z, s2] at k59; exact absurd k59 (show ¬ (20 : Nat) = 4 by decide), fun z => by rw [z, s4] at k59; exact absurd k59 (show ¬ (20 : Nat) = 4 by decide)⟩
          refine ⟨?_, ⟨rb, NB, rs, NS, rc, ⟨by rw [eF]; exact b1, by rw [eD]; exact b2, b3, b3'⟩, ⟨by rw [eF]; exact s1, by rw [eD]; exact s2, by rw [eF]; exact s3, by rw [eD]; exact s4, s5, s5'⟩, ?_, ?_, fun i hi => ?_, ?_, fun i q hi => ?_, ?_, fun b hb => ?_, fun i hi => ?_⟩, ow.same (fun p _ => by rw [eF]), po.same (fun p hp => kl_eq ty ex hp (by rw [eF])) (fun q hq => ?_) ?_ ⟨by rw [e2], by rw [e2]⟩, ?_⟩
          · rw [f7]; exact congrArg (fun t => some (Value.int t)) (nI_p1 nm.length)
          · rw [List.length_append]; exact hn
          · rw [f7, List.length_append]; rfl
          · rw [eI, if_neg (fun q => n5 q.1), if_neg (fun q => n8 q.1)]
            rw [List.length_append] at hi
            have hi : i ≤ nm.length + 1 := hi
            by_cases c : i = nm.length + 1
            · rw [if_pos ⟨rfl, c⟩, c, e5, e4, nI_add, List.take_of_length_le (by rw [List.length_append]; exact Nat.le_refl _), sl_app]; rfl
            · rw [if_neg (fun q => c q.2), if_neg (fun q => n3 q.1), a3 i (by omega), List.take_append_of_le_length (by omega)]
          · rw [sl_app]; show sl nm + (w.length + 0) ≤ _; omega
          · have el : ∀ j, z.1 rb j = σ.1 rb j := fun j => by rw [eI, if_neg (fun q => n4 q.1), if_neg (fun q => n7 q.1), if_neg (fun q => n1 q.1), if_neg (fun q => n2 q.1)]
            by_cases c : i < nm.length
            · rw [List.getElem?_append_left c] at hi
              rw [List.take_append_of_le_length (by omega)]
              exact Eq.trans (wd_congr fun k hk => el _) (a5 i q hi)
            · have hl := (List.getElem?_eq_some_iff.mp hi).1
              rw [List.length_append] at hl
              have hl : i < nm.length + 1 := hl
              have ei : i = nm.length := by omega
              rw [ei, List.getElem?_append_right (Nat.le_refl _), Nat.sub_self] at hi
              have hi : some w = some q := hi
              cases hi
              rw [ei, List.take_append_of_le_length (Nat.le_refl _), List.take_length]
              exact (wd_congr fun k _ => el _).trans hwd
          · rw [List.nodup_append]
            exact ⟨a6, List.nodup_cons.mpr ⟨List.not_mem_nil, List.nodup_nil⟩, fun a ha b hb => by rw [List.mem_singleton.mp hb]; exact fun q => hx (q ▸ ha)⟩
          · rw [eI, List.length_append]
            show _ = (if (hB ((nm ++ [w]).getD nm.length [])).toNatClampNeg = b then nI nm.length else lastB (nm ++ [w]) b nm.length) + 1
            rw [getD_last, lastB_app (Nat.le_refl _), ← e1]
            by_cases c : x1.toNatClampNeg = b
            · rw [if_pos ⟨rfl, c.symm⟩, if_pos c]; exact (nI_1 _).symm
            · rw [if_neg (fun q => c q.2.symm), if_neg (fun q => absurd q.1 (by decide)), if_neg (fun q => n5 q.1.symm), if_neg (fun q => n6 q.1.symm), if_neg c]
              exact a7 b hb
          · rw [List.length_append] at hi
            have hi : i < nm.length + 1 := hi
            rw [eI, if_neg (fun q => n6 q.1), if_neg (fun q => n9 q.1), if_neg (fun q => n3 q.1.symm), lastB_app (by omega)]
            by_cases c : i = nm.length
            · rw [if_pos ⟨rfl, c⟩, c, getD_last, ← e1, a7 _ hh]; exact Int32.add_sub_cancel _ _
            · rw [if_neg (fun q => c q.2), a8 i (by omega), List.getD_eq_getElem?_getD, List.getD_eq_getElem?_getD, List.getElem?_append_left (by omega)]
          · obtain ⟨z1, z2, z3, z4⟩ := ow59 q hq
            rw [eI, if_neg (fun q => z3 q.1), if_neg (fun q => z4 q.1), if_neg (fun q => z1 q.1), if_neg (fun q => z2 q.1)]
          · rw [eI, if_neg (fun q => absurd q.1 (by decide)), if_neg (fun q => absurd q.1 (by decide)), if_neg (fun q => n59.1 q.1), if_neg (fun q => n59.2 q.1)]
          · refine Ch.tr ty0 wOs_in ch ⟨ex, fun h k g1 _ g3 => ⟨?_, by rw [e2], by rw [eF]⟩, fun r g1 g2 g3 => ⟨funext fun k => ?_, by rw [e2], by rw [eF]⟩, fun p _ _ _ => Or.inl (by rw [eF])⟩
            · rw [eI, if_neg (fun q => by rw [q.1, ty.kl (h := 52) (by decide) rfl] at g1; exact absurd g1 (by decide)), if_neg (fun q => g3 (by rw [q.1, q.2]; decide)), if_neg (fun q => by rw [q.1, s2] at g1; exact absurd g1 (show ¬ (20 : Nat) < 20 by decide)), if_neg (fun q => by rw [q.1, s4] at g1; exact absurd g1 (show ¬ (20 : Nat) < 20 by decide))]
            · rw [eI, if_neg (fun q => g3 (48, 3) (by decide) ?_), if_neg (fun q => by rw [q.1, ty.kl (h := 48) (by decide) rfl] at g1; exact absurd g1 (by decide)), if_neg (fun q => g3 (48, 1) (by decide) (by rw [q.1]; exact s1)), if_neg (fun q => g3 (48, 2) (by decide) (by rw [q.1]; exact s3))]
              rw [q.1]
              have k48 : (σ.2.2.2.1 48).1 = 2 := ty.k (by decide) rfl
              have z := ty.2.2.2.2.2.2.2.1 48 3 (by rw [k48]; decide) (by rw [k48]; decide)
              rw [k48] at z; exact z.1
        exact go4 _ ty1' rfl
      exact go3 _ tv' rfl
    exact go2 _ tu' rfl
  exact go1 _ ty' rfl
end KADD
