/-! The class's calls, over one invariant. -/
section KCALLS
variable {Y : Nat → MethodName × ByteArray} {d : Nat} {s u : kS} {f : Nat}
theorem kI_feed (ty : kTY s) (h : INV (f + 20) s) (x1 x2 x3 x4 x5 : Int32) : kjY kPP (kQQ Y) (d + 5) 1 0 (mjL0 6 [.ref 0, .int x1, .int x2, .int x3, .int x4, .int x5]) [] s (fun r u => r = some (.int 1) ∧ INV f u) := by
  rcases h with ⟨nmm, ks, b, E, p, m, I, Q, t, hL, rn, cn, ht, h1, h2⟩ | ⟨b, p, m, t, hD, rn, ht, h1, h2⟩
  · obtain ⟨hm, g, ⟨-, -, -, hp⟩, -⟩ := id hL
    refine kjY_mono ty (fun v z tz _ q => ?_) (kjY_un ty hm.1 hm.2 (kx_feed (d := d) (kTY_kUn ty) g ht.1 ht.2 (by omega) x1 x2 x3 x4 x5))
    obtain ⟨-, hz, v0, g1, ⟨l', k1, k2⟩, k3, ch⟩ := q
    exact ⟨v0, (INV.tape ty (t := t) (t' := l') (f := f + 20) ch hz ⟨k1, k3⟩ (by omega)).1 hL g1 rn cn h1 h2⟩
  · obtain ⟨hm, g, -, -, -, -, -, -, hp⟩ := id hD
    refine kjY_mono ty (fun v z tz _ q => ?_) (kjY_un ty hm.1 hm.2 (kx_feed (d := d) (kTY_kUn ty) g ht.1 ht.2 (by omega) x1 x2 x3 x4 x5))
    obtain ⟨-, hz, v0, g1, ⟨l', k1, k2⟩, k3, ch⟩ := q
    exact ⟨v0, (INV.tape ty (t := t) (t' := l') (f := f + 20) ch hz ⟨k1, k3⟩ (by omega)).2 hD g1 rn h1 h2⟩
theorem kI_end (ty : kTY s) (h : INV f s) (x : Int32) : kjY kPP (kQQ Y) (d + 1) 2 0 (mjL0 2 [.ref 0, .int x]) [] s (fun r u => (∃ y, r = some (.int y)) ∧ INV f u) := by
  rcases h with ⟨nmm, ks, b, E, p, m, I, Q, t, hL, rn, cn, ht, h1, h2⟩ | ⟨b, p, m, t, hD, rn, ht, h1, h2⟩
  · obtain ⟨hm, g, -⟩ := id hL
    refine kjY_mono ty (fun v z tz _ q => ?_) (kjY_un ty hm.1 hm.2 (kx_end (d := d) (kTY_kUn ty) g ht.1 x))
    obtain ⟨-, hz, v0, g1, ⟨l', k1, k2⟩, k3, ch⟩ := q
    exact ⟨v0, (INV.tape ty (t := t) (t' := l') (f := f) ch hz ⟨k1, Eq.trans k3 ht.2⟩ (by omega)).1 hL g1 rn cn h1 h2⟩
  · obtain ⟨hm, g, -⟩ := id hD
    refine kjY_mono ty (fun v z tz _ q => ?_) (kjY_un ty hm.1 hm.2 (kx_end (d := d) (kTY_kUn ty) g ht.1 x))
    obtain ⟨-, hz, v0, g1, ⟨l', k1, k2⟩, k3, ch⟩ := q
    exact ⟨v0, (INV.tape ty (t := t) (t' := l') (f := f) ch hz ⟨k1, Eq.trans k3 ht.2⟩ (by omega)).2 hD g1 rn h1 h2⟩
theorem oF_x : LWh opF ∧ (∀ p ∈ opF, ¬ p.1 = 1) := by
  refine ⟨?_, ?_⟩
  · decide +kernel
  · decide +kernel
theorem kI_open (ty : kTY s) (h : INV f s) (x : Int32) : kjY kPP (kQQ Y) (d + 3) 4 0 (mjL0 3 [.ref 0, .int x]) [] s (fun r u => (∃ y, r = some (.int y)) ∧ INV f u) := by
  rcases id h with ⟨nmm, ks, b, E, p, m, I, Q, t, hL, rn, cn, ht, h1, h2⟩ | ⟨b, p, m, t, hD, rn, ht, h1, h2⟩
  · obtain ⟨hm, g, -⟩ := id hL
    refine kjY_mono ty (fun v z tz _ q => ?_) (kjY_un ty hm.1 hm.2 (kx_open (d := d) (kTY_kUn ty) g rn.1 x))
    obtain ⟨-, hz, v0, g1, ic, q⟩ := q
    refine ⟨v0, ?_⟩
    rcases q with e | ⟨-, c, hc, em, cq⟩
    · have e2 : z = s := by
        rw [← kSh_un hz.1 hz.2, ← kSh_un hm.1 hm.2]
        exact congrArg (kSh (4 * m) 1) e
      rw [e2]; exact h
    have tyU := kTY_kUn (S := 4 * m) (T := 1) ty
    have ch : Ch true opF [] (kHd m s) (kHd m z) := ic.ch tyU
    have hL2 := hL.ch ty hz g1 ch oF_x.1 (fun p hp => by cases hp)
    have f12 : z.2.2.1 0 12 = s.2.2.1 0 12 := (ch.fld tyU (h := 0) (c := 9) (by decide) rfl (by decide) (fun y => (oF_x.1 _ y).2.2.1 rfl)).2.2
    have ht2 : kBY z 1 t := kBY.fr (σ := kHd m s) (u := kHd m z) tyU g.1.1 (b := 1) (by decide) ht.1 ch oF_x.2 (fun p hp => by cases hp)
    have hf2 : z.1 1 3 = 0 := (ch.fld tyU (h := 1) (c := 0) (x := 3) (by decide) rfl (by decide) (fun y => oF_x.2 _ y rfl)).1.trans ht.2
    have kl : kBY z (c + 1) [] ∧ z.1 (c + 1) 3 = 0 := em
    have ll : ([] : List Int32).length ≤ (I c).length := Nat.zero_le _
    obtain ⟨I', Q', n1, n2⟩ := cn.cq cq (fun _ => []) (fun c' _ y => by rw [List.mem_singleton.mp y]; exact kl)
    have l2 : sQu Q' ≤ sQu Q := sC_le (fun c' hc' => by
      rcases (n2 c' hc').2.2 with y | y
      · rw [y]; exact Nat.le_refl _
      · rw [y]; exact Nat.zero_le _)
    have l1 : sIn I' ≤ sIn I := sC_le (fun c' hc' => by
      by_cases w : c' = c
      · rw [w, (n2 c hc).2.1 (List.mem_singleton.mpr rfl)]; exact ll
      · rcases (n2 c' hc').1 (fun z => w (List.mem_singleton.mp z)) with ⟨e1, -⟩ | ⟨e1, -⟩
        · rw [e1]; exact Nat.le_refl _
        · rw [e1]; exact Nat.zero_le _)
    exact Or.inl ⟨nmm, ks, b, E, p, m, I', Q', t, hL2, rn.same f12 cq.1, n1, ⟨ht2, hf2⟩, by omega, by omega⟩
  · obtain ⟨hm, g, -, -, -, -, -, z17, -⟩ := id hD
    refine kjY_mono ty (fun v z tz _ q => ?_) (kjY_un ty hm.1 hm.2 (kx_open (d := d) (kTY_kUn ty) g rn.1 x))
    obtain ⟨-, hz, v0, g1, ic, q⟩ := q
    refine ⟨v0, ?_⟩
    rcases q with e | ⟨y, -⟩
    · have e2 : z = s := by
        rw [← kSh_un hz.1 hz.2, ← kSh_un hm.1 hm.2]
        exact congrArg (kSh (4 * m) 1) e
      rw [e2]; exact h
    · exact absurd z17 y
theorem kI_isOpen (ty : kTY s) (h : INV f s) (x : Int32) : kjY kPP (kQQ Y) (d + 1) 5 0 (mjL0 3 [.ref 0, .int x]) [] s (fun r u => (∃ y, r = some (.int y)) ∧ INV f u) := kjY_mono ty (fun _ _ _ _ q => ⟨q.2, by rw [q.1]; exact h⟩) (kx_isOpen ty x)
theorem kI_out (ty : kTY s) (h : INV f s) (x : Int32) : kjY kPP (kQQ Y) (d + 1) 6 0 (mjL0 3 [.ref 0, .int x]) [] s (fun r u => (∃ y, r = some (.int y)) ∧ INV f u) := kjY_mono ty (fun _ _ _ _ q => ⟨q.2, by rw [q.1]; exact h⟩) (kx_out ty x)
theorem kI_now (ty : kTY s) (h : INV f s) : kjY kPP (kQQ Y) d 10 0 (mjL0 1 [.ref 0]) [] s (fun r u => (∃ y, r = some (.long y)) ∧ INV f u) := kjY_mono ty (fun _ _ _ _ q => ⟨⟨_, q.2⟩, by rw [q.1]; exact h⟩) (kx_now ty)
theorem kI_total (ty : kTY s) (h : INV f s) (x : Int32) : kjY kPP (kQQ Y) d 19 0 (mjL0 2 [.ref 0, .int x]) [] s (fun r u => (∃ y, r = some (.int y)) ∧ INV f u) := kjY_mono ty (fun _ _ _ _ q => ⟨q.2, by rw [q.1]; exact h⟩) (kx_total ty x)
theorem up_01 (ty : kTY s) : s.1 0 17 = 0 ∨ s.1 0 17 = 1 := by
  have k := ty.k (h := 0) (c := 9) (by decide) rfl
  exact ty.1 0 17 (by rw [k]; decide) (by rw [k]; decide)
theorem kI_isUp (ty : kTY s) (h : INV f s) : kjY kPP (kQQ Y) d 18 0 (mjL0 1 [.ref 0]) [] s (fun r u => (∃ y, r = some (.int y)) ∧ INV f u) := kjY_mono ty (fun _ _ _ _ q => ⟨⟨_, q.2⟩, by rw [q.1]; exact h⟩) (kx_isUp ty (up_01 ty))
theorem INV.jb (h : INV f s) : ∃ b, JB s b := by
  rcases h with ⟨nmm, ks, b, E, p, m, I, Q, t, hL, -⟩ | ⟨b, p, m, t, hD, -⟩
  · exact ⟨b, hL.2.2.2.1⟩
  · exact ⟨b, hD.2.2.2.1⟩
theorem kI_log (ty : kTY s) (h : INV f s) : kjY kPP (kQQ Y) d 15 0 (mjL0 1 [.ref 0]) [] s (fun r u => (∃ y, r = some (.int y)) ∧ INV f u) := by
  obtain ⟨b, jb⟩ := h.jb
  exact kjY_mono ty (fun _ _ _ _ q => ⟨⟨_, q.2⟩, by rw [q.1]; exact h⟩) (kx_log ty jb.1 jb.2.1)
/-- what touches no connection, no journal -/
theorem INV.ot (ty : kTY s) {m : Nat} {vs : Bool} {fs os : List (Nat × Nat)} (ch : Ch vs fs os (kHd m s) (kHd m u)) (hz : 4 * m ≤ u.2.2.2.2.2.2 ∧ 1 ≤ u.2.2.2.2.2.1) (hf : LWh fs) (ho : LWo os) (hf2 : ∀ p ∈ fs, (¬ p.1 ∈ OFb) ∧ ∀ c ∈ CNs, (¬ p = (c, 0)) ∧ (¬ p = (c, 3)) ∧ ¬ p = (c, 7)) (ho2 : ∀ p ∈ os, p ∈ OWs ∧ ¬ p.1 ∈ OFb) (hf3 : ∀ p ∈ fs, ¬ p.1 = 1) (ho3 : ∀ p ∈ os, p ∈ OWs ∧ ¬ p.1 = 1) {t : List Int32} (ht : kBY s 1 t ∧ s.1 1 3 = 0) :
    (∀ {nmm ks b E p I Q}, LW s nmm ks b E p m → KG nmm (kHd m u) nmm ks → RNW s → CNW s I Q → f + t.length + sIn I + sQu Q ≤ p → 4 * (f + t.length + sIn I) + 16 ≤ m → INV f u) ∧ (∀ {b p}, DW s b p m → KG [] (kHd m u) [] [] → RNW s → f + t.length ≤ p → 4 * (f + t.length) + 16 ≤ m → INV f u) := by
  have tyU := kTY_kUn (S := 4 * m) (T := 1) ty
  have f12 : u.2.2.1 0 12 = s.2.2.1 0 12 := (ch.fld tyU (h := 0) (c := 9) (by decide) rfl (by decide) (fun y => (hf _ y).2.2.1 rfl)).2.2
  have tp : OWN (kHd m s) → kBY u 1 t ∧ u.1 1 3 = 0 := fun ow => ⟨kBY.fr (σ := kHd m s) (u := kHd m u) tyU ow (b := 1) (by decide) ht.1 ch hf3 ho3, (ch.fld tyU (h := 1) (c := 0) (x := 3) (by decide) rfl (by decide) (fun y => hf3 _ y rfl)).1.trans ht.2⟩
  refine ⟨fun {nmm ks b E p I Q} hL g rn cn h1 h2 => ?_, fun {b p} hD g rn h1 h2 => ?_⟩
  · have al : ALS s u := ALS.ch (σ := kHd m s) (u := kHd m u) tyU hL.2.1.1.1 ch hf2 ho2
    exact Or.inl ⟨nmm, ks, b, E, p, m, I, Q, t, hL.ch ty hz g ch hf ho, rn.same f12 (fun c hc => (al.2 c hc).1), cn.als al, tp hL.2.1.1.1, h1, h2⟩
  · have al : ALS s u := ALS.ch (σ := kHd m s) (u := kHd m u) tyU hD.2.1.1.1 ch hf2 ho2
    exact Or.inr ⟨b, p, m, t, hD.ch ty hz g al ch hf ho, rn.same f12 (fun c hc => (al.2 c hc).1), tp hD.2.1.1.1, h1, h2⟩
theorem tk_x1 : ∀ c ∈ CNs, LWh (jnF (c + 3)) := by decide +kernel
theorem tk_x2 : ∀ c ∈ CNs, LWo [(c + 3, 1)] := by decide +kernel
theorem tk_x3 : ∀ c ∈ CNs, ∀ p ∈ jnF (c + 3), (¬ p.1 ∈ OFb) ∧ ∀ c ∈ CNs, (¬ p = (c, 0)) ∧ (¬ p = (c, 3)) ∧ ¬ p = (c, 7) := by decide +kernel
theorem tk_x4 : ∀ c ∈ CNs, ∀ p ∈ [((c + 3, 1) : Nat × Nat)], p ∈ OWs ∧ ¬ p.1 ∈ OFb := by decide +kernel
theorem tk_x5 : ∀ c ∈ CNs, ∀ p ∈ jnF (c + 3), ¬ p.1 = 1 := by decide +kernel
theorem tk_x6 : ∀ c ∈ CNs, ∀ p ∈ [((c + 3, 1) : Nat × Nat)], p ∈ OWs ∧ ¬ p.1 = 1 := by decide +kernel
theorem tk_x (c : Nat) (hc : c ∈ CNs) : (LWh (jnF (c + 3)) ∧ LWo [(c + 3, 1)]) ∧ (∀ p ∈ jnF (c + 3), (¬ p.1 ∈ OFb) ∧ ∀ c ∈ CNs, (¬ p = (c, 0)) ∧ (¬ p = (c, 3)) ∧ ¬ p = (c, 7)) ∧ (∀ p ∈ [((c + 3, 1) : Nat × Nat)], p ∈ OWs ∧ ¬ p.1 ∈ OFb) ∧ (∀ p ∈ jnF (c + 3), ¬ p.1 = 1) ∧ (∀ p ∈ [((c + 3, 1) : Nat × Nat)], p ∈ OWs ∧ ¬ p.1 = 1) := ⟨⟨tk_x1 c hc, tk_x2 c hc⟩, tk_x3 c hc, tk_x4 c hc, tk_x5 c hc, tk_x6 c hc⟩
theorem kI_take (ty : kTY s) (h : INV f s) (x1 x2 : Int32) : kjY kPP (kQQ Y) (d + 2) 8 0 (mjL0 4 [.ref 0, .int x1, .int x2]) [] s (fun r u => (∃ y, r = some (.int y)) ∧ INV f u) := by
  rcases h with ⟨nmm, ks, b, E, p, m, I, Q, t, hL, rn, cn, ht, h1, h2⟩ | ⟨b, p, m, t, hD, rn, ht, h1, h2⟩
  · obtain ⟨hm, g, -⟩ := id hL
    refine kjY_mono ty (fun v z tz _ q => ?_) (kjY_un ty hm.1 hm.2 (kx_take (d := d) (kTY_kUn ty) g x1 x2))
    obtain ⟨-, hz, v0, g1, c, hc, ch⟩ := q
    obtain ⟨⟨a1, a2⟩, a3, a4, a5, a6⟩ := tk_x c hc
    exact ⟨v0, (INV.ot ty ch hz a1 a2 a3 a4 a5 a6 ht).1 hL g1 rn cn h1 h2⟩
  · obtain ⟨hm, g, -⟩ := id hD
    refine kjY_mono ty (fun v z tz _ q => ?_) (kjY_un ty hm.1 hm.2 (kx_take (d := d) (kTY_kUn ty) g x1 x2))
    obtain ⟨-, hz, v0, g1, c, hc, ch⟩ := q
    obtain ⟨⟨a1, a2⟩, a3, a4, a5, a6⟩ := tk_x c hc
    exact ⟨v0, (INV.ot ty ch hz a1 a2 a3 a4 a5 a6 ht).2 hD g1 rn h1 h2⟩
theorem fu_x : LWh [(0, 16)] ∧ (∀ p ∈ [((0, 16) : Nat × Nat)], (¬ p.1 ∈ OFb) ∧ ∀ c ∈ CNs, (¬ p = (c, 0)) ∧ (¬ p = (c, 3)) ∧ ¬ p = (c, 7)) ∧ (∀ p ∈ [((0, 16) : Nat × Nat)], ¬ p.1 = 1) := by
  refine ⟨?_, ?_, ?_⟩
  · decide +kernel
  · decide +kernel
  · decide +kernel
theorem kI_fuse (ty : kTY s) (h : INV f s) (x : Int32) : kjY kPP (kQQ Y) d 11 0 (mjL0 2 [.ref 0, .int x]) [] s (fun r u => r = none ∧ INV f u) := by
  rcases h with ⟨nmm, ks, b, E, p, m, I, Q, t, hL, rn, cn, ht, h1, h2⟩ | ⟨b, p, m, t, hD, rn, ht, h1, h2⟩
  · obtain ⟨hm, g, -⟩ := id hL
    refine kjY_mono ty (fun v z tz _ q => ?_) (kjY_un ty hm.1 hm.2 (kx_fuse (d := d) (kTY_kUn ty) g x))
    obtain ⟨-, hz, v0, g1, v9, ez⟩ := q
    have tyU := kTY_kUn (S := 4 * m) (T := 1) ty
    have ez : kHd m z = (mjIu (kHd m s).1 0 16 v9, (kHd m s).2) := ez
    have ch : Ch true [(0, 16)] [] (kHd m s) (kHd m z) := by rw [ez]; exact Ch_i (by rw [tyU.k (h := 0) (c := 9) (by decide) rfl]; decide)
    exact ⟨v0, (INV.ot ty ch hz fu_x.1 (fun p hp => by cases hp) fu_x.2.1 (fun p hp => by cases hp) fu_x.2.2 (fun p hp => by cases hp) ht).1 hL g1 rn cn h1 h2⟩
  · obtain ⟨hm, g, -⟩ := id hD
    refine kjY_mono ty (fun v z tz _ q => ?_) (kjY_un ty hm.1 hm.2 (kx_fuse (d := d) (kTY_kUn ty) g x))
    obtain ⟨-, hz, v0, g1, v9, ez⟩ := q
    have tyU := kTY_kUn (S := 4 * m) (T := 1) ty
    have ez : kHd m z = (mjIu (kHd m s).1 0 16 v9, (kHd m s).2) := ez
    have ch : Ch true [(0, 16)] [] (kHd m s) (kHd m z) := by rw [ez]; exact Ch_i (by rw [tyU.k (h := 0) (c := 9) (by decide) rfl]; decide)
    exact ⟨v0, (INV.ot ty ch hz fu_x.1 (fun p hp => by cases hp) fu_x.2.1 (fun p hp => by cases hp) fu_x.2.2 (fun p hp => by cases hp) ht).2 hD g1 rn h1 h2⟩
end KCALLS
