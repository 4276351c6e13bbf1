/-! Send, whole. -/
section KSEND3
variable {Y : Nat → MethodName × ByteArray} {d : Nat} {s u : kS} {c f m : Nat}
theorem SLp.dn {x4 : Int32} (h : ∃ b p m, DW s b p m ∧ RNW s ∧ TAP s ∧ f ≤ p ∧ 4 * f + 16 ≤ m) : INV f s := by
  obtain ⟨b, p, m, h1, h2, h3, h4, h5⟩ := h
  exact Or.inr ⟨b, p, m, [], h1, h2, h3, h4, h5⟩
/-- what is left of the input is kept -/
theorem kS_keep (ty : kTY s) {x4 : Int32} (h : SLp c f x4 s) (hc : c ∈ CNs) : kjY kPP (kQQ Y) (d + 3) 21 0 (mjL0 3 [.ref 0, .ref c, .int x4]) [] s (fun v z => v = none ∧ INV f z) := by
  obtain ⟨q1, q2, q3, q4, q5, -⟩ := CN_ok c hc
  have kc : (s.2.2.2.1 c).1 = 1 := ty.k q1 q2
  have dead : s.1 c 0 = 0 → INV f s → kjY kPP (kQQ Y) (d + 3) 21 0 (mjL0 3 [.ref 0, .ref c, .int x4]) [] s (fun v z => v = none ∧ INV f z) := by
    intro w hi
    refine kjZ_y rfl rfl 3 _ _ _ _ ty ?_
    refine (And.intro (by assumption) (And.intro (fun c1 => ?_) (fun c1 => ?_)))
    · exact absurd w c1
    refine kjZ_y rfl rfl 1 _ _ _ _ ty ?_
    refine And.intro rfl (And.intro rfl ?_)
    exact ⟨rfl, hi⟩
  rcases h with ⟨nmm, ks, b, E, p, m, I, Q, hL, rn, cn, tp, a0, a1, a2, a2', a3, a4⟩ | h
  rotate_left
  · obtain ⟨b, p, m, h1, h2, h3, h4, h5⟩ := h
    exact dead (h1.2.2.1.2 c hc) (Or.inr ⟨b, p, m, [], h1, h2, h3, h4, h5⟩)
  by_cases w : s.1 c 0 = 0
  · have e := a2' w
    exact dead w (Or.inl ⟨nmm, ks, b, E, p, m, I, Q, [], hL, rn, cn, tp, by show f + 0 + sIn I + sQu Q ≤ p; omega, by show 4 * (f + 0 + sIn I) + 16 ≤ m; omega⟩)
  · have e4 := a2 w
    obtain ⟨i1, i2⟩ := (cn c hc).1
    have hl6 : (I c).length ≤ 600000 := by obtain ⟨r, N, s1, s2, s3, s4, s5, s6, s7⟩ := i1; omega
    obtain ⟨hm, g, hh⟩ := id hL
    refine kjY_mono ty (fun v z tz _ q => ?_) (kjY_un ty hm.1 hm.2 (kx_keepRest (d := d) (kTY_kUn ty) g rn.1 hc i1 (i := a0) (by omega) x4 e4))
    obtain ⟨-, hz, v0, g1, ch, cq, q⟩ := q
    refine ⟨v0, ?_⟩
    have tyU := kTY_kUn (S := 4 * m) (T := 1) ty
    have cq : CQ [c] s z := cq
    have ch : Ch true opG opO (kHd m s) (kHd m z) := ch
    rcases q with ⟨q, -⟩ | ⟨-, l', k1, k2, k3⟩
    · exact absurd q w
    have k3 : z.1 (c + 1) 3 = 0 := by
      rcases k3 with y | y
      · exact Eq.trans y i2
      · exact y
    rw [List.length_drop] at k2
    obtain ⟨I', Q', n1, n2⟩ := cn.cq cq (fun _ => l') (fun c' _ y => by rw [List.mem_singleton.mp y]; exact ⟨k1, k3⟩)
    have f12 : z.2.2.1 0 12 = s.2.2.1 0 12 := (ch.fld tyU (h := 0) (c := 9) (by decide) rfl (by decide) (fun y => (og_x.1 _ y).2.2.1 rfl)).2.2
    have l2 : sQu Q' ≤ sQu Q := sC_le (fun c' hc' => by
      rcases (n2 c' hc').2.2 with y | y
      · rw [y]; exact Nat.le_refl _
      · rw [y]; exact Nat.zero_le _)
    have o := sC_one (f := fun c => (I' c).length) (g := fun c => (I c).length) hc (fun c' hc' y => by
      rcases (n2 c' hc').1 (fun z => y (List.mem_singleton.mp z)) with ⟨e1, -⟩ | ⟨e1, -⟩
      · rw [e1]; exact Nat.le_refl _
      · rw [e1]; exact Nat.zero_le _)
    have ec : I' c = l' := (n2 c hc).2.1 (List.mem_singleton.mpr rfl)
    have o : sIn I' + (I c).length ≤ sIn I + (I' c).length := o
    rw [ec] at o
    exact Or.inl ⟨nmm, ks, b, E, p, m, I', Q', [], hL.ch ty hz g1 ch og_x.1 og_x.2.1, rn.same f12 cq.1, n1, TAP.ch (s := kHd m s) (u := kHd m z) tyU g.1.1 tp ch og_x.2.2.1 og_x.2.2.2, by show f + 0 + sIn I' + sQu Q' ≤ p; omega, by show 4 * (f + 0 + sIn I') + 16 ≤ m; omega⟩
/-- the tape changes -/
theorem DW.ch {b p : Nat} (ty : kTY s) (h : DW s b p m) (hz : 4 * m ≤ u.2.2.2.2.2.2 ∧ 1 ≤ u.2.2.2.2.2.1) (g : KG [] (kHd m u) [] []) (al : ALS s u) {vs : Bool} {fs os : List (Nat × Nat)} (ch : Ch vs fs os (kHd m s) (kHd m u)) (hf : LWh fs) (ho : LWo os) : DW u b p m := by
  obtain ⟨hm, g0, ⟨cn, lv⟩, jb, ⟨E, T, A, ⟨kb1, kb2⟩, hT, kl, co⟩, ck, z13, z17, hp⟩ := h
  have tyU := kTY_kUn (S := 4 * m) (T := 1) ty
  have hb := jb.1
  have hb57 : b = 5 ∨ b = 7 := by simpa using hb
  have nb : ∀ p ∈ fs, ¬ p.1 = b := fun p hp => by
    rcases hb57 with e | e
    · rw [e]; exact (hf p hp).2.2.2.2.2.2.2.1
    · rw [e]; exact (hf p hp).2.2.2.2.2.2.2.2
  have nbo : ∀ p ∈ os, p ∈ OWs ∧ ¬ p.1 = b := fun p hp => by
    rcases hb57 with e | e
    · rw [e]; exact ⟨(ho p hp).1, (ho p hp).2.1⟩
    · rw [e]; exact ⟨(ho p hp).1, (ho p hp).2.2⟩
  have f0 := fun x (hx : ¬ (0, x) ∈ fs) => ch.fld tyU (h := 0) (c := 9) (x := x) (by decide) rfl (by decide) hx
  have f7 := ch.fld tyU (h := 59) (c := 4) (x := 17) (by decide) rfl (by decide) (fun z => (hf _ z).2.2.2.2.2.1 rfl)
  have f6 := ch.fld tyU (h := 59) (c := 4) (x := 16) (by decide) rfl (by decide) (fun z => (hf _ z).2.2.2.2.2.2.1 rfl)
  have fx : FIX s u := ⟨(f0 10 (fun z => (hf _ z).1 rfl)).2.2, (f0 11 (fun z => (hf _ z).2.1 rfl)).2.2, f7.1, f6.2.1⟩
  have k0 : b < 76 ∧ (kd0 b).1 = 0 := by rcases hb57 with e | e <;> rw [e] <;> decide
  have kbz : kBY (kHd m u) b (enE E ++ T) := kBY.fr (σ := kHd m s) tyU g0.1.1 (J_ok b hb).1 kb1 ch nb nbo
  have fb : u.1 b 3 = s.1 b 3 := (ch.fld tyU (h := b) (x := 3) k0.1 k0.2 (by decide) (fun z => nb _ z rfl)).1
  exact ⟨hz, g, ⟨cn.als al, fun c hc => (al.2 c hc).2.1.trans (lv c hc)⟩, jb.fix fx, ⟨E, T, A, ⟨kbz, fb.trans kb2⟩, hT, kl, co⟩, ck.fix fx, (f0 13 (fun z => (hf _ z).2.2.2.1 rfl)).1.trans z13, (f0 17 (fun z => (hf _ z).2.2.2.2.1 rfl)).1.trans z17, hp⟩
theorem t1_x : ((∀ p ∈ jnF 1, (¬ p.1 ∈ OFb) ∧ ∀ c ∈ CNs, (¬ p = (c, 0)) ∧ (¬ p = (c, 3)) ∧ ¬ p = (c, 7)) ∧ (∀ p ∈ [((1, 1) : Nat × Nat)], p ∈ OWs ∧ ¬ p.1 ∈ OFb)) ∧ LWh (jnF 1) ∧ LWo [(1, 1)] := by
  refine ⟨⟨?_, ?_⟩, ?_, ?_⟩
  · decide +kernel
  · decide +kernel
  · decide +kernel
  · decide +kernel
/-- the tape is another -/
theorem INV.tape (ty : kTY s) {f' : Nat} {t t' : List Int32} {m : Nat} {vs : Bool} (ch : Ch vs (jnF 1) [(1, 1)] (kHd m s) (kHd m u)) (hz : 4 * m ≤ u.2.2.2.2.2.2 ∧ 1 ≤ u.2.2.2.2.2.1) (ht : kBY u 1 t' ∧ u.1 1 3 = 0) (hlen : f' + t'.length ≤ f + t.length) :
    (∀ {nmm ks b E p I Q}, LW s nmm ks b E p m → KG nmm (kHd m u) nmm ks → RNW s → CNW s I Q → f + t.length + sIn I + sQu Q ≤ p → 4 * (f + t.length + sIn I) + 16 ≤ m → INV f' u) ∧ (∀ {b p}, DW s b p m → KG [] (kHd m u) [] [] → RNW s → f + t.length ≤ p → 4 * (f + t.length) + 16 ≤ m → INV f' u) := by
  have tyU := kTY_kUn (S := 4 * m) (T := 1) ty
  have f12 : u.2.2.1 0 12 = s.2.2.1 0 12 := (ch.fld tyU (h := 0) (c := 9) (by decide) rfl (by decide) (by decide)).2.2
  refine ⟨fun {nmm ks b E p I Q} hL g rn cn h1 h2 => ?_, fun {b p} hD g rn h1 h2 => ?_⟩
  · have al : ALS s u := ALS.ch (σ := kHd m s) (u := kHd m u) tyU hL.2.1.1.1 ch t1_x.1.1 t1_x.1.2
    exact Or.inl ⟨nmm, ks, b, E, p, m, I, Q, t', hL.ch ty hz g ch t1_x.2.1 t1_x.2.2, rn.same f12 (fun c hc => (al.2 c hc).1), cn.als al, ht, by omega, by omega⟩
  · have al : ALS s u := ALS.ch (σ := kHd m s) (u := kHd m u) tyU hD.2.1.1.1 ch t1_x.1.1 t1_x.1.2
    exact Or.inr ⟨b, p, m, t', hD.ch ty hz g al ch t1_x.2.1 t1_x.2.2, rn.same f12 (fun c hc => (al.2 c hc).1), ht, by omega, by omega⟩
/-- the tape is emptied -/
theorem em_ch (ty : kTY s) (eu : u = (mjIu (mjIu s.1 1 2 0) 1 3 0, s.2)) : Ch true (jnF 1) [(1, 1)] (kHd m s) (kHd m u) := by
  have tyU := kTY_kUn (S := 4 * m) (T := 1) ty
  refine Ch_ints (σ := kHd m s) (u := kHd m u) (by rw [eu]) (fun h x n => ?_) (fun p hp => ?_)
  · show u.1 h x = s.1 h x
    rw [eu]; show mjIu (mjIu s.1 1 2 0) 1 3 0 h x = _
    rw [mjIu_at, mjIu_at, if_neg (fun y => n (by rw [y.1, y.2]; decide)), if_neg (fun y => n (by rw [y.1, y.2]; decide))]
  · have q : ∀ p ∈ jnF 1, p.1 = 1 := by decide
    rw [q p hp, ob_k tyU (by decide)]; decide
theorem INV.em (ty : kTY s) (h : INV f s) (eu : u = (mjIu (mjIu s.1 1 2 0) 1 3 0, s.2)) : INV f u := by
  rcases h with ⟨nmm, ks, b, E, p, m, I, Q, t, hL, rn, cn, ht, h1, h2⟩ | ⟨b, p, m, t, hD, rn, ht, h1, h2⟩
  · obtain ⟨g1, e1, e2, -⟩ := KG.em (σ := kHd m s) (u := kHd m u) (kTY_kUn ty) hL.2.1 (b := 1) (by decide) (by rw [eu])
    exact (INV.tape ty (t := t) (t' := []) (em_ch ty eu) (by rw [eu]; exact hL.1) ⟨e1, e2⟩ (by show f + 0 ≤ _; omega)).1 hL g1 rn cn h1 h2
  · obtain ⟨g1, e1, e2, -⟩ := KG.em (σ := kHd m s) (u := kHd m u) (kTY_kUn ty) hD.2.1 (b := 1) (by decide) (by rw [eu])
    exact (INV.tape ty (t := t) (t' := []) (em_ch ty eu) (by rw [eu]; exact hD.1) ⟨e1, e2⟩ (by show f + 0 ≤ _; omega)).2 hD g1 rn h1 h2
theorem in_x : ∀ c ∈ CNs, (c + 1 ∈ OWb ∧ ¬ c + 1 ∈ payB ∧ kNd (c + 1) = 10400 ∧ kMo (c + 1) = 131076) ∧ ((c + 1, 1) ∈ OWs ∧ ((1, 1) : Nat × Nat) ∈ OWs ∧ ¬ ((c + 1, 1) : Nat × Nat) = (1, 1)) := by decide +kernel
theorem ap_x : ∀ c ∈ CNs, (∀ p ∈ jnF (c + 1), (∀ b ∈ payB, ¬ p.1 = b) ∧ ∀ c' ∈ CNs, (¬ p = (c', 3)) ∧ (¬ p = (c', 7)) ∧ (¬ c' ∈ [c] → (¬ p.1 = c' + 1) ∧ ¬ p = (c', 0))) ∧ (∀ p ∈ [((c + 1, 1) : Nat × Nat)], p ∈ OWs ∧ (∀ b ∈ payB, ¬ p.1 = b) ∧ ∀ c' ∈ CNs, ¬ c' ∈ [c] → ¬ p.1 = c' + 1) := by decide +kernel
theorem ap_y1 : ∀ c ∈ CNs, LWh (jnF (c + 1)) := by decide +kernel
theorem ap_y2 : ∀ c ∈ CNs, LWo [(c + 1, 1)] := by decide +kernel
theorem ap_y3 : ∀ c ∈ CNs, ∀ p ∈ jnF (c + 1), (¬ p.1 = 1) ∧ ¬ p = (c, 0) := by decide +kernel
theorem ap_y4 : ∀ c ∈ CNs, ∀ p ∈ [((c + 1, 1) : Nat × Nat)], p ∈ OWs ∧ ¬ p.1 = 1 := by decide +kernel
theorem ap_y (c : Nat) (hc : c ∈ CNs) : LWh (jnF (c + 1)) ∧ LWo [(c + 1, 1)] ∧ (∀ p ∈ jnF (c + 1), (¬ p.1 = 1) ∧ ¬ p = (c, 0)) ∧ ∀ p ∈ [((c + 1, 1) : Nat × Nat)], p ∈ OWs ∧ ¬ p.1 = 1 := ⟨ap_y1 c hc, ap_y2 c hc, ap_y3 c hc, ap_y4 c hc⟩
/-- send -/
theorem kS_send (ty : kTY s) (h : INV f s) (x : Int32) : kjY kPP (kQQ Y) (d + 12) 3 0 (mjL0 10 [.ref 0, .int x]) [] s (fun r u => (∃ y, r = some (.int y)) ∧ INV f u) := by
  have k1 := ob_k ty (b := 1) (by decide)
  have no : ∀ o2, kjY kPP (kQQ Y) (d + 12) 3 12 [some (.ref 0), some (.int x), o2, none, none, none, none, none, none, none] [] s (fun r u => (∃ y, r = some (.int y)) ∧ INV f u) := by
    intro o2
    refine kjZ_y rfl rfl 3 _ _ _ _ ty ?_
    refine (And.intro (ty.k (by decide) rfl) (And.intro (Nat.le_of_ble_eq_true rfl) (And.intro (Or.inl ⟨(Nat.le_of_ble_eq_true rfl), (ty.k (by decide) rfl)⟩) (And.intro (Nat.le_of_ble_eq_true rfl) (And.intro (Nat.le_of_ble_eq_true rfl) (kjY_mono ty (fun q_ u1 t1 xu1 h_ => ?_) (k_empty ty 1 k1)))))))
    obtain ⟨rfl, eu1⟩ := h_
    intro _ _
    refine kjZ_y rfl rfl 2 _ _ _ _ t1 ?_
    refine And.intro rfl (And.intro (Or.inl rfl) ?_)
    exact ⟨⟨_, rfl⟩, h.em ty eu1⟩
  refine kjZ_y rfl rfl 3 _ _ _ _ ty ?_
  refine (And.intro (Nat.le_of_ble_eq_true rfl) (And.intro (Or.inl ⟨(Nat.le_of_ble_eq_true rfl), (ty.k (by decide) rfl)⟩) (And.intro (Nat.le_of_ble_eq_true rfl) (And.intro (Nat.le_of_ble_eq_true rfl) (kjY_mono ty (fun q_ u1 t1 xu1 h_ => ?_) (k_connOf ty x))))))
  obtain ⟨rfl, q⟩ := h_
  intro _ _
  rcases q with rfl | ⟨c, hc, rfl⟩
  · refine kjZ_y rfl rfl 3 _ _ _ _ t1 ?_
    refine (And.intro (Nat.le_of_ble_eq_true rfl) ?_)
    exact no _
  obtain ⟨q1, q2, q3, q4, q5, -⟩ := CN_ok c hc
  have kc : (u1.2.2.2.1 c).1 = 1 := t1.k q1 q2
  refine kjZ_y rfl rfl 6 _ _ _ _ t1 ?_
  refine (And.intro (Nat.le_of_ble_eq_true rfl) (And.intro (by assumption) (And.intro (fun c1 => ?_) (fun c1 => ?_))))
  · exact no _
  have c1 : ¬ u1.1 c 0 = 0 := c1
  refine kjZ_y rfl rfl 3 _ _ _ _ t1 ?_
  refine (And.intro (t1.k (by decide) rfl) (And.intro (fun c2 => ?_) (fun c2 => ?_)))
  rotate_left
  · exact no _
  have c2 : ¬ u1.1 0 17 = 0 := c2
  rcases h with ⟨nmm, ks, b, E, p, m, I, Q, t, hL, rn, cn, ht, h1, h2⟩ | ⟨b, p, m, t, hD, -⟩
  rotate_left
  · exact absurd hD.2.2.2.2.2.2.2.1 c2
  obtain ⟨hm, g, ⟨r1, r2, r3, r4⟩, hh⟩ := id hL
  obtain ⟨i1, i2⟩ := (cn c hc).1
  obtain ⟨⟨w1, w2, w3, w4⟩, w5, w6, w7⟩ := in_x c hc
  obtain ⟨⟨rt, N, s1, s2, s3, s4, s5, s6, s7⟩, ht3⟩ := id ht
  have kin := ob_k t1 q3
  have o : (I c).length ≤ sIn I := sC_at (f := fun c => (I c).length) hc
  have tyU := kTY_kUn (S := 4 * m) (T := 1) t1
  have hg : ¬ u1.2.2.1 (c + 1) 1 = some rt := fun y => w7 (g.1.1 _ w5 _ w6 (y.trans s1.symm))
  refine kjZ_y rfl rfl 10 _ _ _ _ t1 ?_
  refine (And.intro (by assumption) (And.intro (t1.k (by decide) rfl) (And.intro (t1.k (by decide) rfl) (Exists.intro _ (And.intro s1 (And.intro (t1.k (by decide) rfl) (And.intro (t1.k (by decide) rfl) (And.intro (Nat.le_of_ble_eq_true rfl) (And.intro (Or.inl ⟨(Nat.le_of_ble_eq_true rfl), (by assumption)⟩) (And.intro (Nat.le_of_ble_eq_true rfl) (And.intro (Nat.le_of_ble_eq_true rfl) (kjY_mono t1 (fun q_ u2 t2 xu2 h_ => ?_) (kjY_un t1 hm.1 hm.2 (k_append (d := d + 7) tyU g.1.1 w1 i1 (g := rt) (M := N) (a := 0) (n := t.length) s2 s3.2 (by omega) hg _ _ rfl s5 ⟨PO_of w2 g.1.2, fun _ _ _ => by rw [w3]; omega⟩))))))))))))))
  obtain ⟨-, hz, rfl, ch, ow, po, l', k2, k3⟩ := h_
  intro _ _
  obtain ⟨e1, e2⟩ := k3 i2 (by rw [w4, wd_len]; omega)
  rw [e1, show wd ((kHd m u1).1 rt) 0 t.length = t from s7] at k2
  have ch : Ch false (jnF (c + 1)) [(c + 1, 1)] (kHd m u1) (kHd m u2) := ch
  have g2 := (KG.by_ (σ := kHd m u1) (u := kHd m u2) tyU g w1 ch ow po k2).1
  have cq : CQ [c] u1 u2 := CQ.chX (σ := kHd m u1) (u := kHd m u2) tyU g.1.1 ch (ap_x c hc).1 (ap_x c hc).2
  obtain ⟨y1, y2, y3, y4⟩ := ap_y c hc
  have hL2 := hL.ch t1 hz g2 ch y1 y2
  have f12 : u2.2.2.1 0 12 = u1.2.2.1 0 12 := (ch.fld tyU (h := 0) (c := 9) (by decide) rfl (by decide) (fun y => (y1 _ y).2.2.1 rfl)).2.2
  have rn2 := rn.same f12 cq.1
  obtain ⟨I', Q', n1, n2⟩ := cn.cq cq (fun _ => I c ++ t) (fun c' _ y => by rw [List.mem_singleton.mp y]; exact ⟨k2, e2⟩)
  have ec : I' c = I c ++ t := (n2 c hc).2.1 (List.mem_singleton.mpr rfl)
  have l2 : sQu Q' ≤ sQu Q := sC_le (fun c' hc' => by
    rcases (n2 c' hc').2.2 with y | y
    · rw [y]; exact Nat.le_refl _
    · rw [y]; exact Nat.zero_le _)
  have o2 := sC_one (f := fun c => (I' c).length) (g := fun c => (I c).length) hc (fun c' hc' y => by
    rcases (n2 c' hc').1 (fun z => y (List.mem_singleton.mp z)) with ⟨e1, -⟩ | ⟨e1, -⟩
    · rw [e1]; exact Nat.le_refl _
    · rw [e1]; exact Nat.zero_le _)
  have o2 : sIn I' + (I c).length ≤ sIn I + (I' c).length := o2
  rw [ec, List.length_append] at o2
  have ht2 : kBY u2 1 t := kBY.fr (σ := kHd m u1) (u := kHd m u2) tyU g.1.1 (b := 1) (by decide) ht.1 ch (fun p hp => (y3 p hp).1) y4
  have k12 := ob_k t2 (b := 1) (by decide)
  have kc2 : (u2.2.2.2.1 c).1 = 1 := t2.k q1 q2
  have lv2 : u2.1 c 0 = u1.1 c 0 := (ch.fld tyU q1 q2 (by decide) (fun y => (y3 _ y).2 rfl)).1
  refine kjZ_y rfl rfl 3 _ _ _ _ t2 ?_
  refine (And.intro (t2.k (by decide) rfl) (And.intro (Nat.le_of_ble_eq_true rfl) (And.intro (Or.inl ⟨(Nat.le_of_ble_eq_true rfl), (t2.k (by decide) rfl)⟩) (And.intro (Nat.le_of_ble_eq_true rfl) (And.intro (Nat.le_of_ble_eq_true rfl) (kjY_mono t2 (fun q_ u3 t3 xu3 h_ => ?_) (k_empty t2 1 k12)))))))
  obtain ⟨rfl, eu3⟩ := h_
  intro _ _
  have tyU2 := kTY_kUn (S := 4 * m) (T := 1) t2
  obtain ⟨g3, e3, e3', -⟩ := KG.em (σ := kHd m u2) (u := kHd m u3) tyU2 g2 (b := 1) (by decide) (by rw [eu3])
  have ch3 := em_ch (m := m) t2 eu3
  have al : ALS u2 u3 := ALS.ch (σ := kHd m u2) (u := kHd m u3) tyU2 g2.1.1 ch3 t1_x.1.1 t1_x.1.2
  have hL3 := hL2.ch t2 (by rw [eu3]; exact hz) g3 ch3 t1_x.2.1 t1_x.2.2
  have f123 : u3.2.2.1 0 12 = u2.2.2.1 0 12 := by rw [eu3]
  have lv3 : u3.1 c 0 = u1.1 c 0 := (al.2 c hc).2.1.trans lv2
  have sl : SLp c f (Int32.ofInt 0) u3 := Or.inl ⟨nmm, ks, b, E, p, m, I', Q', hL3, rn2.same f123 (fun c hc => (al.2 c hc).1), n1.als al, ⟨e3, e3'⟩, 0, Nat.zero_le _, fun _ => rfl, fun _ => rfl, by omega, by omega⟩
  have kc3 : (u3.2.2.2.1 c).1 = 1 := t3.k q1 q2
  refine kjZ_y rfl rfl 6 _ _ _ _ t3 ?_
  refine (And.intro (Nat.le_of_ble_eq_true rfl) (And.intro (Nat.le_of_ble_eq_true rfl) (And.intro (Nat.le_of_ble_eq_true rfl) ?_)))
  refine kS_loop (d := d) (f := f) _ hc (fun s3 x3 x4 x5 l6 l7 l8 l9 ts3 h3 => ?_) 1048576 0 u3 _ _ _ _ _ _ _ (Nat.zero_add _) rfl t3 sl
  have kcs : (s3.2.2.2.1 c).1 = 1 := ts3.k q1 q2
  refine kjZ_y rfl rfl 4 _ _ _ _ ts3 ?_
  refine (And.intro (Nat.le_of_ble_eq_true rfl) (And.intro (Or.inl ⟨(Nat.le_of_ble_eq_true rfl), (ts3.k (by decide) rfl)⟩) (And.intro (Nat.le_of_ble_eq_true rfl) (And.intro (Nat.le_of_ble_eq_true rfl) (kjY_mono ts3 (fun q_ u4 t4 xu4 h_ => ?_) (kS_keep (d := d + 8) ts3 h3 hc))))))
  obtain ⟨rfl, h4⟩ := h_
  intro _ _
  refine kjZ_y rfl rfl 3 _ _ _ _ t4 ?_
  refine (And.intro (t4.k (by decide) rfl) (And.intro (fun c5 => ?_) (fun c5 => ?_)))
  · refine kjZ_y rfl rfl 2 _ _ _ _ t4 ?_
    refine And.intro rfl (And.intro (Or.inl rfl) ?_)
    exact ⟨⟨_, rfl⟩, h4⟩
  · refine kjZ_y rfl rfl 3 _ _ _ _ t4 ?_
    refine And.intro rfl (And.intro (Or.inl rfl) ?_)
    exact ⟨⟨_, rfl⟩, h4⟩
end KSEND3
