/-! A request is looked at ahead of its command: the method. -/
def admW (B : List (List Int32)) (σ : kS) (ws nm : List (List Int32)) (ks : List KC) (c bk rn m : Nat) (o : Option Nat) (z : kS) : Prop := (4 * m ≤ z.2.2.2.2.2.2 ∧ 1 ≤ z.2.2.2.2.2.1) ∧ KO B (kHd m z) ws nm ks ∧ Ch true (adF c) AFo σ z ∧ (z.2.2.1 53 6 = some (c + 3) ∧ z.2.2.1 53 8 = o) ∧ (z.2.2.1 c 3 = some bk ∧ z.2.2.1 0 12 = some rn ∧ z.1 0 13 = σ.1 0 13 ∧ z.1 c 7 = σ.1 c 7) ∧ KPb σ z
section KADMIT2
variable {Y : Nat → MethodName × ByteArray} {d : Nat} {σ u : kS} {B ws nm nm' : List (List Int32)} {ks ks' : List KC}
theorem kSg_0 : ∀ j, j < 105 → kSg 0 (kCmd j).2.2.2.2.2 ∈ [56, 60, 62, 71] := by decide +kernel
theorem ad_ref (ty : kTY σ) {z : kS} (tz : kTY z) {c bk rn m i : Nat} {o : Option Nat} (hc : c ∈ CNs) (W : admW B σ ws nm ks c bk rn m o z) (hi : i < 185) : kjY kPP (kQQ Y) d 98 0 (mjL0 2 [.ref 53, .ref (2000000 + i)]) [] z (fun r u => r = none ∧ admW B σ ws nm ks c bk rn m o u) := by
  obtain ⟨hz, gz, cz, ⟨f6, f8⟩, ⟨fb, fr, i13, i7⟩, kz⟩ := W
  obtain ⟨q1, q2, -⟩ := CN_ok c hc
  have qc : ∀ c ∈ CNs, ¬ (c, 3) ∈ kcF ∧ ¬ (c, 7) ∈ kcF := by decide +kernel
  have q0 : ¬ (0, 12) ∈ kcF ∧ ¬ (0, 13) ∈ kcF ∧ ¬ (53, 6) ∈ kcF ∧ ¬ (53, 8) ∈ kcF := by decide +kernel
  refine kjY_mono tz (fun r u _ _ q => ?_) (h_w tz hz gz (kx_refuse (kTY_kUn tz) (gz.in_ (kTY_kUn tz)) hi))
  obtain ⟨h0, hu, gu, cu⟩ := q
  have e1 := cu.fld tz q1 q2 (by decide) (qc c hc).1
  have e2 := cu.fld tz q1 q2 (by decide) (qc c hc).2
  have e3 := cu.fld tz (h := 0) (c := 9) (by decide) rfl (by decide) q0.1
  have e4 := cu.fld tz (h := 0) (c := 9) (by decide) rfl (by decide) q0.2.1
  have e5 := cu.fld tz (h := 53) (c := 3) (by decide) rfl (by decide) q0.2.2.1
  have e6 := cu.fld tz (h := 53) (c := 3) (by decide) rfl (by decide) q0.2.2.2
  exact ⟨h0, hu, gu, Ch.tr ty AFo_in cz (cu.up (fun z => z) (fun p hp => adF_b p (bbF_o p (AFf_k p hp))) AFo_k), ⟨e5.2.2.trans f6, e6.2.2.trans f8⟩, ⟨e1.2.2.trans fb, e3.2.2.trans fr, e4.1.trans i13, e2.1.trans i7⟩, kz.tr (KPb.ch tz gz.1.1.1 cu)⟩
theorem ad_sp (ty : kTY σ) {z y : kS} (tz : kTY z) {c bk rn m : Nat} {o : Option Nat} {v : Int32} (hc : c ∈ CNs) (W : admW B σ ws nm ks c bk rn m o z) (ey : y = (mjIu z.1 c 5 v, z.2)) : admW B σ ws nm ks c bk rn m o y := by
  obtain ⟨hz, gz, cz, ⟨f6, f8⟩, ⟨fb, fr, i13, i7⟩, kz⟩ := W
  obtain ⟨q1, q2, -⟩ := CN_ok c hc
  have kc : (z.2.2.2.1 c).1 = 1 := tz.k q1 q2
  have hy : 4 * m ≤ y.2.2.2.2.2.2 ∧ 1 ≤ y.2.2.2.2.2.1 := by rw [ey]; exact hz
  have h1 := gz.ci (kTY_kUn tz) (u := kHd m y) (x := 5) (v := v) hc (Or.inl (by decide)) (by rw [ey])
  have c0 : Ch false [(c, 5)] [] z y := by rw [ey]; exact Ch_i (by rw [kc]; decide)
  have eF : y.2.2.1 = z.2.2.1 := by rw [ey]
  have eI : ∀ h x, y.1 h x = if h = c ∧ x = 5 then v else z.1 h x := fun h x => by
    rw [ey]; show mjIu z.1 c 5 v h x = _; rw [mjIu_at]
  have nb : ∀ c ∈ CNs, ∀ b ∈ payB, ¬ c = b := by decide
  refine ⟨hy, h1.1, Ch.tr ty AFo_in cz (c0.up (fun _ => rfl) (fun p hp => by rw [List.mem_singleton.mp hp]; exact adF_b _ (bbF_o _ (AFf_c 5 (by decide)))) (fun p hp => by cases hp)), ⟨by rw [eF]; exact f6, by rw [eF]; exact f8⟩, ⟨by rw [eF]; exact fb, by rw [eF]; exact fr, by rw [eI, if_neg (fun w => absurd w.2 (by decide))]; exact i13, by rw [eI, if_neg (fun w => absurd w.2 (by decide))]; exact i7⟩, kz.tr (fun b hb l hl => ⟨hl.fr tz gz.1.1.1 (P_ok b hb).1 c0 (fun p hp => by rw [List.mem_singleton.mp hp]; exact nb c hc b hb) (fun p hp => by cases hp), by rw [eI, if_neg (fun w => nb c hc b hb w.1.symm)]⟩)⟩
theorem kx_admit (ty : kTY σ) {m : Nat} (hm : 4 * m ≤ σ.2.2.2.2.2.2 ∧ 1 ≤ σ.2.2.2.2.2.1) (g : KG B (kHd m σ) nm ks) (hq : RQ σ ws) (h1 : 1 ≤ ws.length) {c bk rn : Nat} (hc : c ∈ CNs) (hbk : bk ∈ payB) (hrn : rn ∈ payB) (eb : σ.2.2.1 c 3 = some bk) (er : σ.2.2.1 0 12 = some rn) {l : List Int32} (jn : JN bk σ l) (hE : l.length + (encR ws).length ≤ 100000) (hEm : (encR ws).length ≤ m) : kjY kPP (kQQ Y) (d + 8) 24 0 (mjL0 3 [.ref 0, .ref c]) [] σ (admP B σ ws nm ks c bk rn m l) := by
  obtain ⟨q1, q2, q3, q4, -⟩ := CN_ok c hc
  have kc : (σ.2.2.2.1 c).1 = 1 := ty.k q1 q2
  have ko := ob_k ty q4
  have n3 : c + 3 ∈ ANb := by
    have : ∀ c ∈ CNs, c + 3 ∈ ANb := by decide
    exact this c hc
  have nc : ¬ c = 53 ∧ ¬ bk = 53 := by
    have : ∀ c ∈ CNs, ¬ c = 53 := by decide
    exact ⟨this c hc, (P_ok bk hbk).2.2.1⟩
  refine kjZ_y rfl rfl 5 _ _ _ _ ty ?_
  refine (And.intro (ty.k (by decide) rfl) (And.intro (by assumption) (And.intro (Nat.le_of_ble_eq_true rfl) (And.intro (Or.inl ⟨(Nat.le_of_ble_eq_true rfl), (ty.k (by decide) rfl)⟩) (And.intro (Nat.le_of_ble_eq_true rfl) (And.intro (Nat.le_of_ble_eq_true rfl) (kjY_mono ty (fun q_ u1 ty1 xu1 h_ => ?_) (k_begin (d := d) ty hq ko))))))))
  obtain ⟨rfl, o, eu1, ho⟩ := h_
  intro _ _
  obtain ⟨g1, k1, c1, i1, ⟨f6, f8⟩, e53⟩ := g.bg (kTY_kUn ty) hq (b := c + 3) n3 (o := o) (u := kHd m u1) (by rw [eu1]; rfl)
  have hu1 : 4 * m ≤ u1.2.2.2.2.2.2 ∧ 1 ≤ u1.2.2.2.2.2.1 := by rw [eu1]; exact hm
  have f8 : u1.2.2.1 53 8 = o := f8
  have i1 : u1.1 = σ.1 := i1
  have e53 : ∀ h x, ¬ h = 53 → u1.2.2.1 h x = σ.2.2.1 h x := e53
  have W1 : admW B σ ws nm ks c bk rn m o u1 := ⟨hu1, g1, (Ch.un hm hu1 c1).up (fun z => z) adF_5 (fun p hp => by cases hp), ⟨f6, f8⟩, ⟨by rw [e53 _ _ nc.1]; exact eb, by rw [e53 _ _ (by decide)]; exact er, by rw [i1], by rw [i1]⟩, k1⟩
  have no : ∀ z, admW B σ ws nm ks c bk rn m o z → admP B σ ws nm ks c bk rn m l (some (.int 0)) z := fun z W => ⟨m, o, W.1, W.2.1, W.2.2.1, W.2.2.2.1.1, W.2.2.2.1.2, ho, Or.inl ⟨rfl, rfl, W.2.2.2.2.1, W.2.2.2.2.2⟩⟩
  have kc1 : (u1.2.2.2.1 c).1 = 1 := ty1.k q1 q2
  have b4 : ∀ z, kTY z → z.1 c 4 = 0 ∨ z.1 c 4 = 1 := fun z tz => by
    have k := tz.k q1 q2
    exact tz.1 c 4 (by rw [k]; decide) (by rw [k]; decide)
  rcases id ho with ⟨j, w, hw, hj, rfl, hup⟩ | ⟨rfl, hno⟩
  rotate_left
  · refine kjZ_y rfl rfl 6 _ _ _ _ ty1 ?_
    refine (And.intro (ty1.k (by decide) rfl) (And.intro (ty1.k (by decide) rfl) (Exists.intro _ (And.intro f8 (And.intro (Nat.le_of_ble_eq_true rfl) ?_)))))
    refine kjZ_y rfl rfl 4 _ _ _ _ ty1 ?_
    refine (And.intro (by assumption) (And.intro (by assumption) (And.intro (Or.inr ⟨rfl, b4 u1 ty1⟩) (fun ty1' => ?_))))
    have go : ∀ z, kTY z → (∃ v, z = (mjIu u1.1 c 5 v, u1.2)) → kjY kPP (kQQ Y) (d + 8) 24 23 [some (.ref 0), some (.ref c), some .null] [] z (admP B σ ws nm ks c bk rn m l) := by
      intro z tz ⟨v, ez⟩
      have Wz := ad_sp ty ty1 hc W1 ez
      refine kjZ_y rfl rfl 7 _ _ _ _ tz ?_
      refine (And.intro (tz.k (by decide) rfl) (And.intro rfl (And.intro (Nat.le_of_ble_eq_true rfl) (And.intro (Or.inl ⟨(Nat.le_of_ble_eq_true rfl), (tz.k (by decide) rfl)⟩) (And.intro (Nat.le_of_ble_eq_true rfl) (And.intro (Nat.le_of_ble_eq_true rfl) (kjY_mono tz (fun q_ u2 ty2 xu2 h_ => ?_) (ad_ref (d := d + 7) ty tz hc Wz (by decide)))))))))
      obtain ⟨rfl, W2⟩ := h_
      intro _ _
      refine kjZ_y rfl rfl 2 _ _ _ _ ty2 ?_
      refine And.intro rfl (And.intro (Or.inl rfl) ?_)
      exact no u2 W2
    exact go _ ty1' ⟨_, rfl⟩
  have kj : kCm (1000000 + j) := ⟨j, hj, rfl⟩
  obtain ⟨-, -, -, -, ⟨h4, h1024⟩, -⟩ := hq
  have ex : u1.1 53 4 - Int32.ofInt 1 = nI (ws.length - 1) := by rw [i1, h4]; exact nI_sub3 h1
  refine kjZ_y rfl rfl 13 _ _ _ _ ty1 ?_
  refine (And.intro (ty1.k (by decide) rfl) (And.intro (ty1.k (by decide) rfl) (Exists.intro _ (And.intro f8 (And.intro (Nat.le_of_ble_eq_true rfl) (And.intro (ty1.k (by decide) rfl) (And.intro (ty1.k (by decide) rfl) (And.intro (Nat.le_of_ble_eq_true rfl) (And.intro (Or.inr (Or.inl ⟨rfl, by assumption⟩)) (And.intro (Nat.le_of_ble_eq_true rfl) (And.intro (Nat.le_of_ble_eq_true rfl) (kjY_mono ty1 (fun q_ u2 ty2 xu2 h_ => ?_) (k_takes (d := d + 6) ty1 hj _)))))))))))))
  obtain ⟨rfl, q9⟩ := h_
  intro _ _
  rcases q9 with ⟨rfl, q8⟩ | ⟨rfl, q8⟩
  rotate_left
  · refine kjZ_y rfl rfl 1 _ _ _ _ ty2 ?_
    refine And.intro (fun c9 => ?_) (fun c9 => ?_)
    · exact absurd rfl c9
    refine kjZ_y rfl rfl 4 _ _ _ _ ty2 ?_
    refine (And.intro (by assumption) (And.intro (by assumption) (And.intro (Or.inr ⟨rfl, b4 u2 ty2⟩) (fun ty2' => ?_))))
    have go : ∀ z, kTY z → (∃ v, z = (mjIu u2.1 c 5 v, u2.2)) → kjY kPP (kQQ Y) (d + 8) 24 23 [some (.ref 0), some (.ref c), some (.ref (1000000 + j))] [] z (admP B σ ws nm ks c bk rn m l) := by
      intro z tz ⟨v, ez⟩
      have Wz := ad_sp ty ty2 hc W1 ez
      refine kjZ_y rfl rfl 6 _ _ _ _ tz ?_
      refine (And.intro (tz.k (by decide) rfl) (And.intro rfl (And.intro (Nat.le_of_ble_eq_true rfl) (And.intro (Or.inl ⟨(Nat.le_of_ble_eq_true rfl), (tz.k (by decide) rfl)⟩) (And.intro (Nat.le_of_ble_eq_true rfl) (And.intro (Nat.le_of_ble_eq_true rfl) (kjY_mono tz (fun q_ u3 ty3 xu3 h_ => ?_) (ad_ref (d := d + 7) ty tz hc Wz (by decide)))))))))
      obtain ⟨rfl, W3⟩ := h_
      intro _ _
      refine kjZ_y rfl rfl 2 _ _ _ _ ty3 ?_
      refine And.intro rfl (And.intro (Or.inl rfl) ?_)
      exact no u3 W3
    exact go _ ty2' ⟨_, rfl⟩
  have q : tkP j (nI (ws.length - 1)) := by rw [← ex]; exact q8
  have one : admP B σ ws nm ks c bk rn m l (some (.int 1)) u2 := ⟨m, _, hu1, g1, W1.2.2.1, f6, f8, ho, Or.inr ⟨j, rfl, hj, q, Or.inl ⟨rfl, rfl, W1.2.2.2.2.1, W1.2.2.2.2.2⟩⟩⟩
  have go51 : kjY kPP (kQQ Y) (d + 8) 24 51 [some (.ref 0), some (.ref c), some (.ref (1000000 + j))] [] u2 (admP B σ ws nm ks c bk rn m l) := by
    have e : (nI j).toNatClampNeg = j := nI_clamp (by omega)
    have hn := kSg_0 j hj
    refine kjZ_y rfl rfl 5 _ _ _ _ ty2 ?_
    refine (Exists.intro _ (And.intro ⟨hj, rfl, by decide, by omega⟩ (Or.inr (Exists.intro _ (Exists.intro _ (And.intro (Or.inr (Or.inl ⟨rfl, rfl, rfl, rfl⟩)) (And.intro (vp_in_nI hj (by decide)) (Exists.intro _ (And.intro rfl ?_)))))))))
    have go : ∀ v : Int32, v = (kCmd j).2.2.2.2.2 → kjY kPP (kQQ Y) (d + 8) 24 (kSg 0 v) [some (.ref 0), some (.ref c), some (.ref (1000000 + j))] [] u2 (admP B σ ws nm ks c bk rn m l) := by
      intro v ev
      rw [ev]
      generalize kSg 0 (kCmd j).2.2.2.2.2 = n at hn
      rcases List.mem_cons.mp hn with rfl | hn
      · refine kjZ_y rfl rfl 3 _ _ _ _ ty2 ?_
        refine (And.intro (Nat.le_of_ble_eq_true rfl) (And.intro (Or.inl ⟨(Nat.le_of_ble_eq_true rfl), (ty2.k (by decide) rfl)⟩) (And.intro (Nat.le_of_ble_eq_true rfl) (And.intro (Nat.le_of_ble_eq_true rfl) (kjY_mono ty2 (fun q_ u3 ty3 xu3 h_ => ?_) (kjY_un ty2 hu1.1 hu1.2 (kx_beginBlock (d := d + 1) (kTY_kUn ty2) g1 hc hbk hrn W1.2.2.2.2.1.1 W1.2.2.2.2.1.2.1)))))))
        obtain ⟨-, h3, g3, c3, i3, q3⟩ := h_
        intro _ _
        have c3 : Ch true (bbF c) AFo u2 u3 := Ch.un hu1 h3 c3
        have ch3 : Ch true (adF c) AFo σ u3 := Ch.tr ty AFo_in W1.2.2.1 (c3.up (fun z => z) adF_b (fun p hp => hp))
        have n53 : ¬ (53, 6) ∈ bbF c ∧ ¬ (53, 8) ∈ bbF c := by
          have q : ∀ c ∈ CNs, ¬ (53, 6) ∈ bbF c ∧ ¬ (53, 8) ∈ bbF c := by decide +kernel
          exact q c hc
        have e6 := (c3.fld ty2 (h := 53) (c := 3) (by decide) rfl (by decide) n53.1).2.2.trans f6
        have e8 := (c3.fld ty2 (h := 53) (c := 3) (by decide) rfl (by decide) n53.2).2.2.trans f8
        have em : ∀ e, emB_ (kHd m u2) (kHd m u3) e → emB_ σ u3 e := fun e h => ⟨h.1, fun b hb hne l' hl' => by
          obtain ⟨a1, a2⟩ := W1.2.2.2.2.2 b hb l' hl'
          obtain ⟨a3, a4⟩ := h.2 b hb hne l' a1
          exact ⟨a3, a4.trans a2⟩⟩
        rcases q3 with ⟨rfl, p1, p2, p3, p4⟩ | ⟨rfl, p1, p2, p3, p4⟩
        · refine kjZ_y rfl rfl 1 _ _ _ _ ty3 ?_
          refine And.intro rfl (And.intro (Or.inl rfl) ?_)
          exact ⟨m, _, h3, g3, ch3, e6, e8, ho, Or.inr ⟨j, rfl, hj, q, Or.inr (Or.inr ⟨rfl, i3.1, i3.2, Or.inl ⟨rfl, p1, p2, p3.trans W1.2.2.2.2.1.2.2.1, em _ p4⟩⟩)⟩⟩
        · refine kjZ_y rfl rfl 1 _ _ _ _ ty3 ?_
          refine And.intro rfl (And.intro (Or.inl rfl) ?_)
          refine ⟨m, _, h3, g3, ch3, e6, e8, ho, Or.inr ⟨j, rfl, hj, q, Or.inr (Or.inr ⟨rfl, i3.1, i3.2, Or.inr ⟨?_, p1, p2, p3, em _ p4⟩⟩)⟩⟩
          show some (Value.int (u2.1 c 7)) = _
          rw [W1.2.2.2.2.1.2.2.2]
      rcases List.mem_cons.mp hn with rfl | hn
      · refine kjZ_y rfl rfl 2 _ _ _ _ ty2 ?_
        refine And.intro rfl (And.intro (Or.inl rfl) ?_)
        exact one
      rcases List.mem_cons.mp hn with rfl | hn
      · refine kjZ_y rfl rfl 3 _ _ _ _ ty2 ?_
        refine (And.intro (by assumption) (And.intro (Or.inr ⟨rfl, Or.inr rfl⟩) (fun ty2' => ?_)))
        have go2 : ∀ z, kTY z → (∃ v, z = (mjIu u2.1 c 5 v, u2.2)) → kjY kPP (kQQ Y) (d + 8) 24 65 [some (.ref 0), some (.ref c), some (.ref (1000000 + j))] [] z (admP B σ ws nm ks c bk rn m l) := by
          intro z tz ⟨v, ez⟩
          have Wz := ad_sp ty ty2 hc W1 ez
          refine kjZ_y rfl rfl 4 _ _ _ _ tz ?_
          refine (And.intro (tz.k (by decide) rfl) (And.intro rfl (And.intro (Nat.le_of_ble_eq_true rfl) (And.intro (Or.inl ⟨(Nat.le_of_ble_eq_true rfl), (tz.k (by decide) rfl)⟩) (And.intro (Nat.le_of_ble_eq_true rfl) (And.intro (Nat.le_of_ble_eq_true rfl) (kjY_mono tz (fun q_ u3 ty3 xu3 h_ => ?_) (ad_ref (d := d + 7) ty tz hc Wz (by decide)))))))))
          obtain ⟨rfl, W3⟩ := h_
          intro _ _
          refine kjZ_y rfl rfl 2 _ _ _ _ ty3 ?_
          refine And.intro rfl (And.intro (Or.inl rfl) ?_)
          exact no u3 W3
        exact go2 _ ty2' ⟨_, rfl⟩
      rw [List.mem_singleton.mp hn]
      have jn1 : JN bk u2 l := by
        obtain ⟨j1, j2, j3⟩ := jn
        obtain ⟨a1, a2⟩ := W1.2.2.2.2.2 bk hbk l j1
        have f3 : u2.2.2.1 53 3 = σ.2.2.1 53 3 := by
          have a : ∀ (o6 o8 : Option Nat), kFu (kFu σ.2.2.1 53 6 o6) 53 8 o8 53 3 = σ.2.2.1 53 3 := fun o6 o8 => by
            rw [kFu_at, kFu_at, if_neg (fun z => absurd z.2 (by decide)), if_neg (fun z => absurd z.2 (by decide))]
          rw [eu1]; exact a (some (c + 3)) (some (1000000 + j))
        exact ⟨a1, a2.trans j2, fun g' hg' => by rw [f3] at hg'; rw [e53 _ _ nc.2]; exact j3 g' hg'⟩
      refine kjZ_y rfl rfl 4 _ _ _ _ ty2 ?_
      refine (And.intro (ty2.k (by decide) rfl) (And.intro (Nat.le_of_ble_eq_true rfl) (And.intro (Or.inl ⟨(Nat.le_of_ble_eq_true rfl), (by assumption)⟩) (And.intro (Nat.le_of_ble_eq_true rfl) (And.intro (Nat.le_of_ble_eq_true rfl) (kjY_mono ty2 (fun q_ u3 ty3 xu3 h_ => ?_) (kx_queue (d := d) ty2 hu1 g1 hc hbk W1.2.2.2.2.1.1 jn1 hE hEm)))))))
      obtain ⟨rfl, m3, l3, h3, g3, c3, j3, t3, o3, q3⟩ := h_
      intro _ _
      have ch3 : Ch true (adF c) AFo σ u3 := Ch.tr ty AFo_in W1.2.2.1 (c3.up (fun z => z) (fun p hp => adF_b p (bbF_o p hp)) (fun p hp => hp))
      have n53 : ¬ (53, 6) ∈ AFf c ∧ ¬ (53, 8) ∈ AFf c ∧ ¬ (0, 12) ∈ AFf c ∧ ¬ (0, 13) ∈ AFf c ∧ ¬ (c, 3) ∈ AFf c := by
        have q : ∀ c ∈ CNs, ¬ (53, 6) ∈ AFf c ∧ ¬ (53, 8) ∈ AFf c ∧ ¬ (0, 12) ∈ AFf c ∧ ¬ (0, 13) ∈ AFf c ∧ ¬ (c, 3) ∈ AFf c := by decide +kernel
        exact q c hc
      have e6 := (c3.fld ty2 (h := 53) (c := 3) (by decide) rfl (by decide) n53.1).2.2.trans f6
      have e8 := (c3.fld ty2 (h := 53) (c := 3) (by decide) rfl (by decide) n53.2.1).2.2.trans f8
      have e12 := (c3.fld ty2 (h := 0) (c := 9) (by decide) rfl (by decide) n53.2.2.1).2.2.trans W1.2.2.2.2.1.2.1
      have e13 := (c3.fld ty2 (h := 0) (c := 9) (by decide) rfl (by decide) n53.2.2.2.1).1.trans W1.2.2.2.2.1.2.2.1
      have e3 := (c3.fld ty2 q1 q2 (by decide) n53.2.2.2.2).2.2.trans W1.2.2.2.2.1.1
      refine kjZ_y rfl rfl 2 _ _ _ _ ty3 ?_
      refine And.intro rfl (And.intro (Or.inl rfl) ?_)
      refine ⟨m3, _, h3, g3, ch3, e6, e8, ho, Or.inr ⟨j, rfl, hj, q, Or.inr (Or.inl ⟨rfl, ⟨e3, e12, e13⟩, l3, j3, t3, fun b hb hne l' hl' => ?_, ?_⟩)⟩⟩
      · obtain ⟨a1, a2⟩ := W1.2.2.2.2.2 b hb l' hl'
        obtain ⟨a3, a4⟩ := o3 b hb hne l' a1
        exact ⟨a3, a4.trans a2⟩
      · rw [W1.2.2.2.2.1.2.2.2] at q3
        exact q3
    exact go _ (by rw [e])
  have go46 : kjY kPP (kQQ Y) (d + 8) 24 46 [some (.ref 0), some (.ref c), some (.ref (1000000 + j))] [] u2 (admP B σ ws nm ks c bk rn m l) := by
    refine kjZ_y rfl rfl 3 _ _ _ _ ty2 ?_
    refine (And.intro (by assumption) (And.intro (fun c2 => ?_) (fun c2 => ?_)))
    · exact go51
    refine kjZ_y rfl rfl 2 _ _ _ _ ty2 ?_
    refine And.intro rfl (And.intro (Or.inl rfl) ?_)
    exact one
  refine kjZ_y rfl rfl 1 _ _ _ _ ty2 ?_
  refine And.intro (fun c9 => ?_) (fun c9 => ?_)
  rotate_left
  · exact absurd (show ¬ (1 : Int32) = 0 by decide) c9
  refine kjZ_y rfl rfl 3 _ _ _ _ ty2 ?_
  refine (And.intro (by assumption) (And.intro (fun c2 => ?_) (fun c2 => ?_)))
  · exact go46
  refine kjZ_y rfl rfl 3 _ _ _ _ ty2 ?_
  refine (And.intro (Nat.le_of_ble_eq_true rfl) (And.intro (Or.inr (Or.inl ⟨rfl, by assumption⟩)) (And.intro (Nat.le_of_ble_eq_true rfl) (And.intro (Nat.le_of_ble_eq_true rfl) (kjY_mono ty2 (fun q_ u3 ty3 xu3 h_ => ?_) (k_has ty2 hj _))))))
  obtain ⟨rfl, q3⟩ := h_
  intro _ _
  rcases q3 with ⟨rfl, q3⟩ | ⟨rfl, q3⟩
  · refine kjZ_y rfl rfl 1 _ _ _ _ ty3 ?_
    refine And.intro (fun c4 => ?_) (fun c4 => ?_)
    · exact go46
    exact absurd (show ¬ (1 : Int32) = 0 by decide) c4
  · refine kjZ_y rfl rfl 1 _ _ _ _ ty3 ?_
    refine And.intro (fun c4 => ?_) (fun c4 => ?_)
    · exact absurd rfl c4
    refine kjZ_y rfl rfl 4 _ _ _ _ ty3 ?_
    refine (And.intro (ty3.k (by decide) rfl) (And.intro rfl (And.intro (Nat.le_of_ble_eq_true rfl) (And.intro (Or.inl ⟨(Nat.le_of_ble_eq_true rfl), (ty3.k (by decide) rfl)⟩) (And.intro (Nat.le_of_ble_eq_true rfl) (And.intro (Nat.le_of_ble_eq_true rfl) (kjY_mono ty3 (fun q_ u4 ty4 xu4 h_ => ?_) (ad_ref (d := d + 7) ty ty3 hc W1 (by decide)))))))))
    obtain ⟨rfl, W4⟩ := h_
    intro _ _
    refine kjZ_y rfl rfl 2 _ _ _ _ ty4 ?_
    refine And.intro rfl (And.intro (Or.inl rfl) ?_)
    exact no u4 W4
end KADMIT2
