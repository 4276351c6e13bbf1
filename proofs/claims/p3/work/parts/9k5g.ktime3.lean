/-! EXPIRE's front; PERSIST, TTL, FLUSHALL; a key found or made. -/
section KTIME3
variable {Y : Nat → MethodName × ByteArray} {d : Nat} {σ0 σ u : kS} {B ws nm nm' : List (List Int32)} {ks : List KC}
theorem kx_setTime (ty : kTY σ) (w : KWd σ0 B σ ws nm ks) (hr : RSD ks) (hne : ∀ x ∈ ks, ¬ emB x) (hB : BOK B ws) {v a2 : List Int32} (hv : ws[1]? = some v) (h2 : ws[2]? = some a2) {j : Nat} (hj : j < 105) :
    kjY kPP (kQQ Y) (d + 6) 160 0 (mjL0 6 [.ref 59, .ref (1000000 + j)]) [] σ (tiP σ0 B σ ws nm ks v (tiR false (tmM (decide (j = 10 ∨ j = 11)) (decide (j = 10 ∨ j = 49))) (σ.2.1 59 16) a2)) := by
  have kj : kCm (1000000 + j) := ⟨j, hj, rfl⟩
  have s19 : ∀ x2 x3 : Int32, (x2 = if decide (j = 10 ∨ j = 11) = true then 1 else 0) → (x3 = if decide (j = 10 ∨ j = 49) = true then 1 else 0) → kjY kPP (kQQ Y) (d + 6) 160 19 [some (.ref 59), some (.ref (1000000 + j)), some (.int x2), none, none, none] [.int x3] σ (tiP σ0 B σ ws nm ks v (tiR false (tmM (decide (j = 10 ∨ j = 11)) (decide (j = 10 ∨ j = 49))) (σ.2.1 59 16) a2)) := by
    intro x2 x3 e2 e3
    refine kjZ_y rfl rfl 1 _ _ _ _ ty ?_
    refine (And.intro (Nat.le_of_ble_eq_true rfl) ?_)
    exact kx_setT ty w hr hne hB hv h2 _ _ x2 x3 e2 e3
  have s9 : ∀ x2 : Int32, (x2 = if decide (j = 10 ∨ j = 11) = true then 1 else 0) → kjY kPP (kQQ Y) (d + 6) 160 9 [some (.ref 59), some (.ref (1000000 + j)), none, none, none, none] [.int x2] σ (tiP σ0 B σ ws nm ks v (tiR false (tmM (decide (j = 10 ∨ j = 11)) (decide (j = 10 ∨ j = 49))) (σ.2.1 59 16) a2)) := by
    intro x2 e2
    refine kjZ_y rfl rfl 4 _ _ _ _ ty ?_
    refine (And.intro (Nat.le_of_ble_eq_true rfl) (And.intro ⟨(by assumption), ⟨10, by decide, rfl⟩, Or.inl rfl⟩ (And.intro (fun c => ?_) (fun c => ?_))))
    · have c := ac_eq.mp c
      refine kjZ_y rfl rfl 2 _ _ _ _ ty ?_
      exact s19 x2 _ e2 (by rw [decide_eq_true (by omega)]; rfl)
    have c : ¬ 1000000 + j = 1000000 + 10 := fun z => c (ac_eq.mpr z)
    refine kjZ_y rfl rfl 3 _ _ _ _ ty ?_
    refine And.intro ⟨(by assumption), ⟨49, by decide, rfl⟩, Or.inr rfl⟩ (And.intro (fun c2 => ?_) (fun c2 => ?_))
    · have c2 : ¬ 1000000 + j = 1000000 + 49 := ac_ne.mp c2
      refine kjZ_y rfl rfl 1 _ _ _ _ ty ?_
      exact s19 x2 _ e2 (by rw [decide_eq_false (by omega)]; rfl)
    · have c2 : 1000000 + j = 1000000 + 49 := Decidable.of_not_not (fun z => c2 (ac_ne.mpr z))
      refine kjZ_y rfl rfl 2 _ _ _ _ ty ?_
      exact s19 x2 _ e2 (by rw [decide_eq_true (by omega)]; rfl)
  refine kjZ_y rfl rfl 3 _ _ _ _ ty ?_
  refine And.intro ⟨(by assumption), ⟨10, by decide, rfl⟩, Or.inl rfl⟩ (And.intro (fun c => ?_) (fun c => ?_))
  · have c : 1000000 + j = 1000000 + 10 := ac_eq.mp c
    refine kjZ_y rfl rfl 2 _ _ _ _ ty ?_
    exact s9 _ (by rw [decide_eq_true (by omega)]; rfl)
  have c : ¬ 1000000 + j = 1000000 + 10 := fun z => c (ac_eq.mpr z)
  refine kjZ_y rfl rfl 3 _ _ _ _ ty ?_
  refine And.intro ⟨(by assumption), ⟨11, by decide, rfl⟩, Or.inr rfl⟩ (And.intro (fun c2 => ?_) (fun c2 => ?_))
  · have c2 : ¬ 1000000 + j = 1000000 + 11 := ac_ne.mp c2
    refine kjZ_y rfl rfl 1 _ _ _ _ ty ?_
    exact s9 _ (by rw [decide_eq_false (by omega)]; rfl)
  · have c2 : 1000000 + j = 1000000 + 11 := Decidable.of_not_not (fun z => c2 (ac_ne.mpr z))
    refine kjZ_y rfl rfl 2 _ _ _ _ ty ?_
    exact s9 _ (by rw [decide_eq_true (by omega)]; rfl)
theorem KWd.en {P Q : List KC} {y : KC} (w : KWd σ0 B σ ws nm (P ++ y :: Q)) : σ.2.1 y.1 3 = endE y.2.2.2.2.2 := by
  obtain ⟨fr, vs, k, n, e, t, cs, hR, -, a1, hav, -⟩ := w.op_
  obtain ⟨_, _, _, _, _, _, _, _, _, _, _, _, _, _, _, hG⟩ := hR
  obtain ⟨l, hl, hV4, -⟩ := hG.v a1
  exact hV4.1.2.2.2.2.1.trans hav.2.2.1
theorem kx_persist (ty : kTY σ) (w : KWd σ0 B σ ws nm ks) (hr : RSD ks) (hne : ∀ x ∈ ks, ¬ emB x) (hT : ∀ x ∈ ks, (endE x.2.2.2.2.2 = NEV ↔ x.2.2.2.2.2.2.2.1 = 0)) (hB : BOK B ws) {v : List Int32} (hv : ws[1]? = some v) {o : Option (List AK)} (ho : o = peF (skA ks) v) :
    kjY kPP (kQQ Y) (d + 6) 158 0 (mjL0 4 [.ref 59]) [] σ (cdP σ0 B σ ws nm ks o) := by
  have eV : Int64.ofInt 9223372036854775807 = NEV := by decide
  refine kjZ_y rfl rfl 4 _ _ _ _ ty ?_
  refine (And.intro (ty.k (by decide) rfl) (And.intro (Nat.le_of_ble_eq_true rfl) (And.intro (Or.inl ⟨(Nat.le_of_ble_eq_true rfl), (ty.k (by decide) rfl)⟩) (And.intro (Nat.le_of_ble_eq_true rfl) (And.intro (Nat.le_of_ble_eq_true rfl) (kjY_mono ty (fun q_ u2 ty2 xu2 h_ => ?_) (kx_id ty w hB hv _ rfl)))))))
  obtain ⟨k, nm2, rfl, p2, p3, w2, s2⟩ := h_
  intro _ _
  refine kjZ_y rfl rfl 4 _ _ _ _ ty2 ?_
  refine (And.intro (Nat.le_of_ble_eq_true rfl) (And.intro (Nat.le_of_ble_eq_true rfl) (And.intro (Or.inl ⟨(Nat.le_of_ble_eq_true rfl), (ty2.k (by decide) rfl)⟩) (And.intro (Nat.le_of_ble_eq_true rfl) (And.intro (Nat.le_of_ble_eq_true rfl) (kjY_mono ty2 (fun q_ u3 ty3 xu3 h_ => ?_) (kx_find ty2 w2 p2 _ rfl)))))))
  obtain ⟨rfl, q3⟩ := h_
  intro _ _
  have fin : ∀ (z : kS) (nm9 : List (List Int32)) (ks9 : List KC) (l2 : Option Value) (x3 : Int32), kTY z → KWd σ0 B z ws nm9 ks9 → (∀ z2 : kS, (∃ x, KWd σ0 B z2 ws nm9 ks9 ∧ SCl scA z z2 ∧ x = (0 : Nat)) → cdP σ0 B σ ws nm ks o none z2) → kjY kPP (kQQ Y) (d + 6) 158 30 [some (.ref 59), some (.int (nI k)), l2, some (.int x3)] [] z (cdP σ0 B σ ws nm ks o) := by
    intro z nm9 ks9 l2 x3 tz wz hz
    obtain ⟨b, hb, eb⟩ := wz.2.2.2.2.2.2.1
    have kb := ob_k tz (ANn_b b (ANb_n b hb)).1
    have go : ∀ n : Int64, kjY kPP (kQQ Y) (d + 6) 158 38 [some (.ref 59), some (.int (nI k)), l2, some (.int x3)] [.long n, .ref b] z (cdP σ0 B σ ws nm ks o) := by
      intro n
      refine kjZ_y rfl rfl 1 _ _ _ _ tz ?_
      refine (And.intro (Nat.le_of_ble_eq_true rfl) (And.intro (Or.inl ⟨(Nat.le_of_ble_eq_true rfl), (by assumption)⟩) (And.intro (Nat.le_of_ble_eq_true rfl) (And.intro (Nat.le_of_ble_eq_true rfl) (kjY_mono tz (fun q_ u8 ty8 xu8 h_ => ?_) (kx_number tz wz hb _))))))
      obtain ⟨rfl, w8, s8⟩ := h_
      intro _ _
      refine kjZ_y rfl rfl 1 _ _ _ _ ty8 ?_
      refine And.intro rfl (And.intro rfl ?_)
      exact hz u8 ⟨0, w8, s8, rfl⟩
    refine kjZ_y rfl rfl 5 _ _ _ _ tz ?_
    refine (And.intro (tz.k (by decide) rfl) (And.intro (tz.k (by decide) rfl) (Exists.intro _ (And.intro eb (And.intro (fun c => ?_) (fun c => ?_))))))
    · refine kjZ_y rfl rfl 1 _ _ _ _ tz ?_
      exact go _
    · refine kjZ_y rfl rfl 2 _ _ _ _ tz ?_
      exact go _
  rcases q3 with ⟨rfl, q3⟩ | ⟨P, y, Q, rfl, f0, f1, f2⟩
  · refine kjZ_y rfl rfl 5 _ _ _ _ ty3 ?_
    refine (And.intro (Nat.le_of_ble_eq_true rfl) (And.intro (Nat.le_of_ble_eq_true rfl) ?_))
    refine kjZ_y rfl rfl 2 _ _ _ _ ty3 ?_
    refine And.intro (fun c => ?_) (fun c => ?_)
    rotate_left
    · exact absurd rfl c
    refine fin u3 nm2 ks _ _ ty3 w2 (fun z2 ⟨_, w8, s8, _⟩ => cd_no p3 w8 hr (s2.tr s8).h ?_)
    rw [ho]; unfold peF; rw [q3]
  subst f0
  obtain ⟨k2, -, -, hd, -⟩ := w2.val rfl
  have kv : (u3.2.2.2.1 y.1).1 = 11 := by rw [hd]
  obtain ⟨r1, r2⟩ := hr.two
  have hen := w2.en
  have hTy := hT y (List.mem_append_right _ List.mem_cons_self)
  have eo : o = if y.2.2.2.2.2.2.2.1 = 0 then none else some (upA (skA (P ++ y :: Q)) P.length untF) := by
    rw [ho]; unfold peF; rw [f2]
    show (match (skA (P ++ y :: Q))[P.length]? with | none => none | some a => _) = _
    rw [skA_at]
  refine kjZ_y rfl rfl 8 _ _ _ _ ty3 ?_
  refine (And.intro (Nat.le_of_ble_eq_true rfl) (And.intro (by assumption) (And.intro (fun c => ?_) (fun c => ?_))))
  · have c : u3.2.1 y.1 3 = Int64.ofInt 9223372036854775807 := (lg_cmp_eq _ _).mp c
    rw [hen, eV] at c
    refine kjZ_y rfl rfl 2 _ _ _ _ ty3 ?_
    refine (And.intro (Nat.le_of_ble_eq_true rfl) ?_)
    refine kjZ_y rfl rfl 2 _ _ _ _ ty3 ?_
    refine And.intro (fun c2 => ?_) (fun c2 => ?_)
    rotate_left
    · exact absurd rfl c2
    refine fin u3 nm2 _ _ _ ty3 w2 (fun z2 ⟨_, w8, s8, _⟩ => cd_no p3 w8 hr (s2.tr s8).h ?_)
    rw [eo, if_pos (hTy.mp c)]
  have c : ¬ u3.2.1 y.1 3 = Int64.ofInt 9223372036854775807 := fun z => c ((lg_cmp_eq _ _).mpr z)
  rw [hen, eV] at c
  rw [if_neg (fun z => c (hTy.mpr z))] at eo
  refine kjZ_y rfl rfl 3 _ _ _ _ ty3 ?_
  refine (And.intro (Nat.le_of_ble_eq_true rfl) ?_)
  refine kjZ_y rfl rfl 2 _ _ _ _ ty3 ?_
  refine And.intro (fun c2 => ?_) (fun c2 => ?_)
  · exact absurd (show (1 : Int32) = 0 from c2) (by decide)
  refine kjZ_y rfl rfl 4 _ _ _ _ ty3 ?_
  refine (And.intro (Nat.le_of_ble_eq_true rfl) (And.intro (Or.inl ⟨(Nat.le_of_ble_eq_true rfl), (ty3.k (by decide) rfl)⟩) (And.intro (Nat.le_of_ble_eq_true rfl) (And.intro (Nat.le_of_ble_eq_true rfl) (kjY_mono ty3 (fun q_ u5 ty5 xu5 h_ => ?_) (kx_ends ty3 w2 _ (a := untF y.2.2.2.2.2) ⟨rfl, rfl, rfl⟩ (by rw [eV]; rfl)))))))
  obtain ⟨rfl, w5, s5⟩ := h_
  intro _ _
  have kv5 : (u5.2.2.2.1 y.1).1 = 11 := xu5.k ty3 kv (by decide)
  refine kjZ_y rfl rfl 4 _ _ _ _ ty5 ?_
  refine (And.intro (Nat.le_of_ble_eq_true rfl) (And.intro (Or.inl ⟨(Nat.le_of_ble_eq_true rfl), (ty5.k (by decide) rfl)⟩) (And.intro (Nat.le_of_ble_eq_true rfl) (And.intro (Nat.le_of_ble_eq_true rfl) (kjY_mono ty5 (fun q_ u6 ty6 xu6 h_ => ?_) (kx_settle (x := teK y (untF y.2.2.2.2.2)) ty5 w5 (k := k) (by show nm2[k]? = some y.2.2.2.2.2.1; rw [f1]; exact p2) _ rfl))))))
  obtain ⟨q9, q9b⟩ := h_
  intro _ _
  have hwk : wkO (teK y (untF y.2.2.2.2.2)) := r2.1
  have hem : ¬ emB (teK y (untF y.2.2.2.2.2)) := hne y (List.mem_append_right _ List.mem_cons_self)
  obtain ⟨rfl, nmA, ksA, pA, wA, rA, eA, cA, sA⟩ := cd_se (σ := σ) p3 ((s2.tr s5).g) ⟨q9, q9b⟩ hwk r1 (fun z => absurd z hem) (fun _ => rfl)
  refine fin u6 nmA ksA _ _ ty6 wA (fun z2 ⟨_, w8, s8, _⟩ => cd_ok pA w8 rA eA ((s8 (59, 18) (by decide)).1.trans cA) (sA.tr s8.g) ?_)
  rw [eo, skA_app, skA_app, skA_cons, skA_cons, ← skA_len P, upA_at]; rfl
theorem kx_ttl (ty : kTY σ) (w : KWd σ0 B σ ws nm ks) (hr : RSD ks) (hB : BOK B ws) {v : List Int32} (hv : ws[1]? = some v) (x1 : Int32) :
    kjY kPP (kQQ Y) (d + 6) 159 0 (mjL0 5 [.ref 59, .int x1]) [] σ (cdP σ0 B σ ws nm ks none) := by
  refine kjZ_y rfl rfl 5 _ _ _ _ ty ?_
  refine (And.intro (ty.k (by decide) rfl) (And.intro (Nat.le_of_ble_eq_true rfl) (And.intro (Or.inl ⟨(Nat.le_of_ble_eq_true rfl), (ty.k (by decide) rfl)⟩) (And.intro (Nat.le_of_ble_eq_true rfl) (And.intro (Nat.le_of_ble_eq_true rfl) (kjY_mono ty (fun q_ u2 ty2 xu2 h_ => ?_) (kx_id ty w hB hv _ rfl)))))))
  obtain ⟨k, nm2, rfl, p2, p3, w2, s2⟩ := h_
  intro _ _
  refine kjZ_y rfl rfl 1 _ _ _ _ ty2 ?_
  refine (And.intro (Nat.le_of_ble_eq_true rfl) (And.intro (Or.inl ⟨(Nat.le_of_ble_eq_true rfl), (ty2.k (by decide) rfl)⟩) (And.intro (Nat.le_of_ble_eq_true rfl) (And.intro (Nat.le_of_ble_eq_true rfl) (kjY_mono ty2 (fun q_ u3 ty3 xu3 h_ => ?_) (kx_find ty2 w2 p2 _ rfl))))))
  obtain ⟨rfl, q3⟩ := h_
  intro _ _
  obtain ⟨b, hb, eb⟩ := w2.2.2.2.2.2.2.1
  have kb := ob_k ty3 (ANn_b b (ANb_n b hb)).1
  have fin : ∀ (n : Int64) (l2 l3 l4 : Option Value) , kjY kPP (kQQ Y) (d + 6) 159 22 [some (.ref 59), some (.int x1), l2, l3, l4] [.long n, .ref b] u3 (cdP σ0 B σ ws nm ks none) := by
    intro n l2 l3 l4
    refine kjZ_y rfl rfl 1 _ _ _ _ ty3 ?_
    refine (And.intro (Nat.le_of_ble_eq_true rfl) (And.intro (Or.inl ⟨(Nat.le_of_ble_eq_true rfl), (by assumption)⟩) (And.intro (Nat.le_of_ble_eq_true rfl) (And.intro (Nat.le_of_ble_eq_true rfl) (kjY_mono ty3 (fun q_ u4 ty4 xu4 h_ => ?_) (kx_number ty3 w2 hb _))))))
    obtain ⟨rfl, w4, s4⟩ := h_
    intro _ _
    refine kjZ_y rfl rfl 1 _ _ _ _ ty4 ?_
    refine And.intro rfl (And.intro rfl ?_)
    exact cd_no p3 w4 hr (s2.tr s4).h rfl
  have fin2 : ∀ (n : Int64) (l2 l3 l4 : Option Value) , kjY kPP (kQQ Y) (d + 6) 159 42 [some (.ref 59), some (.int x1), l2, l3, l4] [.long n, .ref b] u3 (cdP σ0 B σ ws nm ks none) := by
    intro n l2 l3 l4
    refine kjZ_y rfl rfl 1 _ _ _ _ ty3 ?_
    refine (And.intro (Nat.le_of_ble_eq_true rfl) (And.intro (Or.inl ⟨(Nat.le_of_ble_eq_true rfl), (by assumption)⟩) (And.intro (Nat.le_of_ble_eq_true rfl) (And.intro (Nat.le_of_ble_eq_true rfl) (kjY_mono ty3 (fun q_ u4 ty4 xu4 h_ => ?_) (kx_number ty3 w2 hb _))))))
    obtain ⟨rfl, w4, s4⟩ := h_
    intro _ _
    refine kjZ_y rfl rfl 1 _ _ _ _ ty4 ?_
    refine And.intro rfl (And.intro rfl ?_)
    exact cd_no p3 w4 hr (s2.tr s4).h rfl
  rcases q3 with ⟨rfl, q3⟩ | ⟨P, y, Q, rfl, f0, f1, f2⟩
  · refine kjZ_y rfl rfl 3 _ _ _ _ ty3 ?_
    refine (And.intro (Nat.le_of_ble_eq_true rfl) ?_)
    refine kjZ_y rfl rfl 7 _ _ _ _ ty3 ?_
    refine (And.intro (ty3.k (by decide) rfl) (And.intro (ty3.k (by decide) rfl) (Exists.intro _ (And.intro eb ?_))))
    exact fin _ _ _ _
  · obtain ⟨k2, -, -, hd, -⟩ := w2.val f0
    have kv : (u3.2.2.2.1 y.1).1 = 11 := by rw [hd]
    refine kjZ_y rfl rfl 8 _ _ _ _ ty3 ?_
    refine (And.intro (Nat.le_of_ble_eq_true rfl) (And.intro (by assumption) (And.intro (fun c => ?_) (fun c => ?_))))
    rotate_left
    · refine kjZ_y rfl rfl 6 _ _ _ _ ty3 ?_
      refine (And.intro (ty3.k (by decide) rfl) (And.intro (ty3.k (by decide) rfl) (Exists.intro _ (And.intro eb ?_))))
      exact fin _ _ _ _
    refine kjZ_y rfl rfl 11 _ _ _ _ ty3 ?_
    refine (And.intro (by assumption) (And.intro (ty3.k (by decide) rfl) (And.intro (Nat.le_of_ble_eq_true rfl) (And.intro (ty3.k (by decide) rfl) (And.intro (ty3.k (by decide) rfl) (Exists.intro _ (And.intro eb (And.intro (fun c2 => ?_) (fun c2 => ?_)))))))))
    · refine kjZ_y rfl rfl 1 _ _ _ _ ty3 ?_
      exact fin2 _ _ _ _
    · refine kjZ_y rfl rfl 6 _ _ _ _ ty3 ?_
      refine (And.intro (by decide) ?_)
      exact fin2 _ _ _ _
theorem kx_orMake (ty : kTY σ) (w : KWd σ0 B σ ws nm ks) {k : Nat} {v : List Int32} (hk : nm[k]? = some v) {s : Nat} (hs4 : s ≤ 4) (hcap : kyI (skA ks) v = none → ks.length + 1 ≤ 2600) (x1 x2 : Int32) (e1 : x1 = nI k) (e2 : x2 = nI s) :
    kjY kPP (kQQ Y) (d + 5) 132 0 (mjL0 4 [.ref 59, .int x1, .int x2]) [] σ (fun r u => ∃ P x Q, r = some (.ref x.1) ∧ KWd σ0 B u ws nm (P ++ x :: Q) ∧ SCl scA σ u ∧ x.2.2.2.2.2.1 = v ∧ ((ks = P ++ x :: Q ∧ kyI (skA ks) v = some P.length) ∨ (ks = P ++ Q ∧ kyI (skA ks) v = none ∧ P.length = plF (anm (skA ks)) v ∧ x.2.2.2.1 = 0 ∧ x.2.2.2.2.1 = 0 ∧ x.2.2.2.2.2 = (v, nI s, 0, 0, [], [])))) := by
  refine kjZ_y rfl rfl 3 _ _ _ _ ty ?_
  refine (And.intro (Nat.le_of_ble_eq_true rfl) (And.intro (Or.inl ⟨(Nat.le_of_ble_eq_true rfl), (ty.k (by decide) rfl)⟩) (And.intro (Nat.le_of_ble_eq_true rfl) (And.intro (Nat.le_of_ble_eq_true rfl) (kjY_mono ty (fun q_ u3 ty3 xu3 h_ => ?_) (kx_find ty w hk _ e1))))))
  obtain ⟨rfl, q3⟩ := h_
  intro _ _
  rcases q3 with ⟨rfl, q3⟩ | ⟨P, y, Q, rfl, f0, f1, f2⟩
  · refine kjZ_y rfl rfl 3 _ _ _ _ ty3 ?_
    refine (And.intro (Nat.le_of_ble_eq_true rfl) ?_)
    refine kjZ_y rfl rfl 4 _ _ _ _ ty3 ?_
    refine (And.intro (Nat.le_of_ble_eq_true rfl) (And.intro (Or.inl ⟨(Nat.le_of_ble_eq_true rfl), (ty3.k (by decide) rfl)⟩) (And.intro (Nat.le_of_ble_eq_true rfl) (And.intro (Nat.le_of_ble_eq_true rfl) (kjY_mono ty3 (fun q_ u4 ty4 xu4 h_ => ?_) (kx_fresh ty3 w hk hs4 hcap _ _ e1 e2))))))
    obtain ⟨P, x, Q, rfl, w4, s4, g1, g2, g3, g4⟩ := h_
    intro _ _
    rcases g4 with ⟨y, g5, g6, g7, g8⟩ | ⟨g5, g6, g7, g8⟩
    · rw [q3] at g7; cases g7
    have kv4 : (u4.2.2.2.1 x.1).1 = 11 := by
      obtain ⟨k2, -, -, hd, -⟩ := w4.val rfl
      rw [hd]
    refine kjZ_y rfl rfl 2 _ _ _ _ ty4 ?_
    refine And.intro rfl (And.intro (Nat.le_of_ble_eq_true rfl) ?_)
    exact ⟨P, x, Q, rfl, w4, s4, by rw [g2], Or.inr ⟨g5, q3, g7, g1, g8, g2⟩⟩
  · subst f0
    have kv : (u3.2.2.2.1 y.1).1 = 11 := by
      obtain ⟨k2, -, -, hd, -⟩ := w.val rfl
      rw [hd]
    refine kjZ_y rfl rfl 3 _ _ _ _ ty3 ?_
    refine (And.intro (Nat.le_of_ble_eq_true rfl) ?_)
    refine kjZ_y rfl rfl 2 _ _ _ _ ty3 ?_
    refine And.intro rfl (And.intro (Nat.le_of_ble_eq_true rfl) ?_)
    exact ⟨P, y, Q, rfl, w, SCl.rf, f1, Or.inl ⟨rfl, f2⟩⟩
end KTIME3
