/-! EXPIRE and its like; PERSIST, TTL, FLUSHALL; a key found or made. -/
theorem ac_eq {a b : Nat} : (ClassFile.ACond.eq = ClassFile.ACond.eq ↔ a = b) ↔ a = b := ⟨fun h => h.mp rfl, fun h => ⟨fun _ => h, fun _ => rfl⟩⟩
theorem ac_ne {a b : Nat} : (ClassFile.ACond.ne = ClassFile.ACond.eq ↔ a = b) ↔ ¬ a = b := ⟨fun h z => (by cases h.mpr z), fun h => ⟨fun z => (by cases z), fun z => absurd z h⟩⟩
def scS : List (Nat × Nat) := [(53, 8), (53, 14), (53, 15), (59, 16), (59, 17)]
theorem scSH : ∀ p ∈ scS, p ∈ scH := by decide +kernel
theorem scSG : ∀ p ∈ scS, p ∈ scG := by decide +kernel
theorem scST : ∀ p ∈ scS, p ∈ scT := by decide +kernel
theorem scSE : ∀ p ∈ scS, p ∈ scE := by decide +kernel
theorem scSA : ∀ p ∈ scS, p ∈ scA := by decide +kernel
theorem scSB : ∀ p ∈ scS, p ∈ scB := by decide +kernel
section KTIME2
variable {Y : Nat → MethodName × ByteArray} {d : Nat} {σ0 σ u : kS} {B ws nm nm' : List (List Int32)} {ks : List KC}
/-- a time is given -/
def tiP (σ0 : kS) (B : List (List Int32)) (σ : kS) (ws nm : List (List Int32)) (ks : List KC) (v : List Int32) (ot : Option Int64) : kK := fun r u => r = none ∧ ∃ nm' ks', PRE nm nm' ∧ KWd σ0 B u ws nm' ks' ∧ RSD ks' ∧ SCl scS σ u ∧
  ((skA ks' = skA ks ∧ u.1 59 18 = σ.1 59 18 ∧ (ot = none ∨ kyI (skA ks) v = none)) ∨ ∃ t p, ot = some t ∧ kyI (skA ks) v = some p ∧ u.1 59 18 = 1 ∧ ((t ≤ σ.2.1 59 16 ∧ σ.1 59 17 = 0 ∧ skA ks' = rmA (skA ks) p ∧ u.1 53 13 = 3) ∨ ((¬ (t ≤ σ.2.1 59 16 ∧ σ.1 59 17 = 0)) ∧ skA ks' = upA (skA ks) p (exF t) ∧ u.1 53 13 = 2 ∧ u.2.1 53 16 = t)))
theorem kx_setT (ty : kTY σ) (w : KWd σ0 B σ ws nm ks) (hr : RSD ks) (hne : ∀ x ∈ ks, ¬ emB x) (hB : BOK B ws) {v a2 : List Int32} (hv : ws[1]? = some v) (h2 : ws[2]? = some a2) (s f : Bool) {h1 : Nat} (x2 x3 : Int32) (e2 : x2 = if s = true then 1 else 0) (e3 : x3 = if f = true then 1 else 0) :
    kjY kPP (kQQ Y) (d + 6) 160 20 [some (.ref 59), some (.ref h1), some (.int x2), some (.int x3), none, none] [] σ (tiP σ0 B σ ws nm ks v (tiR false (tmM s f) (σ.2.1 59 16) a2)) := by
  have hlen := (List.getElem?_eq_some_iff.mp hv).1
  refine kjZ_y rfl rfl 4 _ _ _ _ ty ?_
  refine (And.intro (ty.k (by decide) rfl) (And.intro (Nat.le_of_ble_eq_true rfl) (And.intro (Or.inl ⟨(Nat.le_of_ble_eq_true rfl), (ty.k (by decide) rfl)⟩) (And.intro (Nat.le_of_ble_eq_true rfl) (And.intro (Nat.le_of_ble_eq_true rfl) (kjY_mono ty (fun q_ u0 ty0 xu0 h_ => ?_) (kx_lacksInteger ty w h2 _ rfl)))))))
  obtain ⟨w0, s0, q⟩ := h_
  intro _ _
  have c0 := (s0 (59, 18) (by decide)).1
  rcases q with ⟨n, q1, rfl, e9⟩ | ⟨q1, rfl⟩
  rotate_left
  · refine kjZ_y rfl rfl 1 _ _ _ _ ty0 ?_
    refine And.intro (fun c => ?_) (fun c => ?_)
    rotate_left
    · exact absurd (show ¬ (1 : Int32) = 0 by decide) c
    refine kjZ_y rfl rfl 1 _ _ _ _ ty0 ?_
    refine And.intro rfl (And.intro rfl ?_)
    exact ⟨rfl, nm, ks, PRE.rf, w0, hr, s0.sub scSB, Or.inl ⟨rfl, c0, Or.inl (by unfold tiR; rw [q1]; rfl)⟩⟩
  refine kjZ_y rfl rfl 1 _ _ _ _ ty0 ?_
  refine And.intro (fun c => ?_) (fun c => ?_)
  · exact absurd rfl c
  refine kjZ_y rfl rfl 5 _ _ _ _ ty0 ?_
  refine (And.intro (Nat.le_of_ble_eq_true rfl) (And.intro (Or.inl ⟨(Nat.le_of_ble_eq_true rfl), (ty0.k (by decide) rfl)⟩) (And.intro (Nat.le_of_ble_eq_true rfl) (And.intro (Nat.le_of_ble_eq_true rfl) (kjY_mono ty0 (fun q_ u1 ty1 xu1 h_ => ?_) (kx_lacksTime ty0 w0 s f _ _ _ e2 e3))))))
  obtain ⟨w1, s1, q⟩ := h_
  intro _ _
  rw [e9, (s0 (59, 16) (by decide)).2.1] at q
  have eot : tiR false (tmM s f) (σ.2.1 59 16) a2 = if tmB n (σ.2.1 59 16) (tmM s f) = false then none else some (tmV n (σ.2.1 59 16) (tmM s f)) := by
    unfold tiR; rw [q1]
    show (if (false = true ∧ n < 1) ∨ tmB n (σ.2.1 59 16) (tmM s f) = false then none else _) = _
    by_cases z : tmB n (σ.2.1 59 16) (tmM s f) = false
    · rw [if_pos z, if_pos (Or.inr z)]
    · rw [if_neg z, if_neg (fun y => y.elim (fun y => by cases y.1) z)]
  have hlt : ltC n (σ.2.1 59 16) (Int64.ofInt (-9007199254740991)) (tmM s f) ↔ tmB n (σ.2.1 59 16) (tmM s f) = true := by
    unfold ltC tmB; rw [decide_eq_true_iff]
  have sS := (s0.sub scSB).tr (s1.sub scST)
  have c1 := (s1 (59, 18) (by decide)).1.trans c0
  rcases q with ⟨rfl, q2, e16⟩ | ⟨rfl, q2⟩
  rotate_left
  · refine kjZ_y rfl rfl 1 _ _ _ _ ty1 ?_
    refine And.intro (fun c => ?_) (fun c => ?_)
    · exact absurd (show (1 : Int32) = 0 from c) (by decide)
    refine kjZ_y rfl rfl 1 _ _ _ _ ty1 ?_
    refine And.intro rfl (And.intro rfl ?_)
    refine ⟨rfl, nm, ks, PRE.rf, w1, hr, sS, Or.inl ⟨rfl, c1, Or.inl ?_⟩⟩
    rw [eot, if_pos]
    cases hz : tmB n (σ.2.1 59 16) (tmM s f) with
    | false => rfl
    | true => exact absurd (hlt.mpr hz) q2
  have hB1 := hlt.mp q2
  rw [if_neg (by rw [hB1]; decide)] at eot
  generalize tmV n (σ.2.1 59 16) (tmM s f) = t at eot e16
  refine kjZ_y rfl rfl 1 _ _ _ _ ty1 ?_
  refine And.intro (fun c => ?_) (fun c => ?_)
  rotate_left
  · exact absurd rfl c
  refine kjZ_y rfl rfl 4 _ _ _ _ ty1 ?_
  refine (And.intro (ty1.k (by decide) rfl) (And.intro (Nat.le_of_ble_eq_true rfl) (And.intro (Or.inl ⟨(Nat.le_of_ble_eq_true rfl), (ty1.k (by decide) rfl)⟩) (And.intro (Nat.le_of_ble_eq_true rfl) (And.intro (Nat.le_of_ble_eq_true rfl) (kjY_mono ty1 (fun q_ u2 ty2 xu2 h_ => ?_) (kx_id ty1 w1 hB hv _ rfl)))))))
  obtain ⟨k, nm2, rfl, p2, p3, w2, s2⟩ := h_
  intro _ _
  refine kjZ_y rfl rfl 4 _ _ _ _ ty2 ?_
  refine (And.intro (Nat.le_of_ble_eq_true rfl) (And.intro (Nat.le_of_ble_eq_true rfl) (And.intro (Or.inl ⟨(Nat.le_of_ble_eq_true rfl), (ty2.k (by decide) rfl)⟩) (And.intro (Nat.le_of_ble_eq_true rfl) (And.intro (Nat.le_of_ble_eq_true rfl) (kjY_mono ty2 (fun q_ u3 ty3 xu3 h_ => ?_) (kx_find ty2 w2 p2 _ rfl)))))))
  obtain ⟨rfl, q3⟩ := h_
  intro _ _
  have sS2 := sS.tr (s2.sub scSA)
  have c2 := (s2 (59, 18) (by decide)).1.trans c1
  have e16 : u3.2.1 53 16 = t := (s2 (53, 16) (by decide)).2.1.trans e16
  rcases q3 with ⟨rfl, q3⟩ | ⟨P, y, Q, rfl, f0, f1, f2⟩
  · obtain ⟨b, hb, eb⟩ := w2.2.2.2.2.2.2.1
    have kb := ob_k ty3 (ANn_b b (ANb_n b hb)).1
    refine kjZ_y rfl rfl 3 _ _ _ _ ty3 ?_
    refine (And.intro (Nat.le_of_ble_eq_true rfl) ?_)
    refine kjZ_y rfl rfl 5 _ _ _ _ ty3 ?_
    refine (And.intro (ty3.k (by decide) rfl) (And.intro (ty3.k (by decide) rfl) (Exists.intro _ (And.intro eb (And.intro (Nat.le_of_ble_eq_true rfl) (And.intro (Or.inl ⟨(Nat.le_of_ble_eq_true rfl), (by assumption)⟩) (And.intro (Nat.le_of_ble_eq_true rfl) (And.intro (Nat.le_of_ble_eq_true rfl) (kjY_mono ty3 (fun q_ u4 ty4 xu4 h_ => ?_) (kx_number ty3 w2 hb _))))))))))
    obtain ⟨rfl, w4, s4⟩ := h_
    intro _ _
    refine kjZ_y rfl rfl 1 _ _ _ _ ty4 ?_
    refine And.intro rfl (And.intro rfl ?_)
    exact ⟨rfl, nm2, ks, p3, w4, hr, sS2.tr (s4.sub scSA), Or.inl ⟨rfl, (s4 (59, 18) (by decide)).1.trans c2, Or.inr q3⟩⟩
  subst f0
  obtain ⟨k2, -, -, hd, -⟩ := w2.val rfl
  have kv : (u3.2.2.2.1 y.1).1 = 11 := by rw [hd]
  obtain ⟨r1, r2⟩ := hr.two
  have fin : ∀ (z : kS) (nm9 : List (List Int32)) (ks9 : List KC) (l4 : Option Value), kTY z → PRE nm nm9 → KWd σ0 B z ws nm9 ks9 → RSD ks9 → SCl scS σ z → (z.2.2.2.1 y.1).1 = 11 → z.1 59 18 = 1 → ((t ≤ σ.2.1 59 16 ∧ σ.1 59 17 = 0 ∧ skA ks9 = rmA (skA (P ++ y :: Q)) P.length ∧ z.1 53 13 = 3) ∨ ((¬ (t ≤ σ.2.1 59 16 ∧ σ.1 59 17 = 0)) ∧ skA ks9 = upA (skA (P ++ y :: Q)) P.length (exF t) ∧ z.1 53 13 = 2 ∧ z.2.1 53 16 = t)) → kjY kPP (kQQ Y) (d + 6) 160 78 [some (.ref 59), some (.ref h1), some (.int x2), some (.int x3), some (.int (nI k)), some (.ref y.1)] [] z (tiP σ0 B σ ws nm (P ++ y :: Q) v (tiR false (tmM s f) (σ.2.1 59 16) a2)) := by
    intro z nm9 ks9 l4 tz pz wz rz sz kz cz hz
    obtain ⟨b, hb, eb⟩ := wz.2.2.2.2.2.2.1
    have kb := ob_k tz (ANn_b b (ANb_n b hb)).1
    refine kjZ_y rfl rfl 5 _ _ _ _ tz ?_
    refine (And.intro (tz.k (by decide) rfl) (And.intro (tz.k (by decide) rfl) (Exists.intro _ (And.intro eb (And.intro (Nat.le_of_ble_eq_true rfl) (And.intro (Or.inl ⟨(Nat.le_of_ble_eq_true rfl), (by assumption)⟩) (And.intro (Nat.le_of_ble_eq_true rfl) (And.intro (Nat.le_of_ble_eq_true rfl) (kjY_mono tz (fun q_ u8 ty8 xu8 h_ => ?_) (kx_number tz wz hb _))))))))))
    obtain ⟨rfl, w8, s8⟩ := h_
    intro _ _
    refine kjZ_y rfl rfl 1 _ _ _ _ ty8 ?_
    refine And.intro rfl (And.intro rfl ?_)
    refine ⟨rfl, nm9, ks9, pz, w8, rz, sz.tr (s8.sub scSA), Or.inr ⟨t, P.length, eot, f2, (s8 (59, 18) (by decide)).1.trans cz, ?_⟩⟩
    rw [(s8 (53, 13) (by decide)).1, (s8 (53, 16) (by decide)).2.1]; exact hz
  refine kjZ_y rfl rfl 3 _ _ _ _ ty3 ?_
  refine (And.intro (Nat.le_of_ble_eq_true rfl) ?_)
  refine kjZ_y rfl rfl 5 _ _ _ _ ty3 ?_
  refine (And.intro (ty3.k (by decide) rfl) (And.intro (ty3.k (by decide) rfl) (And.intro (Nat.le_of_ble_eq_true rfl) (And.intro (Or.inl ⟨(Nat.le_of_ble_eq_true rfl), (ty3.k (by decide) rfl)⟩) (And.intro (Nat.le_of_ble_eq_true rfl) (And.intro (Nat.le_of_ble_eq_true rfl) (kjY_mono ty3 (fun q_ u4 ty4 xu4 h_ => ?_) (kx_isPast ty3 _))))))))
  obtain ⟨rfl, q4⟩ := h_
  intro _ _
  have q4 : (_ = some (Value.int 1) ∧ u4.2.1 53 16 ≤ u4.2.1 59 16 ∧ u4.1 59 17 = 0) ∨ (_ = some (Value.int 0) ∧ ¬ (u4.2.1 53 16 ≤ u4.2.1 59 16 ∧ u4.1 59 17 = 0)) := q4
  rw [e16, (sS2 (59, 16) (by decide)).2.1, (sS2 (59, 17) (by decide)).1] at q4
  rcases q4 with ⟨rfl, qa, qb⟩ | ⟨rfl, qn⟩
  · refine kjZ_y rfl rfl 1 _ _ _ _ ty4 ?_
    refine And.intro (fun c => ?_) (fun c => ?_)
    · exact absurd (show (1 : Int32) = 0 from c) (by decide)
    refine kjZ_y rfl rfl 4 _ _ _ _ ty4 ?_
    refine (And.intro (ty4.k (by decide) rfl) (And.intro (ty4.k (by decide) rfl) (And.intro (Or.inl rfl) (fun ty4' => ?_))))
    have go : ∀ z, kTY z → z = (mjIu u4.1 53 13 (Int32.ofInt 3), u4.2) → kjY kPP (kQQ Y) (d + 6) 160 59 [some (.ref 59), some (.ref h1), some (.int x2), some (.int x3), some (.int (nI k)), some (.ref y.1)] [] z (tiP σ0 B σ ws nm (P ++ y :: Q) v (tiR false (tmM s f) (σ.2.1 59 16) a2)) := by
      intro z tz ez
      have wz : KWd σ0 B z ws nm2 (P ++ y :: Q) := by rw [ez]; exact w2.pi ty4 (by decide)
      have sz : SCl scS u4 z := by rw [ez]; exact SCl.i (by decide +kernel)
      have kz : (z.2.2.2.1 y.1).1 = 11 := by rw [ez]; exact kv
      have ez3 : z.1 53 13 = 3 := by rw [ez]; show mjIu u4.1 53 13 (Int32.ofInt 3) 53 13 = 3; rw [mjIu_p]; rfl
      refine kjZ_y rfl rfl 3 _ _ _ _ tz ?_
      refine (And.intro (Nat.le_of_ble_eq_true rfl) (And.intro (Or.inl ⟨(Nat.le_of_ble_eq_true rfl), (tz.k (by decide) rfl)⟩) (And.intro (Nat.le_of_ble_eq_true rfl) (And.intro (Nat.le_of_ble_eq_true rfl) (kjY_mono tz (fun q_ u5 ty5 xu5 h_ => ?_) (kx_remove tz wz p2 _ rfl))))))
      obtain ⟨s5, q6⟩ := h_
      intro _ _
      rcases q6 with ⟨rfl, q6, -, -⟩ | ⟨rfl, P', y', Q', g0, g1, w5, g2⟩
      · rw [f2] at q6; cases q6
      have kz5 : (u5.2.2.2.1 y.1).1 = 11 := xu5.k tz kz (by decide)
      rw [f2] at g1
      have gl : P.length = P'.length := Option.some.inj g1
      obtain ⟨gP, gQ⟩ := List.append_inj g0 gl
      cases gP
      have gQ2 := (List.cons.inj gQ).2
      subst gQ2
      refine kjZ_y rfl rfl 2 _ _ _ _ ty5 ?_
      refine fin u5 nm2 (P ++ Q) none ty5 p3 w5 r1 ((sS2.tr sz).tr (s5.sub scSE)) kz5 g2 (Or.inl ⟨qa, qb, ?_, (s5 (53, 13) (by decide)).1.trans ez3⟩)
      rw [skA_app, skA_app, skA_cons, ← skA_len P, rmA_at]
    exact go _ ty4' rfl
  · refine kjZ_y rfl rfl 1 _ _ _ _ ty4 ?_
    refine And.intro (fun c => ?_) (fun c => ?_)
    rotate_left
    · exact absurd rfl c
    refine kjZ_y rfl rfl 4 _ _ _ _ ty4 ?_
    refine (And.intro (ty4.k (by decide) rfl) (And.intro (ty4.k (by decide) rfl) (And.intro (Or.inl rfl) (fun ty4' => ?_))))
    have go : ∀ z, kTY z → z = (mjIu u4.1 53 13 (Int32.ofInt 2), u4.2) → kjY kPP (kQQ Y) (d + 6) 160 68 [some (.ref 59), some (.ref h1), some (.int x2), some (.int x3), some (.int (nI k)), some (.ref y.1)] [] z (tiP σ0 B σ ws nm (P ++ y :: Q) v (tiR false (tmM s f) (σ.2.1 59 16) a2)) := by
      intro z tz ez
      have wz : KWd σ0 B z ws nm2 (P ++ y :: Q) := by rw [ez]; exact w2.pi ty4 (by decide)
      have sz : SCl scS u4 z := by rw [ez]; exact SCl.i (by decide +kernel)
      have kz : (z.2.2.2.1 y.1).1 = 11 := by rw [ez]; exact kv
      have ez3 : z.1 53 13 = 2 := by rw [ez]; show mjIu u4.1 53 13 (Int32.ofInt 2) 53 13 = 2; rw [mjIu_p]; rfl
      have ez16 : z.2.1 53 16 = t := by rw [ez]; exact e16
      have hend : endE (exF t y.2.2.2.2.2) = z.2.1 53 16 := by
        rw [ez16]; unfold endE exF; show (if (1 : Int32) = 0 then NEV else t) = t; rw [if_neg (by decide)]
      refine kjZ_y rfl rfl 6 _ _ _ _ tz ?_
      refine (And.intro (tz.k (by decide) rfl) (And.intro (tz.k (by decide) rfl) (And.intro (Nat.le_of_ble_eq_true rfl) (And.intro (Or.inl ⟨(Nat.le_of_ble_eq_true rfl), (tz.k (by decide) rfl)⟩) (And.intro (Nat.le_of_ble_eq_true rfl) (And.intro (Nat.le_of_ble_eq_true rfl) (kjY_mono tz (fun q_ u5 ty5 xu5 h_ => ?_) (kx_ends tz wz _ (a := exF t y.2.2.2.2.2) ⟨rfl, rfl, rfl⟩ hend))))))))
      obtain ⟨rfl, w5, s5⟩ := h_
      intro _ _
      have kz5 : (u5.2.2.2.1 y.1).1 = 11 := xu5.k tz kz (by decide)
      refine kjZ_y rfl rfl 4 _ _ _ _ ty5 ?_
      refine (And.intro (Nat.le_of_ble_eq_true rfl) (And.intro (Or.inl ⟨(Nat.le_of_ble_eq_true rfl), (ty5.k (by decide) rfl)⟩) (And.intro (Nat.le_of_ble_eq_true rfl) (And.intro (Nat.le_of_ble_eq_true rfl) (kjY_mono ty5 (fun q_ u6 ty6 xu6 h_ => ?_) (kx_settle (x := teK y (exF t y.2.2.2.2.2)) ty5 w5 (k := k) (by show nm2[k]? = some y.2.2.2.2.2.1; rw [f1]; exact p2) _ rfl))))))
      obtain ⟨q9, s6, c6, q6⟩ := h_
      intro _ _
      have kz6 : (u6.2.2.2.1 y.1).1 = 11 := xu6.k ty5 kz5 (by decide)
      have hwk : wkO (teK y (exF t y.2.2.2.2.2)) := r2.1
      have hem : ¬ emB (teK y (exF t y.2.2.2.2.2)) := hne y (List.mem_append_right _ List.mem_cons_self)
      subst q9
      rcases q6 with ⟨q6, -⟩ | ⟨-, w6⟩
      · exact absurd q6 hem
      refine fin u6 nm2 _ none ty6 p3 w6 ?_ (((sS2.tr sz).tr (s5.sub scSA)).tr (s6.sub scSE)) kz6 c6 (Or.inr ⟨qn, ?_, (s6 (53, 13) (by decide)).1.trans ((s5 (53, 13) (by decide)).1.trans ez3), (s6 (53, 16) (by decide)).2.1.trans ((s5 (53, 16) (by decide)).2.1.trans ez16)⟩)
      · intro x hx
        rcases List.mem_append.mp hx with z | z
        · exact r1 x (List.mem_append_left _ z)
        · rcases List.mem_cons.mp z with z | z
          · rw [z]; exact ⟨hwk, rfl⟩
          · exact r1 x (List.mem_append_right _ z)
      · rw [skA_app, skA_app, skA_cons, skA_cons, ← skA_len P, upA_at]; rfl
    exact go _ ty4' rfl
end KTIME2
