/-! APPEND, SETRANGE. -/
theorem ovwT_end (t v : List Int32) : ovwT t t.length v = t ++ v := by
  unfold ovwT padT
  have e : t.length + v.length - t.length = v.length := by omega
  rw [e, List.take_left, List.drop_eq_nil_of_le (by rw [List.length_append, List.length_replicate]; exact Nat.le_refl _), List.append_nil]
section KAPPEND
variable {Y : Nat → MethodName × ByteArray} {d : Nat} {σ0 σ u : kS} {B ws nm nm' : List (List Int32)} {ks : List KC}
theorem txA_k {P Q : List KC} {y : KC} {v : List Int32} (h : kyI (skA (P ++ y :: Q)) v = some P.length) : txA (skA (P ++ y :: Q)) v = y.2.2.2.2.2.2.2.2.2.1 := by
  unfold txA; rw [h]; show (match (skA (P ++ y :: Q))[P.length]? with | some a => _ | none => _) = _; rw [skA_at]
theorem cd_S {o : Option (List AK)} {A : List AK} {u0 : kS} (s : SCl scG σ u0) (hp : PRE nm nm') (h : cdS σ0 B u0 ws nm' A u) (ho : o = some A) : cdP σ0 B σ ws nm ks o none u := by
  obtain ⟨nmA, ksA, pA, wA, rA, eA, cA, sA⟩ := h
  exact cd_ok (hp.tr pA) wA rA eA cA (s.tr sA) ho
theorem kx_append (ty : kTY σ) (w : KWd σ0 B σ ws nm ks) (hr : RSD ks) (hB : BOK B ws) {j : Nat} (hj : CMD σ j) {v a2 : List Int32} (hv : ws[1]? = some v) (h2 : ws[2]? = some a2) (hk1 : ks.length + 1 ≤ 2600) (hT : ∀ x ∈ ks, x.2.2.2.2.2.2.2.2.2.1.length ≤ 16384) (hl2 : a2.length ≤ 600000) (hcap : xtA (skA ks) + 16384 ≤ 98304) {o : Option (List AK)} (ho2 : rfZ (σ.1 59 17) ks j v 0 → o = none) (ho3 : ¬ rfZ (σ.1 59 17) ks j v 0 → o = apF (skA ks) v a2) :
    kjY kPP (kQQ Y) (d + 7) 177 0 (mjL0 4 [.ref 67]) [] σ (cdP σ0 B σ ws nm ks o) := by
  have hlen := (List.getElem?_eq_some_iff.mp h2).1
  refine kjZ_y rfl rfl 6 _ _ _ _ ty ?_
  refine (And.intro (ty.k (by decide) rfl) (And.intro (Nat.le_of_ble_eq_true rfl) (And.intro (Or.inl ⟨(Nat.le_of_ble_eq_true rfl), (ty.k (by decide) rfl)⟩) (And.intro (Nat.le_of_ble_eq_true rfl) (And.intro (Nat.le_of_ble_eq_true rfl) (kjY_mono ty (fun q_ u1 ty1 xu1 h_ => ?_) (kx_refuses ty w hB hj (a := 1) (b := 1) (by omega) (by omega) (s := 0) (by decide) _ _ _ rfl rfl rfl)))))))
  obtain ⟨nm1, p1, w1, s1, q⟩ := h_
  intro _ _
  rw [rf1 w hv] at q
  rcases q with ⟨rfl, q⟩ | ⟨rfl, q⟩
  · refine kjZ_y rfl rfl 1 _ _ _ _ ty1 ?_
    refine And.intro (fun c => ?_) (fun c => ?_)
    · exact absurd (show (1 : Int32) = 0 from c) (by decide)
    refine kjZ_y rfl rfl 1 _ _ _ _ ty1 ?_
    refine And.intro rfl (And.intro rfl ?_)
    exact cd_no p1 w1 hr s1.h (ho2 q)
  have ho := ho3 q
  have hso := fun z => q (Or.inr z)
  refine kjZ_y rfl rfl 1 _ _ _ _ ty1 ?_
  refine And.intro (fun c => ?_) (fun c => ?_)
  rotate_left
  · exact absurd rfl c
  refine kjZ_y rfl rfl 4 _ _ _ _ ty1 ?_
  refine (And.intro (ty1.k (by decide) rfl) (And.intro (Nat.le_of_ble_eq_true rfl) (And.intro (Or.inl ⟨(Nat.le_of_ble_eq_true rfl), (ty1.k (by decide) rfl)⟩) (And.intro (Nat.le_of_ble_eq_true rfl) (And.intro (Nat.le_of_ble_eq_true rfl) (kjY_mono ty1 (fun q_ u2 ty2 xu2 h_ => ?_) (kx_id ty1 w1 hB hv _ rfl)))))))
  obtain ⟨k, nm2, rfl, p2, p3, w2, s2⟩ := h_
  intro _ _
  refine kjZ_y rfl rfl 5 _ _ _ _ ty2 ?_
  refine (And.intro (Nat.le_of_ble_eq_true rfl) (And.intro (ty2.k (by decide) rfl) (And.intro (Nat.le_of_ble_eq_true rfl) (And.intro (Or.inl ⟨(Nat.le_of_ble_eq_true rfl), (ty2.k (by decide) rfl)⟩) (And.intro (Nat.le_of_ble_eq_true rfl) (And.intro (Nat.le_of_ble_eq_true rfl) (kjY_mono ty2 (fun q_ u3 ty3 xu3 h_ => ?_) (kx_find ty2 w2 p2 _ rfl))))))))
  obtain ⟨rfl, q3⟩ := h_
  intro _ _
  have sA := s1.tr s2
  unfold apF at ho
  rcases q3 with ⟨rfl, q3⟩ | ⟨P, y, Q, rfl, f0, f1, f2⟩
  · have et : txA (skA ks) v = [] := by unfold txA; rw [q3]
    refine kjZ_y rfl rfl 6 _ _ _ _ ty3 ?_
    refine (And.intro (Nat.le_of_ble_eq_true rfl) (And.intro (Nat.le_of_ble_eq_true rfl) ?_))
    refine kjZ_y rfl rfl 4 _ _ _ _ ty3 ?_
    refine (And.intro (ty3.k (by decide) rfl) (And.intro (Nat.le_of_ble_eq_true rfl) (And.intro (Or.inl ⟨(Nat.le_of_ble_eq_true rfl), (ty3.k (by decide) rfl)⟩) (And.intro (Nat.le_of_ble_eq_true rfl) (And.intro (Nat.le_of_ble_eq_true rfl) (kjY_mono ty3 (fun q_ u4 ty4 xu4 h_ => ?_) (kx_lengthOf ty3 w2 h2 _ rfl)))))))
    obtain ⟨rfl, rfl⟩ := h_
    intro _ _
    have ep := ovwT_end (txA (skA ks) v) a2
    rw [et] at ep ho
    refine kjZ_y rfl rfl 4 _ _ _ _ ty4 ?_
    refine And.intro (fun c => ?_) (fun c => ?_)
    · have c : nI a2.length ≤ nI 16384 - nI 0 := c
      rw [pk_sub (by omega), nle (by omega) (by omega)] at c
      refine kjZ_y rfl rfl 6 _ _ _ _ ty4 ?_
      refine (And.intro (Nat.le_of_ble_eq_true rfl) (And.intro (Or.inl ⟨(Nat.le_of_ble_eq_true rfl), (ty4.k (by decide) rfl)⟩) (And.intro (Nat.le_of_ble_eq_true rfl) (And.intro (Nat.le_of_ble_eq_true rfl) (kjY_mono ty4 (fun q_ u5 ty5 xu5 h_ => ?_) (kx_writeArg0 ty4 w2 hr (p := 0) p2 q3 hk1 h2 (by omega) hcap _ _ _ rfl rfl rfl))))))
      obtain ⟨rfl, q5⟩ := h_
      intro _ _
      refine kjZ_y rfl rfl 1 _ _ _ _ ty5 ?_
      refine And.intro rfl (And.intro rfl ?_)
      refine cd_S sA.g (p1.tr p3) q5 ?_
      rw [ho, if_pos (by show 0 + _ ≤ _; omega), et]
      show _ = some (putA _ _ (ovwT [] ([] : List Int32).length a2)); rw [ep]
    · have c : ¬ nI a2.length ≤ nI 16384 - nI 0 := c
      rw [pk_sub (by omega), nle (by omega) (by omega)] at c
      refine kjZ_y rfl rfl 4 _ _ _ _ ty4 ?_
      refine (And.intro (ty4.k (by decide) rfl) (And.intro rfl (And.intro (Nat.le_of_ble_eq_true rfl) (And.intro (Or.inl ⟨(Nat.le_of_ble_eq_true rfl), (ty4.k (by decide) rfl)⟩) (And.intro (Nat.le_of_ble_eq_true rfl) (And.intro (Nat.le_of_ble_eq_true rfl) (kjY_mono ty4 (fun q_ u5 ty5 xu5 h_ => ?_) (kx_refuse ty4 w2 (by decide)))))))))
      obtain ⟨rfl, w5, s5⟩ := h_
      intro _ _
      refine kjZ_y rfl rfl 1 _ _ _ _ ty5 ?_
      refine And.intro rfl (And.intro rfl ?_)
      exact cd_no (p1.tr p3) w5 hr (sA.tr s5).h (by rw [ho, if_neg (by show ¬ 0 + _ ≤ _; omega)])
  · subst f0
    have hs0 : y.2.2.2.2.2.2.1 = 0 := so_1 (s := 0) f2 hso
    obtain ⟨z1, z2, kv⟩ := w2.tz hs0
    have hyl := hT y (List.mem_append_right _ List.mem_cons_self)
    have et := txA_k f2
    have ep := ovwT_end (txA (skA (P ++ y :: Q)) v) a2
    rw [et] at ep ho
    refine kjZ_y rfl rfl 6 _ _ _ _ ty3 ?_
    refine (And.intro (Nat.le_of_ble_eq_true rfl) (And.intro (by assumption) (And.intro (Nat.le_of_ble_eq_true rfl) ?_)))
    refine kjZ_y rfl rfl 4 _ _ _ _ ty3 ?_
    refine (And.intro (ty3.k (by decide) rfl) (And.intro (Nat.le_of_ble_eq_true rfl) (And.intro (Or.inl ⟨(Nat.le_of_ble_eq_true rfl), (ty3.k (by decide) rfl)⟩) (And.intro (Nat.le_of_ble_eq_true rfl) (And.intro (Nat.le_of_ble_eq_true rfl) (kjY_mono ty3 (fun q_ u4 ty4 xu4 h_ => ?_) (kx_lengthOf ty3 w2 h2 _ rfl)))))))
    obtain ⟨rfl, rfl⟩ := h_
    intro _ _
    refine kjZ_y rfl rfl 4 _ _ _ _ ty4 ?_
    refine And.intro (fun c => ?_) (fun c => ?_)
    · have c : nI a2.length ≤ nI 16384 - u4.1 y.1 6 := c
      rw [z1, pk_sub (by omega), nle (by omega) (by omega)] at c
      refine kjZ_y rfl rfl 6 _ _ _ _ ty4 ?_
      refine (And.intro (Nat.le_of_ble_eq_true rfl) (And.intro (Or.inl ⟨(Nat.le_of_ble_eq_true rfl), (ty4.k (by decide) rfl)⟩) (And.intro (Nat.le_of_ble_eq_true rfl) (And.intro (Nat.le_of_ble_eq_true rfl) (kjY_mono ty4 (fun q_ u5 ty5 xu5 h_ => ?_) (kx_writeArg ty4 w2 hs0 hr (p := y.2.2.2.2.2.2.2.2.2.1.length) p2 f1 f2 h2 hyl (by omega) hcap _ _ _ rfl z1 rfl))))))
      obtain ⟨rfl, q5⟩ := h_
      intro _ _
      refine kjZ_y rfl rfl 1 _ _ _ _ ty5 ?_
      refine And.intro rfl (And.intro rfl ?_)
      refine cd_S sA.g (p1.tr p3) q5 ?_
      rw [ho, if_pos (by omega), et, ep]
    · have c : ¬ nI a2.length ≤ nI 16384 - u4.1 y.1 6 := c
      rw [z1, pk_sub (by omega), nle (by omega) (by omega)] at c
      refine kjZ_y rfl rfl 4 _ _ _ _ ty4 ?_
      refine (And.intro (ty4.k (by decide) rfl) (And.intro rfl (And.intro (Nat.le_of_ble_eq_true rfl) (And.intro (Or.inl ⟨(Nat.le_of_ble_eq_true rfl), (ty4.k (by decide) rfl)⟩) (And.intro (Nat.le_of_ble_eq_true rfl) (And.intro (Nat.le_of_ble_eq_true rfl) (kjY_mono ty4 (fun q_ u5 ty5 xu5 h_ => ?_) (kx_refuse ty4 w2 (by decide)))))))))
      obtain ⟨rfl, w5, s5⟩ := h_
      intro _ _
      refine kjZ_y rfl rfl 1 _ _ _ _ ty5 ?_
      refine And.intro rfl (And.intro rfl ?_)
      exact cd_no (p1.tr p3) w5 hr (sA.tr s5).h (by rw [ho, if_neg (by omega)])
theorem kx_setRange (ty : kTY σ) (w : KWd σ0 B σ ws nm ks) (hr : RSD ks) (hB : BOK B ws) {j : Nat} (hj : CMD σ j) {v a2 a3 : List Int32} (hv : ws[1]? = some v) (h2 : ws[2]? = some a2) (h3 : ws[3]? = some a3) (hk1 : ks.length + 1 ≤ 2600) (hT : ∀ x ∈ ks, x.2.2.2.2.2.2.2.2.2.1.length ≤ 16384) (hl3 : a3.length ≤ 16384) (hcap : xtA (skA ks) + 16384 ≤ 98304) {o : Option (List AK)} (ho0 : intF a2 = none → o = none) (ho1 : ∀ n, intF a2 = some n → n < 0 → o = none) (ho2 : rfZ (σ.1 59 17) ks j v 0 → o = none) (ho3 : ∀ n, intF a2 = some n → ¬ n < 0 → ¬ rfZ (σ.1 59 17) ks j v 0 → o = srF (skA ks) v a3 n.toInt.toNat) :
    kjY kPP (kQQ Y) (d + 7) 180 0 (mjL0 6 [.ref 67]) [] σ (cdP σ0 B σ ws nm ks o) := by
  have hlen := (List.getElem?_eq_some_iff.mp h3).1
  refine kjZ_y rfl rfl 4 _ _ _ _ ty ?_
  refine (And.intro (ty.k (by decide) rfl) (And.intro (Nat.le_of_ble_eq_true rfl) (And.intro (Or.inl ⟨(Nat.le_of_ble_eq_true rfl), (ty.k (by decide) rfl)⟩) (And.intro (Nat.le_of_ble_eq_true rfl) (And.intro (Nat.le_of_ble_eq_true rfl) (kjY_mono ty (fun q_ u0 ty0 xu0 h_ => ?_) (kx_lacksInteger ty w h2 _ rfl)))))))
  obtain ⟨w0, s0, q⟩ := h_
  intro _ _
  have hH := s0.sub scHB
  rcases q with ⟨N, q1, rfl, e9⟩ | ⟨q1, rfl⟩
  rotate_left
  · refine kjZ_y rfl rfl 1 _ _ _ _ ty0 ?_
    refine And.intro (fun c => ?_) (fun c => ?_)
    · exact absurd (show (1 : Int32) = 0 from c) (by decide)
    refine kjZ_y rfl rfl 1 _ _ _ _ ty0 ?_
    refine And.intro rfl (And.intro rfl ?_)
    exact cd_no PRE.rf w0 hr hH (ho0 q1)
  refine kjZ_y rfl rfl 1 _ _ _ _ ty0 ?_
  refine And.intro (fun c => ?_) (fun c => ?_)
  rotate_left
  · exact absurd rfl c
  refine kjZ_y rfl rfl 8 _ _ _ _ ty0 ?_
  refine (And.intro (ty0.k (by decide) rfl) (And.intro (ty0.k (by decide) rfl) (And.intro (Nat.le_of_ble_eq_true rfl) (And.intro (fun c => ?_) (fun c => ?_)))))
  rotate_left
  · have c : u0.2.1 53 9 < 0 := Int64.not_le.mp (fun z => c ((lg_cmp_ge _ _).mpr z))
    rw [e9] at c
    refine kjZ_y rfl rfl 4 _ _ _ _ ty0 ?_
    refine (And.intro (ty0.k (by decide) rfl) (And.intro rfl (And.intro (Nat.le_of_ble_eq_true rfl) (And.intro (Or.inl ⟨(Nat.le_of_ble_eq_true rfl), (ty0.k (by decide) rfl)⟩) (And.intro (Nat.le_of_ble_eq_true rfl) (And.intro (Nat.le_of_ble_eq_true rfl) (kjY_mono ty0 (fun q_ u1 ty1 xu1 h_ => ?_) (kx_refuse ty0 w0 (by decide)))))))))
    obtain ⟨rfl, w1, s1⟩ := h_
    intro _ _
    refine kjZ_y rfl rfl 1 _ _ _ _ ty1 ?_
    refine And.intro rfl (And.intro rfl ?_)
    exact cd_no PRE.rf w1 hr (hH.tr s1.h) (ho1 N q1 c)
  have c : ¬ N < 0 := by rw [← e9]; exact Int64.not_lt.mpr ((lg_cmp_ge _ _).mp c)
  obtain ⟨n1, hn1, en1⟩ := pk_lOf c
  refine kjZ_y rfl rfl 6 _ _ _ _ ty0 ?_
  refine (And.intro (ty0.k (by decide) rfl) (And.intro (Nat.le_of_ble_eq_true rfl) (And.intro (Or.inl ⟨(Nat.le_of_ble_eq_true rfl), (ty0.k (by decide) rfl)⟩) (And.intro (Nat.le_of_ble_eq_true rfl) (And.intro (Nat.le_of_ble_eq_true rfl) (kjY_mono ty0 (fun q_ u1 ty1 xu1 h_ => ?_) (kx_refuses ty0 w0 hB (hj.sc hH) (a := 1) (b := 1) (by omega) (by omega) (s := 0) (by decide) _ _ _ rfl rfl rfl)))))))
  obtain ⟨nm1, p1, w1, s1, q⟩ := h_
  intro _ _
  rw [rf1 w0 hv, (hH (59, 17) (by decide)).1] at q
  rcases q with ⟨rfl, q⟩ | ⟨rfl, q⟩
  · refine kjZ_y rfl rfl 1 _ _ _ _ ty1 ?_
    refine And.intro (fun c => ?_) (fun c => ?_)
    · exact absurd (show (1 : Int32) = 0 from c) (by decide)
    refine kjZ_y rfl rfl 1 _ _ _ _ ty1 ?_
    refine And.intro rfl (And.intro rfl ?_)
    exact cd_no p1 w1 hr (hH.tr s1.h) (ho2 q)
  have ho := ho3 N q1 c q
  rw [en1, pk_lT hn1] at ho
  have ho : o = srF (skA ks) v a3 n1 := ho
  have hso := fun z => q (Or.inr z)
  refine kjZ_y rfl rfl 1 _ _ _ _ ty1 ?_
  refine And.intro (fun c => ?_) (fun c => ?_)
  rotate_left
  · exact absurd rfl c
  refine kjZ_y rfl rfl 4 _ _ _ _ ty1 ?_
  refine (And.intro (ty1.k (by decide) rfl) (And.intro (Nat.le_of_ble_eq_true rfl) (And.intro (Or.inl ⟨(Nat.le_of_ble_eq_true rfl), (ty1.k (by decide) rfl)⟩) (And.intro (Nat.le_of_ble_eq_true rfl) (And.intro (Nat.le_of_ble_eq_true rfl) (kjY_mono ty1 (fun q_ u2 ty2 xu2 h_ => ?_) (kx_id ty1 w1 hB hv _ rfl)))))))
  obtain ⟨k, nm2, rfl, p2, p3, w2, s2⟩ := h_
  intro _ _
  refine kjZ_y rfl rfl 5 _ _ _ _ ty2 ?_
  refine (And.intro (Nat.le_of_ble_eq_true rfl) (And.intro (ty2.k (by decide) rfl) (And.intro (Nat.le_of_ble_eq_true rfl) (And.intro (Or.inl ⟨(Nat.le_of_ble_eq_true rfl), (ty2.k (by decide) rfl)⟩) (And.intro (Nat.le_of_ble_eq_true rfl) (And.intro (Nat.le_of_ble_eq_true rfl) (kjY_mono ty2 (fun q_ u3 ty3 xu3 h_ => ?_) (kx_find ty2 w2 p2 _ rfl))))))))
  obtain ⟨rfl, q3⟩ := h_
  intro _ _
  have sA := hH.tr (s1.tr s2).h
  have sG := sA.sub scGH
  obtain ⟨b, hb, eb⟩ := w2.2.2.2.2.2.2.1
  have kb := ob_k ty3 (ANn_b b (ANb_n b hb)).1
  unfold srF at ho
  have e9' : u0.2.1 53 9 = lN n1 := e9.trans en1
  have hle : ∀ c : Prop, (u0.2.1 53 9 ≤ (nI 16384 - nI a3.length).toInt64 ↔ n1 + a3.length ≤ 16384) := by
    intro _
    rw [e9', pk_sub (by omega), nI_64 (by omega), i64_le hn1 (by omega)]; omega
  have hle := hle True
  rcases q3 with ⟨rfl, q3⟩ | ⟨P, y, Q, rfl, f0, f1, f2⟩
  · refine kjZ_y rfl rfl 5 _ _ _ _ ty3 ?_
    refine (And.intro (Nat.le_of_ble_eq_true rfl) (And.intro (ty3.k (by decide) rfl) (And.intro (Nat.le_of_ble_eq_true rfl) (And.intro (Or.inl ⟨(Nat.le_of_ble_eq_true rfl), (ty3.k (by decide) rfl)⟩) (And.intro (Nat.le_of_ble_eq_true rfl) (And.intro (Nat.le_of_ble_eq_true rfl) (kjY_mono ty3 (fun q_ u4 ty4 xu4 h_ => ?_) (kx_lengthOf ty3 w2 h3 _ rfl))))))))
    obtain ⟨rfl, rfl⟩ := h_
    intro _ _
    refine kjZ_y rfl rfl 3 _ _ _ _ ty4 ?_
    refine (And.intro (Nat.le_of_ble_eq_true rfl) (And.intro (fun c2 => ?_) (fun c2 => ?_)))
    rotate_left
    · have c2 : nI a3.length = nI 0 := Decidable.of_not_not (fun z => c2 z)
      rw [nI_eq (by omega) (by decide)] at c2
      refine kjZ_y rfl rfl 8 _ _ _ _ ty4 ?_
      refine (And.intro (ty4.k (by decide) rfl) (And.intro (ty4.k (by decide) rfl) (Exists.intro _ (And.intro eb (And.intro (Nat.le_of_ble_eq_true rfl) (And.intro (Or.inl ⟨(Nat.le_of_ble_eq_true rfl), (by assumption)⟩) (And.intro (Nat.le_of_ble_eq_true rfl) (And.intro (Nat.le_of_ble_eq_true rfl) (kjY_mono ty4 (fun q_ u5 ty5 xu5 h_ => ?_) (kx_number ty4 w2 hb _))))))))))
      obtain ⟨rfl, w5, s5⟩ := h_
      intro _ _
      refine kjZ_y rfl rfl 2 _ _ _ _ ty5 ?_
      refine And.intro rfl (And.intro rfl ?_)
      exact cd_no (p1.tr p3) w5 hr (sA.tr s5.h) (by rw [ho, if_pos (List.length_eq_zero_iff.mp c2)])
    have c2 : ¬ nI a3.length = nI 0 := c2
    rw [nI_eq (by omega) (by decide)] at c2
    rw [if_neg (fun z => c2 (by rw [z]; rfl))] at ho
    refine kjZ_y rfl rfl 7 _ _ _ _ ty4 ?_
    refine And.intro (fun c3 => ?_) (fun c3 => ?_)
    · have c3 := hle.mp ((lg_cmp_le _ _).mp c3)
      refine kjZ_y rfl rfl 7 _ _ _ _ ty4 ?_
      refine (And.intro (Nat.le_of_ble_eq_true rfl) (And.intro (Or.inl ⟨(Nat.le_of_ble_eq_true rfl), (ty4.k (by decide) rfl)⟩) (And.intro (Nat.le_of_ble_eq_true rfl) (And.intro (Nat.le_of_ble_eq_true rfl) (kjY_mono ty4 (fun q_ u5 ty5 xu5 h_ => ?_) (kx_writeArg0 ty4 w2 hr (p := n1) p2 q3 hk1 h3 c3 hcap _ _ _ rfl (show (u0.2.1 53 9).toInt32 = _ by rw [e9', lN_32 (by omega)]) rfl))))))
      obtain ⟨rfl, q5⟩ := h_
      intro _ _
      refine kjZ_y rfl rfl 1 _ _ _ _ ty5 ?_
      refine And.intro rfl (And.intro rfl ?_)
      exact cd_S sG (p1.tr p3) q5 (by rw [ho, if_pos c3])
    · have c3 : ¬ n1 + a3.length ≤ 16384 := fun z => c3 ((lg_cmp_le _ _).mpr (hle.mpr z))
      refine kjZ_y rfl rfl 4 _ _ _ _ ty4 ?_
      refine (And.intro (ty4.k (by decide) rfl) (And.intro rfl (And.intro (Nat.le_of_ble_eq_true rfl) (And.intro (Or.inl ⟨(Nat.le_of_ble_eq_true rfl), (ty4.k (by decide) rfl)⟩) (And.intro (Nat.le_of_ble_eq_true rfl) (And.intro (Nat.le_of_ble_eq_true rfl) (kjY_mono ty4 (fun q_ u5 ty5 xu5 h_ => ?_) (kx_refuse ty4 w2 (by decide)))))))))
      obtain ⟨rfl, w5, s5⟩ := h_
      intro _ _
      refine kjZ_y rfl rfl 2 _ _ _ _ ty5 ?_
      refine And.intro rfl (And.intro rfl ?_)
      exact cd_no (p1.tr p3) w5 hr (sA.tr s5.h) (by rw [ho, if_neg c3])
  · subst f0
    have hs0 : y.2.2.2.2.2.2.1 = 0 := so_1 (s := 0) f2 hso
    obtain ⟨z1, z2, kv⟩ := w2.tz hs0
    have hyl := hT y (List.mem_append_right _ List.mem_cons_self)
    refine kjZ_y rfl rfl 5 _ _ _ _ ty3 ?_
    refine (And.intro (Nat.le_of_ble_eq_true rfl) (And.intro (ty3.k (by decide) rfl) (And.intro (Nat.le_of_ble_eq_true rfl) (And.intro (Or.inl ⟨(Nat.le_of_ble_eq_true rfl), (ty3.k (by decide) rfl)⟩) (And.intro (Nat.le_of_ble_eq_true rfl) (And.intro (Nat.le_of_ble_eq_true rfl) (kjY_mono ty3 (fun q_ u4 ty4 xu4 h_ => ?_) (kx_lengthOf ty3 w2 h3 _ rfl))))))))
    obtain ⟨rfl, rfl⟩ := h_
    intro _ _
    refine kjZ_y rfl rfl 3 _ _ _ _ ty4 ?_
    refine (And.intro (Nat.le_of_ble_eq_true rfl) (And.intro (fun c2 => ?_) (fun c2 => ?_)))
    rotate_left
    · have c2 : nI a3.length = nI 0 := Decidable.of_not_not (fun z => c2 z)
      rw [nI_eq (by omega) (by decide)] at c2
      refine kjZ_y rfl rfl 9 _ _ _ _ ty4 ?_
      refine (And.intro (ty4.k (by decide) rfl) (And.intro (ty4.k (by decide) rfl) (Exists.intro _ (And.intro eb (And.intro (by assumption) (And.intro (Nat.le_of_ble_eq_true rfl) (And.intro (Or.inl ⟨(Nat.le_of_ble_eq_true rfl), (by assumption)⟩) (And.intro (Nat.le_of_ble_eq_true rfl) (And.intro (Nat.le_of_ble_eq_true rfl) (kjY_mono ty4 (fun q_ u5 ty5 xu5 h_ => ?_) (kx_number ty4 w2 hb _)))))))))))
      obtain ⟨rfl, w5, s5⟩ := h_
      intro _ _
      refine kjZ_y rfl rfl 2 _ _ _ _ ty5 ?_
      refine And.intro rfl (And.intro rfl ?_)
      exact cd_no (p1.tr p3) w5 hr (sA.tr s5.h) (by rw [ho, if_pos (List.length_eq_zero_iff.mp c2)])
    have c2 : ¬ nI a3.length = nI 0 := c2
    rw [nI_eq (by omega) (by decide)] at c2
    rw [if_neg (fun z => c2 (by rw [z]; rfl))] at ho
    refine kjZ_y rfl rfl 7 _ _ _ _ ty4 ?_
    refine And.intro (fun c3 => ?_) (fun c3 => ?_)
    · have c3 := hle.mp ((lg_cmp_le _ _).mp c3)
      refine kjZ_y rfl rfl 7 _ _ _ _ ty4 ?_
      refine (And.intro (Nat.le_of_ble_eq_true rfl) (And.intro (Or.inl ⟨(Nat.le_of_ble_eq_true rfl), (ty4.k (by decide) rfl)⟩) (And.intro (Nat.le_of_ble_eq_true rfl) (And.intro (Nat.le_of_ble_eq_true rfl) (kjY_mono ty4 (fun q_ u5 ty5 xu5 h_ => ?_) (kx_writeArg ty4 w2 hs0 hr (p := n1) p2 f1 f2 h3 hyl c3 hcap _ _ _ rfl (show (u0.2.1 53 9).toInt32 = _ by rw [e9', lN_32 (by omega)]) rfl))))))
      obtain ⟨rfl, q5⟩ := h_
      intro _ _
      refine kjZ_y rfl rfl 1 _ _ _ _ ty5 ?_
      refine And.intro rfl (And.intro rfl ?_)
      exact cd_S sG (p1.tr p3) q5 (by rw [ho, if_pos c3])
    · have c3 : ¬ n1 + a3.length ≤ 16384 := fun z => c3 ((lg_cmp_le _ _).mpr (hle.mpr z))
      refine kjZ_y rfl rfl 4 _ _ _ _ ty4 ?_
      refine (And.intro (ty4.k (by decide) rfl) (And.intro rfl (And.intro (Nat.le_of_ble_eq_true rfl) (And.intro (Or.inl ⟨(Nat.le_of_ble_eq_true rfl), (ty4.k (by decide) rfl)⟩) (And.intro (Nat.le_of_ble_eq_true rfl) (And.intro (Nat.le_of_ble_eq_true rfl) (kjY_mono ty4 (fun q_ u5 ty5 xu5 h_ => ?_) (kx_refuse ty4 w2 (by decide)))))))))
      obtain ⟨rfl, w5, s5⟩ := h_
      intro _ _
      refine kjZ_y rfl rfl 2 _ _ _ _ ty5 ?_
      refine And.intro rfl (And.intro rfl ?_)
      exact cd_no (p1.tr p3) w5 hr (sA.tr s5.h) (by rw [ho, if_neg c3])
end KAPPEND
