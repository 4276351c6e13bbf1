/-! INCR, DECR, INCRBY, DECRBY. -/
def cnF (A : List AK) (w : List Int32) (less : Bool) (n : Int64) : Option (List AK) := match vlA A w with
  | none => none
  | some v => if ovW less v n < 0 then none else some (putA A w (dec (ovS less v n)))
section KCOUNT
variable {Y : Nat → MethodName × ByteArray} {d : Nat} {σ0 σ u : kS} {B ws nm nm' : List (List Int32)} {ks : List KC}
theorem cdP.pre {u0 : kS} {r : Option Value} {o : Option (List AK)} (h : cdP σ0 B u0 ws nm' ks o r u) (s : SCl scH σ u0) (hp : PRE nm nm') : cdP σ0 B σ ws nm ks o r u := by
  obtain ⟨h1, nm9, ks9, p9, w9, r9, s9, q9⟩ := h
  refine ⟨h1, nm9, ks9, hp.tr p9, w9, r9, (s.sub scGH).tr s9, ?_⟩
  rcases q9 with ⟨a, b, c⟩ | q9
  · exact Or.inl ⟨a, b, c.trans (s (59, 18) (by decide)).1⟩
  · exact Or.inr q9
theorem ovT_al2 (v t : List Int32) (h : t.length = v.length) : ovT 0 v t = v := by
  unfold ovT; rw [List.take_zero, List.nil_append, List.drop_eq_nil_of_le (by omega), List.append_nil]
theorem kx_cnt83 (ty : kTY σ) {P Q : List KC} {x : KC} (w : KWd σ0 B σ ws nm (P ++ x :: Q)) (hs : x.2.2.2.2.2.2.1 = 0) {k : Nat} (hk : nm[k]? = some x.2.2.2.2.2.1) (hr : RSD (P ++ Q)) (hcap : xtA (skA (P ++ x :: Q)) + 16384 ≤ 98304) {n : Int64} (en : σ.2.1 53 9 = n) (x1 : Nat) (x2 x5 : Int32) (x3 : Int64) (e5 : x5 = nI k) :
    kjY kPP (kQQ Y) (d + 7) 181 83 [some (.ref 67), some (.ref x1), some (.int x2), some (.long x3), none, some (.int x5), some (.ref x.1)] [] σ (fun r z => r = none ∧ cdS σ0 B σ ws nm (skA (P ++ mkK x (txG (fun _ => dec n) x.2.2.2.2.2) :: Q)) z) := by
  obtain ⟨z1, z2, kv⟩ := w.tz hs
  have hb : 68 ∈ ANn := by decide
  refine kjZ_y rfl rfl 3 _ _ _ _ ty ?_
  refine (And.intro (ty.k (by decide) rfl) (And.intro (Nat.le_of_ble_eq_true rfl) (And.intro (Or.inl ⟨(Nat.le_of_ble_eq_true rfl), (ty.k (by decide) rfl)⟩) (And.intro (Nat.le_of_ble_eq_true rfl) (And.intro (Nat.le_of_ble_eq_true rfl) (kjY_mono ty (fun q_ u1 ty1 xu1 h_ => ?_) (k_empty ty 68 (ob_k ty (by decide)))))))))
  obtain ⟨rfl, eu1⟩ := h_
  intro _ _
  obtain ⟨w1, b1, c1, s1⟩ := w.emp ty hb eu1
  have kv1 : (u1.2.2.2.1 x.1).1 = 11 := xu1.k ty kv (by decide)
  have en1 : u1.2.1 53 9 = n := (s1 (53, 9) (by decide)).2.1.trans en
  refine kjZ_y rfl rfl 6 _ _ _ _ ty1 ?_
  refine (And.intro (ty1.k (by decide) rfl) (And.intro (ty1.k (by decide) rfl) (And.intro (ty1.k (by decide) rfl) (And.intro (Nat.le_of_ble_eq_true rfl) (And.intro (Or.inl ⟨(Nat.le_of_ble_eq_true rfl), (ty1.k (by decide) rfl)⟩) (And.intro (Nat.le_of_ble_eq_true rfl) (And.intro (Nat.le_of_ble_eq_true rfl) (kjY_mono ty1 (fun q_ u2 ty2 xu2 h_ => ?_) (k_digits ty1 w1.2.1.1 (b := 68) (by decide) b1 (u1.2.1 53 9) (opQ_an hb w1.2.1.2 _))))))))))
  have q := h_
  intro _ _
  obtain ⟨rfl, w2, s2⟩ := w1.op ty1 hb q
  obtain ⟨-, -, -, -, l', b2, q2⟩ := q
  obtain ⟨q2, -⟩ := q2 c1 (by have := dec_20 (u1.2.1 53 9); rw [List.length_nil]; show _ ≤ 32; omega)
  rw [List.nil_append, en1] at q2
  subst q2
  have hl := dec_20 n
  have kv2 : (u2.2.2.2.1 x.1).1 = 11 := xu2.k ty1 kv1 (by decide)
  have e2 : u2.1 68 2 = nI (dec n).length := by obtain ⟨r, N, m1, m2, m3, m4, m5, m6, m7⟩ := b2; exact m5
  refine kjZ_y rfl rfl 6 _ _ _ _ ty2 ?_
  refine (And.intro (ty2.k (by decide) rfl) (And.intro (ty2.k (by decide) rfl) (And.intro (Nat.le_of_ble_eq_true rfl) (And.intro (Or.inl ⟨(Nat.le_of_ble_eq_true rfl), (ty2.k (by decide) rfl)⟩) (And.intro (Nat.le_of_ble_eq_true rfl) (And.intro (Nat.le_of_ble_eq_true rfl) (kjY_mono ty2 (fun q_ u3 ty3 xu3 h_ => ?_) (kx_stretch2 ty2 w2 hs (m := (dec n).length) (by omega) hcap _ e2))))))))
  obtain ⟨⟨rfl, w3, s3⟩, b3⟩ := h_
  intro _ _
  obtain ⟨r, N, m1, m2, m3, m4, m5, m6, m7⟩ := b3 68 _ hb b2
  have kv3 : (u3.2.2.2.1 x.1).1 = 11 := xu3.k ty2 kv2 (by decide)
  refine kjZ_y rfl rfl 11 _ _ _ _ ty3 ?_
  refine (And.intro (ty3.k (by decide) rfl) (And.intro (ty3.k (by decide) rfl) (Exists.intro _ (And.intro m1 (And.intro (ty3.k (by decide) rfl) (And.intro (ty3.k (by decide) rfl) (And.intro (Nat.le_of_ble_eq_true rfl) (And.intro (Or.inl ⟨(Nat.le_of_ble_eq_true rfl), (ty3.k (by decide) rfl)⟩) (And.intro (Nat.le_of_ble_eq_true rfl) (And.intro (Nat.le_of_ble_eq_true rfl) (kjY_mono ty3 (fun q_ u4 ty4 xu4 h_ => ?_) (kx_overlay (y := mkK x (txG (stT (dec n).length) x.2.2.2.2.2)) ty3 w3 hs (wkO_mk _ _) m2 m3.2 (fun z => absurd (w3.2.1.1 (68, 1) (by decide) (59, 7) (by decide) (m1.trans z.symm)) (by decide)) (a := 0) (p := 0) (v := dec n) (by omega) m7 (by show 0 + _ ≤ (stT _ _).length; rw [stT_len]; omega) _ _ _ rfl rfl m5))))))))))))
  obtain ⟨rfl, w4, s4⟩ := h_
  intro _ _
  have kv4 : (u4.2.2.2.1 x.1).1 = 11 := xu4.k ty3 kv3 (by decide)
  have ek : mkK (mkK x (txG (stT (dec n).length) x.2.2.2.2.2)) (txG (ovT 0 (dec n)) (mkK x (txG (stT (dec n).length) x.2.2.2.2.2)).2.2.2.2.2) = mkK x (txG (fun _ => dec n) x.2.2.2.2.2) := by
    show mkK x (_, _, _, _, ovT 0 (dec n) (stT (dec n).length x.2.2.2.2.2.2.2.2.2.1), _) = _
    rw [ovT_al2 _ _ (stT_len _ _)]; rfl
  rw [ek] at w4
  refine kjZ_y rfl rfl 5 _ _ _ _ ty4 ?_
  refine (And.intro (ty4.k (by decide) rfl) (And.intro (Nat.le_of_ble_eq_true rfl) (And.intro (Or.inl ⟨(Nat.le_of_ble_eq_true rfl), (ty4.k (by decide) rfl)⟩) (And.intro (Nat.le_of_ble_eq_true rfl) (And.intro (Nat.le_of_ble_eq_true rfl) (kjY_mono ty4 (fun q_ u5 ty5 xu5 h_ => ?_) (kx_settle (x := mkK x (txG (fun _ => dec n) x.2.2.2.2.2)) ty4 w4 (k := k) hk _ e5)))))))
  obtain ⟨q9, q9b⟩ := h_
  intro _ _
  obtain ⟨rfl, nmA, ksA, pA, wA, rA, eA, cA, sA⟩ := cd_se (σ := σ) PRE.rf ((((s1.tr s2).tr s3).tr s4).g) ⟨q9, q9b⟩ (wkO_mk _ _) hr (fun z => absurd z (emB_tx hs _)) (fun _ => rfl)
  obtain ⟨b, hb, eb⟩ := wA.2.2.2.2.2.2.1
  have kb := ob_k ty5 (ANn_b b (ANb_n b hb)).1
  refine kjZ_y rfl rfl 7 _ _ _ _ ty5 ?_
  refine (And.intro (ty5.k (by decide) rfl) (And.intro (ty5.k (by decide) rfl) (Exists.intro _ (And.intro eb (And.intro (ty5.k (by decide) rfl) (And.intro (ty5.k (by decide) rfl) (And.intro (Nat.le_of_ble_eq_true rfl) (And.intro (Or.inl ⟨(Nat.le_of_ble_eq_true rfl), (by assumption)⟩) (And.intro (Nat.le_of_ble_eq_true rfl) (And.intro (Nat.le_of_ble_eq_true rfl) (kjY_mono ty5 (fun q_ u6 ty6 xu6 h_ => ?_) (kx_number ty5 wA hb _))))))))))))
  obtain ⟨rfl, w6, s6⟩ := h_
  intro _ _
  refine kjZ_y rfl rfl 1 _ _ _ _ ty6 ?_
  refine And.intro rfl (And.intro rfl ?_)
  exact ⟨rfl, nmA, ksA, pA, w6, rA, eA, (s6 (59, 18) (by decide)).1.trans cA, sA.tr s6.g⟩
theorem putA_some {P Q : List KC} {y : KC} {v t : List Int32} (f2 : kyI (skA (P ++ y :: Q)) v = some P.length) : putA (skA (P ++ y :: Q)) v t = skA (P ++ mkK y (txG (fun _ => t) y.2.2.2.2.2) :: Q) := by
  unfold putA orA; rw [f2]
  show upA (skA (P ++ y :: Q)) P.length _ = _
  rw [skA_app, skA_app, skA_cons, skA_cons, ← skA_len P, upA_at]; rfl
theorem putA_none {P Q : List KC} {x : KC} {v t : List Int32} (q3 : kyI (skA ks) v = none) (g5 : ks = P ++ Q) (g7 : P.length = plF (anm (skA ks)) v) (g2 : x.2.2.2.2.2 = (v, nI 0, 0, 0, [], [])) : putA (skA ks) v t = skA (P ++ mkK x (txG (fun _ => t) x.2.2.2.2.2) :: Q) := by
  unfold putA orA; rw [q3]
  show upA (inA (skA ks) (plF (anm (skA ks)) v) (v, 0, 0, 0, [], [])) (plF (anm (skA ks)) v) _ = _
  rw [← g7, g5, skA_app]
  unfold inA
  have el : P.length = (skA P).length := (skA_len P).symm
  rw [el, List.take_left, List.drop_left, upA_at, skA_app, skA_cons, g2]; rfl
theorem kx_cnt28 (ty : kTY σ) (w : KWd σ0 B σ ws nm ks) (hr : RSD ks) (hB : BOK B ws) {j : Nat} (hj : CMD σ j) {v : List Int32} (hv : ws[1]? = some v) (hk1 : ks.length + 1 ≤ 2600) (hcap : xtA (skA ks) + 16384 ≤ 98304) (less : Bool) (n : Int64) (x1 : Nat) (x2 : Int32) (ex2 : x2 = if less = true then 1 else 0) {o : Option (List AK)} (ho2 : rfZ (σ.1 59 17) ks j v 0 → o = none) (ho3 : ¬ rfZ (σ.1 59 17) ks j v 0 → o = cnF (skA ks) v less n) :
    kjY kPP (kQQ Y) (d + 7) 181 28 [some (.ref 67), some (.ref x1), some (.int x2), some (.long n), none, none, none] [] σ (cdP σ0 B σ ws nm ks o) := by
  have hlen := (List.getElem?_eq_some_iff.mp hv).1
  refine kjZ_y rfl rfl 6 _ _ _ _ ty ?_
  refine (And.intro (ty.k (by decide) rfl) (And.intro (Nat.le_of_ble_eq_true rfl) (And.intro (Or.inl ⟨(Nat.le_of_ble_eq_true rfl), (ty.k (by decide) rfl)⟩) (And.intro (Nat.le_of_ble_eq_true rfl) (And.intro (Nat.le_of_ble_eq_true rfl) (kjY_mono ty (fun q_ u1 ty1 xu1 h_ => ?_) (kx_refuses ty w hB hj (a := 1) (b := 1) (by omega) (by omega) (s := 0) (by decide) _ _ _ rfl rfl rfl)))))))
  obtain ⟨nm1, p1, w1, s1, q⟩ := h_
  intro _ _
  rw [rf1 w hv] at q
  rcases q with ⟨rfl, q⟩ | ⟨rfl, q⟩
  · refine kjZ_y rfl rfl 1 _ _ _ _ ty1 ?_
    refine And.intro (fun c => ?_) (fun c => ?_)
    · exact absurd (show (1 : Int32) = 0 from c) (by decide)
    refine kjZ_y rfl rfl 1 _ _ _ _ ty1 ?_
    refine And.intro rfl (And.intro rfl ?_)
    exact cd_no p1 w1 hr s1.h (ho2 q)
  have ho := ho3 q
  have hso := fun z => q (Or.inr z)
  refine kjZ_y rfl rfl 1 _ _ _ _ ty1 ?_
  refine And.intro (fun c => ?_) (fun c => ?_)
  rotate_left
  · exact absurd rfl c
  refine kjZ_y rfl rfl 4 _ _ _ _ ty1 ?_
  refine (And.intro (ty1.k (by decide) rfl) (And.intro (Nat.le_of_ble_eq_true rfl) (And.intro (Or.inl ⟨(Nat.le_of_ble_eq_true rfl), (ty1.k (by decide) rfl)⟩) (And.intro (Nat.le_of_ble_eq_true rfl) (And.intro (Nat.le_of_ble_eq_true rfl) (kjY_mono ty1 (fun q_ u2 ty2 xu2 h_ => ?_) (kx_id ty1 w1 hB hv _ rfl)))))))
  obtain ⟨k, nm2, rfl, p2, p3, w2, s2⟩ := h_
  intro _ _
  refine kjZ_y rfl rfl 5 _ _ _ _ ty2 ?_
  refine (And.intro (Nat.le_of_ble_eq_true rfl) (And.intro (ty2.k (by decide) rfl) (And.intro (Nat.le_of_ble_eq_true rfl) (And.intro (Or.inl ⟨(Nat.le_of_ble_eq_true rfl), (ty2.k (by decide) rfl)⟩) (And.intro (Nat.le_of_ble_eq_true rfl) (And.intro (Nat.le_of_ble_eq_true rfl) (kjY_mono ty2 (fun q_ u3 ty3 xu3 h_ => ?_) (kx_find ty2 w2 p2 _ rfl))))))))
  obtain ⟨rfl, q3⟩ := h_
  intro _ _
  have sA := s1.tr s2
  unfold cnF at ho
  rcases q3 with ⟨rfl, q3⟩ | ⟨P, y, Q, rfl, f0, f1, f2⟩
  · have ev : vlA (skA ks) v = some 0 := by unfold vlA; rw [q3]
    rw [ev] at ho
    have ho : o = if ovW less 0 n < 0 then none else some (putA (skA ks) v (dec (ovS less 0 n))) := ho
    refine kjZ_y rfl rfl 5 _ _ _ _ ty3 ?_
    refine (And.intro (Nat.le_of_ble_eq_true rfl) (And.intro (ty3.k (by decide) rfl) (And.intro (ty3.k (by decide) rfl) (And.intro rfl (fun ty3' => ?_)))))
    have w4 := w2.pl ty3 (h := 53) (x := 9) (v := Int64.ofNat 0) (by decide)
    have s4 : SCl scC u3 (u3.1, mjLu u3.2.1 53 9 (Int64.ofNat 0), u3.2.2) := SCl.l (h := 53) (x := 9) (v := Int64.ofNat 0) (by decide +kernel)
    have e4 : mjLu u3.2.1 53 9 (Int64.ofNat 0) 53 9 = 0 := mjLu_p
    have go : ∀ z, kTY z → z = (u3.1, mjLu u3.2.1 53 9 (Int64.ofNat 0), u3.2.2) → kjY kPP (kQQ Y) (d + 7) 181 50 [some (.ref 67), some (.ref x1), some (.int x2), some (.long n), none, some (.int (nI k)), some .null] [] z (cdP σ0 B σ ws nm ks o) := by
      intro z tz ez
      rw [← ez] at w4 s4
      have e4 : z.2.1 53 9 = 0 := by rw [ez]; exact e4
      have hH := sA.h.tr (s4.sub scHC)
      refine kjZ_y rfl rfl 7 _ _ _ _ tz ?_
      refine (And.intro (tz.k (by decide) rfl) (And.intro (Nat.le_of_ble_eq_true rfl) (And.intro (Or.inl ⟨(Nat.le_of_ble_eq_true rfl), (tz.k (by decide) rfl)⟩) (And.intro (Nat.le_of_ble_eq_true rfl) (And.intro (Nat.le_of_ble_eq_true rfl) (kjY_mono tz (fun q_ u5 ty5 xu5 h_ => ?_) (kx_overflows tz w4 _ less _ ex2)))))))
      obtain ⟨w5, s5, q5⟩ := h_
      intro _ _
      rw [e4] at q5
      rcases q5 with ⟨q5, rfl⟩ | ⟨q5, rfl, e5⟩
      · refine kjZ_y rfl rfl 1 _ _ _ _ ty5 ?_
        refine And.intro (fun c2 => ?_) (fun c2 => ?_)
        · exact absurd (show (1 : Int32) = 0 from c2) (by decide)
        refine kjZ_y rfl rfl 1 _ _ _ _ ty5 ?_
        refine And.intro rfl (And.intro rfl ?_)
        exact cd_no (p1.tr p3) w5 hr (hH.tr (s5.sub scHB)) (by rw [ho, if_pos q5])
      refine kjZ_y rfl rfl 1 _ _ _ _ ty5 ?_
      refine And.intro (fun c2 => ?_) (fun c2 => ?_)
      rotate_left
      · exact absurd rfl c2
      refine kjZ_y rfl rfl 7 _ _ _ _ ty5 ?_
      refine (And.intro (ty5.k (by decide) rfl) (And.intro (Nat.le_of_ble_eq_true rfl) (And.intro (Or.inl ⟨(Nat.le_of_ble_eq_true rfl), (ty5.k (by decide) rfl)⟩) (And.intro (Nat.le_of_ble_eq_true rfl) (And.intro (Nat.le_of_ble_eq_true rfl) (kjY_mono ty5 (fun q_ u6 ty6 xu6 h_ => ?_) (kx_fresh ty5 w5 p2 (s := 0) (by decide) (fun _ => hk1) _ _ rfl rfl)))))))
      obtain ⟨P, x, Q, rfl, w6, s6, g1, g2, g3, g4⟩ := h_
      intro _ _
      rcases g4 with ⟨y, g5, g6, g7, g8⟩ | ⟨g5, g6, g7, g8⟩
      · rw [q3] at g7; cases g7
      have hs : x.2.2.2.2.2.2.1 = 0 := by rw [g2]; rfl
      have kv := (w6.tz hs).2.2
      refine kjZ_y rfl rfl 1 _ _ _ _ ty6 ?_
      refine (And.intro (Nat.le_of_ble_eq_true rfl) ?_)
      refine kjY_mono ty6 (fun r z2 tz2 xz2 hz => ?_) (kx_cnt83 (d := d) ty6 w6 hs (k := k) (by rw [g2]; exact p2) (by rw [← g5]; exact hr) ?_ (n := ovS less 0 n) ((s6 (53, 9) (by decide)).2.1.trans e5) x1 x2 _ n rfl)
      · obtain ⟨hr0, hz⟩ := hz
        rw [hr0]
        refine cd_S ((hH.tr (s5.sub scHB)).sub scGH |>.tr s6.g) (p1.tr p3) hz ?_
        rw [ho, if_neg q5, putA_none q3 g5 g7 g2]
      · rw [xtA_at, if_pos hs, g2]; rw [g5, xtA_app] at hcap; show _ + 0 + _ + _ ≤ _; omega
    exact go _ ty3' rfl
  · subst f0
    have hs0 : y.2.2.2.2.2.2.1 = 0 := so_1 (s := 0) f2 hso
    obtain ⟨z1, z2, kv⟩ := w2.tz hs0
    have ev : vlA (skA (P ++ y :: Q)) v = intF y.2.2.2.2.2.2.2.2.2.1 := by
      unfold vlA; rw [f2]; show (match (skA (P ++ y :: Q))[P.length]? with | some a => _ | none => _) = _; rw [skA_at]
    rw [ev] at ho
    refine kjZ_y rfl rfl 5 _ _ _ _ ty3 ?_
    refine (And.intro (Nat.le_of_ble_eq_true rfl) (And.intro (ty3.k (by decide) rfl) (And.intro (ty3.k (by decide) rfl) (And.intro rfl (fun ty3' => ?_)))))
    have w4 := w2.pl ty3 (h := 53) (x := 9) (v := Int64.ofNat 0) (by decide)
    have s4 : SCl scC u3 (u3.1, mjLu u3.2.1 53 9 (Int64.ofNat 0), u3.2.2) := SCl.l (h := 53) (x := 9) (v := Int64.ofNat 0) (by decide +kernel)
    have go : ∀ z, kTY z → z = (u3.1, mjLu u3.2.1 53 9 (Int64.ofNat 0), u3.2.2) → kjY kPP (kQQ Y) (d + 7) 181 50 [some (.ref 67), some (.ref x1), some (.int x2), some (.long n), none, some (.int (nI k)), some (.ref y.1)] [] z (cdP σ0 B σ ws nm (P ++ y :: Q) o) := by
      intro z tz ez
      rw [← ez] at w4 s4
      have hH := sA.h.tr (s4.sub scHC)
      obtain ⟨rt, NT, st, ro, ⟨t1, t2, t3⟩, ⟨t4, t5, t6, t7⟩, ⟨t8, t9, t10, t11⟩, -, -⟩ := w4.tx tz hs0
      have kvz : (z.2.2.2.1 y.1).1 = 11 := by rw [t4]
      refine kjZ_y rfl rfl 12 _ _ _ _ tz ?_
      refine (And.intro (tz.k (by decide) rfl) (And.intro (tz.k (by decide) rfl) (And.intro (tz.k (by decide) rfl) (Exists.intro _ (And.intro t1 (And.intro (by assumption) (And.intro (by assumption) (And.intro (Nat.le_of_ble_eq_true rfl) (And.intro (Or.inl ⟨(Nat.le_of_ble_eq_true rfl), (tz.k (by decide) rfl)⟩) (And.intro (Nat.le_of_ble_eq_true rfl) (And.intro (Nat.le_of_ble_eq_true rfl) (kjY_mono tz (fun q_ u5 ty5 xu5 h_ => ?_) (k_parse tz t2 (by omega) (a := st) (n := y.2.2.2.2.2.2.2.2.2.1.length) (by omega) _ _ t6 t5)))))))))))))
      have q5 := h_
      intro _ _
      rw [t11] at q5
      cases hi : intF y.2.2.2.2.2.2.2.2.2.1 with
      | none =>
        rw [hi] at q5 ho
        obtain ⟨rfl, rfl⟩ : q_ = some (.int 0) ∧ u5 = z := q5
        refine kjZ_y rfl rfl 1 _ _ _ _ ty5 ?_
        refine And.intro (fun c2 => ?_) (fun c2 => ?_)
        · exact absurd rfl c2
        refine kjZ_y rfl rfl 4 _ _ _ _ ty5 ?_
        refine (And.intro (ty5.k (by decide) rfl) (And.intro rfl (And.intro (Nat.le_of_ble_eq_true rfl) (And.intro (Or.inl ⟨(Nat.le_of_ble_eq_true rfl), (ty5.k (by decide) rfl)⟩) (And.intro (Nat.le_of_ble_eq_true rfl) (And.intro (Nat.le_of_ble_eq_true rfl) (kjY_mono ty5 (fun q_ u6 ty6 xu6 h_ => ?_) (kx_refuse ty5 w4 (by decide)))))))))
        obtain ⟨rfl, w6, s6⟩ := h_
        intro _ _
        refine kjZ_y rfl rfl 1 _ _ _ _ ty6 ?_
        refine And.intro rfl (And.intro rfl ?_)
        exact cd_no (p1.tr p3) w6 hr (hH.tr s6.h) ho
      | some m =>
        rw [hi] at q5 ho
        obtain ⟨rfl, eu5⟩ : q_ = some (.int 1) ∧ u5 = (z.1, mjLu z.2.1 53 9 m, z.2.2) := q5
        have w5 : KWd σ0 B u5 ws nm2 (P ++ y :: Q) := by rw [eu5]; exact w4.pl tz (by decide)
        have s5 : SCl scC z u5 := by rw [eu5]; exact SCl.l (h := 53) (x := 9) (by decide +kernel)
        have e5 : u5.2.1 53 9 = m := by rw [eu5]; show mjLu z.2.1 53 9 m 53 9 = m; exact mjLu_p
        have kv5 : (u5.2.2.2.1 y.1).1 = 11 := by rw [eu5]; exact kvz
        have hH := hH.tr (s5.sub scHC)
        refine kjZ_y rfl rfl 1 _ _ _ _ ty5 ?_
        refine And.intro (fun c2 => ?_) (fun c2 => ?_)
        rotate_left
        · exact absurd (show ¬ (1 : Int32) = 0 by decide) c2
        refine kjZ_y rfl rfl 5 _ _ _ _ ty5 ?_
        refine (And.intro (ty5.k (by decide) rfl) (And.intro (Nat.le_of_ble_eq_true rfl) (And.intro (Or.inl ⟨(Nat.le_of_ble_eq_true rfl), (ty5.k (by decide) rfl)⟩) (And.intro (Nat.le_of_ble_eq_true rfl) (And.intro (Nat.le_of_ble_eq_true rfl) (kjY_mono ty5 (fun q_ u6 ty6 xu6 h_ => ?_) (kx_overflows ty5 w5 _ less _ ex2)))))))
        obtain ⟨w6, s6, q6⟩ := h_
        intro _ _
        rw [e5] at q6
        have kv6 : (u6.2.2.2.1 y.1).1 = 11 := xu6.k ty5 kv5 (by decide)
        rcases q6 with ⟨q6, rfl⟩ | ⟨q6, rfl, e6⟩
        · refine kjZ_y rfl rfl 1 _ _ _ _ ty6 ?_
          refine And.intro (fun c2 => ?_) (fun c2 => ?_)
          · exact absurd (show (1 : Int32) = 0 from c2) (by decide)
          refine kjZ_y rfl rfl 1 _ _ _ _ ty6 ?_
          refine And.intro rfl (And.intro rfl ?_)
          exact cd_no (p1.tr p3) w6 hr (hH.tr (s6.sub scHB)) (by rw [ho]; exact if_pos q6)
        refine kjZ_y rfl rfl 1 _ _ _ _ ty6 ?_
        refine And.intro (fun c2 => ?_) (fun c2 => ?_)
        rotate_left
        · exact absurd rfl c2
        refine kjZ_y rfl rfl 2 _ _ _ _ ty6 ?_
        refine kjY_mono ty6 (fun r z2 tz2 xz2 hz => ?_) (kx_cnt83 (d := d) ty6 w6 hs0 (k := k) (by rw [f1]; exact p2) hr.two.1 hcap (n := ovS less m n) e6 x1 x2 _ n rfl)
        obtain ⟨hr0, hz⟩ := hz
        rw [hr0]
        refine cd_S ((hH.tr (s6.sub scHB)).sub scGH) (p1.tr p3) hz ?_
        rw [ho, ← putA_some f2]; exact if_neg q6
    exact go _ ty3' rfl
def stpC (ws : List (List Int32)) (j : Nat) : Option Int64 := if j = 4 ∨ j = 31 then (ws[2]?).bind intF else some 1
theorem kx_count (ty : kTY σ) (w : KWd σ0 B σ ws nm ks) (hr : RSD ks) (hB : BOK B ws) {j : Nat} (hj : CMD σ j) {v : List Int32} (hv : ws[1]? = some v) (h2 : j = 4 ∨ j = 31 → 2 < ws.length) (hk1 : ks.length + 1 ≤ 2600) (hcap : xtA (skA ks) + 16384 ≤ 98304) {o : Option (List AK)} (ho0 : stpC ws j = none → o = none) (ho2 : rfZ (σ.1 59 17) ks j v 0 → o = none) (ho3 : ∀ n, stpC ws j = some n → ¬ rfZ (σ.1 59 17) ks j v 0 → o = cnF (skA ks) v (decide (j = 3 ∨ j = 4)) n) :
    kjY kPP (kQQ Y) (d + 7) 181 0 (mjL0 7 [.ref 67, .ref (1000000 + j)]) [] σ (cdP σ0 B σ ws nm ks o) := by
  have kj : kCm (1000000 + j) := ⟨j, hj.2, rfl⟩
  have s18 : ∀ (x2 : Int32) (less : Bool), less = decide (j = 3 ∨ j = 4) → x2 = (if less = true then 1 else 0) → (j = 4 ∨ j = 31) → kjY kPP (kQQ Y) (d + 7) 181 18 [some (.ref 67), some (.ref (1000000 + j)), some (.int x2), some (.long (Int64.ofNat 1)), none, none, none] [] σ (cdP σ0 B σ ws nm ks o) := by
    intro x2 less e1 e2 h
    have ha := List.getElem?_eq_getElem (h2 h)
    have es : stpC ws j = intF ws[2] := by unfold stpC; rw [if_pos h, ha]; rfl
    refine kjZ_y rfl rfl 4 _ _ _ _ ty ?_
    refine (And.intro (ty.k (by decide) rfl) (And.intro (Nat.le_of_ble_eq_true rfl) (And.intro (Or.inl ⟨(Nat.le_of_ble_eq_true rfl), (ty.k (by decide) rfl)⟩) (And.intro (Nat.le_of_ble_eq_true rfl) (And.intro (Nat.le_of_ble_eq_true rfl) (kjY_mono ty (fun q_ u0 ty0 xu0 h_ => ?_) (kx_lacksInteger ty w ha _ rfl)))))))
    obtain ⟨w0, s0, q⟩ := h_
    intro _ _
    have hH := s0.sub scHB
    rcases q with ⟨N, q1, rfl, e9⟩ | ⟨q1, rfl⟩
    rotate_left
    · refine kjZ_y rfl rfl 1 _ _ _ _ ty0 ?_
      refine And.intro (fun c => ?_) (fun c => ?_)
      · exact absurd (show (1 : Int32) = 0 from c) (by decide)
      refine kjZ_y rfl rfl 1 _ _ _ _ ty0 ?_
      refine And.intro rfl (And.intro rfl ?_)
      exact cd_no PRE.rf w0 hr hH (ho0 (es.trans q1))
    refine kjZ_y rfl rfl 1 _ _ _ _ ty0 ?_
    refine And.intro (fun c => ?_) (fun c => ?_)
    rotate_left
    · exact absurd rfl c
    refine kjZ_y rfl rfl 4 _ _ _ _ ty0 ?_
    refine (And.intro (ty0.k (by decide) rfl) (And.intro (ty0.k (by decide) rfl) (And.intro (Nat.le_of_ble_eq_true rfl) ?_)))
    have e17 := (hH (59, 17) (by decide)).1
    refine kjY_mono ty0 (fun r z tz xz hz => hz.pre hH PRE.rf) (kx_cnt28 (d := d) ty0 w0 hr hB (hj.sc hH) hv hk1 hcap less (u0.2.1 53 9) (1000000 + j) x2 e2 (o := o) (by rw [e17]; exact ho2) (by rw [e17, e9, e1]; exact ho3 N (es.trans q1)))
  have s9 : ∀ (x2 : Int32) (less : Bool), less = decide (j = 3 ∨ j = 4) → x2 = (if less = true then 1 else 0) → kjY kPP (kQQ Y) (d + 7) 181 9 [some (.ref 67), some (.ref (1000000 + j)), none, none, none, none, none] [.int x2] σ (cdP σ0 B σ ws nm ks o) := by
    intro x2 less e1 e2
    refine kjZ_y rfl rfl 6 _ _ _ _ ty ?_
    refine (And.intro (Nat.le_of_ble_eq_true rfl) (And.intro (Nat.le_of_ble_eq_true rfl) (And.intro ⟨(by assumption), ⟨31, by decide, rfl⟩, Or.inl rfl⟩ (And.intro (fun c => ?_) (fun c => ?_)))))
    · have c : 1000000 + j = 1000031 := ac_eq.mp c
      exact s18 x2 less e1 e2 (by omega)
    have c : ¬ 1000000 + j = 1000031 := fun z => c (ac_eq.mpr z)
    refine kjZ_y rfl rfl 3 _ _ _ _ ty ?_
    refine And.intro ⟨(by assumption), ⟨4, by decide, rfl⟩, Or.inr rfl⟩ (And.intro (fun c2 => ?_) (fun c2 => ?_))
    · have c2 : ¬ 1000000 + j = 1000004 := ac_ne.mp c2
      have es : stpC ws j = some 1 := by unfold stpC; rw [if_neg (by omega)]
      exact kx_cnt28 (d := d) ty w hr hB hj hv hk1 hcap less _ (1000000 + j) x2 e2 ho2 (by rw [e1]; exact ho3 1 es)
    have c2 : 1000000 + j = 1000004 := Decidable.of_not_not (fun z => c2 (ac_ne.mpr z))
    exact s18 x2 less e1 e2 (by omega)
  refine kjZ_y rfl rfl 3 _ _ _ _ ty ?_
  refine And.intro ⟨(by assumption), ⟨3, by decide, rfl⟩, Or.inl rfl⟩ (And.intro (fun c => ?_) (fun c => ?_))
  · have c : 1000000 + j = 1000003 := ac_eq.mp c
    refine kjZ_y rfl rfl 2 _ _ _ _ ty ?_
    exact s9 _ true (decide_eq_true (by omega)).symm rfl
  have c : ¬ 1000000 + j = 1000003 := fun z => c (ac_eq.mpr z)
  refine kjZ_y rfl rfl 3 _ _ _ _ ty ?_
  refine And.intro ⟨(by assumption), ⟨4, by decide, rfl⟩, Or.inr rfl⟩ (And.intro (fun c2 => ?_) (fun c2 => ?_))
  · have c2 : ¬ 1000000 + j = 1000004 := ac_ne.mp c2
    refine kjZ_y rfl rfl 1 _ _ _ _ ty ?_
    exact s9 _ false (decide_eq_false (by omega)).symm rfl
  have c2 : 1000000 + j = 1000004 := Decidable.of_not_not (fun z => c2 (ac_ne.mpr z))
  refine kjZ_y rfl rfl 2 _ _ _ _ ty ?_
  exact s9 _ true (decide_eq_true (by omega)).symm rfl
end KCOUNT
