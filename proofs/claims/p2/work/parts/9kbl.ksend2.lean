/-! Send: its loop, whole. -/
section KSEND2
variable {Y : Nat → MethodName × ByteArray} {d : Nat} {s u : kS} {ws : Req} {c f m : Nat}
theorem og_x : LWh opG ∧ LWo opO ∧ (∀ p ∈ opG, ¬ p.1 = 1) ∧ ∀ p ∈ opO, p ∈ OWs ∧ ¬ p.1 = 1 := by
  refine ⟨?_, ?_, ?_, ?_⟩
  · decide +kernel
  · decide +kernel
  · decide +kernel
  · decide +kernel
/-- a request that is none: the connection closes -/
theorem kS_fail (ty : kTY s) {x4 y : Int32} {nmm : List (List Int32)} {ks : List KC} {b p : Nat} {E : List Blk} {I : Nat → List Int32} {Q : Nat → List Req} (h : LW s nmm ks b E p m) (rn : RNW s) (cn : CNW s I Q) (tp : TAP s) (rd : RDN c f x4 s I Q p 0 m) (hc : c ∈ CNs) (x : Int32) : kjY kPP (kQQ Y) (d + 7) 66 0 (mjL0 2 [.ref c, .int x]) [] s (fun v z => v = none ∧ SLp c f y z) := by
  obtain ⟨hm, g, hh⟩ := id h
  refine kjY_mono ty (fun v z tz _ q => ?_) (kjY_un ty hm.1 hm.2 (kx_fail (d := d) (kTY_kUn ty) g rn.1 hc x))
  obtain ⟨-, hz, v0, g1, ch, k1, k2, k3, cq⟩ := q
  have tyU := kTY_kUn (S := 4 * m) (T := 1) ty
  have cq : CQ [] s z := cq
  obtain ⟨I', Q', n1, n2, n3, n4⟩ := cn.cq0 cq
  have k3 : z.1 c 0 = 0 := k3
  have ch : Ch true opG opO (kHd m s) (kHd m z) := ch
  have f12 : z.2.2.1 0 12 = s.2.2.1 0 12 := (ch.fld tyU (h := 0) (c := 9) (by decide) rfl (by decide) (fun y => (og_x.1 _ y).2.2.1 rfl)).2.2
  refine ⟨v0, Or.inl ⟨nmm, ks, b, E, p, m, I', Q', h.ch ty hz g1 ch og_x.1 og_x.2.1, rn.same f12 cq.1, n1, TAP.ch (s := kHd m s) (u := kHd m z) tyU g.1.1 tp ch og_x.2.2.1 og_x.2.2.2, ?_⟩⟩
  have r2 : RDN c f x4 z I' Q' p 0 m := rd.le hc n2 (by omega) (fun c' hc' _ => by
    rcases n4 c' hc' with ⟨e1, -⟩ | ⟨e1, -⟩
    · rw [e1]; exact Nat.le_refl _
    · rw [e1]; exact Nat.zero_le _) (n4 c hc)
  obtain ⟨a0, a1, a2, a2', a3, a4⟩ := r2
  exact ⟨a0, a1, fun y => absurd k3 y, a2', a3, a4⟩
theorem kS_loop (K : kK) {x1 : Int32} (hc : c ∈ CNs)
    (hK : ∀ (s : kS) (x3 x4 x5 : Int32) (l6 l7 l8 l9 : Option Value), kTY s → SLp c f x4 s → kjY kPP (kQQ Y) (d + 12) 3 101 [some (.ref 0), some (.int x1), some (.ref c), some (.int x3), some (.int x4), some (.int x5), l6, l7, l8, l9] [] s K) :
    ∀ (F t : Nat) (s : kS) (x3 x4 x5 : Int32) (l6 l7 l8 l9 : Option Value), t + F = 1048576 → x5 = nI t → kTY s → SLp c f x4 s → kjY kPP (kQQ Y) (d + 12) 3 36 [some (.ref 0), some (.int x1), some (.ref c), some (.int x3), some (.int x4), some (.int x5), l6, l7, l8, l9] [] s K := by
  obtain ⟨q1, q2, q3, q4, -⟩ := CN_ok c hc
  have lim : (1048576 : Int32) = nI 1048576 := by decide
  intro F
  induction F with
  | zero =>
    intro t s x3 x4 x5 l6 l7 l8 l9 ht e5 ts h
    refine kjZ_y rfl rfl 3 _ _ _ _ ts ?_
    refine And.intro (fun c1 => ?_) (fun c1 => ?_)
    · exact hK s x3 x4 x5 l6 l7 l8 l9 ts h
    · refine absurd (show nI 1048576 ≤ x5 from ?_) c1
      rw [e5, nle (by omega) (by omega)]; omega
  | succ F ih =>
    intro t s x3 x4 x5 l6 l7 l8 l9 ht e5 ts h
    have kc : (s.2.2.2.1 c).1 = 1 := ts.k q1 q2
    have nxt : ∀ (u : kS) (x3 x4 : Int32) (l6 l7 l8 l9 : Option Value), kTY u → SLp c f x4 u → kjY kPP (kQQ Y) (d + 12) 3 99 [some (.ref 0), some (.int x1), some (.ref c), some (.int x3), some (.int x4), some (.int x5), l6, l7, l8, l9] [] u K := by
      intro u x3 x4 l6 l7 l8 l9 tu hu
      refine kjZ_y rfl rfl 2 _ _ _ _ tu ?_
      exact ih (t + 1) u x3 x4 _ l6 l7 l8 l9 (by omega) (by rw [e5]; exact nI_1 t) tu hu
    refine kjZ_y rfl rfl 3 _ _ _ _ ts ?_
    refine And.intro (fun c1 => ?_) (fun c1 => ?_)
    · exact hK s x3 x4 x5 l6 l7 l8 l9 ts h
    refine kjZ_y rfl rfl 3 _ _ _ _ ts ?_
    refine (And.intro (ts.k (by decide) rfl) (And.intro (fun c2 => ?_) (fun c2 => ?_)))
    · exact hK s x3 x4 x5 l6 l7 l8 l9 ts h
    have c2 : ¬ s.1 0 17 = 0 := c2
    refine kjZ_y rfl rfl 3 _ _ _ _ ts ?_
    refine (And.intro (by assumption) (And.intro (fun c3 => ?_) (fun c3 => ?_)))
    · exact hK s x3 x4 x5 l6 l7 l8 l9 ts h
    have c3 : ¬ s.1 c 0 = 0 := c3
    rcases h with ⟨nmm, ks, b, E, p, m, I, Q, hL, rn, cn, tp, rd⟩ | ⟨b, p, m, hD, -⟩
    rotate_left
    · exact absurd hD.2.2.2.2.2.2.2.1 c2
    obtain ⟨a0, a1, a2, a2', a3, a4⟩ := id rd
    have e4 := a2 c3
    obtain ⟨⟨row, N, s1, s2, s3, s4, s5, s6, s7⟩, -⟩ := (cn c hc).1
    have kin := ob_k ts q3
    refine kjZ_y rfl rfl 10 _ _ _ _ ts ?_
    refine (And.intro (ts.k (by decide) rfl) (And.intro (by assumption) (And.intro (by assumption) (Exists.intro _ (And.intro s1 (And.intro (by assumption) (And.intro (by assumption) (And.intro (Nat.le_of_ble_eq_true rfl) (And.intro (Or.inl ⟨(Nat.le_of_ble_eq_true rfl), (ts.k (by decide) rfl)⟩) (And.intro (Nat.le_of_ble_eq_true rfl) (And.intro (Nat.le_of_ble_eq_true rfl) (kjY_mono ts (fun q_ u1 t1 xu1 h_ => ?_) (k_read (d := d + 8) ts s2 s3.2 s6 (p := a0) a1 _ _ e4 s5)))))))))))))
    obtain ⟨⟨z, ez, rx⟩, q⟩ := h_
    intro _ _
    obtain ⟨⟨hL1, rn1, cn1, tp1, lv⟩, f3, eD, eF, eI⟩ := hL.rd ts rn cn tp ez rx
    have lv1 : u1.1 c 0 = s.1 c 0 := lv c hc
    have kc1 : (u1.2.2.2.1 c).1 = 1 := t1.k q1 q2
    have rd1 : RDN c f x4 u1 I Q p 0 m := ⟨a0, a1, fun y => a2 (by rw [← lv1]; exact y), fun y => a2' (by rw [← lv1]; exact y), a3, a4⟩
    rcases q with ⟨q, nx, rfl, w4, w1024, w5, w6, w7, w8, wp, -⟩ | ⟨w4, ⟨r, rfl, r1, r2⟩, -⟩
    · refine kjZ_y rfl rfl 4 _ _ _ _ t1 ?_
      refine (And.intro (Nat.le_of_ble_eq_true rfl) (And.intro (fun c4 => ?_) (fun c4 => ?_)))
      rotate_left
      · exact absurd (show ¬ (0 : Int32) = Int32.ofInt 1 by decide) c4
      refine kjZ_y rfl rfl 6 _ _ _ _ t1 ?_
      refine (And.intro (t1.k (by decide) rfl) (And.intro (t1.k (by decide) rfl) (And.intro (Nat.le_of_ble_eq_true rfl) (And.intro (fun c5 => ?_) (fun c5 => ?_)))))
      rotate_left
      · exact absurd rfl c5
      have go : ∀ x4' : Int32, x4' = nI nx → kjY kPP (kQQ Y) (d + 12) 3 70 [some (.ref 0), some (.int x1), some (.ref c), some (.int x3), some (.int x4'), some (.int x5), some (.int 0), l7, l8, l9] [] u1 K := by
        intro x4' e4'
        have rd2 : RDN c f x4' u1 I Q p 0 m := ⟨nx, w8, fun _ => e4', fun y => absurd (lv1.symm.trans y) c3, by omega, by omega⟩
        refine kjZ_y rfl rfl 4 _ _ _ _ t1 ?_
        refine (And.intro (t1.k (by decide) rfl) (And.intro (t1.k (by decide) rfl) (And.intro (fun c6 => ?_) (fun c6 => ?_))))
        · exact nxt u1 x3 x4' _ _ _ _ t1 (Or.inl ⟨nmm, ks, b, E, p, m, I, Q, hL1, rn1, cn1, tp1, rd2⟩)
        have c6 : ¬ u1.1 53 4 ≤ 0 := c6
        rw [w4, show (0 : Int32) = nI 0 from rfl, nle (by omega) (by decide)] at c6
        have hb := hL1.2.2.2.1
        have kb := ob_k t1 (J_ok b hb.1).1
        have hjs := hL1.2.2.2.2.1.1.sz.1
        have hq : RQ u1 q := RQ_of ts hL.2.1.1.1 (pr := (c + 1, 1)) (by
          have : ∀ c ∈ CNs, (c + 1, 1) ∈ RQo := by decide
          exact this c hc) s1 s2 s3.2 s6 f3 eD eF eI w4 w1024 wp
        have nc53 : ¬ c + 1 = 53 := by
          have : ∀ c ∈ CNs, ¬ c + 1 = 53 := by decide
          exact this c hc
        have hW := WP_ok ts s2 wp
        refine kjZ_y rfl rfl 8 _ _ _ _ t1 ?_
        refine (And.intro (t1.k (by decide) rfl) (Exists.intro _ (And.intro hb.2.1 (And.intro (by assumption) (And.intro (Nat.le_of_ble_eq_true rfl) (And.intro (Nat.le_of_ble_eq_true rfl) (And.intro (Or.inl ⟨(Nat.le_of_ble_eq_true rfl), (t1.k (by decide) rfl)⟩) (And.intro (Nat.le_of_ble_eq_true rfl) (And.intro (Nat.le_of_ble_eq_true rfl) (kjY_mono t1 (fun q_ u2 t2 xu2 h_ => ?_) (kS_admit (d := d + 3) (f := f) (x4 := x4') t1 hL1 rn1 cn1 tp1 hq (by rw [f3, eF _ _ nc53]; exact s1.symm) (by omega) w1024 hW hc (by rw [lv1]; exact c3) w6 w8 e4' (by omega) (by omega))))))))))))
        obtain ⟨many, m2, rfl, hmany, qq2⟩ := h_
        intro _ _
        have kc2 : (u2.2.2.2.1 c).1 = 1 := t2.k q1 q2
        have fin : ∀ (u : kS) (ws : Req) (bl : Bool) (e k m3 : Nat) (x3 x7 x8 x9 : Int32), x7 = nI (enE E).length → kTY u → FW c f x4' (enE E).length bl e k 0 m3 ws u → (bl = false → k ≤ 1) → (bl = true → 29 ≤ e) → kjY kPP (kQQ Y) (d + 12) 3 95 [some (.ref 0), some (.int x1), some (.ref c), some (.int x3), some (.int x4'), some (.int x5), some (.int 0), some (.int x7), some (.int x8), some (.int x9)] [] u K := by
          intro u ws bl e k m3 x3 x7 x8 x9 e7 tu hF hk he
          have kcu : (u.2.2.2.1 c).1 = 1 := tu.k q1 q2
          refine kjZ_y rfl rfl 4 _ _ _ _ tu ?_
          refine (And.intro (Nat.le_of_ble_eq_true rfl) (And.intro (Or.inl ⟨(Nat.le_of_ble_eq_true rfl), (tu.k (by decide) rfl)⟩) (And.intro (Nat.le_of_ble_eq_true rfl) (And.intro (Nat.le_of_ble_eq_true rfl) (kjY_mono tu (fun q_ u3 t3 xu3 h_ => ?_) (kS_fin (d := d + 3) tu hF hc hk he _ e7))))))
          obtain ⟨rfl, h3⟩ := h_
          intro _ _
          exact nxt u3 x3 x4' _ _ _ _ t3 h3
        refine kjZ_y rfl rfl 3 _ _ _ _ t2 ?_
        refine (And.intro (Nat.le_of_ble_eq_true rfl) (And.intro (Nat.le_of_ble_eq_true rfl) ?_))
        rcases qq2 with ⟨rfl, hF⟩ | ⟨rfl, z13, hF, j, cm, hqc⟩ | ⟨qs, rn2, rfl, hF, hB⟩
        · refine kjZ_y rfl rfl 3 _ _ _ _ t2 ?_
          refine And.intro (fun c7 => ?_) (fun c7 => ?_)
          rotate_left
          · exact absurd (show nI 0 ≤ Int32.ofInt 0 by decide) c7
          exact fin u2 q false 0 0 m2 _ _ _ _ hjs t2 hF (fun _ => by decide) (fun y => by cases y)
        · refine kjZ_y rfl rfl 3 _ _ _ _ t2 ?_
          refine And.intro (fun c7 => ?_) (fun c7 => ?_)
          · exact absurd (show nI 1 ≤ Int32.ofInt 0 from c7) (by decide)
          refine kjZ_y rfl rfl 2 _ _ _ _ t2 ?_
          refine (And.intro (Nat.le_of_ble_eq_true rfl) (And.intro (Or.inl ⟨(Nat.le_of_ble_eq_true rfl), (t2.k (by decide) rfl)⟩) (And.intro (Nat.le_of_ble_eq_true rfl) (And.intro (Nat.le_of_ble_eq_true rfl) (kjY_mono t2 (fun q_ u3 t3 xu3 h_ => ?_) (kx_next0 (d := d + 3) t2 z13))))))
          obtain ⟨rfl, rfl⟩ := h_
          intro _ _
          refine kjZ_y rfl rfl 3 _ _ _ _ t3 ?_
          refine (And.intro (Nat.le_of_ble_eq_true rfl) (And.intro (Or.inl ⟨(Nat.le_of_ble_eq_true rfl), (t3.k (by decide) rfl)⟩) (And.intro (Nat.le_of_ble_eq_true rfl) (And.intro (Nat.le_of_ble_eq_true rfl) (kjY_mono t3 (fun q_ u4 t4 xu4 h_ => ?_) (kS_perf (d := d) t3 hF hc cm hqc hW))))))
          obtain ⟨rfl, hF2, -⟩ := h_
          intro _ _
          have kc4 : (u4.2.2.2.1 c).1 = 1 := t4.k q1 q2
          refine kjZ_y rfl rfl 2 _ _ _ _ t4 ?_
          refine kjZ_y rfl rfl 3 _ _ _ _ t4 ?_
          refine And.intro (fun c8 => ?_) (fun c8 => ?_)
          rotate_left
          · exact absurd (show nI 1 ≤ Int32.ofInt 0 + Int32.ofInt 1 by decide) c8
          exact fin u4 q false 0 1 m2 _ _ _ _ hjs t4 hF2 (fun _ => by decide) (fun y => by cases y)
        · exact kS_blk (d := d) (rn := rn2) K hc rfl hmany (fun u ws k x9 tu hF => fin u ws true 29 k m2 _ _ _ _ hjs tu hF (fun y => by cases y) (fun _ => by decide)) qs 0 [] _ 0 q u2 t2 hF hB rfl (Nat.zero_add _)
      exact go _ w5
    · refine kjZ_y rfl rfl 4 _ _ _ _ t1 ?_
      refine (And.intro (Nat.le_of_ble_eq_true rfl) (And.intro (fun c4 => ?_) (fun c4 => ?_)))
      rotate_left
      · refine kjZ_y rfl rfl 1 _ _ _ _ t1 ?_
        exact hK u1 x3 x4 x5 _ _ _ _ t1 (Or.inl ⟨nmm, ks, b, E, p, m, I, Q, hL1, rn1, cn1, tp1, rd1⟩)
      refine kjZ_y rfl rfl 6 _ _ _ _ t1 ?_
      refine (And.intro (t1.k (by decide) rfl) (And.intro (t1.k (by decide) rfl) (And.intro (Nat.le_of_ble_eq_true rfl) (And.intro (fun c5 => ?_) (fun c5 => ?_)))))
      · have c5 : nI r = nI 0 := c5
        rw [nI_eq (by omega) (by decide)] at c5; omega
      refine kjZ_y rfl rfl 3 _ _ _ _ t1 ?_
      refine (And.intro (Nat.le_of_ble_eq_true rfl) (And.intro (Or.inl ⟨(Nat.le_of_ble_eq_true rfl), (by assumption)⟩) (And.intro (Nat.le_of_ble_eq_true rfl) (And.intro (Nat.le_of_ble_eq_true rfl) (kjY_mono t1 (fun q_ u2 t2 xu2 h_ => ?_) (kS_fail (d := d + 4) (y := u1.1 53 5) t1 hL1 rn1 cn1 tp1 rd1 hc _))))))
      obtain ⟨rfl, h2⟩ := h_
      intro _ _
      refine kjZ_y rfl rfl 1 _ _ _ _ t2 ?_
      exact nxt u2 x3 _ _ _ _ _ t2 h2
end KSEND2
