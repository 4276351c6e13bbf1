/-! SETBIT, whole. -/
section KSBIT2
variable {Y : Nat → MethodName × ByteArray} {d : Nat} {σ0 σ u : kS} {B ws nm nm' : List (List Int32)} {ks : List KC}
theorem txG_k (g : List Int32 → List Int32) (a : AK) (t : List Int32) (h : t = a.2.2.2.2.1) : txG (fun _ => g t) a = txG g a := by rw [h]; rfl
theorem sbF_b (A : List AK) (v : List Int32) (n : Nat) (one : Bool) : sbF A v n (if one = true then 1 else 0) = some (putA A v (bsT n one (txA A v))) := rfl
/-- the words of the class's own SETBIT -/
def sbC (a2 a3 : List Int32) : Option (Nat × Bool) := match intF a2 with
  | none => none
  | some m => if m < 0 ∨ Int64.ofInt 131071 < m then none else if a3.map up = tb 183 then some (m.toInt.toNat, true) else if a3.map up = tb 184 then some (m.toInt.toNat, false) else none
theorem kx_sbit33 (ty : kTY σ) (w : KWd σ0 B σ ws nm ks) (hr : RSD ks) (hB : BOK B ws) {v : List Int32} (hv : ws[1]? = some v) (hk1 : ks.length + 1 ≤ 2600) (hT : ∀ x ∈ ks, x.2.2.2.2.2.2.2.2.2.1.length ≤ 16384) (hcap : xtA (skA ks) + 16384 ≤ 98304) (hso : ¬ soT (skA ks) v (nI 0) = false) {n : Nat} (hn : n ≤ 131071) (en : σ.2.1 53 9 = lN n) (one : Bool) (x1 : Int32) (e1 : x1 = if one = true then 1 else 0) {o : Option (List AK)} (ho : o = some (putA (skA ks) v (bsT n one (txA (skA ks) v)))) :
    kjY kPP (kQQ Y) (d + 7) 184 33 [some (.ref 67), some (.int x1), none, none, none, none, none] [] σ (cdP σ0 B σ ws nm ks o) := by
  refine kjZ_y rfl rfl 4 _ _ _ _ ty ?_
  refine (And.intro (ty.k (by decide) rfl) (And.intro (Nat.le_of_ble_eq_true rfl) (And.intro (Or.inl ⟨(Nat.le_of_ble_eq_true rfl), (ty.k (by decide) rfl)⟩) (And.intro (Nat.le_of_ble_eq_true rfl) (And.intro (Nat.le_of_ble_eq_true rfl) (kjY_mono ty (fun q_ u2 ty2 xu2 h_ => ?_) (kx_id ty w hB hv _ rfl)))))))
  obtain ⟨k, nm2, rfl, p2, p3, w2, s2⟩ := h_
  intro _ _
  have e9 : u2.2.1 53 9 = lN n := (s2 (53, 9) (by decide)).2.1.trans en
  have a1 : (u2.2.1 53 9).toInt32 / (Int8.ofInt 8).toInt32 = nI (n / 8) := by rw [e9, lN_i, show (Int8.ofInt 8).toInt32 = nI 8 from by decide]; exact pk_div (by omega) (by decide) (by decide)
  have a2 : (Int16.ofInt 128).toInt32 >>> (((u2.2.1 53 9).toInt32 - (u2.2.1 53 9).toInt32 / (Int8.ofInt 8).toInt32 * (Int8.ofInt 8).toInt32) &&& 31) = msC n := by
    rw [a1, e9, lN_i, show (Int8.ofInt 8).toInt32 = nI 8 from by decide, nI_mul, pk_sub (by omega)]
    unfold msC
    rw [show n - n / 8 * 8 = n % 8 by omega]
  have go54 : ∀ x3 x4 : Int32, x3 = nI (n / 8) → x4 = msC n → kjY kPP (kQQ Y) (d + 7) 184 54 [some (.ref 67), some (.int x1), some (.int (nI k)), some (.int x3), some (.int x4), none, none] [] u2 (cdP σ0 B σ ws nm ks o) := by
    intro x3 x4 a1 a2
    refine kjZ_y rfl rfl 5 _ _ _ _ ty2 ?_
    refine (And.intro (ty2.k (by decide) rfl) (And.intro (Nat.le_of_ble_eq_true rfl) (And.intro (Or.inl ⟨(Nat.le_of_ble_eq_true rfl), (ty2.k (by decide) rfl)⟩) (And.intro (Nat.le_of_ble_eq_true rfl) (And.intro (Nat.le_of_ble_eq_true rfl) (kjY_mono ty2 (fun q_ u3 ty3 xu3 h_ => ?_) (kx_orMake ty2 w2 p2 (s := 0) (by decide) (fun _ => hk1) _ _ rfl rfl)))))))
    obtain ⟨P, x, Q, rfl, w3, s3, g1, g2⟩ := h_
    intro _ _
    have hs : x.2.2.2.2.2.2.1 = 0 := by
      rcases g2 with ⟨rfl, f2⟩ | ⟨-, -, -, -, -, g⟩
      · exact so_1 (s := 0) f2 hso
      · rw [g]; rfl
    have kv := (w3.tz hs).2.2
    have hrr : RSD (P ++ Q) := by
      rcases g2 with ⟨rfl, f2⟩ | ⟨g, -⟩
      · exact hr.two.1
      · rw [← g]; exact hr
    have hxl : x.2.2.2.2.2.2.2.2.2.1.length ≤ 16384 := by
      rcases g2 with ⟨rfl, f2⟩ | ⟨-, -, -, -, -, g⟩
      · exact hT x (List.mem_append_right _ List.mem_cons_self)
      · rw [g]; exact Nat.zero_le _
    have hcap' : xtA (skA (P ++ x :: Q)) + 16384 ≤ 98304 := by
      rcases g2 with ⟨rfl, f2⟩ | ⟨g5, -, -, -, -, g⟩
      · exact hcap
      · rw [xtA_at, if_pos hs, g]; rw [g5, xtA_app] at hcap; show _ + 0 + _ + _ ≤ _; omega
    refine kjZ_y rfl rfl 1 _ _ _ _ ty3 ?_
    refine (And.intro (Nat.le_of_ble_eq_true rfl) ?_)
    refine kjY_mono ty3 (fun r z2 tz2 xz2 hz => ?_) (kx_sbit60 (d := d) ty3 w3 hs (n := n) hn (k := k) (by rw [g1]; exact p2) hrr hxl hcap' one x1 _ _ _ e1 rfl a1 a2)
    obtain ⟨hr0, hz⟩ := hz
    rw [hr0]
    refine cd_S (s2.g.tr s3.g) p3 hz ?_
    rw [ho]
    rcases g2 with ⟨rfl, f2⟩ | ⟨g5, q3, g7, -, -, g⟩
    · rw [putA_some f2, txA_k f2, txG_k _ _ _ rfl]
    · have et : txA (skA ks) v = [] := by unfold txA; rw [q3]
      rw [putA_none q3 g5 g7 g, et, txG_k (bsT n one) x.2.2.2.2.2 [] (by rw [g])]
  refine kjZ_y rfl rfl 17 _ _ _ _ ty2 ?_
  refine (And.intro (Nat.le_of_ble_eq_true rfl) (And.intro (ty2.k (by decide) rfl) (And.intro (ty2.k (by decide) rfl) (And.intro (by decide) (And.intro (Nat.le_of_ble_eq_true rfl) (And.intro (ty2.k (by decide) rfl) (And.intro (ty2.k (by decide) rfl) (And.intro (by decide) (And.intro (Nat.le_of_ble_eq_true rfl) ?_)))))))))
  exact go54 _ _ a1 a2
theorem kx_setBit (ty : kTY σ) (w : KWd σ0 B σ ws nm ks) (hr : RSD ks) (hB : BOK B ws) {j : Nat} (hj : CMD σ j) {v a2 a3 : List Int32} (hv : ws[1]? = some v) (h2 : ws[2]? = some a2) (h3 : ws[3]? = some a3) (hk1 : ks.length + 1 ≤ 2600) (hT : ∀ x ∈ ks, x.2.2.2.2.2.2.2.2.2.1.length ≤ 16384) (hcap : xtA (skA ks) + 16384 ≤ 98304) {o : Option (List AK)} (ho0 : sbC a2 a3 = none → o = none) (ho2 : rfZ (σ.1 59 17) ks j v 0 → o = none) (ho3 : ∀ n one, sbC a2 a3 = some (n, one) → ¬ rfZ (σ.1 59 17) ks j v 0 → o = some (putA (skA ks) v (bsT n one (txA (skA ks) v)))) :
    kjY kPP (kQQ Y) (d + 7) 184 0 (mjL0 7 [.ref 67]) [] σ (cdP σ0 B σ ws nm ks o) := by
  have hlen := (List.getElem?_eq_some_iff.mp hv).1
  refine kjZ_y rfl rfl 5 _ _ _ _ ty ?_
  refine (And.intro (ty.k (by decide) rfl) (And.intro rfl (And.intro (Nat.le_of_ble_eq_true rfl) (And.intro (Or.inl ⟨(Nat.le_of_ble_eq_true rfl), (ty.k (by decide) rfl)⟩) (And.intro (Nat.le_of_ble_eq_true rfl) (And.intro (Nat.le_of_ble_eq_true rfl) (kjY_mono ty (fun q_ u1 ty1 xu1 h_ => ?_) (kx_is ty w (i := 183) (by decide) 3 (by decide) _ rfl))))))))
  obtain ⟨rfl, q1⟩ := h_
  intro _ _
  obtain ⟨one, x1, rfl, e1, q1⟩ : ∃ (one : Bool) (x1 : Int32), q_ = some (.int x1) ∧ x1 = (if one = true then 1 else 0) ∧ (one = true ↔ a3.map up = tb 183) := by
    rcases q1 with ⟨rfl, v', q2, q3⟩ | ⟨rfl, q2⟩
    · rw [h3] at q2; cases q2
      exact ⟨true, 1, rfl, rfl, fun _ => q3, fun _ => rfl⟩
    · exact ⟨false, 0, rfl, rfl, fun z => (by cases z), fun z => absurd z (q2 _ h3)⟩
  refine kjZ_y rfl rfl 5 _ _ _ _ ty1 ?_
  refine (And.intro (Nat.le_of_ble_eq_true rfl) (And.intro (ty1.k (by decide) rfl) (And.intro (Nat.le_of_ble_eq_true rfl) (And.intro (Or.inl ⟨(Nat.le_of_ble_eq_true rfl), (ty1.k (by decide) rfl)⟩) (And.intro (Nat.le_of_ble_eq_true rfl) (And.intro (Nat.le_of_ble_eq_true rfl) (kjY_mono ty1 (fun q_ u0 ty0 xu0 h_ => ?_) (kx_lacksInteger ty1 w h2 _ rfl))))))))
  obtain ⟨w0, s0, q⟩ := h_
  intro _ _
  have hH := s0.sub scHB
  rcases q with ⟨N, q2, rfl, e9⟩ | ⟨q2, rfl⟩
  rotate_left
  · refine kjZ_y rfl rfl 1 _ _ _ _ ty0 ?_
    refine And.intro (fun c => ?_) (fun c => ?_)
    rotate_left
    · exact absurd (show ¬ (1 : Int32) = 0 by decide) c
    refine kjZ_y rfl rfl 1 _ _ _ _ ty0 ?_
    refine And.intro rfl (And.intro rfl ?_)
    exact cd_no PRE.rf w0 hr hH (ho0 (by unfold sbC; rw [q2]))
  refine kjZ_y rfl rfl 1 _ _ _ _ ty0 ?_
  refine And.intro (fun c => ?_) (fun c => ?_)
  · exact absurd rfl c
  have s23 : ∀ (fits : Bool) (x : Int32), x = (if fits = true then 1 else 0) → (fits = true ↔ a3.map up = tb 183 ∨ a3.map up = tb 184) → kjY kPP (kQQ Y) (d + 7) 184 23 [some (.ref 67), some (.int x1), none, none, none, none, none] [.int x, .ref 67] u0 (cdP σ0 B u1 ws nm ks o) := by
    intro fits x ex hf
    refine kjZ_y rfl rfl 1 _ _ _ _ ty0 ?_
    refine (And.intro (Nat.le_of_ble_eq_true rfl) (And.intro (Or.inl ⟨(Nat.le_of_ble_eq_true rfl), (ty0.k (by decide) rfl)⟩) (And.intro (Nat.le_of_ble_eq_true rfl) (And.intro (Nat.le_of_ble_eq_true rfl) (kjY_mono ty0 (fun q_ ua tya xua h_ => ?_) (kx_lacksBit ty0 w0 fits _ ex))))))
    obtain ⟨wa, sa, q⟩ := h_
    intro _ _
    rw [e9] at q
    have hHa := hH.tr sa.h
    rcases q with ⟨rfl, q⟩ | ⟨rfl, q⟩
    rotate_left
    · refine kjZ_y rfl rfl 1 _ _ _ _ tya ?_
      refine And.intro (fun c2 => ?_) (fun c2 => ?_)
      rotate_left
      · exact absurd (show ¬ (1 : Int32) = 0 by decide) c2
      refine kjZ_y rfl rfl 1 _ _ _ _ tya ?_
      refine And.intro rfl (And.intro rfl ?_)
      refine cd_no PRE.rf wa hr hHa (ho0 ?_)
      unfold sbC; rw [q2]
      show (if N < 0 ∨ Int64.ofInt 131071 < N then none else if a3.map up = tb 183 then _ else if a3.map up = tb 184 then _ else _) = _
      by_cases c3 : N < 0 ∨ Int64.ofInt 131071 < N
      · rw [if_pos c3]
      · have c4 : ¬ fits = true := fun z => q ⟨z, fun y => c3 (Or.inl y), fun y => c3 (Or.inr y)⟩
        rw [hf] at c4
        rw [if_neg c3, if_neg (fun z => c4 (Or.inl z)), if_neg (fun z => c4 (Or.inr z))]
    obtain ⟨qa, qb, qc⟩ := q
    obtain ⟨n1, hn1, en1⟩ := pk_lOf qb
    have hn2 : n1 ≤ 131071 := by
      rw [en1, show Int64.ofInt 131071 = lN 131071 from by decide] at qc
      have := Int64.not_lt.mp qc
      exact (i64_le hn1 (by decide)).mp this
    have es : sbC a2 a3 = some (n1, one) := by
      unfold sbC; rw [q2]
      show (if N < 0 ∨ Int64.ofInt 131071 < N then none else if a3.map up = tb 183 then some (N.toInt.toNat, true) else if a3.map up = tb 184 then some (N.toInt.toNat, false) else _) = _
      have eN : N.toInt.toNat = n1 := by rw [en1, pk_lT hn1]; rfl
      rw [if_neg (fun z => z.elim qb qc), eN]
      by_cases c3 : a3.map up = tb 183
      · rw [if_pos c3, q1.mpr c3]
      · have : one = false := Bool.eq_false_iff.mpr (fun z => c3 (q1.mp z))
        rw [if_neg c3, if_pos ((hf.mp qa).resolve_left c3), this]
    refine kjZ_y rfl rfl 1 _ _ _ _ tya ?_
    refine And.intro (fun c2 => ?_) (fun c2 => ?_)
    · exact absurd rfl c2
    refine kjZ_y rfl rfl 6 _ _ _ _ tya ?_
    refine (And.intro (tya.k (by decide) rfl) (And.intro (Nat.le_of_ble_eq_true rfl) (And.intro (Or.inl ⟨(Nat.le_of_ble_eq_true rfl), (tya.k (by decide) rfl)⟩) (And.intro (Nat.le_of_ble_eq_true rfl) (And.intro (Nat.le_of_ble_eq_true rfl) (kjY_mono tya (fun q_ u2 ty2 xu2 h_ => ?_) (kx_refuses tya wa hB (hj.sc hHa) (a := 1) (b := 1) (by omega) (by omega) (s := 0) (by decide) _ _ _ rfl rfl rfl)))))))
    obtain ⟨nm1, p1, w2, s2, q⟩ := h_
    intro _ _
    rw [rf1 wa hv, (hHa (59, 17) (by decide)).1] at q
    rcases q with ⟨rfl, q⟩ | ⟨rfl, q⟩
    · refine kjZ_y rfl rfl 1 _ _ _ _ ty2 ?_
      refine And.intro (fun c3 => ?_) (fun c3 => ?_)
      · exact absurd (show (1 : Int32) = 0 from c3) (by decide)
      refine kjZ_y rfl rfl 1 _ _ _ _ ty2 ?_
      refine And.intro rfl (And.intro rfl ?_)
      exact cd_no p1 w2 hr (hHa.tr s2.h) (ho2 q)
    refine kjZ_y rfl rfl 1 _ _ _ _ ty2 ?_
    refine And.intro (fun c3 => ?_) (fun c3 => ?_)
    rotate_left
    · exact absurd rfl c3
    refine kjY_mono ty2 (fun r z tz xz hz => hz.pre (hHa.tr s2.h) p1) (kx_sbit33 (d := d) ty2 w2 hr hB hv hk1 hT hcap (fun z => q (Or.inr z)) hn2 ?_ one x1 e1 (ho3 n1 one es q))
    rw [(s2 (53, 9) (by decide)).2.1, (sa (53, 9) (by decide)).2.1, e9, en1]
  refine kjZ_y rfl rfl 3 _ _ _ _ ty0 ?_
  refine And.intro (fun c2 => ?_) (fun c2 => ?_)
  · have h1 : one = true := by
      cases one with
      | true => rfl
      | false => exact absurd (show x1 = 0 by rw [e1]; rfl) c2
    refine kjZ_y rfl rfl 2 _ _ _ _ ty0 ?_
    exact s23 true _ rfl ⟨fun _ => Or.inl (q1.mp h1), fun _ => rfl⟩
  have h1 : ¬ a3.map up = tb 183 := fun z => by
    have : x1 = 0 := Decidable.of_not_not (fun y => c2 y)
    rw [e1, q1.mpr z] at this; exact absurd this (by decide)
  refine kjZ_y rfl rfl 5 _ _ _ _ ty0 ?_
  refine (And.intro (ty0.k (by decide) rfl) (And.intro rfl (And.intro (Nat.le_of_ble_eq_true rfl) (And.intro (Or.inl ⟨(Nat.le_of_ble_eq_true rfl), (ty0.k (by decide) rfl)⟩) (And.intro (Nat.le_of_ble_eq_true rfl) (And.intro (Nat.le_of_ble_eq_true rfl) (kjY_mono ty0 (fun q_ ub tyb xub h_ => ?_) (kx_is ty0 w0 (i := 184) (by decide) 3 (by decide) _ rfl))))))))
  obtain ⟨rfl, q3⟩ := h_
  intro _ _
  rcases q3 with ⟨rfl, v', q4, q5⟩ | ⟨rfl, q4⟩
  · rw [h3] at q4; cases q4
    refine kjZ_y rfl rfl 1 _ _ _ _ tyb ?_
    refine And.intro (fun c3 => ?_) (fun c3 => ?_)
    · exact absurd (show (1 : Int32) = 0 from c3) (by decide)
    refine kjZ_y rfl rfl 2 _ _ _ _ tyb ?_
    exact s23 true _ rfl ⟨fun _ => Or.inr q5, fun _ => rfl⟩
  · refine kjZ_y rfl rfl 1 _ _ _ _ tyb ?_
    refine And.intro (fun c3 => ?_) (fun c3 => ?_)
    rotate_left
    · exact absurd rfl c3
    refine kjZ_y rfl rfl 1 _ _ _ _ tyb ?_
    exact s23 false _ rfl ⟨fun z => (by cases z), fun z => absurd z (fun y => y.elim h1 (q4 _ h3))⟩
end KSBIT2
