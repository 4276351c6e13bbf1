/-! RENAME, RENAMENX, whole. -/
theorem rn_findG {α : Type} {P Q P2 Q2 : List α} {y z : α} (e : P ++ y :: Q = P2 ++ z :: Q2) (hne : ¬ P2.length = P.length) : ∃ R S, P2 ++ Q2 = R ++ y :: S ∧ R.length = (if P2.length < P.length then P.length - 1 else P.length) := by
  rcases List.append_eq_append_iff.mp e with ⟨M, e1, e2⟩ | ⟨M, e1, e2⟩
  · cases M with
    | nil => rw [List.append_nil] at e1; exact absurd (by rw [e1]) hne
    | cons m M =>
      obtain ⟨e3, e4⟩ := List.cons.inj e2
      refine ⟨P, M ++ Q2, by rw [e1, ← e3, List.append_assoc]; rfl, ?_⟩
      rw [if_neg (by rw [e1, List.length_append, List.length_cons]; omega)]
  · cases M with
    | nil => rw [List.append_nil] at e1; exact absurd (by rw [e1]) hne
    | cons m M =>
      obtain ⟨e3, e4⟩ := List.cons.inj e2
      have e4 : Q2 = M ++ y :: Q := e4
      refine ⟨P2 ++ M, Q, by rw [e4, List.append_assoc], ?_⟩
      rw [e1, List.length_append, List.length_append, List.length_cons, if_pos (by omega)]; omega
section KREN2
variable {Y : Nat → MethodName × ByteArray} {d : Nat} {σ0 σ u : kS} {B ws nm nm' : List (List Int32)} {ks : List KC}
/-- a key's name is no other one's -/
theorem KWd.unq (ty : kTY σ) {P Q : List KC} {z : KC} (w : KWd σ0 B σ ws nm (P ++ z :: Q)) {k2 : Nat} {w2 : List Int32} (hk2 : nm[k2]? = some w2) (h : kyI (skA (P ++ z :: Q)) w2 = some P.length) : z.2.2.2.2.2.1 = w2 ∧ ∀ x ∈ P ++ Q, ¬ x.2.2.2.2.2.1 = w2 := by
  have hw := w.2.2.1.1
  have b2 := hw.b8 ty hk2
  have hz : z.2.2.2.2.2.1 = w2 := by
    obtain ⟨a, ha, hc⟩ := kyI_get h
    rw [skA_at] at ha; cases ha
    exact cmpW_eq _ _ (hw.b8 ty (w.nme (List.mem_append_right _ List.mem_cons_self))) b2 hc
  refine ⟨hz, fun x hx e => ?_⟩
  have srt := w.srt
  rw [skA_app, skA_cons] at srt
  obtain ⟨p1, p2, p3⟩ := List.pairwise_append.mp (SRT_P.mp srt)
  obtain ⟨p4, p5⟩ := List.pairwise_cons.mp p2
  rcases List.mem_append.mp hx with q | q
  · have := p3 _ (List.mem_map.mpr ⟨x, q, rfl⟩) z.2.2.2.2.2 List.mem_cons_self
    rw [e, hz, cmpW_self] at this; exact absurd this (by decide)
  · have := p4 _ (List.mem_map.mpr ⟨x, q, rfl⟩)
    rw [e, hz, cmpW_self] at this; exact absurd this (by decide)
theorem kx_kmove (ty : kTY σ) {P Q : List KC} {y : KC} (w : KWd σ0 B σ ws nm (P ++ y :: Q)) (hr : RSD (P ++ y :: Q)) {k k2 : Nat} {w1 w2 : List Int32} (hk : nm[k]? = some w1) (hk2 : nm[k2]? = some w2) (f1 : y.2.2.2.2.2.1 = w1) (f2 : kyI (skA (P ++ y :: Q)) w1 = some P.length) (hne : ¬ w1 = w2) (hyE : ¬ emB y) (x1 x2 : Int32) (e1 : x1 = nI k) (e2 : x2 = nI k2) :
    kjY kPP (kQQ Y) (d + 5) 155 0 (mjL0 5 [.ref 59, .int x1, .int x2]) [] σ (fun r z => r = none ∧ ∃ A, reF (skA (P ++ y :: Q)) w1 w2 25 = some A ∧ cdS σ0 B σ ws nm A z) := by
  have nep : ∀ q, kyI (skA (P ++ y :: Q)) w2 = some q → ¬ q = P.length := fun q h z => by
    rw [z] at h
    exact hne (f1.symm.trans (w.unq ty hk2 h).1)
  refine kjZ_y rfl rfl 3 _ _ _ _ ty ?_
  refine (And.intro (Nat.le_of_ble_eq_true rfl) (And.intro (Or.inl ⟨(Nat.le_of_ble_eq_true rfl), (ty.k (by decide) rfl)⟩) (And.intro (Nat.le_of_ble_eq_true rfl) (And.intro (Nat.le_of_ble_eq_true rfl) (kjY_mono ty (fun q_ u1 ty1 xu1 h_ => ?_) (kx_remove ty w hk2 _ e2))))))
  obtain ⟨s1, q1⟩ := h_
  intro _ _
  rcases q1 with ⟨rfl, g1, g2, g3⟩ | ⟨rfl, P2, z, Q2, g1, g2, g3, g4⟩
  · refine kjZ_y rfl rfl 1 _ _ _ _ ty1 ?_
    refine kjY_mono ty1 (fun r z tz xz hz => ?_) (kx_kmv4 (d := d) ty1 g2 hr hk hk2 f1 f2 g1 hne hyE x1 x2 e1 e2)
    obtain ⟨hr0, nmA, ksA, pA, wA, rA, eA, cA, sA⟩ := hz
    refine ⟨hr0, _, ?_, nmA, ksA, pA, wA, rA, eA, cA, g3.g.tr sA⟩
    unfold reF; rw [f2, g1]
    show (if (none : Option Nat) = some P.length then none else _) = _
    rw [if_neg (fun z => by cases z)]
  · refine kjZ_y rfl rfl 1 _ _ _ _ ty1 ?_
    have hnp := nep _ g2
    obtain ⟨R, S, hRS, hRl⟩ := rn_findG g1 hnp
    have w0 := w
    rw [g1] at w0 g2
    obtain ⟨u1', u2'⟩ := w0.unq ty hk2 g2
    rw [hRS] at g3 u2'
    have kn : kyI (skA (R ++ y :: S)) w2 = none := by
      cases hh : kyI (skA (R ++ y :: S)) w2 with
      | none => rfl
      | some q =>
        exfalso
        obtain ⟨a, ha, hc⟩ := kyI_get hh
        obtain ⟨x, hx, rfl⟩ := List.mem_map.mp (List.mem_of_getElem? ha)
        exact u2' x hx (cmpW_eq _ _ (g3.2.2.1.1.b8 ty1 (g3.nme hx)) (g3.2.2.1.1.b8 ty1 hk2) hc)
    have ky1 : kyI (skA (R ++ y :: S)) w1 = some R.length := by rw [← f1]; exact ky_k g3.srt
    have hrRS : RSD (R ++ y :: S) := by rw [← hRS]; rw [g1] at hr; exact hr.two.1
    refine kjY_mono ty1 (fun r z tz xz hz => ?_) (kx_kmv4 (d := d) ty1 g3 hrRS hk hk2 f1 ky1 kn hne hyE x1 x2 e1 e2)
    obtain ⟨hr0, nmA, ksA, pA, wA, rA, eA, cA, sA⟩ := hz
    refine ⟨hr0, _, ?_, nmA, ksA, pA, wA, rA, eA, cA, (s1.sub scGE).tr sA⟩
    unfold reF; rw [f2, g1, g2]
    show (if some P2.length = some P.length then none else (if 25 = 26 then none else some (rnA (rmA (skA (P2 ++ _ :: Q2)) P2.length) (if P2.length < P.length then P.length - 1 else P.length) w2))) = _
    rw [if_neg (fun z => hnp (Option.some.inj z)), if_neg (by decide), skA_app, skA_cons, ← skA_len P2, rmA_at, ← skA_app, hRS, skA_len, hRl]
theorem kx_rename (ty : kTY σ) (w : KWd σ0 B σ ws nm ks) (hr : RSD ks) (hB : BOK B ws) {w1 w2 : List Int32} (hv : ws[1]? = some w1) (hv2 : ws[2]? = some w2) (hE : ∀ x ∈ ks, ¬ emB x) (x1 : Int32) {o : Option (List AK)} (ho : o = reF (skA ks) w1 w2 (if x1 = 0 then 25 else 26)) :
    kjY kPP (kQQ Y) (d + 8) 154 0 (mjL0 5 [.ref 59, .int x1]) [] σ (cdP σ0 B σ ws nm ks o) := by
  refine kjZ_y rfl rfl 4 _ _ _ _ ty ?_
  refine (And.intro (ty.k (by decide) rfl) (And.intro (Nat.le_of_ble_eq_true rfl) (And.intro (Or.inl ⟨(Nat.le_of_ble_eq_true rfl), (ty.k (by decide) rfl)⟩) (And.intro (Nat.le_of_ble_eq_true rfl) (And.intro (Nat.le_of_ble_eq_true rfl) (kjY_mono ty (fun q_ u2 ty2 xu2 h_ => ?_) (kx_id ty w hB hv _ rfl)))))))
  obtain ⟨k, nm2, rfl, p2, p3, w2', s2⟩ := h_
  intro _ _
  refine kjZ_y rfl rfl 5 _ _ _ _ ty2 ?_
  refine (And.intro (Nat.le_of_ble_eq_true rfl) (And.intro (ty2.k (by decide) rfl) (And.intro (Nat.le_of_ble_eq_true rfl) (And.intro (Or.inl ⟨(Nat.le_of_ble_eq_true rfl), (ty2.k (by decide) rfl)⟩) (And.intro (Nat.le_of_ble_eq_true rfl) (And.intro (Nat.le_of_ble_eq_true rfl) (kjY_mono ty2 (fun q_ u3 ty3 xu3 h_ => ?_) (kx_id ty2 w2' hB hv2 _ rfl))))))))
  obtain ⟨k2, nm3, rfl, p4, p5, w3, s3⟩ := h_
  intro _ _
  have p2' := p5.get p2
  have pA := p3.tr p5
  have sA := s2.tr s3
  have inj := w3.2.2.1.1.inj p2' p4
  refine kjZ_y rfl rfl 4 _ _ _ _ ty3 ?_
  refine (And.intro (Nat.le_of_ble_eq_true rfl) (And.intro (Nat.le_of_ble_eq_true rfl) (And.intro (Or.inl ⟨(Nat.le_of_ble_eq_true rfl), (ty3.k (by decide) rfl)⟩) (And.intro (Nat.le_of_ble_eq_true rfl) (And.intro (Nat.le_of_ble_eq_true rfl) (kjY_mono ty3 (fun q_ u4 ty4 xu4 h_ => ?_) (kx_find ty3 w3 p2' _ rfl)))))))
  obtain ⟨rfl, q3⟩ := h_
  intro _ _
  -- the answer
  have s38 : ∀ (x4 : Int32) (z : kS) (nm' : List (List Int32)) (ks' : List KC), kTY z → KWd σ0 B z ws nm' ks' → (∀ z2, KWd σ0 B z2 ws nm' ks' → SCl scA z z2 → cdP σ0 B σ ws nm ks o none z2) → kjY kPP (kQQ Y) (d + 8) 154 38 [some (.ref 59), some (.int x1), some (.int (nI k)), some (.int (nI k2)), some (.int x4)] [] z (cdP σ0 B σ ws nm ks o) := by
    intro x4 z nm' ks' tz wz hz
    obtain ⟨b, hb, eb⟩ := wz.2.2.2.2.2.2.1
    have kb := ob_k tz (ANn_b b (ANb_n b hb)).1
    refine kjZ_y rfl rfl 2 _ _ _ _ tz ?_
    refine And.intro (fun c => ?_) (fun c => ?_)
    · refine kjZ_y rfl rfl 3 _ _ _ _ tz ?_
      refine (And.intro (tz.k (by decide) rfl) (And.intro (Nat.le_of_ble_eq_true rfl) (And.intro (Or.inl ⟨(Nat.le_of_ble_eq_true rfl), (tz.k (by decide) rfl)⟩) (And.intro (Nat.le_of_ble_eq_true rfl) (And.intro (Nat.le_of_ble_eq_true rfl) (kjY_mono tz (fun q_ u5 ty5 xu5 h_ => ?_) (kx_accept tz wz)))))))
      obtain ⟨rfl, w5, s5⟩ := h_
      intro _ _
      refine kjZ_y rfl rfl 1 _ _ _ _ ty5 ?_
      refine And.intro rfl (And.intro rfl ?_)
      exact hz u5 w5 s5
    · have fin : ∀ n : Int64, kjY kPP (kQQ Y) (d + 8) 154 48 [some (.ref 59), some (.int x1), some (.int (nI k)), some (.int (nI k2)), some (.int x4)] [.long n, .ref b] z (cdP σ0 B σ ws nm ks o) := by
        intro n
        refine kjZ_y rfl rfl 1 _ _ _ _ tz ?_
        refine (And.intro (Nat.le_of_ble_eq_true rfl) (And.intro (Or.inl ⟨(Nat.le_of_ble_eq_true rfl), (by assumption)⟩) (And.intro (Nat.le_of_ble_eq_true rfl) (And.intro (Nat.le_of_ble_eq_true rfl) (kjY_mono tz (fun q_ u5 ty5 xu5 h_ => ?_) (kx_number tz wz hb _))))))
        obtain ⟨rfl, w5, s5⟩ := h_
        intro _ _
        refine kjZ_y rfl rfl 2 _ _ _ _ ty5 ?_
        refine And.intro rfl (And.intro rfl ?_)
        exact hz u5 w5 s5
      refine kjZ_y rfl rfl 5 _ _ _ _ tz ?_
      refine (And.intro (tz.k (by decide) rfl) (And.intro (tz.k (by decide) rfl) (Exists.intro _ (And.intro eb (And.intro (fun c2 => ?_) (fun c2 => ?_))))))
      · refine kjZ_y rfl rfl 1 _ _ _ _ tz ?_
        exact fin _
      · refine kjZ_y rfl rfl 2 _ _ _ _ tz ?_
        exact fin _
  rcases q3 with ⟨rfl, q3⟩ | ⟨P, y, Q, rfl, f0, f1, f2⟩
  · refine kjZ_y rfl rfl 5 _ _ _ _ ty4 ?_
    refine (And.intro (ty4.k (by decide) rfl) (And.intro rfl (And.intro (Nat.le_of_ble_eq_true rfl) (And.intro (Or.inl ⟨(Nat.le_of_ble_eq_true rfl), (ty4.k (by decide) rfl)⟩) (And.intro (Nat.le_of_ble_eq_true rfl) (And.intro (Nat.le_of_ble_eq_true rfl) (kjY_mono ty4 (fun q_ u5 ty5 xu5 h_ => ?_) (kx_refuse ty4 w3 (by decide)))))))))
    obtain ⟨rfl, w5, s5⟩ := h_
    intro _ _
    refine kjZ_y rfl rfl 1 _ _ _ _ ty5 ?_
    refine And.intro rfl (And.intro rfl ?_)
    exact cd_no pA w5 hr (sA.tr s5).h (by rw [ho]; unfold reF; rw [q3])
  subst f0
  have hyE := hE y (List.mem_append_right _ List.mem_cons_self)
  have kv : (u4.2.2.2.1 y.1).1 = 11 := by
    obtain ⟨_, _, _, _, _, _, _, _, _, _, _, hd, -⟩ := w3.op_
    rw [hd]
  refine kjZ_y rfl rfl 1 _ _ _ _ ty4 ?_
  -- nothing
  have no : o = none → kjY kPP (kQQ Y) (d + 8) 154 30 [some (.ref 59), some (.int x1), some (.int (nI k)), some (.int (nI k2)), none] [] u4 (cdP σ0 B σ ws nm (P ++ y :: Q) o) := by
    intro h
    refine kjZ_y rfl rfl 2 _ _ _ _ ty4 ?_
    refine (And.intro (Nat.le_of_ble_eq_true rfl) ?_)
    refine kjZ_y rfl rfl 2 _ _ _ _ ty4 ?_
    refine And.intro (fun c => ?_) (fun c => ?_)
    rotate_left
    · exact absurd rfl c
    exact s38 _ u4 _ _ ty4 w3 (fun z2 wz sz => cd_no pA wz hr (sA.tr sz).h h)
  -- the move
  have yes : (¬ w1 = w2) → (o = reF (skA (P ++ y :: Q)) w1 w2 25) → kjY kPP (kQQ Y) (d + 8) 154 28 [some (.ref 59), some (.int x1), some (.int (nI k)), some (.int (nI k2)), none] [] u4 (cdP σ0 B σ ws nm (P ++ y :: Q) o) := by
    intro hne h
    refine kjZ_y rfl rfl 3 _ _ _ _ ty4 ?_
    refine (And.intro (Nat.le_of_ble_eq_true rfl) ?_)
    refine kjZ_y rfl rfl 2 _ _ _ _ ty4 ?_
    refine And.intro (fun c => ?_) (fun c => ?_)
    · exact absurd (show Int32.ofInt 1 = 0 from c) (by decide)
    refine kjZ_y rfl rfl 4 _ _ _ _ ty4 ?_
    refine (And.intro (Nat.le_of_ble_eq_true rfl) (And.intro (Or.inl ⟨(Nat.le_of_ble_eq_true rfl), (ty4.k (by decide) rfl)⟩) (And.intro (Nat.le_of_ble_eq_true rfl) (And.intro (Nat.le_of_ble_eq_true rfl) (kjY_mono ty4 (fun q_ u5 ty5 xu5 h_ => ?_) (kx_kmove ty4 w3 hr p2' p4 f1 f2 hne hyE _ _ rfl rfl))))))
    obtain ⟨rfl, A, hA, nmA, ksA, pA5, wA, rA, eA, cA, sA5⟩ := h_
    intro _ _
    refine s38 _ u5 _ _ ty5 wA (fun z2 wz sz => ?_)
    exact cd_ok (pA.tr pA5) wz rA eA ((sz (59, 18) (by decide)).1.trans cA) ((sA.g.tr sA5).tr sz.g) (h.trans hA)
  refine kjZ_y rfl rfl 3 _ _ _ _ ty4 ?_
  refine And.intro (fun c => ?_) (fun c => ?_)
  · have c : w1 = w2 := inj.mp c
    refine no ?_
    rw [ho]; unfold reF; rw [f2, ← c, f2]
    show (if some P.length = some P.length then none else _) = _
    rw [if_pos rfl]
  have c : ¬ w1 = w2 := fun z => c (inj.mpr z)
  refine kjZ_y rfl rfl 2 _ _ _ _ ty4 ?_
  refine And.intro (fun c2 => ?_) (fun c2 => ?_)
  · have c2 : x1 = 0 := c2
    rw [if_pos c2] at ho
    exact yes c ho
  have c2 : ¬ x1 = 0 := c2
  rw [if_neg c2] at ho
  refine kjZ_y rfl rfl 3 _ _ _ _ ty4 ?_
  refine (And.intro (Nat.le_of_ble_eq_true rfl) (And.intro (Or.inl ⟨(Nat.le_of_ble_eq_true rfl), (ty4.k (by decide) rfl)⟩) (And.intro (Nat.le_of_ble_eq_true rfl) (And.intro (Nat.le_of_ble_eq_true rfl) (kjY_mono ty4 (fun q_ u5 ty5 xu5 h_ => ?_) (kx_find ty4 w3 p4 _ rfl))))))
  obtain ⟨rfl, q5⟩ := h_
  intro _ _
  rcases q5 with ⟨rfl, q5⟩ | ⟨P2, z, Q2, rfl, g0, g1, g2⟩
  · refine kjZ_y rfl rfl 1 _ _ _ _ ty5 ?_
    refine yes c ?_
    rw [ho]; unfold reF; rw [f2, q5]
  · have kvz : (u5.2.2.2.1 z.1).1 = 11 := by
      rw [g0] at w3
      obtain ⟨_, _, _, _, _, _, _, _, _, _, _, hd, -⟩ := w3.op_
      rw [hd]
    refine kjZ_y rfl rfl 1 _ _ _ _ ty5 ?_
    refine no ?_
    rw [ho]; unfold reF; rw [f2, g2]
    show (if some P2.length = some P.length then none else (if 26 = 26 then none else _)) = _
    by_cases c3 : some P2.length = some P.length
    · rw [if_pos c3]
    · rw [if_neg c3, if_pos rfl]
end KREN2
