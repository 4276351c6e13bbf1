/-! SPOP, SMOVE. -/
theorem rmE_0 (es : List AE) : rmE 0 es = es.tail := by cases es <;> rfl
section KSMOVE
variable {Y : Nat → MethodName × ByteArray} {d : Nat} {σ0 σ u : kS} {B ws nm nm' : List (List Int32)} {ks : List KC}
theorem kx_spop (ty : kTY σ) (w : KWd σ0 B σ ws nm ks) (hr : RSD ks) (hB : BOK B ws) {j : Nat} (hj : CMD σ j) {v : List Int32} (hv : ws[1]? = some v) (hE : ∀ x ∈ ks, ¬ emB x) {o : Option (List AK)} (ho2 : rfZ (σ.1 59 17) ks j v 3 → o = none) (ho3 : ¬ rfZ (σ.1 59 17) ks j v 3 → o = spF (skA ks) v) :
    kjY kPP (kQQ Y) (d + 7) 222 0 (mjL0 3 [.ref 71]) [] σ (cdP σ0 B σ ws nm ks o) := by
  have hlen := (List.getElem?_eq_some_iff.mp hv).1
  refine kjZ_y rfl rfl 6 _ _ _ _ ty ?_
  refine (And.intro (ty.k (by decide) rfl) (And.intro (Nat.le_of_ble_eq_true rfl) (And.intro (Or.inl ⟨(Nat.le_of_ble_eq_true rfl), (ty.k (by decide) rfl)⟩) (And.intro (Nat.le_of_ble_eq_true rfl) (And.intro (Nat.le_of_ble_eq_true rfl) (kjY_mono ty (fun q_ u1 ty1 xu1 h_ => ?_) (kx_refuses ty w hB hj (a := 1) (b := 1) (by omega) (by omega) (s := 3) (by decide) _ _ _ rfl rfl rfl)))))))
  obtain ⟨nm1, p1, w1, s1, q⟩ := h_
  intro _ _
  rw [rf1 w hv] at q
  rcases q with ⟨rfl, q⟩ | ⟨rfl, q⟩
  · refine kjZ_y rfl rfl 1 _ _ _ _ ty1 ?_
    refine And.intro (fun c => ?_) (fun c => ?_)
    · exact absurd (show (1 : Int32) = 0 from c) (by decide)
    refine kjZ_y rfl rfl 1 _ _ _ _ ty1 ?_
    refine And.intro rfl (And.intro rfl ?_)
    exact cd_no p1 w1 hr s1.h (ho2 q)
  have ho := ho3 q
  have hso := fun z => q (Or.inr z)
  refine kjZ_y rfl rfl 1 _ _ _ _ ty1 ?_
  refine And.intro (fun c => ?_) (fun c => ?_)
  rotate_left
  · exact absurd rfl c
  refine kjZ_y rfl rfl 4 _ _ _ _ ty1 ?_
  refine (And.intro (ty1.k (by decide) rfl) (And.intro (Nat.le_of_ble_eq_true rfl) (And.intro (Or.inl ⟨(Nat.le_of_ble_eq_true rfl), (ty1.k (by decide) rfl)⟩) (And.intro (Nat.le_of_ble_eq_true rfl) (And.intro (Nat.le_of_ble_eq_true rfl) (kjY_mono ty1 (fun q_ u2 ty2 xu2 h_ => ?_) (kx_id ty1 w1 hB hv _ rfl)))))))
  obtain ⟨k, nm2, rfl, p2, p3, w2, s2⟩ := h_
  intro _ _
  refine kjZ_y rfl rfl 5 _ _ _ _ ty2 ?_
  refine (And.intro (Nat.le_of_ble_eq_true rfl) (And.intro (ty2.k (by decide) rfl) (And.intro (Nat.le_of_ble_eq_true rfl) (And.intro (Or.inl ⟨(Nat.le_of_ble_eq_true rfl), (ty2.k (by decide) rfl)⟩) (And.intro (Nat.le_of_ble_eq_true rfl) (And.intro (Nat.le_of_ble_eq_true rfl) (kjY_mono ty2 (fun q_ u3 ty3 xu3 h_ => ?_) (kx_find ty2 w2 p2 _ rfl))))))))
  obtain ⟨rfl, q3⟩ := h_
  intro _ _
  have sA := s1.tr s2
  have pA := p1.tr p3
  obtain ⟨b, hb, eb⟩ := w2.2.2.2.2.2.2.1
  have kb := ob_k ty3 (ANn_b b (ANb_n b hb)).1
  unfold spF at ho
  rcases q3 with ⟨rfl, q3⟩ | ⟨P, y, Q, rfl, f0, f1, f2⟩
  · refine kjZ_y rfl rfl 7 _ _ _ _ ty3 ?_
    refine (And.intro (Nat.le_of_ble_eq_true rfl) (And.intro (ty3.k (by decide) rfl) (And.intro (ty3.k (by decide) rfl) (Exists.intro _ (And.intro eb (And.intro (Nat.le_of_ble_eq_true rfl) (And.intro (Or.inl ⟨(Nat.le_of_ble_eq_true rfl), (by assumption)⟩) (And.intro (Nat.le_of_ble_eq_true rfl) (And.intro (Nat.le_of_ble_eq_true rfl) (kjY_mono ty3 (fun q_ u5 ty5 xu5 h_ => ?_) (kx_nil ty3 w2 hb)))))))))))
    obtain ⟨rfl, w5, s5⟩ := h_
    intro _ _
    refine kjZ_y rfl rfl 1 _ _ _ _ ty5 ?_
    refine And.intro rfl (And.intro rfl ?_)
    exact cd_no pA w5 hr (sA.tr s5).h (by rw [ho, q3])
  · subst f0
    have hs3 : y.2.2.2.2.2.2.1 = 3 := so_1 (s := 3) f2 hso
    have hs0 : ¬ y.2.2.2.2.2.2.1 = 0 := by rw [hs3]; decide
    obtain ⟨z1, z2, kv⟩ := w2.sz hs0
    obtain ⟨r1, r2⟩ := hr.two
    have hne : y.2.2.2.2.2.2.2.2.2.2 ≠ [] := fun z => hE y (List.mem_append_right _ List.mem_cons_self) ⟨hs0, z⟩
    have hpos : 0 < y.2.2.2.2.2.2.2.2.2.2.length := List.length_pos_iff.mpr hne
    refine kjZ_y rfl rfl 8 _ _ _ _ ty3 ?_
    refine (And.intro (Nat.le_of_ble_eq_true rfl) (And.intro (ty3.k (by decide) rfl) (And.intro (Nat.le_of_ble_eq_true rfl) (And.intro (Or.inl ⟨(Nat.le_of_ble_eq_true rfl), (by assumption)⟩) (And.intro (Nat.le_of_ble_eq_true rfl) (And.intro (Nat.le_of_ble_eq_true rfl) (kjY_mono ty3 (fun q_ u4 ty4 xu4 h_ => ?_) (kx_vat ty3 w2 _))))))))
    obtain ⟨rfl, x8, rfl, -⟩ := h_
    intro _ _
    refine kjZ_y rfl rfl 4 _ _ _ _ ty4 ?_
    refine (And.intro (ty4.k (by decide) rfl) (And.intro (ty4.k (by decide) rfl) (Exists.intro _ (And.intro eb (And.intro (Nat.le_of_ble_eq_true rfl) (And.intro (Or.inl ⟨(Nat.le_of_ble_eq_true rfl), (ty4.k (by decide) rfl)⟩) (And.intro (Nat.le_of_ble_eq_true rfl) (And.intro (Nat.le_of_ble_eq_true rfl) (kjY_mono ty4 (fun q_ u5 ty5 xu5 h_ => ?_) (kx_copyWord ty4 w2 hb _))))))))))
    obtain ⟨rfl, w5, s5⟩ := h_
    intro _ _
    have kv5 : (u5.2.2.2.1 y.1).1 = 11 := xu5.k ty4 kv (by decide)
    refine kjZ_y rfl rfl 4 _ _ _ _ ty5 ?_
    refine (And.intro (Nat.le_of_ble_eq_true rfl) (And.intro (Or.inl ⟨(Nat.le_of_ble_eq_true rfl), (ty5.k (by decide) rfl)⟩) (And.intro (Nat.le_of_ble_eq_true rfl) (And.intro (Nat.le_of_ble_eq_true rfl) (kjY_mono ty5 (fun q_ u6 ty6 xu6 h_ => ?_) (kx_mrem ty5 w5 (Or.inr hs3) r2.1 (i := 0) hpos _ rfl))))))
    obtain ⟨rfl, w6, s6⟩ := h_
    intro _ _
    have kv6 : (u6.2.2.2.1 y.1).1 = 11 := xu6.k ty5 kv5 (by decide)
    refine kjZ_y rfl rfl 5 _ _ _ _ ty6 ?_
    refine (And.intro (ty6.k (by decide) rfl) (And.intro (Nat.le_of_ble_eq_true rfl) (And.intro (Or.inl ⟨(Nat.le_of_ble_eq_true rfl), (ty6.k (by decide) rfl)⟩) (And.intro (Nat.le_of_ble_eq_true rfl) (And.intro (Nat.le_of_ble_eq_true rfl) (kjY_mono ty6 (fun q_ u7 ty7 xu7 h_ => ?_) (kx_settle (x := mkK y (esF (rmE 0) y.2.2.2.2.2)) ty6 w6 (k := k) (by show nm2[k]? = some y.2.2.2.2.2.1; rw [f1]; exact p2) _ rfl)))))))
    obtain ⟨q9, q9b⟩ := h_
    intro _ _
    obtain ⟨st1, st2⟩ := stl_k (P := P) (Q := Q) (x := y) (rmE 0) hs0
    obtain ⟨rfl, hz⟩ := cd_se (σ := σ) pA ((sA.tr (s5.tr s6)).g) ⟨q9, q9b⟩ (wkO_mk _ _) r1 st1 st2
    refine kjZ_y rfl rfl 1 _ _ _ _ ty7 ?_
    refine And.intro rfl (And.intro rfl ?_)
    refine cd_S (σ := σ) (u0 := σ) SCl.rf PRE.rf hz ?_
    rw [ho, f2]
    have : (rmE 0 : List AE → List AE) = fun es => es.tail := funext rmE_0
    rw [this]
theorem smF_k {P Q : List KC} {y : KC} {w1 w2 v : List Int32} (f2 : kyI (skA (P ++ y :: Q)) w1 = some P.length) (hyes : skT v y.2.2.2.2.2.2.2.2.2.2 = true) (hn : ¬ kyI (skA (P ++ y :: Q)) w2 = some P.length) : smF (skA (P ++ y :: Q)) w1 w2 v = some (stl1 (upA (orA (skA (P ++ mkK y (esF (rmE (skI v y.2.2.2.2.2.2.2.2.2.2)) y.2.2.2.2.2) :: Q)) w2 3).1 (orA (skA (P ++ mkK y (esF (rmE (skI v y.2.2.2.2.2.2.2.2.2.2)) y.2.2.2.2.2) :: Q)) w2 3).2 (esF (ptE v)))
        (if kyI (skA (P ++ mkK y (esF (rmE (skI v y.2.2.2.2.2.2.2.2.2.2)) y.2.2.2.2.2) :: Q)) w2 = none ∧ (orA (skA (P ++ mkK y (esF (rmE (skI v y.2.2.2.2.2.2.2.2.2.2)) y.2.2.2.2.2) :: Q)) w2 3).2 ≤ P.length then P.length + 1 else P.length)) := by
  have e : skA (P ++ mkK y (esF (rmE (skI v y.2.2.2.2.2.2.2.2.2.2)) y.2.2.2.2.2) :: Q) = upA (skA (P ++ y :: Q)) P.length (esF (rmE (skI v y.2.2.2.2.2.2.2.2.2.2))) := by
    rw [skA_app, skA_app, skA_cons, skA_cons, ← skA_len P, upA_at]; rfl
  unfold smF
  rw [f2]
  show (match (skA (P ++ y :: Q))[P.length]? with | none => _ | some a => _) = _
  rw [skA_at]
  show (if skT v y.2.2.2.2.2.2.2.2.2.2 = true then _ else _) = _
  rw [if_pos hyes, if_neg hn, e]
theorem ptE_ne (v : List Int32) (es : List AE) : ¬ ptE v es = [] := fun z => by
  have := (ptA_ne [v] es z).2
  cases this
set_option maxHeartbeats 1000000 in
theorem kx_sm47 (ty : kTY σ) {P Q : List KC} {y : KC} (w : KWd σ0 B σ ws nm (P ++ y :: Q)) (hr : RSD (P ++ y :: Q)) (hs : y.2.2.2.2.2.2.1 = 3) {k k2 k8 : Nat} {w1 w2 v : List Int32} (hk : nm[k]? = some w1) (hk2 : nm[k2]? = some w2) (hk8 : nm[k8]? = some v) (f1 : y.2.2.2.2.2.1 = w1) (f2 : kyI (skA (P ++ y :: Q)) w1 = some P.length) (hne12 : ¬ w1 = w2) (hso2 : ¬ soT (skA (P ++ y :: Q)) w2 (nI 3) = false) (hyes : skT v y.2.2.2.2.2.2.2.2.2.2 = true) (hS : ∀ x ∈ P ++ y :: Q, x.2.2.2.2.2.2.1 = 3 → SP x.2.2.2.2.2.2.2.2.2.2) (hk1 : (P ++ y :: Q).length + 1 ≤ 2600) (hcl : 3 * (clA (skA (P ++ y :: Q)) + 1) ≤ 49000) (x1 x2 x3 x5 : Int32) (e1 : x1 = nI k) (e2 : x2 = nI k2) (e3 : x3 = nI k8) (e5 : x5 = nI (skI v y.2.2.2.2.2.2.2.2.2.2)) {o : Option (List AK)} (ho : o = smF (skA (P ++ y :: Q)) w1 w2 v) :
    kjY kPP (kQQ Y) (d + 7) 221 47 [some (.ref 71), some (.int x1), some (.int x2), some (.int x3), some (.ref y.1), some (.int x5), none] [] σ (cdP σ0 B σ ws nm (P ++ y :: Q) o) := by
  have hs0 : ¬ y.2.2.2.2.2.2.1 = 0 := by rw [hs]; decide
  obtain ⟨z1, z2, kv⟩ := w.sz hs0
  obtain ⟨hr1, hr2⟩ := hr.two
  obtain ⟨z, hz1, hz2, hz3⟩ := skT_at hyes
  have hn : ¬ kyI (skA (P ++ y :: Q)) w2 = some P.length := fun z => hne12 (f1.symm.trans (w.unq ty hk2 z).1)
  have hM := smF_k (w2 := w2) f2 hyes hn
  refine kjZ_y rfl rfl 4 _ _ _ _ ty ?_
  refine (And.intro (Nat.le_of_ble_eq_true rfl) (And.intro (Or.inl ⟨(Nat.le_of_ble_eq_true rfl), (ty.k (by decide) rfl)⟩) (And.intro (Nat.le_of_ble_eq_true rfl) (And.intro (Nat.le_of_ble_eq_true rfl) (kjY_mono ty (fun q_ u1 ty1 xu1 h_ => ?_) (kx_mrem ty w (Or.inr hs) hr2.1 hz3 _ e5))))))
  obtain ⟨rfl, wz, sz⟩ := h_
  intro _ _
  have kv1 : (u1.2.2.2.1 y.1).1 = 11 := xu1.k ty kv (by decide)
  have hcl' : clA (skA (P ++ mkK y (esF (rmE (skI v y.2.2.2.2.2.2.2.2.2.2)) y.2.2.2.2.2) :: Q)) ≤ clA (skA (P ++ y :: Q)) := clA_mk (by rw [rmE_cut, cutL_len (by omega)]; omega)
  generalize hy : mkK y (esF (rmE (skI v y.2.2.2.2.2.2.2.2.2.2)) y.2.2.2.2.2) = y' at wz hM hcl'
  have y1 : y'.1 = y.1 := by rw [← hy]; rfl
  have yn : y'.2.2.2.2.2.1 = w1 := by rw [← hy]; exact f1
  have ys : y'.2.2.2.2.2.2.1 = 3 := by rw [← hy]; exact hs
  have ywk : wkO y' := by rw [← hy]; exact wkO_mk _ _
  have srt := wz.srt
  have bw1 := w.2.2.1.1.b8 ty hk
  have bw2 := w.2.2.1.1.b8 ty hk2
  rw [← y1] at kv1 ⊢
  have hnc : ¬ cmpW y'.2.2.2.2.2.1 w2 = 0 := fun z => hne12 (cmpW_eq _ _ bw1 bw2 (by rw [← yn]; exact z))
  refine kjZ_y rfl rfl 5 _ _ _ _ ty1 ?_
  refine (And.intro (ty1.k (by decide) rfl) (And.intro (Nat.le_of_ble_eq_true rfl) (And.intro (Or.inl ⟨(Nat.le_of_ble_eq_true rfl), (ty1.k (by decide) rfl)⟩) (And.intro (Nat.le_of_ble_eq_true rfl) (And.intro (Nat.le_of_ble_eq_true rfl) (kjY_mono ty1 (fun q_ u2 ty2 xu2 h_ => ?_) (kx_settle ty1 wz (k := k) (by rw [yn]; exact hk) _ e1)))))))
  obtain ⟨rfl, s2, c2', q2⟩ := h_
  intro _ _
  have kv2 : (u2.2.2.2.1 y'.1).1 = 11 := xu2.k ty1 kv1 (by decide)
  obtain ⟨ks2, w2', hr2', hcl2, hlen2, hmem2, hfin⟩ : ∃ ks2, KWd σ0 B u2 ws nm ks2 ∧ RSD ks2 ∧ clA (skA ks2) ≤ clA (skA (P ++ y :: Q)) ∧ ks2.length ≤ (P ++ y :: Q).length ∧ (∀ x ∈ ks2, ¬ x.2.2.2.2.2.1 = w1 → x ∈ P ++ y :: Q) ∧ stl1 (upA (orA (skA (P ++ y' :: Q)) w2 3).1 (orA (skA (P ++ y' :: Q)) w2 3).2 (esF (ptE v))) (if kyI (skA (P ++ y' :: Q)) w2 = none ∧ (orA (skA (P ++ y' :: Q)) w2 3).2 ≤ P.length then P.length + 1 else P.length) = upA (orA (skA ks2) w2 3).1 (orA (skA ks2) w2 3).2 (esF (ptE v)) := by
    have srt' := srt
    rw [skA_app, skA_cons] at srt'
    rcases q2 with ⟨q3, q4⟩ | ⟨q3, q4⟩
    · refine ⟨P ++ Q, q4, hr1, ?_, ?_, fun x hx _ => ?_, ?_⟩
      · rw [clA_app, clA_at]; omega
      · rw [List.length_append, List.length_append, List.length_cons]; omega
      · rcases List.mem_append.mp hx with z | z
        · exact List.mem_append_left _ z
        · exact List.mem_append_right _ (List.mem_cons_of_mem _ z)
      · rw [← skA_len P, skA_app, skA_app, skA_cons]
        exact mv_drop srt' w2 hnc q3.2 _ 3
    · refine ⟨P ++ rcK y' :: Q, q4, ?_, ?_, ?_, fun x hx hx2 => ?_, ?_⟩
      · intro x hx
        rcases List.mem_append.mp hx with z | z
        · exact hr1 x (List.mem_append_left _ z)
        · rcases List.mem_cons.mp z with z | z
          · rw [z]; exact ⟨ywk, rfl⟩
          · exact hr1 x (List.mem_append_right _ z)
      · have : clA (skA (P ++ rcK y' :: Q)) = clA (skA (P ++ y' :: Q)) := by rw [clA_at, clA_at]; rfl
        rw [this]; exact hcl'
      · rw [List.length_append, List.length_append, List.length_cons, List.length_cons]; exact Nat.le_refl _
      · rcases List.mem_append.mp hx with z | z
        · exact List.mem_append_left _ z
        · rcases List.mem_cons.mp z with z | z
          · exact absurd (by rw [z]; exact yn) hx2
          · exact List.mem_append_right _ (List.mem_cons_of_mem _ z)
      · have er : skA (P ++ rcK y' :: Q) = skA (P ++ y' :: Q) := by rw [skA_app, skA_app, skA_cons, skA_cons]; rfl
        rw [er, ← skA_len P, skA_app, skA_cons]
        exact mv_keep srt' w2 (fun z => q3 ⟨by rw [ys]; decide, z⟩) _ (fun b => ptE_ne _ _) 3
  have sG : SCl scG σ u2 := sz.g.tr (s2.sub scGE)
  refine kjZ_y rfl rfl 5 _ _ _ _ ty2 ?_
  refine (And.intro (ty2.k (by decide) rfl) (And.intro (Nat.le_of_ble_eq_true rfl) (And.intro (Or.inl ⟨(Nat.le_of_ble_eq_true rfl), (ty2.k (by decide) rfl)⟩) (And.intro (Nat.le_of_ble_eq_true rfl) (And.intro (Nat.le_of_ble_eq_true rfl) (kjY_mono ty2 (fun q_ u3 ty3 xu3 h_ => ?_) (kx_orMake ty2 w2' hk2 (s := 3) (by decide) (fun _ => by omega) _ _ e2 rfl)))))))
  obtain ⟨R, x, S, rfl, w3, s3, g1, g2⟩ := h_
  intro _ _
  have hso3 : ¬ soT (skA ks2) w2 (nI 3) = false := by
    rcases g2 with ⟨g3, g4⟩ | ⟨g3, g4, -⟩
    · have hm := hmem2 x (by rw [g3]; exact List.mem_append_right _ List.mem_cons_self) (fun z => hne12 (z.symm.trans g1))
      obtain ⟨P', Q', e⟩ := List.append_of_mem hm
      have srt0 := w.srt
      rw [e] at hso2 srt0
      have h0 := ky_k srt0
      rw [g1] at h0
      have h1 : x.2.2.2.2.2.2.1 = nI 3 := so_1 (s := 3) h0 hso2
      rw [g3] at g4 ⊢
      rw [soT_k g4, decide_eq_true h1]; exact Bool.noConfusion
    · unfold soT; rw [g4]; exact Bool.noConfusion
  obtain ⟨hxs, hrs, hclx, hky, hor, hxe⟩ := om_w (s := 3) hr2' (by decide) hso3 w3 g1 g2
  have hxs : x.2.2.2.2.2.2.1 = 3 := hxs
  have hxs0 : ¬ x.2.2.2.2.2.2.1 = 0 := by rw [hxs]; decide
  have hxSP : SP x.2.2.2.2.2.2.2.2.2.2 := hxe.elim (fun z => by rw [z]; exact List.Pairwise.nil) (fun z => hS x (hmem2 x z (fun z => hne12 (z.symm.trans g1))) hxs)
  have kv3 := (w3.sz hxs0).2.2
  have hpt : ptI x.2.2.2.2.2.2.1 = 1 := by rw [hxs]; rfl
  have hlx : x.2.2.2.2.2.2.2.2.2.2.length ≤ clA (skA (R ++ x :: S)) := by rw [clA_at, hpt]; omega
  refine kjZ_y rfl rfl 5 _ _ _ _ ty3 ?_
  refine (And.intro (Nat.le_of_ble_eq_true rfl) (And.intro (Nat.le_of_ble_eq_true rfl) (And.intro (Or.inl ⟨(Nat.le_of_ble_eq_true rfl), (ty3.k (by decide) rfl)⟩) (And.intro (Nat.le_of_ble_eq_true rfl) (And.intro (Nat.le_of_ble_eq_true rfl) (kjY_mono ty3 (fun q_ u4 ty4 xu4 h_ => ?_) (kx_addM ty3 w3 hxs hrs.2 hxSP hk8 (by omega) _ e3)))))))
  have q4 := h_
  intro _ _
  have kv4 : (u4.2.2.2.1 x.1).1 = 11 := xu4.k ty3 kv3 (by decide)
  obtain ⟨z4, rfl, w4, s4⟩ : ∃ z : Int32, q_ = some (.int z) ∧ KWd σ0 B u4 ws nm (R ++ mkK x (esF (ptE v) x.2.2.2.2.2) :: S) ∧ SCl scA u3 u4 := by
    rcases q4 with ⟨q5, q6, rfl⟩ | ⟨q5, q6, q7, q8⟩
    · refine ⟨_, q6, ?_, SCl.rf⟩
      have : mkK x (esF (ptE v) x.2.2.2.2.2) = x := by
        show mkK x (_, _, _, _, _, ptE v _) = _
        rw [ptE_yes q5]; exact mkK_self hrs.2
      rw [this]; exact w3
    · exact ⟨_, q6, q7, q8⟩
  have hne : ¬ emB (mkK x (esF (ptE v) x.2.2.2.2.2)) := fun z => ptE_ne v _ z.2
  refine kjZ_y rfl rfl 6 _ _ _ _ ty4 ?_
  refine (And.intro (ty4.k (by decide) rfl) (And.intro (Nat.le_of_ble_eq_true rfl) (And.intro (Or.inl ⟨(Nat.le_of_ble_eq_true rfl), (ty4.k (by decide) rfl)⟩) (And.intro (Nat.le_of_ble_eq_true rfl) (And.intro (Nat.le_of_ble_eq_true rfl) (kjY_mono ty4 (fun q_ u5 ty5 xu5 h_ => ?_) (kx_settle (x := mkK x (esF (ptE v) x.2.2.2.2.2)) ty4 w4 (k := k2) (by show nm[k2]? = some x.2.2.2.2.2.1; rw [g1]; exact hk2) _ e2)))))))
  obtain ⟨q9, q9b⟩ := h_
  intro _ _
  obtain ⟨rfl, nmA, ksA, pA5, wA, rA, eA, cA, sA5⟩ := cd_se (σ := σ) PRE.rf (sG.tr (s3.tr s4).g) ⟨q9, q9b⟩ (wkO_mk _ _) hrs.1 (fun z => absurd z hne) (fun _ => rfl)
  obtain ⟨b, hb, eb⟩ := wA.2.2.2.2.2.2.1
  have kb := ob_k ty5 (ANn_b b (ANb_n b hb)).1
  refine kjZ_y rfl rfl 5 _ _ _ _ ty5 ?_
  refine (And.intro (ty5.k (by decide) rfl) (And.intro (ty5.k (by decide) rfl) (Exists.intro _ (And.intro eb (And.intro (Nat.le_of_ble_eq_true rfl) (And.intro (Or.inl ⟨(Nat.le_of_ble_eq_true rfl), (by assumption)⟩) (And.intro (Nat.le_of_ble_eq_true rfl) (And.intro (Nat.le_of_ble_eq_true rfl) (kjY_mono ty5 (fun q_ u6 ty6 xu6 h_ => ?_) (kx_number ty5 wA hb _))))))))))
  obtain ⟨rfl, w6, s6⟩ := h_
  intro _ _
  refine kjZ_y rfl rfl 1 _ _ _ _ ty6 ?_
  refine And.intro rfl (And.intro rfl ?_)
  refine cd_ok pA5 w6 rA eA ((s6 (59, 18) (by decide)).1.trans cA) (sA5.tr s6.g) ?_
  have hor : orA (skA ks2) w2 3 = (skA (R ++ x :: S), R.length) := hor
  rw [ho, hM, hfin, hor]
  show some (upA (skA (R ++ x :: S)) R.length _) = _
  rw [skA_app, skA_app, skA_cons, skA_cons, ← skA_len R, upA_at]; rfl
theorem kx_smove (ty : kTY σ) (w : KWd σ0 B σ ws nm ks) (hr : RSD ks) (hB : BOK B ws) {j : Nat} (hj : CMD σ j) {w1 w2 v : List Int32} (hv : ws[1]? = some w1) (hv2 : ws[2]? = some w2) (hv3 : ws[3]? = some v) (hS : ∀ x ∈ ks, x.2.2.2.2.2.2.1 = 3 → SP x.2.2.2.2.2.2.2.2.2.2) (hk1 : ks.length + 1 ≤ 2600) (hcl : 3 * (clA (skA ks) + 1) ≤ 49000) {o : Option (List AK)} (ho2 : rfY (σ.1 59 17) ks j w1 w2 3 → o = none) (ho3 : ¬ rfY (σ.1 59 17) ks j w1 w2 3 → o = smF (skA ks) w1 w2 v) :
    kjY kPP (kQQ Y) (d + 7) 221 0 (mjL0 7 [.ref 71]) [] σ (cdP σ0 B σ ws nm ks o) := by
  have hlen := (List.getElem?_eq_some_iff.mp hv3).1
  refine kjZ_y rfl rfl 6 _ _ _ _ ty ?_
  refine (And.intro (ty.k (by decide) rfl) (And.intro (Nat.le_of_ble_eq_true rfl) (And.intro (Or.inl ⟨(Nat.le_of_ble_eq_true rfl), (ty.k (by decide) rfl)⟩) (And.intro (Nat.le_of_ble_eq_true rfl) (And.intro (Nat.le_of_ble_eq_true rfl) (kjY_mono ty (fun q_ u1 ty1 xu1 h_ => ?_) (kx_refuses ty w hB hj (a := 1) (b := 2) (by omega) (by omega) (s := 3) (by decide) _ _ _ rfl rfl rfl)))))))
  obtain ⟨nm1, p1, w1', s1, q⟩ := h_
  intro _ _
  rw [rf2 w hv hv2] at q
  rcases q with ⟨rfl, q⟩ | ⟨rfl, q⟩
  · refine kjZ_y rfl rfl 1 _ _ _ _ ty1 ?_
    refine And.intro (fun c => ?_) (fun c => ?_)
    · exact absurd (show (1 : Int32) = 0 from c) (by decide)
    refine kjZ_y rfl rfl 1 _ _ _ _ ty1 ?_
    refine And.intro rfl (And.intro rfl ?_)
    exact cd_no p1 w1' hr s1.h (ho2 q)
  have ho := ho3 q
  have hso1 := fun z => q (Or.inr (Or.inl z))
  have hso2 := fun z => q (Or.inr (Or.inr z))
  refine kjZ_y rfl rfl 1 _ _ _ _ ty1 ?_
  refine And.intro (fun c => ?_) (fun c => ?_)
  rotate_left
  · exact absurd rfl c
  refine kjZ_y rfl rfl 4 _ _ _ _ ty1 ?_
  refine (And.intro (ty1.k (by decide) rfl) (And.intro (Nat.le_of_ble_eq_true rfl) (And.intro (Or.inl ⟨(Nat.le_of_ble_eq_true rfl), (ty1.k (by decide) rfl)⟩) (And.intro (Nat.le_of_ble_eq_true rfl) (And.intro (Nat.le_of_ble_eq_true rfl) (kjY_mono ty1 (fun q_ u2 ty2 xu2 h_ => ?_) (kx_id ty1 w1' hB hv _ rfl)))))))
  obtain ⟨k, nm2, rfl, p2, p3, w2', s2⟩ := h_
  intro _ _
  refine kjZ_y rfl rfl 5 _ _ _ _ ty2 ?_
  refine (And.intro (Nat.le_of_ble_eq_true rfl) (And.intro (ty2.k (by decide) rfl) (And.intro (Nat.le_of_ble_eq_true rfl) (And.intro (Or.inl ⟨(Nat.le_of_ble_eq_true rfl), (ty2.k (by decide) rfl)⟩) (And.intro (Nat.le_of_ble_eq_true rfl) (And.intro (Nat.le_of_ble_eq_true rfl) (kjY_mono ty2 (fun q_ u3 ty3 xu3 h_ => ?_) (kx_id ty2 w2' hB hv2 _ rfl))))))))
  obtain ⟨k2, nm3, rfl, p4, p5, w3, s3⟩ := h_
  intro _ _
  refine kjZ_y rfl rfl 5 _ _ _ _ ty3 ?_
  refine (And.intro (Nat.le_of_ble_eq_true rfl) (And.intro (ty3.k (by decide) rfl) (And.intro (Nat.le_of_ble_eq_true rfl) (And.intro (Or.inl ⟨(Nat.le_of_ble_eq_true rfl), (ty3.k (by decide) rfl)⟩) (And.intro (Nat.le_of_ble_eq_true rfl) (And.intro (Nat.le_of_ble_eq_true rfl) (kjY_mono ty3 (fun q_ u4 ty4 xu4 h_ => ?_) (kx_id ty3 w3 hB hv3 _ rfl))))))))
  obtain ⟨k3, nm4, rfl, p6, p7, w4, s4⟩ := h_
  intro _ _
  have p2' := p7.get (p5.get p2)
  have p4' := p7.get p4
  have sA := ((s1.tr s2).tr s3).tr s4
  have pA := ((p1.tr p3).tr p5).tr p7
  have inj := w4.2.2.1.1.inj p2' p4'
  refine kjZ_y rfl rfl 5 _ _ _ _ ty4 ?_
  refine (And.intro (Nat.le_of_ble_eq_true rfl) (And.intro (ty4.k (by decide) rfl) (And.intro (Nat.le_of_ble_eq_true rfl) (And.intro (Or.inl ⟨(Nat.le_of_ble_eq_true rfl), (ty4.k (by decide) rfl)⟩) (And.intro (Nat.le_of_ble_eq_true rfl) (And.intro (Nat.le_of_ble_eq_true rfl) (kjY_mono ty4 (fun q_ u5 ty5 xu5 h_ => ?_) (kx_find ty4 w4 p2' _ rfl))))))))
  obtain ⟨rfl, q3⟩ := h_
  intro _ _
  obtain ⟨b, hb, eb⟩ := w4.2.2.2.2.2.2.1
  have kb := ob_k ty5 (ANn_b b (ANb_n b hb)).1
  rcases q3 with ⟨rfl, q3⟩ | ⟨P, y, Q, rfl, f0, f1, f2⟩
  · refine kjZ_y rfl rfl 6 _ _ _ _ ty5 ?_
    refine (And.intro (Nat.le_of_ble_eq_true rfl) (And.intro (ty5.k (by decide) rfl) (And.intro (Nat.le_of_ble_eq_true rfl) (And.intro (Or.inl ⟨(Nat.le_of_ble_eq_true rfl), (ty5.k (by decide) rfl)⟩) (And.intro (Nat.le_of_ble_eq_true rfl) (And.intro (Nat.le_of_ble_eq_true rfl) (kjY_mono ty5 (fun q_ u6 ty6 xu6 h_ => ?_) (kx_placeOf0 ty5 _))))))))
    obtain ⟨rfl, rfl⟩ := h_
    intro _ _
    refine kjZ_y rfl rfl 8 _ _ _ _ ty6 ?_
    refine (And.intro (Nat.le_of_ble_eq_true rfl) (And.intro (ty6.k (by decide) rfl) (And.intro (ty6.k (by decide) rfl) (Exists.intro _ (And.intro eb (And.intro (Nat.le_of_ble_eq_true rfl) (And.intro (Or.inl ⟨(Nat.le_of_ble_eq_true rfl), (by assumption)⟩) (And.intro (Nat.le_of_ble_eq_true rfl) (And.intro (Nat.le_of_ble_eq_true rfl) (kjY_mono ty6 (fun q_ u7 ty7 xu7 h_ => ?_) (kx_number ty6 w4 hb _)))))))))))
    obtain ⟨rfl, w7, s7⟩ := h_
    intro _ _
    refine kjZ_y rfl rfl 1 _ _ _ _ ty7 ?_
    refine And.intro rfl (And.intro rfl ?_)
    refine cd_no pA w7 hr (sA.tr s7).h ?_
    rw [ho]; unfold smF; rw [q3]
  · subst f0
    have hs3 : y.2.2.2.2.2.2.1 = 3 := so_1 (s := 3) f2 hso1
    have hs0 : ¬ y.2.2.2.2.2.2.1 = 0 := by rw [hs3]; decide
    obtain ⟨z1, z2, kv⟩ := w4.sz hs0
    have hSP := hS y (List.mem_append_right _ List.mem_cons_self) hs3
    have hsl9 := skR_lt (v := v) (es := y.2.2.2.2.2.2.2.2.2.2) (by omega)
    refine kjZ_y rfl rfl 6 _ _ _ _ ty5 ?_
    refine (And.intro (Nat.le_of_ble_eq_true rfl) (And.intro (ty5.k (by decide) rfl) (And.intro (Nat.le_of_ble_eq_true rfl) (And.intro (Or.inl ⟨(Nat.le_of_ble_eq_true rfl), (ty5.k (by decide) rfl)⟩) (And.intro (Nat.le_of_ble_eq_true rfl) (And.intro (Nat.le_of_ble_eq_true rfl) (kjY_mono ty5 (fun q_ u6 ty6 xu6 h_ => ?_) (kx_plM ty5 w4 (Or.inr hs3) hSP p6 _ rfl))))))))
    obtain ⟨rfl, rfl⟩ := h_
    intro _ _
    have e8 : smF (skA (P ++ y :: Q)) w1 w2 v = (if skT v y.2.2.2.2.2.2.2.2.2.2 = true then (if kyI (skA (P ++ y :: Q)) w2 = some P.length then none else some (stl1 (upA (orA (upA (skA (P ++ y :: Q)) P.length (esF (rmE (skI v y.2.2.2.2.2.2.2.2.2.2)))) w2 3).1 (orA (upA (skA (P ++ y :: Q)) P.length (esF (rmE (skI v y.2.2.2.2.2.2.2.2.2.2)))) w2 3).2 (esF (ptE v))) (if kyI (upA (skA (P ++ y :: Q)) P.length (esF (rmE (skI v y.2.2.2.2.2.2.2.2.2.2)))) w2 = none ∧ (orA (upA (skA (P ++ y :: Q)) P.length (esF (rmE (skI v y.2.2.2.2.2.2.2.2.2.2)))) w2 3).2 ≤ P.length then P.length + 1 else P.length))) else none) := by
      unfold smF; rw [f2]
      show (match (skA (P ++ y :: Q))[P.length]? with | none => _ | some a => _) = _
      rw [skA_at]
    generalize hrr : skR v y.2.2.2.2.2.2.2.2.2.2 = x5 at hsl9
    refine kjZ_y rfl rfl 3 _ _ _ _ ty6 ?_
    refine (And.intro (Nat.le_of_ble_eq_true rfl) ?_)
    refine kjZ_y rfl rfl 2 _ _ _ _ ty6 ?_
    refine And.intro (fun c2 => ?_) (fun c2 => ?_)
    rotate_left
    · have hno := hsl9.1.mp (Int32.not_le.mp c2)
      refine kjZ_y rfl rfl 5 _ _ _ _ ty6 ?_
      refine (And.intro (ty6.k (by decide) rfl) (And.intro (ty6.k (by decide) rfl) (Exists.intro _ (And.intro eb (And.intro (Nat.le_of_ble_eq_true rfl) (And.intro (Or.inl ⟨(Nat.le_of_ble_eq_true rfl), (by assumption)⟩) (And.intro (Nat.le_of_ble_eq_true rfl) (And.intro (Nat.le_of_ble_eq_true rfl) (kjY_mono ty6 (fun q_ u7 ty7 xu7 h_ => ?_) (kx_number ty6 w4 hb _))))))))))
      obtain ⟨rfl, w7, s7⟩ := h_
      intro _ _
      refine kjZ_y rfl rfl 1 _ _ _ _ ty7 ?_
      refine And.intro rfl (And.intro rfl ?_)
      refine cd_no pA w7 hr (sA.tr s7).h ?_
      rw [ho, e8, if_neg hno]
    have hyes : skT v y.2.2.2.2.2.2.2.2.2.2 = true := Decidable.byContradiction fun z => Int32.not_lt.mpr c2 (hsl9.1.mpr z)
    have e5 : x5 = nI (skI v y.2.2.2.2.2.2.2.2.2.2) := by rw [← hrr]; unfold skR; rw [if_pos hyes]
    refine kjZ_y rfl rfl 3 _ _ _ _ ty6 ?_
    refine And.intro (fun c3 => ?_) (fun c3 => ?_)
    · have c3 : w1 = w2 := inj.mp c3
      refine kjZ_y rfl rfl 5 _ _ _ _ ty6 ?_
      refine (And.intro (ty6.k (by decide) rfl) (And.intro (ty6.k (by decide) rfl) (Exists.intro _ (And.intro eb (And.intro (Nat.le_of_ble_eq_true rfl) (And.intro (Or.inl ⟨(Nat.le_of_ble_eq_true rfl), (by assumption)⟩) (And.intro (Nat.le_of_ble_eq_true rfl) (And.intro (Nat.le_of_ble_eq_true rfl) (kjY_mono ty6 (fun q_ u7 ty7 xu7 h_ => ?_) (kx_number ty6 w4 hb _))))))))))
      obtain ⟨rfl, w7, s7⟩ := h_
      intro _ _
      refine kjZ_y rfl rfl 1 _ _ _ _ ty7 ?_
      refine And.intro rfl (And.intro rfl ?_)
      refine cd_no pA w7 hr (sA.tr s7).h ?_
      rw [ho, e8, if_pos hyes, ← c3, if_pos f2]
    have c3 : ¬ w1 = w2 := fun z => c3 (inj.mpr z)
    exact kjY_mono ty6 (fun r z tz xz hz => hz.pre sA.h pA) (kx_sm47 (d := d) ty6 w4 hr hs3 p2' p4' p6 f1 f2 c3 hso2 hyes hS hk1 hcl _ _ _ x5 rfl rfl rfl e5 ho)
end KSMOVE
