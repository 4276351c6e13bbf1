/-! Where a block of the log ends. -/
/-- a request that may stand in the log by itself, or within a block -/
def LQ (q : Req) : Prop := ∃ j, QC q j ∧ (¬ (kCmd j).2.2.2.1 &&& 2 = 0) ∧ ¬ j = 8 ∧ ¬ j = 47
theorem nm_mx : nm 99 = tb 5 ∧ nm 100 = tb 4 := by decide +kernel
theorem QC_mu : QC [nm 99] 47 ∧ ¬ (kCmd 47).2.2.2.1 &&& 2 = 0 := by
  refine ⟨⟨by decide, ⟨nm 99, rfl, by decide +kernel⟩, by decide, fun w hw => ?_, by unfold tkP; decide +kernel⟩, by decide +kernel⟩
  rw [List.mem_singleton.mp hw]; decide +kernel
theorem QC_ex : QC [nm 100] 8 ∧ ¬ (kCmd 8).2.2.2.1 &&& 2 = 0 := by
  refine ⟨⟨by decide, ⟨nm 100, rfl, by decide +kernel⟩, by decide, fun w hw => ?_, by unfold tkP; decide +kernel⟩, by decide +kernel⟩
  rw [List.mem_singleton.mp hw]; decide +kernel
section KRECORD
variable {Y : Nat → MethodName × ByteArray} {d : Nat} {σ u : kS} {B ws nmm nmm' : List (List Int32)} {ks ks' : List KC}
theorem LGo.br (h : LGo σ u) {b r N : Nat} {L : List Int32} (hb : b ∈ [5, 7]) (ty : kTY σ) (ow : OWN σ) (hr : BR σ b r N L) : BR u b r N L ∧ u.1 r = σ.1 r := by
  obtain ⟨s1, s2, s3, s4, s5, s6, s7⟩ := hr
  have nb : ∀ b ∈ [5, 7], ¬ b = 53 ∧ ¬ b = 54 ∧ ¬ b = 55 := by decide
  obtain ⟨n1, n2, n3⟩ := nb b hb
  have k53 : (σ.2.2.2.1 53).1 = 3 := ty.k (by decide) rfl
  have k54 : σ.2.2.2.1 54 = (20, 1024) := ty.kl (h := 54) (c := (20, 1024)) (by decide) rfl
  have k55 : σ.2.2.2.1 55 = (20, 1024) := ty.kl (h := 55) (c := (20, 1024)) (by decide) rfl
  have m1 : ¬ r = 53 := fun z => by rw [z] at s2; rw [s2] at k53; exact absurd (show (21 : Nat) = 3 from k53) (by decide)
  have m2 : ¬ r = 54 := fun z => by rw [z] at s2; rw [s2] at k54; exact absurd k54 (by simp)
  have m3 : ¬ r = 55 := fun z => by rw [z] at s2; rw [s2] at k55; exact absurd k55 (by simp)
  have er : u.1 r = σ.1 r := funext fun x => h.2.2.2.2 r x m1 m2 m3
  exact ⟨⟨by rw [h.2.2.1 b 1 n1]; exact s1, by rw [h.2.2.2.1]; exact s2, s3, by rw [h.2.2.2.2 b 0 n1 n2 n3]; exact s4, by rw [h.2.2.2.2 b 2 n1 n2 n3]; exact s5, s6, by rw [er]; exact s7⟩, er⟩
/-- what is told of a place of the log -/
def reP (B : List (List Int32)) (σ : kS) (nmm : List (List Int32)) (ks : List KC) (p e n : Nat) : kK := fun r u => LGo σ u ∧ KG B u nmm ks ∧ ((p + n ≤ e ∧ r = some (.int (nI (p + n)))) ∨ (e < p + n ∧ r = some (.int (-1))))
theorem kx_record_l {b r N : Nat} {L : List Int32} (hb : b ∈ [5, 7]) (ts : kTY σ) (gs : KG B σ nmm ks) (h10 : σ.2.2.1 0 10 = some b) (hr : BR σ b r N L) (x1 : Int32) {p0 n0 : Nat} : ∀ (ns : List Req) (p i : Nat) (x3 : Int32) (o4 : Option Value) (u : kS), (∀ q ∈ ns, LQ q) → p ≤ L.length → AT (σ.1 r) p L.length (encs ns ++ encR [nm 100]) → p + (encs ns ++ encR [nm 100]).length = p0 + n0 → x3 = nI i → i + ns.length < 1000000 → kTY u → LGo σ u → KG B u nmm ks → u.1 53 5 = nI p →
    kjY kPP (kQQ Y) (d + 9) 32 20 [some (.ref 0), some (.int x1), some (.ref (1000000 + 47)), some (.int x3), o4] [] u (reP B σ nmm ks p0 L.length n0) := by
  intro ns
  induction ns with
  | nil =>
    intro p i x3 o4 u hq hp hA hn e3 hi tu lu gu h5
    obtain ⟨hru, er⟩ := lu.br hb ts gs.1.1 hr
    have h10u : u.2.2.1 0 10 = some b := by rw [lu.2.2.1 0 10 (by decide)]; exact h10
    have hA : AT (σ.1 r) p L.length (encR [nm 100]) := hA
    have hn : p + (encR [nm 100]).length = p0 + n0 := hn
    have hi : i < 1000000 := by simpa using hi
    refine kjZ_y rfl rfl 3 _ _ _ _ tu ?_
    refine And.intro (fun c => ?_) (fun c => ?_)
    · exact absurd (show nI 1048576 ≤ x3 from c) (by rw [e3, nle (by omega) (by omega)]; omega)
    refine kjZ_y rfl rfl 5 _ _ _ _ tu ?_
    refine (And.intro (tu.k (by decide) rfl) (And.intro (tu.k (by decide) rfl) (And.intro (Nat.le_of_ble_eq_true rfl) (And.intro (Or.inl ⟨(Nat.le_of_ble_eq_true rfl), (tu.k (by decide) rfl)⟩) (And.intro (Nat.le_of_ble_eq_true rfl) (And.intro (Nat.le_of_ble_eq_true rfl) (kjY_mono tu (fun q_ u1 ty1 xu1 h_ => ?_) (kx_logged (d := d) tu gu hb h10u hru hp QC_ex.1 QC_ex.2 (by rw [er]; exact hA) _ h5))))))))
    obtain ⟨l1, q1⟩ := h_
    intro _ _
    have l1' := lu.tr ts l1
    rcases q1 with ⟨hw, rfl, ko, i5⟩ | ⟨hw, rfl, g1⟩
    · have k8 : kCm (1000000 + 8) := ⟨8, by decide, rfl⟩
      refine kjZ_y rfl rfl 3 _ _ _ _ ty1 ?_
      refine (And.intro (Nat.le_of_ble_eq_true rfl) ?_)
      refine kjZ_y rfl rfl 3 _ _ _ _ ty1 ?_
      refine And.intro ⟨(by assumption), ⟨47, by decide, rfl⟩, Or.inr rfl⟩ (And.intro (fun c2 => ?_) (fun c2 => ?_))
      rotate_left
      · exact absurd (ac_ne.mpr (show ¬ 1000000 + 8 = 1000000 + 47 by decide)) c2
      refine kjZ_y rfl rfl 3 _ _ _ _ ty1 ?_
      refine And.intro ⟨(by assumption), ⟨8, by decide, rfl⟩, Or.inr rfl⟩ (And.intro (fun c3 => ?_) (fun c3 => ?_))
      · exact absurd rfl (ac_ne.mp c3)
      refine kjZ_y rfl rfl 4 _ _ _ _ ty1 ?_
      refine (And.intro (ty1.k (by decide) rfl) (And.intro (ty1.k (by decide) rfl) (And.intro rfl (And.intro (Or.inl rfl) ?_))))
      refine ⟨l1', ko.1, Or.inl ⟨by omega, ?_⟩⟩
      show some (Value.int (u1.1 53 5)) = _
      rw [i5, hn]
    · refine kjZ_y rfl rfl 3 _ _ _ _ ty1 ?_
      refine (And.intro (Nat.le_of_ble_eq_true rfl) ?_)
      refine kjZ_y rfl rfl 2 _ _ _ _ ty1 ?_
      refine And.intro rfl (And.intro (Or.inl rfl) ?_)
      exact ⟨l1', g1, Or.inr ⟨by omega, rfl⟩⟩
  | cons q ns ih =>
    intro p i x3 o4 u hq hp hA hn e3 hi tu lu gu h5
    obtain ⟨hru, er⟩ := lu.br hb ts gs.1.1 hr
    have h10u : u.2.2.1 0 10 = some b := by rw [lu.2.2.1 0 10 (by decide)]; exact h10
    rw [encs_cons, List.append_assoc] at hA hn
    obtain ⟨j, hj, hlg, n8, n47⟩ := hq q List.mem_cons_self
    have hlen : (encR q ++ (encs ns ++ encR [nm 100])).length = (encR q).length + (encs ns ++ encR [nm 100]).length := List.length_append
    have hi : i + ns.length + 1 < 1000000 := by simp only [List.length_cons] at hi; omega
    refine kjZ_y rfl rfl 3 _ _ _ _ tu ?_
    refine And.intro (fun c => ?_) (fun c => ?_)
    · exact absurd (show nI 1048576 ≤ x3 from c) (by rw [e3, nle (by omega) (by omega)]; omega)
    refine kjZ_y rfl rfl 5 _ _ _ _ tu ?_
    refine (And.intro (tu.k (by decide) rfl) (And.intro (tu.k (by decide) rfl) (And.intro (Nat.le_of_ble_eq_true rfl) (And.intro (Or.inl ⟨(Nat.le_of_ble_eq_true rfl), (tu.k (by decide) rfl)⟩) (And.intro (Nat.le_of_ble_eq_true rfl) (And.intro (Nat.le_of_ble_eq_true rfl) (kjY_mono tu (fun q_ u1 ty1 xu1 h_ => ?_) (kx_logged (d := d) tu gu hb h10u hru hp hj hlg (by rw [er]; exact hA.l) _ h5))))))))
    obtain ⟨l1, q1⟩ := h_
    intro _ _
    have l1' := lu.tr ts l1
    rcases q1 with ⟨hw, rfl, ko, i5⟩ | ⟨hw, rfl, g1⟩
    · have kj : kCm (1000000 + j) := ⟨j, hj.1, rfl⟩
      refine kjZ_y rfl rfl 3 _ _ _ _ ty1 ?_
      refine (And.intro (Nat.le_of_ble_eq_true rfl) ?_)
      refine kjZ_y rfl rfl 3 _ _ _ _ ty1 ?_
      refine And.intro ⟨(by assumption), ⟨47, by decide, rfl⟩, Or.inr rfl⟩ (And.intro (fun c2 => ?_) (fun c2 => ?_))
      rotate_left
      · exact absurd (ac_ne.mpr (show ¬ 1000000 + j = 1000000 + 47 by omega)) c2
      refine kjZ_y rfl rfl 3 _ _ _ _ ty1 ?_
      refine And.intro ⟨(by assumption), ⟨8, by decide, rfl⟩, Or.inr rfl⟩ (And.intro (fun c3 => ?_) (fun c3 => ?_))
      rotate_left
      · exact absurd (ac_ne.mpr (show ¬ 1000000 + j = 1000000 + 8 by omega)) c3
      refine kjZ_y rfl rfl 2 _ _ _ _ ty1 ?_
      exact ih (p + (encR q).length) (i + 1) _ _ u1 (fun q' hq' => hq q' (List.mem_cons_of_mem _ hq')) hw hA.r (by omega) (by rw [e3]; exact nI_1 i) (by omega) ty1 l1' ko.1 i5
    · refine kjZ_y rfl rfl 3 _ _ _ _ ty1 ?_
      refine (And.intro (Nat.le_of_ble_eq_true rfl) ?_)
      refine kjZ_y rfl rfl 2 _ _ _ _ ty1 ?_
      refine And.intro rfl (And.intro (Or.inl rfl) ?_)
      exact ⟨l1', g1, Or.inr ⟨by omega, rfl⟩⟩
theorem kx_record (ty : kTY σ) (g : KG B σ nmm ks) {b : Nat} (hb : b ∈ [5, 7]) (h10 : σ.2.2.1 0 10 = some b) {r N : Nat} {L : List Int32} (hr : BR σ b r N L) {p : Nat} (hp : p ≤ L.length) {bl : Bool} {ns : List Req} (hne : ns ≠ []) (hbl : bl = false → ns.length ≤ 1) (hns : ns.length < 900000) (hq : ∀ q ∈ ns, LQ q) (hA : AT (σ.1 r) p L.length (blkB bl ns)) (x : Int32) (ex : x = nI p) : kjY kPP (kQQ Y) (d + 9) 32 0 (mjL0 5 [.ref 0, .int x]) [] σ (reP B σ nmm ks p L.length (blkB bl ns).length) := by
  cases bl with
  | false =>
    obtain ⟨q, e1, e2⟩ := blk_f (hbl rfl) hne
    rw [e2] at hA ⊢
    obtain ⟨j, hj, hlg, n8, n47⟩ := hq q (by rw [e1]; exact List.mem_cons_self)
    refine kjZ_y rfl rfl 3 _ _ _ _ ty ?_
    refine (And.intro (Nat.le_of_ble_eq_true rfl) (And.intro (Or.inl ⟨(Nat.le_of_ble_eq_true rfl), (ty.k (by decide) rfl)⟩) (And.intro (Nat.le_of_ble_eq_true rfl) (And.intro (Nat.le_of_ble_eq_true rfl) (kjY_mono ty (fun q_ u1 ty1 xu1 h_ => ?_) (kx_logged (d := d) ty g hb h10 hr hp hj hlg hA _ ex))))))
    obtain ⟨l1, q1⟩ := h_
    intro _ _
    rcases q1 with ⟨hw, rfl, ko, i5⟩ | ⟨hw, rfl, g1⟩
    · have kj : kCm (1000000 + j) := ⟨j, hj.1, rfl⟩
      refine kjZ_y rfl rfl 3 _ _ _ _ ty1 ?_
      refine (And.intro (Nat.le_of_ble_eq_true rfl) ?_)
      refine kjZ_y rfl rfl 3 _ _ _ _ ty1 ?_
      refine And.intro ⟨(by assumption), ⟨8, by decide, rfl⟩, Or.inr rfl⟩ (And.intro (fun c2 => ?_) (fun c2 => ?_))
      rotate_left
      · exact absurd (ac_ne.mpr (show ¬ 1000000 + j = 1000000 + 8 by omega)) c2
      refine kjZ_y rfl rfl 3 _ _ _ _ ty1 ?_
      refine And.intro ⟨(by assumption), ⟨47, by decide, rfl⟩, Or.inl rfl⟩ (And.intro (fun c3 => ?_) (fun c3 => ?_))
      · exact absurd (ac_eq.mp c3) (by omega)
      refine kjZ_y rfl rfl 4 _ _ _ _ ty1 ?_
      refine (And.intro (ty1.k (by decide) rfl) (And.intro (ty1.k (by decide) rfl) (And.intro rfl (And.intro (Or.inl rfl) ?_))))
      refine ⟨l1, ko.1, Or.inl ⟨hw, ?_⟩⟩
      show some (Value.int (u1.1 53 5)) = _
      rw [i5]
    · refine kjZ_y rfl rfl 3 _ _ _ _ ty1 ?_
      refine (And.intro (Nat.le_of_ble_eq_true rfl) ?_)
      refine kjZ_y rfl rfl 2 _ _ _ _ ty1 ?_
      refine And.intro rfl (And.intro (Or.inl rfl) ?_)
      exact ⟨l1, g1, Or.inr ⟨hw, rfl⟩⟩
  | true =>
    rw [blk_t hne] at hA ⊢
    have hlen : (encR [nm 99] ++ (encs ns ++ encR [nm 100])).length = (encR [nm 99]).length + (encs ns ++ encR [nm 100]).length := List.length_append
    refine kjZ_y rfl rfl 3 _ _ _ _ ty ?_
    refine (And.intro (Nat.le_of_ble_eq_true rfl) (And.intro (Or.inl ⟨(Nat.le_of_ble_eq_true rfl), (ty.k (by decide) rfl)⟩) (And.intro (Nat.le_of_ble_eq_true rfl) (And.intro (Nat.le_of_ble_eq_true rfl) (kjY_mono ty (fun q_ u1 ty1 xu1 h_ => ?_) (kx_logged (d := d) ty g hb h10 hr hp QC_mu.1 QC_mu.2 hA.l _ ex))))))
    obtain ⟨l1, q1⟩ := h_
    intro _ _
    rcases q1 with ⟨hw, rfl, ko, i5⟩ | ⟨hw, rfl, g1⟩
    · have k47 : kCm (1000000 + 47) := ⟨47, by decide, rfl⟩
      refine kjZ_y rfl rfl 3 _ _ _ _ ty1 ?_
      refine (And.intro (Nat.le_of_ble_eq_true rfl) ?_)
      refine kjZ_y rfl rfl 3 _ _ _ _ ty1 ?_
      refine And.intro ⟨(by assumption), ⟨8, by decide, rfl⟩, Or.inr rfl⟩ (And.intro (fun c2 => ?_) (fun c2 => ?_))
      rotate_left
      · exact absurd (ac_ne.mpr (show ¬ 1000000 + 47 = 1000000 + 8 by decide)) c2
      refine kjZ_y rfl rfl 3 _ _ _ _ ty1 ?_
      refine And.intro ⟨(by assumption), ⟨47, by decide, rfl⟩, Or.inl rfl⟩ (And.intro (fun c3 => ?_) (fun c3 => ?_))
      rotate_left
      · exact absurd (ac_eq.mpr rfl) c3
      refine kjZ_y rfl rfl 2 _ _ _ _ ty1 ?_
      refine (And.intro (Nat.le_of_ble_eq_true rfl) ?_)
      exact kx_record_l hb ty g h10 hr x ns (p + (encR [nm 99]).length) 0 _ none u1 hq hw hA.r (by omega) rfl (by omega) ty1 l1 ko.1 i5
    · refine kjZ_y rfl rfl 3 _ _ _ _ ty1 ?_
      refine (And.intro (Nat.le_of_ble_eq_true rfl) ?_)
      refine kjZ_y rfl rfl 2 _ _ _ _ ty1 ?_
      refine And.intro rfl (And.intro (Or.inl rfl) ?_)
      exact ⟨l1, g1, Or.inr ⟨by omega, rfl⟩⟩
/-- nothing stands there -/
theorem kx_record0 (ty : kTY σ) (g : KG B σ nmm ks) {b : Nat} (hb : b ∈ [5, 7]) (h10 : σ.2.2.1 0 10 = some b) {L : List Int32} (hr : kBY σ b L) (x : Int32) (ex : x = nI L.length) : kjY kPP (kQQ Y) (d + 9) 32 0 (mjL0 5 [.ref 0, .int x]) [] σ (fun r u => u = σ ∧ r = some (.int (-1))) := by
  obtain ⟨b1, b2, b3, b4, b5⟩ := J_ok b hb
  have kb := ob_k ty b1
  obtain ⟨s5, hlt⟩ := hr.sz
  have hlg : kjY kPP (kQQ Y) (d + 8) 33 0 (mjL0 4 [.ref 0, .int x]) [] σ (fun r u => u = σ ∧ r = some .null) := by
    refine kjZ_y rfl rfl 5 _ _ _ _ ty ?_
    refine (And.intro (ty.k (by decide) rfl) (Exists.intro _ (And.intro h10 (And.intro (by assumption) (And.intro (fun c => ?_) (fun c => ?_))))))
    rotate_left
    · exact absurd (show σ.1 b 2 ≤ x by rw [s5, ex]; exact Int32.le_refl _) c
    refine kjZ_y rfl rfl 2 _ _ _ _ ty ?_
    refine And.intro rfl (And.intro (Nat.le_of_ble_eq_true rfl) ?_)
    exact ⟨rfl, rfl⟩
  refine kjZ_y rfl rfl 3 _ _ _ _ ty ?_
  refine (And.intro (Nat.le_of_ble_eq_true rfl) (And.intro (Or.inl ⟨(Nat.le_of_ble_eq_true rfl), (ty.k (by decide) rfl)⟩) (And.intro (Nat.le_of_ble_eq_true rfl) (And.intro (Nat.le_of_ble_eq_true rfl) (kjY_mono ty (fun q_ u1 ty1 xu1 h_ => ?_) (hlg))))))
  obtain ⟨rfl, rfl⟩ := h_
  intro _ _
  refine kjZ_y rfl rfl 3 _ _ _ _ ty1 ?_
  refine (And.intro (Nat.le_of_ble_eq_true rfl) ?_)
  refine kjZ_y rfl rfl 2 _ _ _ _ ty1 ?_
  refine And.intro rfl (And.intro (Or.inl rfl) ?_)
  exact ⟨rfl, rfl⟩
end KRECORD
