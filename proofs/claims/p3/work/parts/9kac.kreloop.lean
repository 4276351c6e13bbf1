/-! The log is run again: the requests of one block. -/
/-- what the class does for a logged request -/
noncomputable def rnR (now : Int64) (A : List AK) (j : Nat) (ws : Req) : Eff := @ite _ (rid j = 19 ∧ sbC (gw ws 2) (gw ws 3) = none) (Classical.propDecidable _) none (rnF (rid j) ws now true A)
/-- what a logged request asks for -/
def RJ (B : List (List Int32)) (A : List AK) (ws : Req) (j : Nat) : Prop := BOK B ws ∧ tkP j (nI (ws.length - 1)) ∧ IA A ∧ (∀ w ∈ ws, WOK w) ∧ A.length + 1 ≤ 2600 ∧ xtA A + 16384 ≤ 98304 ∧ 3 * (clA A + 1024) ≤ 49000 ∧ eN A ≤ 8600 ∧ (rid j = 63 → ∀ n m, intF (gw ws 3) = some n → vhA A (gw ws 1) (gw ws 2) = some m → dec (m + n) ∈ B) ∧ PQ A (rid j) ws
/-- requests, one after another -/
def RCh (B : List (List Int32)) (now : Int64) : List AK → List Req → List AK → Prop
  | A, [], A' => A' = A
  | A, q :: r, A' => ∃ j, QC q j ∧ RJ B A q j ∧ RCh B now (efA A (rnR now A j q)) r A'
def rsF : List (Nat × Nat) := nxF ++ kcF
def rsO : List (Nat × Nat) := rdO ++ kcO
theorem rsO_in : ∀ p ∈ rsO, p ∈ OWs := by decide +kernel
/-- the world between logged requests -/
def RSI (B : List (List Int32)) (σ : kS) (b : Nat) (L : List Int32) (now : Int64) (u : kS) (nmm : List (List Int32)) (ks : List KC) : Prop := KG B u nmm ks ∧ RSD ks ∧ (kBY u b L ∧ u.1 b 3 = 0) ∧ u.2.2.1 0 10 = some b ∧ (¬ u.1 59 17 = 0) ∧ u.2.1 59 16 = now ∧ Ch true rsF rsO σ u
section KRELOOP
variable {Y : Nat → MethodName × ByteArray} {d : Nat} {σ u : kS} {B ws nmm nmm' : List (List Int32)} {ks ks' : List KC} {j : Nat}
theorem rnC_R {rp : Int32} (h : ¬ rp = 0) (now : Int64) : rnC rp now ks j ws = rnR now (skA ks) j ws := by
  unfold rnC rnR
  have e : decide (¬ rp = 0) = true := decide_eq_true h
  by_cases c : rid j = 19 ∧ sbC (gw ws 2) (gw ws 3) = none
  · rw [if_pos (Or.inr c), if_pos c]
  · rw [if_neg (fun z => z.elim (fun y => h y.1) c), if_neg (fun z => h z.2.1), if_neg c, e]
theorem RJ.jp (h : RJ B (skA ks) ws j) (hq : QC ws j) (hr : RSD ks) {rp : Int32} {now : Int64} (hn : now < NEV) : JP B rp now ws ks j := by
  obtain ⟨a1, a2, a3, a4, a5, a6, a7, a8, a9, a10⟩ := h
  obtain ⟨h1, ⟨w, h2, -⟩, h3, -⟩ := hq
  rw [show (skA ks).length = ks.length from List.length_map _] at a5
  exact ⟨hr, a1, ⟨by have := (List.getElem?_eq_some_iff.mp h2).1; omega, h3⟩, a2, a3, a4, a5, a6, a7, a8, a9, fun _ => a10, hn⟩
theorem rs_fl (ty : kTY σ) (h : LGo σ u) : u.2.2.1 0 10 = σ.2.2.1 0 10 ∧ u.1 59 17 = σ.1 59 17 ∧ u.2.1 59 16 = σ.2.1 59 16 := by
  have n : ¬ (59, 16) ∈ nxF := by decide
  exact ⟨h.2.2.1 0 10 (by decide), h.2.2.2.2 59 17 (by decide) (by decide) (by decide), (h.2.1.fld ty (h := 59) (x := 16) (c := 4) (by decide) rfl (by decide) n).2.1⟩
theorem kx_rs33 (tσ : kTY σ) (K : kK) {b : Nat} (hb : b ∈ [5, 7]) {now : Int64} (hn : now < NEV) {L E : List Int32} {e : Nat} (x1 x3 x4 : Int32) (e3 : x3 = nI e) {A' : List AK}
    (hK : ∀ u nm' ks' x5, kTY u → RSI B σ b L now u nm' ks' → skA ks' = A' → kjY kPP (kQQ Y) (d + 12) 13 62 [some (.ref 0), some (.int x1), some (.int (nI e)), some (.int x3), some (.int x4), some (.int x5)] [] u K) :
    ∀ (qs : List Req) (D : List Int32) (k : Nat) (x2 x5 : Int32) (nm' : List (List Int32)) (ks' : List KC) (u : kS), L = D ++ qs.flatMap encR ++ E → e = (D ++ qs.flatMap encR).length → x2 = nI D.length → x5 = nI k → k + qs.length < 1048576 → kTY u → RSI B σ b L now u nm' ks' → RCh B now (skA ks') qs A' →
    kjY kPP (kQQ Y) (d + 12) 13 33 [some (.ref 0), some (.int x1), some (.int x2), some (.int x3), some (.int x4), some (.int x5)] [] u K := by
  intro qs
  induction qs with
  | nil =>
    intro D k x2 x5 nm' ks' u hL he e2 e5 hk tu hu hc
    simp only [List.flatMap_nil, List.append_nil] at he
    have hLb : L.length ≤ 600000 := by obtain ⟨r, N, s1, s2, s3, s4, s5, s6, s7⟩ := hu.2.2.1.1; omega
    have hle : D.length ≤ L.length := by rw [hL, List.length_append, List.length_append]; omega
    refine kjZ_y rfl rfl 3 _ _ _ _ tu ?_
    refine And.intro (fun c => ?_) (fun c => ?_)
    · refine absurd (show nI 1048576 ≤ x5 from c) ?_
      rw [e5, nle (by decide) (by omega)]; omega
    refine kjZ_y rfl rfl 3 _ _ _ _ tu ?_
    refine And.intro (fun c2 => ?_) (fun c2 => ?_)
    rotate_left
    · refine absurd (show x3 ≤ x2 from ?_) c2
      rw [e3, e2, he]; exact Int32.le_refl _
    have e2' : x2 = nI e := by rw [e2, he]
    rw [e2']
    exact hK u nm' ks' x5 tu hu hc.symm
  | cons q qs ih =>
    intro D k x2 x5 nm' ks' u hL he e2 e5 hk tu hu hc
    obtain ⟨g, hr, ⟨hby, h3⟩, h10, h17, h16, ch⟩ := id hu
    obtain ⟨b1, b2, b3, b4, b5⟩ := J_ok b hb
    have hpr : ∀ b ∈ [5, 7], (b, 1) ∈ RQo := by decide
    have kb := ob_k tu b1
    obtain ⟨r, N, s1, s2, s3, s4, s5, s6, s7⟩ := id hby
    obtain ⟨j, hq, hj, hc⟩ := hc
    obtain ⟨hj105, ⟨w0, hw0, hw1⟩, h1024, hwl, htk⟩ := id hq
    have hfl : (q :: qs).flatMap encR = encR q ++ qs.flatMap encR := List.flatMap_cons
    have hel : (encR q).length = (dec (lN q.length) ++ [13, 10] ++ wordsL q).length + 1 := by rw [encR_hd]; rfl
    have hLe : L = D ++ encR q ++ (qs.flatMap encR ++ E) := by rw [hL, hfl]; simp only [List.append_assoc]
    have hee : D.length + (encR q).length ≤ e := by rw [he, hfl, List.length_append, List.length_append]; omega
    have heL : e ≤ L.length := by
      have t := congrArg List.length hL
      rw [List.length_append (bs := E), ← he] at t; omega
    simp only [List.length_cons] at hk
    refine kjZ_y rfl rfl 3 _ _ _ _ tu ?_
    refine And.intro (fun c => ?_) (fun c => ?_)
    · refine absurd (show nI 1048576 ≤ x5 from c) ?_
      rw [e5, nle (by decide) (by omega)]; omega
    refine kjZ_y rfl rfl 3 _ _ _ _ tu ?_
    refine And.intro (fun c2 => ?_) (fun c2 => ?_)
    · refine absurd (show x3 ≤ x2 from c2) ?_
      rw [e3, e2, nle (by omega) (by omega)]; omega
    have hAT0 : AT (u.1 r) D.length L.length (encR q) := by
      have s7' := s7
      rw [hLe] at s7'
      have := AT_mid s7' rfl
      rw [← hLe] at this; exact this
    have hAT : AT (u.1 r) D.length e (encR q) := fun i y hi hlt => hAT0 i y hi (by omega)
    refine kjZ_y rfl rfl 8 _ _ _ _ tu ?_
    refine (And.intro (tu.k (by decide) rfl) (And.intro (tu.k (by decide) rfl) (Exists.intro _ (And.intro h10 (And.intro (by assumption) (Exists.intro _ (And.intro s1 (And.intro (Nat.le_of_ble_eq_true rfl) (And.intro (Or.inl ⟨(Nat.le_of_ble_eq_true rfl), (tu.k (by decide) rfl)⟩) (And.intro (Nat.le_of_ble_eq_true rfl) (And.intro (Nat.le_of_ble_eq_true rfl) (kjY_mono tu (fun q_ u2 ty2 xu2 h_ => ?_) (k_read (d := d + 8) tu s2 s3.2 (show e ≤ N by omega) (p := D.length) (by omega) _ _ e2 e3)))))))))))))
    have q2 := h_
    intro _ _
    obtain ⟨⟨z, ez, rx⟩, rfl, a4, a5, aw⟩ := rdQ_E h1024 hwl hAT hee q2
    obtain ⟨g2, l2, f3⟩ := g.rd_lo tu ez rx
    have rq2 := RQ_of tu g.1.1 (hpr b hb) s1 s2 s3.2 (show e ≤ N by omega) f3 l2.2.2.2.1 l2.2.2.1 l2.2.2.2.2 a4 h1024 aw
    have k3 := ob_k ty2 (b := 3) (by decide)
    refine kjZ_y rfl rfl 6 _ _ _ _ ty2 ?_
    refine (And.intro (ty2.k (by decide) rfl) (And.intro (ty2.k (by decide) rfl) (And.intro (Nat.le_of_ble_eq_true rfl) (And.intro (Or.inl ⟨(Nat.le_of_ble_eq_true rfl), (ty2.k (by decide) rfl)⟩) (And.intro (Nat.le_of_ble_eq_true rfl) (And.intro (Nat.le_of_ble_eq_true rfl) (kjY_mono ty2 (fun q_ u3 ty3 xu3 h_ => ?_) (k_begin (d := d + 4) ty2 rq2 k3))))))))
    obtain ⟨rfl, o, eu3, ho⟩ := h_
    intro _ _
    obtain ⟨ko3, -, -, eI3, ⟨g6, g8⟩, eF3⟩ := g2.bg ty2 rq2 (b := 3) (by decide) eu3
    have l3 := l2.tr tu (bg_lo ty2 g2 eu3)
    have eo := cmO_j hq ho
    rw [eo] at g8
    have i5 : u3.1 53 5 = nI (D.length + (encR q).length) := by rw [eI3]; exact a5
    obtain ⟨m10, m17, m16⟩ := rs_fl tu l3
    have h17' : ¬ u3.1 59 17 = 0 := by rw [m17]; exact h17
    have h16' : u3.2.1 59 16 = now := m16.trans h16
    refine kjZ_y rfl rfl 4 _ _ _ _ ty3 ?_
    refine (And.intro (ty3.k (by decide) rfl) (And.intro (ty3.k (by decide) rfl) (And.intro (Nat.le_of_ble_eq_true rfl) ?_)))
    show kjY kPP (kQQ Y) (d + 12) 13 57 [some (.ref 0), some (.int x1), some (.int (u3.1 53 5)), some (.int x3), some (.int x4), some (.int x5)] [] u3 K
    rw [i5]
    refine kjZ_y rfl rfl 3 _ _ _ _ ty3 ?_
    refine (And.intro (Nat.le_of_ble_eq_true rfl) (And.intro (Or.inl ⟨(Nat.le_of_ble_eq_true rfl), (ty3.k (by decide) rfl)⟩) (And.intro (Nat.le_of_ble_eq_true rfl) (And.intro (Nat.le_of_ble_eq_true rfl) (kjY_mono ty3 (fun q_ u4 ty4 xu4 h_ => ?_) (kx_performR (d := d) (j := j) ty3 ko3 ⟨g8, hj105⟩ (RJ.jp hj hq hr (by rw [h16']; exact hn)) h17'))))))
    obtain ⟨rfl, nm4, ks4, p4, ko4, r4, eA4, c4⟩ := h_
    intro _ _
    rw [rnC_R h17', h16'] at eA4
    refine kjZ_y rfl rfl 2 _ _ _ _ ty4 ?_
    obtain ⟨o1, o2, o3, o4⟩ := PF_ok b hb
    have c4o : Ch true OFf OFo u3 u4 := c4.up (fun z => z) OFf_k OFo_k
    obtain ⟨f0, f17, f16⟩ := OF_fl ty3 c4o
    have hb4 : kBY u4 b L := ((l3.1 b b1 L hby).1).fr ty3 ko3.1.1.1 b1 c4o (fun p hp => (o1 p hp).1) o2
    have k21 : ¬ (b, 3) ∈ OFf := fun z => (o1 _ z).1 rfl
    have hi4 : u4.1 b 3 = 0 := by
      have : u4.1 b 3 = u3.1 b 3 := by
        rcases List.mem_cons.mp hb with rfl | hb'
        · exact (c4o.fld ty3 (h := 5) (x := 3) (c := 0) (by decide) rfl (by decide) k21).1
        · obtain rfl := List.mem_singleton.mp hb'
          exact (c4o.fld ty3 (h := 7) (x := 3) (c := 0) (by decide) rfl (by decide) k21).1
      rw [this, (l3.1 b b1 L hby).2]; exact h3
    have ch4 : Ch true rsF rsO σ u4 := Ch.tr tσ rsO_in (Ch.tr tσ rsO_in ch (l3.2.1.up (fun z => z) (fun p hp => List.mem_append_left _ hp) (fun p hp => List.mem_append_left _ hp))) (c4.up (fun z => z) (fun p hp => List.mem_append_right _ hp) (fun p hp => List.mem_append_right _ hp))
    refine ih (D ++ encR q) (k + 1) _ _ nm4 ks4 u4 (by rw [hL, hfl]; simp only [List.append_assoc]) (by rw [he, hfl]; simp only [List.append_assoc]) (by rw [List.length_append]) (by rw [e5]; exact nI_1 k) (by omega) ty4 ⟨ko4.1, r4, ⟨hb4, hi4⟩, by rw [(f0 10).2, m10]; exact h10, by rw [f17]; exact h17', f16.trans h16', ch4⟩ ?_
    rw [eA4]; exact hc
end KRELOOP
