/-! The log is run again: block after block. -/
/-- the requests of a block, with what stands around them -/
def bqs (bl : Bool) (ns : List Req) : List Req := if bl = true then [nm 99] :: ns ++ [[nm 100]] else ns
theorem encs_fm : ∀ ns : List Req, encs ns = ns.flatMap encR
  | [] => rfl
  | q :: r => by
    rw [List.flatMap_cons, ← encs_fm r]; rfl
theorem bqs_b {bl : Bool} {ns : List Req} (h : ns ≠ []) : blkB bl ns = (bqs bl ns).flatMap encR := by
  unfold blkB bqs
  rw [if_neg h]
  cases bl with
  | true =>
    rw [if_pos rfl, if_pos rfl]
    show pendB true ns ++ encR [nm 100] = _
    unfold pendB
    simp [h, encs_fm]
  | false =>
    rw [if_neg (by decide), if_neg (by decide)]
    unfold pendB
    simp [h, encs_fm]
/-- a block as the log has it -/
def BKO (bl : Bool) (ns : List Req) : Prop := ns ≠ [] ∧ (bl = false → ns.length ≤ 1) ∧ ns.length < 900000 ∧ ∀ q ∈ ns, LQ q
def RBs (B : List (List Int32)) (now : Int64) : List AK → List (Bool × List Req) → List AK → Prop
  | A, [], A' => A' = A
  | A, k :: r, A' => BKO k.1 k.2 ∧ ∃ A1, RCh B now A (bqs k.1 k.2) A1 ∧ RBs B now A1 r A'
/-- what is torn off -/
def TORN (T : List Int32) : Prop := T = [] ∨ ∃ bl ns, BKO bl ns ∧ T.length < (blkB bl ns).length ∧ ∃ R, blkB bl ns = T ++ R
def bkB (k : Bool × List Req) : List Int32 := blkB k.1 k.2
/-- where the block at a place ends -/
def recR (p : Nat) : List (Bool × List Req) → Int32
  | [] => -1
  | k :: _ => nI (p + (bkB k).length)
section KREBLOCKS
variable {Y : Nat → MethodName × ByteArray} {d : Nat} {σ u : kS} {B ws nmm nmm' : List (List Int32)} {ks ks' : List KC} {j : Nat}
theorem RSI.lg {v : kS} {b : Nat} (tσ : kTY σ) (hb : b ∈ [5, 7]) {L : List Int32} {now : Int64} (tu : kTY u) (h : RSI B σ b L now u nmm ks) (l : LGo u v) (g : KG B v nmm ks) : RSI B σ b L now v nmm ks := by
  obtain ⟨-, h2, ⟨h3, h4⟩, h5, h6, h7, h8⟩ := h
  obtain ⟨b1, b2, b3, b4, b5⟩ := J_ok b hb
  obtain ⟨m10, m17, m16⟩ := rs_fl tu l
  exact ⟨g, h2, ⟨(l.1 b b1 L h3).1, (l.1 b b1 L h3).2.trans h4⟩, m10.trans h5, by rw [m17]; exact h6, m16.trans h7, Ch.tr tσ rsO_in h8 (l.2.1.up (fun z => z) (fun p hp => List.mem_append_left _ hp) (fun p hp => List.mem_append_left _ hp))⟩
theorem AT_tl {f : Nat → Int32} {D T R l : List Int32} (h : wd f 0 (D ++ T).length = D ++ T) (e : l = T ++ R) : AT f D.length (D ++ T).length l := by
  intro i x hx hi
  rw [List.length_append] at hi
  have hi2 : i < T.length := by omega
  have e1 : (D ++ T)[D.length + i]? = some x := by
    rw [List.getElem?_append_right (by omega), show D.length + i - D.length = i by omega]
    rw [e, List.getElem?_append_left hi2] at hx; exact hx
  rw [← h] at e1
  rw [wd_get (by rw [List.length_append]; omega)] at e1
  have := Option.some.inj e1
  rw [Nat.zero_add] at this; exact this
theorem kx_recAt (ty : kTY σ) (g : KG B σ nmm ks) {b : Nat} (hb : b ∈ [5, 7]) (h10 : σ.2.2.1 0 10 = some b) {L D T : List Int32} (hby : kBY σ b L) {bs : List (Bool × List Req)} (hbs : ∀ k ∈ bs, BKO k.1 k.2) (hT : TORN T) (hL : L = D ++ bs.flatMap bkB ++ T) (x : Int32) (ex : x = nI D.length) : kjY kPP (kQQ Y) (d + 9) 32 0 (mjL0 5 [.ref 0, .int x]) [] σ (fun r u => LGo σ u ∧ KG B u nmm ks ∧ r = some (.int (recR D.length bs))) := by
  obtain ⟨r, N, s1, s2, s3, s4, s5, s6, s7⟩ := id hby
  have hR : BR σ b r N L := ⟨s1, s2, s3, s4, s5, s6, s7⟩
  cases bs with
  | nil =>
    simp only [List.flatMap_nil, List.append_nil] at hL
    rcases hT with rfl | ⟨bl, ns, hk, hlt, R, eR⟩
    · rw [List.append_nil] at hL
      refine kjY_mono ty (fun v z _ _ q => ?_) (kx_record0 (d := d) ty g hb h10 hby x (by rw [ex, hL]))
      obtain ⟨rfl, q⟩ := q
      exact ⟨LGo.rf, g, q⟩
    · have hAT : AT (σ.1 r) D.length L.length (blkB bl ns) := by
        rw [hL] at s7 ⊢; exact AT_tl s7 eR
      refine kjY_mono ty (fun v z _ _ q => ?_) (kx_record (d := d) ty g hb h10 hR (p := D.length) (by rw [hL, List.length_append]; omega) hk.1 hk.2.1 hk.2.2.1 hk.2.2.2 hAT x ex)
      obtain ⟨q1, q2, q3⟩ := q
      rcases q3 with ⟨q3, -⟩ | ⟨-, q4⟩
      · rw [hL, List.length_append] at q3; omega
      · exact ⟨q1, q2, q4⟩
  | cons k r' =>
    have hk := hbs k (List.mem_cons_self ..)
    have hLe : L = D ++ blkB k.1 k.2 ++ (r'.flatMap bkB ++ T) := by rw [hL, List.flatMap_cons]; simp only [List.append_assoc]; rfl
    have hAT : AT (σ.1 r) D.length L.length (blkB k.1 k.2) := by
      have s7' := s7
      rw [hLe] at s7'
      have := AT_mid s7' rfl
      rw [← hLe] at this; exact this
    have hle : D.length + (blkB k.1 k.2).length ≤ L.length := by rw [hLe, List.length_append, List.length_append]; omega
    refine kjY_mono ty (fun v z _ _ q => ?_) (kx_record (d := d) ty g hb h10 hR (p := D.length) (by omega) hk.1 hk.2.1 hk.2.2.1 hk.2.2.2 hAT x ex)
    obtain ⟨q1, q2, q3⟩ := q
    rcases q3 with ⟨-, q4⟩ | ⟨q3, -⟩
    · exact ⟨q1, q2, q4⟩
    · omega
theorem RBs_k {now : Int64} : ∀ {bs : List (Bool × List Req)} {A A' : List AK}, RBs B now A bs A' → ∀ k ∈ bs, BKO k.1 k.2
  | [], _, _, _, k, hk => by cases hk
  | x :: r, A, A', h, k, hk => by
    obtain ⟨h1, A1, -, h2⟩ := h
    rcases List.mem_cons.mp hk with e | e
    · rw [e]; exact h1
    · exact RBs_k h2 k e
theorem enc_pos (q : Req) : 1 ≤ (encR q).length := by rw [encR_hd]; show 1 ≤ (_ :: _ : List Int32).length; simp only [List.length_cons]; omega
theorem fl_len : ∀ qs : List Req, qs.length ≤ (qs.flatMap encR).length
  | [] => Nat.le_refl _
  | q :: r => by
    have := fl_len r
    have := enc_pos q
    rw [List.flatMap_cons, List.length_append, List.length_cons]; omega
theorem kx_rs25 (tσ : kTY σ) (K : kK) {b : Nat} (hb : b ∈ [5, 7]) {now : Int64} (hn : now < NEV) {L T : List Int32} (hT : TORN T) {A' : List AK}
    (hK : ∀ u nm' ks' x1 x3 x4 o5 P, kTY u → RSI B σ b L now u nm' ks' → skA ks' = A' → L = P ++ T → kjY kPP (kQQ Y) (d + 12) 13 69 [some (.ref 0), some (.int x1), some (.int (nI P.length)), some (.int x3), some (.int x4), o5] [] u K) :
    ∀ (bs : List (Bool × List Req)) (D : List Int32) (k : Nat) (x1 x2 x3 x4 : Int32) (o5 : Option Value) (nm' : List (List Int32)) (ks' : List KC) (u : kS), L = D ++ bs.flatMap bkB ++ T → x2 = nI D.length → x3 = recR D.length bs → x4 = nI k → k ≤ D.length → kTY u → RSI B σ b L now u nm' ks' → RBs B now (skA ks') bs A' →
    kjY kPP (kQQ Y) (d + 12) 13 25 [some (.ref 0), some (.int x1), some (.int x2), some (.int x3), some (.int x4), o5] [] u K := by
  intro bs
  induction bs with
  | nil =>
    intro D k x1 x2 x3 x4 o5 nm' ks' u hL e2 e3 e4 hk tu hu hc
    simp only [List.flatMap_nil, List.append_nil] at hL
    have hLb : L.length ≤ 600000 := by obtain ⟨r, N, s1, s2, s3, s4, s5, s6, s7⟩ := hu.2.2.1.1; omega
    have hle : D.length ≤ L.length := by rw [hL, List.length_append]; omega
    refine kjZ_y rfl rfl 3 _ _ _ _ tu ?_
    refine And.intro (fun c => ?_) (fun c => ?_)
    · refine absurd (show nI 1048576 ≤ x4 from c) ?_
      rw [e4, nle (by decide) (by omega)]; omega
    refine kjZ_y rfl rfl 3 _ _ _ _ tu ?_
    refine And.intro (fun c2 => ?_) (fun c2 => ?_)
    rotate_left
    · exact absurd (show x3 = Int32.ofInt (-1) by rw [e3]; rfl) c2
    rw [e2]
    exact hK u nm' ks' x1 x3 x4 o5 D tu hu hc.symm hL
  | cons q bs ih =>
    intro D k x1 x2 x3 x4 o5 nm' ks' u hL e2 e3 e4 hk tu hu hc
    obtain ⟨hq, A1, hc1, hc2⟩ := hc
    have hLb : L.length ≤ 600000 := by obtain ⟨r, N, s1, s2, s3, s4, s5, s6, s7⟩ := hu.2.2.1.1; omega
    have hfl : (q :: bs).flatMap bkB = bkB q ++ bs.flatMap bkB := List.flatMap_cons
    have hbk : bkB q = (bqs q.1 q.2).flatMap encR := bqs_b hq.1
    have hLe : L = D ++ bkB q ++ (bs.flatMap bkB ++ T) := by rw [hL, hfl]; simp only [List.append_assoc]
    have hle : D.length + (bkB q).length ≤ L.length := by rw [hLe, List.length_append, List.length_append]; omega
    have hnl := fl_len (bqs q.1 q.2)
    rw [← hbk] at hnl
    have hpos : 1 ≤ (bqs q.1 q.2).length := by
      unfold bqs
      cases q.1 with
      | true => rw [if_pos rfl]; simp
      | false =>
        rw [if_neg (by decide)]
        have := hq.1
        cases h : q.2 with
        | nil => exact absurd h this
        | cons a r => simp
    refine kjZ_y rfl rfl 3 _ _ _ _ tu ?_
    refine And.intro (fun c => ?_) (fun c => ?_)
    · refine absurd (show nI 1048576 ≤ x4 from c) ?_
      rw [e4, nle (by decide) (by omega)]; omega
    refine kjZ_y rfl rfl 3 _ _ _ _ tu ?_
    refine And.intro (fun c2 => ?_) (fun c2 => ?_)
    · refine absurd (show x3 = Int32.ofInt (-1) from c2) ?_
      rw [e3]
      exact fun z => by
        have h0 : (0 : Int32) ≤ nI (D.length + (bkB q).length) := by rw [show (0 : Int32) = nI 0 from rfl, nle (by decide) (by omega)]; omega
        have z : nI (D.length + (bkB q).length) = Int32.ofInt (-1) := z
        rw [z] at h0; exact absurd h0 (by decide)
    refine kjZ_y rfl rfl 2 _ _ _ _ tu ?_
    refine (And.intro (Nat.le_of_ble_eq_true rfl) ?_)
    refine kx_rs33 (d := d) tσ K hb hn (L := L) (E := bs.flatMap bkB ++ T) (e := D.length + (bkB q).length) x1 x3 x4 e3 (A' := A1) ?_ (bqs q.1 q.2) D 0 x2 _ nm' ks' u (by rw [← hbk]; exact hLe) (by rw [← hbk, List.length_append]) e2 rfl (by omega) tu hu hc1
    intro u2 nm2 ks2 x5 t2 h2 eA
    have el : D.length + (bkB q).length = (D ++ bkB q).length := by rw [List.length_append]
    have hLe' : L = D ++ bkB q ++ bs.flatMap bkB ++ T := by rw [hLe]; simp only [List.append_assoc]
    refine kjZ_y rfl rfl 1 _ _ _ _ t2 ?_
    refine kjZ_y rfl rfl 3 _ _ _ _ t2 ?_
    refine (And.intro (Nat.le_of_ble_eq_true rfl) (And.intro (Or.inl ⟨(Nat.le_of_ble_eq_true rfl), (t2.k (by decide) rfl)⟩) (And.intro (Nat.le_of_ble_eq_true rfl) (And.intro (Nat.le_of_ble_eq_true rfl) (kjY_mono t2 (fun q_ u3 t3 xx3 h_ => ?_) (kx_recAt (d := d + 2) t2 h2.1 hb h2.2.2.2.1 h2.2.2.1.1 (RBs_k hc2) hT hLe' _ (by rw [el])))))))
    obtain ⟨l3, g3, rfl⟩ := h_
    intro _ _
    refine kjZ_y rfl rfl 3 _ _ _ _ t3 ?_
    refine (And.intro (Nat.le_of_ble_eq_true rfl) ?_)
    exact ih (D ++ bkB q) (k + 1) _ _ _ _ _ nm2 ks2 u3 hLe' (by rw [el]) rfl (by rw [e4]; exact nI_1 k) (by rw [List.length_append]; omega) t3 (h2.lg tσ hb t2 l3 g3) (by rw [eA]; exact hc2)
end KREBLOCKS
