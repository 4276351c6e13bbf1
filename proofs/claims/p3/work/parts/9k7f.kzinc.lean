/-! ZADD INCR, ZINCRBY. -/
def inO (nx xx gt lt : Int32) (A : List AK) (w v : List Int32) (n : Int64) : Option (List AK) := match zIx A (kyI A w) v with
  | none => if xx = 0 then some (zNew A w (kyI A w) none n v).1 else none
  | some q => if nx = 0 ∧ ovI q.2 n = 0 ∧ (gt = 0 ∨ q.2 < q.2 + n) ∧ (lt = 0 ∨ q.2 + n < q.2) ∧ ¬ n = 0 then some (zNew A w (kyI A w) (some q) (q.2 + n) v).1 else none
theorem i64_ae (a n : Int64) : a = a + n ↔ n = 0 := by
  refine ⟨fun h => ?_, fun h => by rw [h, Int64.add_zero]⟩
  have e : a + n - a = n := by rw [Int64.add_comm, Int64.sub_eq_add_neg, Int64.add_assoc, ← Int64.sub_eq_add_neg, Int64.sub_self, Int64.add_zero]
  rw [← h, Int64.sub_self] at e; exact e.symm
theorem zi_in (A : List AK) (w v : List Int32) (n : Int64) : ziF A w v n = inO 0 0 0 0 A w v n := by
  unfold ziF inO
  cases zIx A (kyI A w) v with
  | none => exact (if_pos rfl).symm
  | some q =>
    show (if ovI q.2 n = 0 ∧ ¬ n = 0 then some _ else none) = if _ then some _ else none
    by_cases c : ovI q.2 n = 0 ∧ ¬ n = 0
    · rw [if_pos c, if_pos ⟨rfl, c.1, Or.inl rfl, Or.inl rfl, c.2⟩]
    · rw [if_neg c, if_neg (fun z => c ⟨z.2.1, z.2.2.2.2⟩)]
theorem zd_in {nx xx gt lt inc : Int32} (hinc : ¬ inc = 0) {A : List AK} {w s v : List Int32} {n : Int64} (hs : intF s = some n) : zdF nx xx gt lt inc A w [s, v] = inO nx xx gt lt A w v n := by
  unfold zdF inO
  have eB : zaB nx inc A (kyI A w) [s, v] = zAb nx inc (zIx A (kyI A w) v) n := by rw [zaB, hs]
  have eN : zaN nx xx gt lt inc w A (kyI A w) [s, v] = if zGo nx xx gt lt (zIx A (kyI A w) v) (zSc nx inc (zIx A (kyI A w) v) n) = true then 1 else 0 := by rw [zaN, hs]; rfl
  have eA : zGo nx xx gt lt (zIx A (kyI A w) v) (zSc nx inc (zIx A (kyI A w) v) n) = true → zaA nx xx gt lt inc w A (kyI A w) [s, v] = (zNew A w (kyI A w) (zIx A (kyI A w) v) (zSc nx inc (zIx A (kyI A w) v) n) v).1 := by
    intro h
    rw [zaA, hs]
    show (if _ then zaA nx xx gt lt inc w _ _ [] else _) = _
    rw [if_pos h]; rfl
  rw [eB, eN]
  cases hz : zIx A (kyI A w) v with
  | none =>
    rw [hz] at eA
    rw [if_neg (show ¬ zAb nx inc none n = true from Bool.false_ne_true)]
    have hg : zGo nx xx gt lt none (zSc nx inc none n) = true ↔ xx = 0 := (show decide (xx = 0) = true ↔ xx = 0 from decide_eq_true_iff)
    by_cases c : xx = 0
    · have hg2 := hg.mpr c
      rw [if_pos hg2, if_neg (by decide), eA hg2]
      exact (if_pos c).symm
    · rw [if_neg (fun z => c (hg.mp z)), if_pos rfl]
      exact (if_neg c).symm
  | some q =>
    rw [hz] at eA
    show (if decide ((¬ inc = 0) ∧ nx = 0 ∧ ¬ ovI q.2 n = 0) = true then none else if (if zGo nx xx gt lt (some q) (zSc nx inc (some q) n) = true then 1 else 0) = 0 then none else _) = if nx = 0 ∧ ovI q.2 n = 0 ∧ (gt = 0 ∨ q.2 < q.2 + n) ∧ (lt = 0 ∨ q.2 + n < q.2) ∧ ¬ n = 0 then _ else none
    by_cases c0 : nx = 0
    · have eS : zSc nx inc (some q) n = q.2 + n := if_pos ⟨hinc, c0⟩
      rw [eS]
      rw [eS] at eA
      by_cases c1 : ovI q.2 n = 0
      · rw [if_neg (fun z => (of_decide_eq_true z).2.2 c1)]
        have hg : zGo nx xx gt lt (some q) (q.2 + n) = true ↔ ((nx = 0 ∧ (gt = 0 ∨ q.2 < q.2 + n) ∧ (lt = 0 ∨ q.2 + n < q.2)) ∧ ¬ q.2 = q.2 + n) := by
          show (decide (nx = 0 ∧ (gt = 0 ∨ q.2 < q.2 + n) ∧ (lt = 0 ∨ q.2 + n < q.2)) && decide (¬ q.2 = q.2 + n)) = true ↔ _
          rw [Bool.and_eq_true, decide_eq_true_iff, decide_eq_true_iff]
        rw [i64_ae] at hg
        by_cases c2 : zGo nx xx gt lt (some q) (q.2 + n) = true
        · have c3 := hg.mp c2
          rw [if_pos c2, if_neg (by decide), if_pos ⟨c0, c1, c3.1.2.1, c3.1.2.2, c3.2⟩, eA c2]
        · rw [if_neg c2, if_pos rfl, if_neg (fun z => c2 (hg.mpr ⟨⟨z.1, z.2.2.1, z.2.2.2.1⟩, z.2.2.2.2⟩))]
      · rw [if_pos (decide_eq_true ⟨hinc, c0, c1⟩), if_neg (fun z => c1 z.2.1)]
    · rw [if_neg (fun z => c0 (of_decide_eq_true z).2.1)]
      have hg : ¬ zGo nx xx gt lt (some q) (zSc nx inc (some q) n) = true := by
        intro z
        have z : (zMay nx xx gt lt (some q) (zSc nx inc (some q) n) && decide (¬ q.2 = zSc nx inc (some q) n)) = true := z
        rw [Bool.and_eq_true] at z
        exact zMay_no c0 z.1
      rw [if_neg hg, if_pos rfl, if_neg (fun z => c0 z.1)]
theorem ovW_0 (n : Int64) : ¬ ovW false 0 n < 0 := by
  unfold ovW
  rw [if_neg Bool.false_ne_true, Int64.zero_add, Int64.xor_self, Int64.and_zero]
  decide
section KZINC
variable {Y : Nat → MethodName × ByteArray} {d : Nat} {σ0 σ u : kS} {B ws nm nm' : List (List Int32)} {ks : List KC}
/-- the answer -/
theorem k_zi102 {o : Option (List AK)} (z : kS) (nm' : List (List Int32)) (ks' : List KC) (o2 : Value) (x1 x3 x4 : Int32) (n5 n7 : Int64) (l9 : Option Value) (tz : kTY z) (wz : KWd σ0 B z ws nm' ks') (hz : ∀ z2, KWd σ0 B z2 ws nm' ks' → SCl scA z z2 → cdP σ0 B σ ws nm ks o none z2) : kjY kPP (kQQ Y) (d + 7) 241 102 [some (.ref 75), some (.int x1), some o2, some (.int x3), some (.int x4), some (.long n5), none, some (.long n7), none, l9] [] z (cdP σ0 B σ ws nm ks o) := by
  obtain ⟨b, hb, eb⟩ := wz.2.2.2.2.2.2.1
  have kb := ob_k tz (ANn_b b (ANb_n b hb)).1
  refine kjZ_y rfl rfl 7 _ _ _ _ tz ?_
  refine (And.intro (tz.k (by decide) rfl) (And.intro (tz.k (by decide) rfl) (Exists.intro _ (And.intro eb (And.intro (tz.k (by decide) rfl) (And.intro (tz.k (by decide) rfl) (And.intro (Nat.le_of_ble_eq_true rfl) (And.intro (Or.inl ⟨(Nat.le_of_ble_eq_true rfl), (by assumption)⟩) (And.intro (Nat.le_of_ble_eq_true rfl) (And.intro (Nat.le_of_ble_eq_true rfl) (kjY_mono tz (fun q_ u5 ty5 xu5 h_ => ?_) (kx_numberWord tz wz hb _))))))))))))
  obtain ⟨rfl, w5, s5⟩ := h_
  intro _ _
  refine kjZ_y rfl rfl 1 _ _ _ _ ty5 ?_
  refine And.intro rfl (And.intro rfl ?_)
  exact hz u5 w5 s5
theorem kx_incr0 (ty : kTY σ) (w : KWd σ0 B σ ws nm ks) (hr : RSD ks) {k k3 : Nat} {v v3 : List Int32} (hk : nm[k]? = some v) (hk3 : nm[k3]? = some v3) (q3 : kyI (skA ks) v = none) (a b c d1 e g : Bool) (h75 : σ.1 75 3 = enF a b c d1 e g) {n : Int64} (h9 : σ.2.1 53 9 = n) (hk1 : ks.length + 1 ≤ 2600) (hcl : 3 * (clA (skA ks) + 4) ≤ 49000) (x1 x3 : Int32) (e1 : x1 = nI k) (e3 : x3 = nI k3) :
    kjY kPP (kQQ Y) (d + 7) 241 0 (mjL0 10 [.ref 75, .int x1, .null, .int x3]) [] σ (cdP σ0 B σ ws nm ks (inO (bI a) (bI b) (bI c) (bI d1) (skA ks) v v3 n)) := by
  have hO : inO (bI a) (bI b) (bI c) (bI d1) (skA ks) v v3 n = if bI b = 0 then some (zNew (skA ks) v none none n v3).1 else none := by
    unfold inO; rw [q3]; rfl
  refine kjZ_y rfl rfl 5 _ _ _ _ ty ?_
  refine (And.intro (ty.k (by decide) rfl) (And.intro (Nat.le_of_ble_eq_true rfl) (And.intro (Or.inl ⟨(Nat.le_of_ble_eq_true rfl), (ty.k (by decide) rfl)⟩) (And.intro (Nat.le_of_ble_eq_true rfl) (And.intro (Nat.le_of_ble_eq_true rfl) (kjY_mono ty (fun q_ u1 ty1 xu1 h_ => ?_) (kx_placeOf0 ty _)))))))
  obtain ⟨rfl, rfl⟩ := h_
  intro _ _
  rw [← h9] at hO ⊢
  refine kjZ_y rfl rfl 5 _ _ _ _ ty1 ?_
  refine (And.intro (Nat.le_of_ble_eq_true rfl) (And.intro (ty1.k (by decide) rfl) (And.intro (ty1.k (by decide) rfl) (And.intro (Nat.le_of_ble_eq_true rfl) ?_))))
  obtain ⟨n5, hn5⟩ : ∃ n5, n5 = u1.2.1 53 9 := ⟨_, rfl⟩
  rw [← hn5] at hO ⊢
  rw [show u1.2.1 (kT 257).snd.fst (105 % 32) = n5 from hn5.symm]
  refine kjZ_y rfl rfl 3 _ _ _ _ ty1 ?_
  refine And.intro (fun c1 => ?_) (fun c1 => ?_)
  · exact absurd (show (0 : Int32) ≤ -1 from c1) (by decide)
  refine kjZ_y rfl rfl 3 _ _ _ _ ty1 ?_
  refine (And.intro (Nat.le_of_ble_eq_true rfl) (And.intro (Or.inl ⟨(Nat.le_of_ble_eq_true rfl), (ty1.k (by decide) rfl)⟩) (And.intro (Nat.le_of_ble_eq_true rfl) (And.intro (Nat.le_of_ble_eq_true rfl) (kjY_mono ty1 (fun q_ u2 ty2 xu2 h_ => ?_) (kx_told ty1 _))))))
  obtain ⟨rfl, q⟩ := h_
  intro _ _
  rcases q with ⟨rfl, q⟩ | ⟨rfl, q⟩
  · have q : ¬ u2.1 75 3 &&& 2 = 0 := q
    rw [h75, enF_2] at q
    obtain ⟨bb, hb, eb⟩ := w.2.2.2.2.2.2.1
    have kb := ob_k ty2 (ANn_b bb (ANb_n bb hb)).1
    refine kjZ_y rfl rfl 1 _ _ _ _ ty2 ?_
    refine And.intro (fun c2 => ?_) (fun c2 => ?_)
    · exact absurd (show (1 : Int32) = 0 from c2) (by decide)
    refine kjZ_y rfl rfl 4 _ _ _ _ ty2 ?_
    refine (And.intro (ty2.k (by decide) rfl) (And.intro (ty2.k (by decide) rfl) (Exists.intro _ (And.intro eb (And.intro (Nat.le_of_ble_eq_true rfl) (And.intro (Or.inl ⟨(Nat.le_of_ble_eq_true rfl), (by assumption)⟩) (And.intro (Nat.le_of_ble_eq_true rfl) (And.intro (Nat.le_of_ble_eq_true rfl) (kjY_mono ty2 (fun q_ u3 ty3 xu3 h_ => ?_) (kx_nil ty2 w hb))))))))))
    obtain ⟨rfl, w3, s3⟩ := h_
    intro _ _
    refine kjZ_y rfl rfl 1 _ _ _ _ ty3 ?_
    refine And.intro rfl (And.intro rfl ?_)
    exact cd_no PRE.rf w3 hr s3.h (by rw [hO, if_neg (fun z => q (bI_0.mp z))])
  have q : u2.1 75 3 &&& 2 = 0 := q
  rw [h75, enF_2] at q
  rw [if_pos (by rw [q]; rfl)] at hO
  refine kjZ_y rfl rfl 1 _ _ _ _ ty2 ?_
  refine And.intro (fun c2 => ?_) (fun c2 => ?_)
  rotate_left
  · exact absurd rfl c2
  refine kjZ_y rfl rfl 9 _ _ _ _ ty2 ?_
  refine (And.intro (Nat.le_of_ble_eq_true rfl) (And.intro (ty2.k (by decide) rfl) (And.intro (ty2.k (by decide) rfl) (And.intro rfl (fun ty2' => ?_)))))
  have go : ∀ z, kTY z → z = (u2.1, mjLu u2.2.1 53 9 (Int64.ofNat 0), u2.2.2) → kjY kPP (kQQ Y) (d + 7) 241 37 [some (.ref 75), some (.int x1), some .null, some (.int x3), some (.int (-1)), some (.long n5), none, some (.long (Int64.ofNat 0)), none, none] [] z (cdP σ0 B u2 ws nm ks (inO (bI a) (bI b) (bI c) (bI d1) (skA ks) v v3 n5)) := by
    intro z tz ez
    have wz : KWd σ0 B z ws nm ks := by rw [ez]; exact w.pl ty2 (by decide)
    have sz : SCl scB u2 z := by rw [ez]; exact SCl.l (by decide +kernel)
    have z9 : z.2.1 53 9 = 0 := by rw [ez]; exact (show mjLu u2.2.1 53 9 (Int64.ofNat 0) 53 9 = 0 from mjLu_p)
    refine kjZ_y rfl rfl 5 _ _ _ _ tz ?_
    refine (And.intro (tz.k (by decide) rfl) (And.intro (Nat.le_of_ble_eq_true rfl) (And.intro (Or.inl ⟨(Nat.le_of_ble_eq_true rfl), (tz.k (by decide) rfl)⟩) (And.intro (Nat.le_of_ble_eq_true rfl) (And.intro (Nat.le_of_ble_eq_true rfl) (kjY_mono tz (fun q_ u5 ty5 xu5 h_ => ?_) (kx_overflows tz wz _ false _ rfl)))))))
    obtain ⟨w5, s5, q5⟩ := h_
    intro _ _
    rw [z9] at q5
    rcases q5 with ⟨q5, rfl⟩ | ⟨q5, rfl, e5⟩
    · exact absurd q5 (ovW_0 _)
    have e5 : u5.2.1 53 9 = n5 := by rw [e5]; show 0 + n5 = n5; exact Int64.zero_add n5
    refine kjZ_y rfl rfl 1 _ _ _ _ ty5 ?_
    refine And.intro (fun c3 => ?_) (fun c3 => ?_)
    rotate_left
    · exact absurd rfl c3
    refine kjZ_y rfl rfl 2 _ _ _ _ ty5 ?_
    refine And.intro (fun c4 => ?_) (fun c4 => ?_)
    rotate_left
    · exact absurd (show (-1 : Int32) < 0 by decide) c4
    refine kjZ_y rfl rfl 2 _ _ _ _ ty5 ?_
    refine And.intro (fun c5 => ?_) (fun c5 => ?_)
    · exact absurd (show (0 : Int32) ≤ -1 from c5) (by decide)
    have sB : SCl scB u2 u5 := sz.tr s5
    refine kjZ_y rfl rfl 7 _ _ _ _ ty5 ?_
    refine (And.intro (ty5.k (by decide) rfl) (And.intro (Nat.le_of_ble_eq_true rfl) (And.intro (Or.inl ⟨(Nat.le_of_ble_eq_true rfl), (ty5.k (by decide) rfl)⟩) (And.intro (Nat.le_of_ble_eq_true rfl) (And.intro (Nat.le_of_ble_eq_true rfl) (kjY_mono ty5 (fun q_ u6 ty6 xu6 h_ => ?_) (kx_fresh ty5 w5 hk (s := 4) (by decide) (fun _ => hk1) _ _ e1 rfl)))))))
    obtain ⟨P, x, Q, rfl, w6, s6, g6, g9, gn, g2⟩ := h_
    intro _ _
    have hky : kyI (skA (P ++ x :: Q)) v = some P.length := by
      have : x.2.2.2.2.2.1 = v := by rw [g9]
      rw [← this]; exact ky_k w6.srt
    rcases g2 with ⟨y, -, -, g4, -⟩ | ⟨g3, g4, g5, -⟩
    · rw [q3] at g4; cases g4
    have hor : orA (skA ks) v 4 = (skA (P ++ x :: Q), P.length) := by
      rw [orA_none g4, ← g5, g3, skA_app]
      unfold inA
      have el : P.length = (skA P).length := (skA_len P).symm
      rw [el, List.take_left, List.drop_left, skA_app, skA_cons, g9]; rfl
    have hso : x.2.2.2.2.2.2.1 = 4 := by rw [g9]; rfl
    have hs0' : ¬ x.2.2.2.2.2.2.1 = 0 := by rw [hso]; decide
    have hes : x.2.2.2.2.2.2.2.2.2.2 = [] := by rw [g9]
    have hwk : wkO x := by
      unfold wkO; rw [g6, g9]; rfl
    have hclx : clA (skA (P ++ x :: Q)) ≤ clA (skA ks) := by
      rw [clA_at, g3, clA_app, hes]; show _ + _ * 0 + _ ≤ _; omega
    have hno : ¬ nmF v3 x.2.2.2.2.2.2.2.2.2.2 = true := by rw [hes]; exact Bool.false_ne_true
    have hZ : ZP x.2.2.2.2.2.2.2.2.2.2 := by rw [hes]; exact List.Pairwise.nil
    have hcn : nmC v3 x.2.2.2.2.2.2.2.2.2.2 = 0 := by rw [hes]; rfl
    have kv6 := (w6.sz hs0').2.2
    refine kjZ_y rfl rfl 12 _ _ _ _ ty6 ?_
    refine (And.intro (Nat.le_of_ble_eq_true rfl) (And.intro (ty6.k (by decide) rfl) (And.intro (ty6.k (by decide) rfl) (And.intro (Nat.le_of_ble_eq_true rfl) (And.intro (Or.inl ⟨(Nat.le_of_ble_eq_true rfl), (ty6.k (by decide) rfl)⟩) (And.intro (Nat.le_of_ble_eq_true rfl) (And.intro (Nat.le_of_ble_eq_true rfl) (kjY_mono ty6 (fun q_ u7 ty7 xu7 h_ => ?_) (kx_oins ty6 w6 hso hwk hZ hk3 hno (by rw [hes]; show 4 * (2 * 0 + 1) + _ ≤ _; omega) (u6.2.1 53 9) _ _ (by rw [hcn]; decide) e3)))))))))
    obtain ⟨rfl, jj, hj1, w7, s7⟩ := h_
    intro _ _
    have kv7 : (u7.2.2.2.1 x.1).1 = 11 := xu7.k ty6 kv6 (by decide)
    have e96 : u6.2.1 53 9 = n5 := (s6 (53, 9) (by decide)).2.1.trans e5
    rw [e96] at hj1 w7
    have hrk : rkE n5 v3 x.2.2.2.2.2.2.2.2.2.2 = insL x.2.2.2.2.2.2.2.2.2.2 jj (v3, [], n5) := rkE_lp hj1 (fun z hz => by rw [hes] at hz; cases hz)
    have hne : ¬ emB (mkK x (esF (fun es => insL es jj (v3, [], n5)) x.2.2.2.2.2)) := fun z => by
      have z2 : insL x.2.2.2.2.2.2.2.2.2.2 jj ((v3, [], n5) : AE) = [] := z.2
      rw [← hrk] at z2; exact rkE_ne _ _ _ z2
    have hrs : RSD (P ++ Q) := by rw [← g3]; exact hr
    refine kjZ_y rfl rfl 5 _ _ _ _ ty7 ?_
    refine (And.intro (ty7.k (by decide) rfl) (And.intro (Nat.le_of_ble_eq_true rfl) (And.intro (Or.inl ⟨(Nat.le_of_ble_eq_true rfl), (ty7.k (by decide) rfl)⟩) (And.intro (Nat.le_of_ble_eq_true rfl) (And.intro (Nat.le_of_ble_eq_true rfl) (kjY_mono ty7 (fun q_ u8 ty8 xu8 h_ => ?_) (kx_settle (x := mkK x (esF (fun es => insL es jj (v3, [], n5)) x.2.2.2.2.2)) ty7 w7 (k := k) (by show nm[k]? = some x.2.2.2.2.2.1; rw [g9]; exact hk) _ e1)))))))
    obtain ⟨q9, q9b⟩ := h_
    intro _ _
    obtain ⟨rfl, nmA, ksA, pA5, wA, rA, eA, cA, sA5⟩ := cd_se (σ := u2) (nm := nm) PRE.rf ((sB.tr ((s6.tr s7).sub scBA)).sub (fun q hq => scHB q (scGH q hq))) ⟨q9, q9b⟩ (wkO_mk _ _) hrs (A := skA (P ++ mkK x (esF (fun es => insL es jj (v3, [], n5)) x.2.2.2.2.2) :: Q)) (fun z => absurd z hne) (fun _ => rfl)
    have hoo : inO (bI a) (bI b) (bI c) (bI d1) (skA ks) v v3 n5 = some (skA (P ++ mkK x (esF (fun es => insL es jj (v3, [], n5)) x.2.2.2.2.2) :: Q)) := by
      rw [hO]
      show some (upA (orA (skA ks) v 4).1 (orA (skA ks) v 4).2 (esF (rkE n5 v3))) = _
      rw [hor]
      show some (upA (skA (P ++ x :: Q)) P.length (esF (rkE n5 v3))) = _
      rw [skA_app, skA_app, skA_cons, skA_cons, ← skA_len P, upA_at]
      show some (_ ++ (_, _, _, _, _, rkE n5 v3 _) :: _) = some (_ ++ (_, _, _, _, _, insL _ jj (v3, [], n5)) :: _)
      rw [hrk]
    refine kjZ_y rfl rfl 1 _ _ _ _ ty8 ?_
    exact k_zi102 (d := d) u8 _ _ .null x1 x3 _ _ _ _ ty8 wA (fun z2 wz sz => cd_ok pA5 wz rA eA ((sz (59, 18) (by decide)).1.trans cA) (sA5.tr sz.g) hoo)
  exact go _ ty2' rfl
theorem kx_incr1 (ty : kTY σ) {P Q : List KC} {y : KC} (w : KWd σ0 B σ ws nm (P ++ y :: Q)) (hr : RSD (P ++ y :: Q)) {k k3 : Nat} {v v3 : List Int32} (hk : nm[k]? = some v) (hk3 : nm[k3]? = some v3) (q3 : kyI (skA (P ++ y :: Q)) v = some P.length) (f1 : y.2.2.2.2.2.1 = v) (hso : y.2.2.2.2.2.2.1 = 4) (hZ : ZP y.2.2.2.2.2.2.2.2.2.2) (a b c d1 e g : Bool) (h75 : σ.1 75 3 = enF a b c d1 e g) {n : Int64} (h9 : σ.2.1 53 9 = n) (hcl : 3 * (clA (skA (P ++ y :: Q)) + 4) ≤ 49000) (x1 x3 : Int32) (e1 : x1 = nI k) (e3 : x3 = nI k3) :
    kjY kPP (kQQ Y) (d + 7) 241 0 (mjL0 10 [.ref 75, .int x1, .ref y.1, .int x3]) [] σ (cdP σ0 B σ ws nm (P ++ y :: Q) (inO (bI a) (bI b) (bI c) (bI d1) (skA (P ++ y :: Q)) v v3 n)) := by
  have hs0 : ¬ y.2.2.2.2.2.2.1 = 0 := by rw [hso]; decide
  obtain ⟨r1, r2⟩ := hr.two
  obtain ⟨zz1, zz2, kv⟩ := w.sz hs0
  have hO : inO (bI a) (bI b) (bI c) (bI d1) (skA (P ++ y :: Q)) v v3 n = (match zeI y.2.2.2.2.2.2.2.2.2.2 v3 with
      | none => if bI b = 0 then some (zNew (skA (P ++ y :: Q)) v (some P.length) none n v3).1 else none
      | some q => if bI a = 0 ∧ ovI q.2 n = 0 ∧ (bI c = 0 ∨ q.2 < q.2 + n) ∧ (bI d1 = 0 ∨ q.2 + n < q.2) ∧ ¬ n = 0 then some (zNew (skA (P ++ y :: Q)) v (some P.length) (some q) (q.2 + n) v3).1 else none) := by
    unfold inO; rw [q3, zIx_k]
  have hpt : ptI y.2.2.2.2.2.2.1 = 4 := by rw [hso]; rfl
  have hlx : 4 * y.2.2.2.2.2.2.2.2.2.2.length ≤ clA (skA (P ++ y :: Q)) := by rw [clA_at, hpt]; omega
  have hb8 := KWd.b8o ty w hso
  have hv8 := w.2.2.1.1.b8 ty hk3
  subst h9
  refine kjZ_y rfl rfl 5 _ _ _ _ ty ?_
  refine (And.intro (ty.k (by decide) rfl) (And.intro (Nat.le_of_ble_eq_true rfl) (And.intro (Or.inl ⟨(Nat.le_of_ble_eq_true rfl), (ty.k (by decide) rfl)⟩) (And.intro (Nat.le_of_ble_eq_true rfl) (And.intro (Nat.le_of_ble_eq_true rfl) (kjY_mono ty (fun q_ u1 ty1 xu1 h_ => ?_) (kx_plO ty w hso hk3 _ e3)))))))
  obtain ⟨rfl, rfl⟩ := h_
  intro _ _
  obtain ⟨n5, hn5⟩ : ∃ n5, n5 = u1.2.1 53 9 := ⟨_, rfl⟩
  rw [← hn5] at hO ⊢
  -- the value behind a change
  have nilR : ∀ (x4 : Int32) (i : Nat) (l7 : Option Value) (z : kS), kTY z → KWd σ0 B z ws nm (P ++ y :: Q) → SCl scH u1 z → inO (bI a) (bI b) (bI c) (bI d1) (skA (P ++ y :: Q)) v v3 n5 = none → kjY kPP (kQQ Y) (d + 7) 241 18 [some (.ref 75), some (.int x1), some (.ref y.1), some (.int x3), some (.int x4), some (.long n5), none, none, none, none] [] z (cdP σ0 B u1 ws nm (P ++ y :: Q) (inO (bI a) (bI b) (bI c) (bI d1) (skA (P ++ y :: Q)) v v3 n5)) := by
    intro x4 i l7 z tz wz sz ho
    obtain ⟨bb, hb, eb⟩ := wz.2.2.2.2.2.2.1
    have kb := ob_k tz (ANn_b bb (ANb_n bb hb)).1
    have kvz := (wz.sz hs0).2.2
    refine kjZ_y rfl rfl 4 _ _ _ _ tz ?_
    refine (And.intro (tz.k (by decide) rfl) (And.intro (tz.k (by decide) rfl) (Exists.intro _ (And.intro eb (And.intro (Nat.le_of_ble_eq_true rfl) (And.intro (Or.inl ⟨(Nat.le_of_ble_eq_true rfl), (by assumption)⟩) (And.intro (Nat.le_of_ble_eq_true rfl) (And.intro (Nat.le_of_ble_eq_true rfl) (kjY_mono tz (fun q_ u3 ty3 xu3 h_ => ?_) (kx_nil tz wz hb))))))))))
    obtain ⟨rfl, w3, s3⟩ := h_
    intro _ _
    refine kjZ_y rfl rfl 1 _ _ _ _ ty3 ?_
    refine And.intro rfl (And.intro rfl ?_)
    exact cd_no PRE.rf w3 hr (sz.tr s3.h) ho
  by_cases hf : nmF v3 y.2.2.2.2.2.2.2.2.2.2 = true
  rotate_left
  · have hE := fdE_n hv8 hb8 hf
    have hzI : zeI y.2.2.2.2.2.2.2.2.2.2 v3 = none := by unfold zeI; rw [hE]
    rw [hzI] at hO
    have hO : inO (bI a) (bI b) (bI c) (bI d1) (skA (P ++ y :: Q)) v v3 n5 = if bI b = 0 then some (zNew (skA (P ++ y :: Q)) v (some P.length) none n5 v3).1 else none := hO
    rw [if_neg hf]
    have hlt := nm_neg (v := v3) (es := y.2.2.2.2.2.2.2.2.2.2) (by omega)
    obtain ⟨x4, e4⟩ : ∃ x4, x4 = -1 - nI (nmC v3 y.2.2.2.2.2.2.2.2.2.2) := ⟨_, rfl⟩
    rw [← e4] at hlt ⊢
    refine kjZ_y rfl rfl 5 _ _ _ _ ty1 ?_
    refine (And.intro (Nat.le_of_ble_eq_true rfl) (And.intro (ty1.k (by decide) rfl) (And.intro (ty1.k (by decide) rfl) (And.intro (Nat.le_of_ble_eq_true rfl) ?_))))
    rw [show u1.2.1 (kT 257).snd.fst (105 % 32) = n5 from hn5.symm]
    refine kjZ_y rfl rfl 3 _ _ _ _ ty1 ?_
    refine And.intro (fun c1 => ?_) (fun c1 => ?_)
    · exact absurd (show (0 : Int32) ≤ x4 from c1) (Int32.not_le.mpr hlt)
    refine kjZ_y rfl rfl 3 _ _ _ _ ty1 ?_
    refine (And.intro (Nat.le_of_ble_eq_true rfl) (And.intro (Or.inl ⟨(Nat.le_of_ble_eq_true rfl), (ty1.k (by decide) rfl)⟩) (And.intro (Nat.le_of_ble_eq_true rfl) (And.intro (Nat.le_of_ble_eq_true rfl) (kjY_mono ty1 (fun q_ u2 ty2 xu2 h_ => ?_) (kx_told ty1 _))))))
    obtain ⟨rfl, q⟩ := h_
    intro _ _
    rcases q with ⟨rfl, q⟩ | ⟨rfl, q⟩
    · have q : ¬ u2.1 75 3 &&& 2 = 0 := q
      rw [h75, enF_2] at q
      refine kjZ_y rfl rfl 1 _ _ _ _ ty2 ?_
      refine And.intro (fun c2 => ?_) (fun c2 => ?_)
      · exact absurd (show (1 : Int32) = 0 from c2) (by decide)
      exact nilR x4 0 none u2 ty2 w SCl.rf (by rw [hO, if_neg (fun z => q (bI_0.mp z))])
    have q : u2.1 75 3 &&& 2 = 0 := q
    rw [h75, enF_2] at q
    rw [if_pos (by rw [q]; rfl)] at hO
    refine kjZ_y rfl rfl 1 _ _ _ _ ty2 ?_
    refine And.intro (fun c2 => ?_) (fun c2 => ?_)
    rotate_left
    · exact absurd rfl c2
    refine kjZ_y rfl rfl 4 _ _ _ _ ty2 ?_
    refine And.intro (fun c3 => ?_) (fun c3 => ?_)
    · exact absurd (show (0 : Int32) ≤ x4 from c3) (Int32.not_le.mpr hlt)
    refine kjZ_y rfl rfl 7 _ _ _ _ ty2 ?_
    refine (And.intro (Nat.le_of_ble_eq_true rfl) (And.intro (ty2.k (by decide) rfl) (And.intro (ty2.k (by decide) rfl) (And.intro rfl (fun ty2' => ?_)))))
    have go : ∀ z, kTY z → z = (u2.1, mjLu u2.2.1 53 9 (Int64.ofNat 0), u2.2.2) → kjY kPP (kQQ Y) (d + 7) 241 37 [some (.ref 75), some (.int x1), some (.ref y.1), some (.int x3), some (.int x4), some (.long n5), none, some (.long (Int64.ofNat 0)), none, none] [] z (cdP σ0 B u2 ws nm (P ++ y :: Q) (inO (bI a) (bI b) (bI c) (bI d1) (skA (P ++ y :: Q)) v v3 n5)) := by
      intro z tz ez
      have wz : KWd σ0 B z ws nm (P ++ y :: Q) := by rw [ez]; exact w.pl ty2 (by decide)
      have sz : SCl scB u2 z := by rw [ez]; exact SCl.l (by decide +kernel)
      have z9 : z.2.1 53 9 = 0 := by rw [ez]; exact (show mjLu u2.2.1 53 9 (Int64.ofNat 0) 53 9 = 0 from mjLu_p)
      have kvz := (wz.sz hs0).2.2
      refine kjZ_y rfl rfl 5 _ _ _ _ tz ?_
      refine (And.intro (tz.k (by decide) rfl) (And.intro (Nat.le_of_ble_eq_true rfl) (And.intro (Or.inl ⟨(Nat.le_of_ble_eq_true rfl), (tz.k (by decide) rfl)⟩) (And.intro (Nat.le_of_ble_eq_true rfl) (And.intro (Nat.le_of_ble_eq_true rfl) (kjY_mono tz (fun q_ u5 ty5 xu5 h_ => ?_) (kx_overflows tz wz _ false _ rfl)))))))
      obtain ⟨w5, s5, q5⟩ := h_
      intro _ _
      have kv5 := (w5.sz hs0).2.2
      rw [z9] at q5
      rcases q5 with ⟨q5, rfl⟩ | ⟨q5, rfl, e5⟩
      · exact absurd q5 (ovW_0 _)
      have e5 : u5.2.1 53 9 = n5 := by rw [e5]; show 0 + n5 = n5; exact Int64.zero_add n5
      refine kjZ_y rfl rfl 1 _ _ _ _ ty5 ?_
      refine And.intro (fun c3 => ?_) (fun c3 => ?_)
      rotate_left
      · exact absurd rfl c3
      refine kjZ_y rfl rfl 2 _ _ _ _ ty5 ?_
      refine And.intro (fun c4 => ?_) (fun c4 => ?_)
      rotate_left
      · exact absurd hlt c4
      refine kjZ_y rfl rfl 2 _ _ _ _ ty5 ?_
      refine And.intro (fun c5 => ?_) (fun c5 => ?_)
      · exact absurd (show (0 : Int32) ≤ x4 from c5) (Int32.not_le.mpr hlt)
      have sB : SCl scB u2 u5 := sz.tr s5
      have ep : Int32.ofInt (-1) - x4 = nI (nmC v3 y.2.2.2.2.2.2.2.2.2.2) := by rw [e4]; exact m1_m1 _
      refine kjZ_y rfl rfl 14 _ _ _ _ ty5 ?_
      refine (And.intro (Nat.le_of_ble_eq_true rfl) (And.intro (ty5.k (by decide) rfl) (And.intro (ty5.k (by decide) rfl) (And.intro (Nat.le_of_ble_eq_true rfl) (And.intro (Or.inl ⟨(Nat.le_of_ble_eq_true rfl), (ty5.k (by decide) rfl)⟩) (And.intro (Nat.le_of_ble_eq_true rfl) (And.intro (Nat.le_of_ble_eq_true rfl) (kjY_mono ty5 (fun q_ u7 ty7 xu7 h_ => ?_) (kx_oins ty5 w5 hso r2.1 hZ hk3 hf (by omega) (u5.2.1 53 9) _ _ ep e3)))))))))
      obtain ⟨rfl, jj, hj1, w7, s7⟩ := h_
      intro _ _
      have kv7 : (u7.2.2.2.1 y.1).1 = 11 := xu7.k ty5 kv5 (by decide)
      rw [e5] at hj1 w7
      have hrk : rkE n5 v3 y.2.2.2.2.2.2.2.2.2.2 = insL y.2.2.2.2.2.2.2.2.2.2 jj (v3, [], n5) := rkE_lp hj1 (nm_ne hv8 hb8 hf)
      have hne : ¬ emB (mkK y (esF (fun es => insL es jj (v3, [], n5)) y.2.2.2.2.2)) := fun z => by
        have z2 : insL y.2.2.2.2.2.2.2.2.2.2 jj ((v3, [], n5) : AE) = [] := z.2
        rw [← hrk] at z2; exact rkE_ne _ _ _ z2
      refine kjZ_y rfl rfl 5 _ _ _ _ ty7 ?_
      refine (And.intro (ty7.k (by decide) rfl) (And.intro (Nat.le_of_ble_eq_true rfl) (And.intro (Or.inl ⟨(Nat.le_of_ble_eq_true rfl), (ty7.k (by decide) rfl)⟩) (And.intro (Nat.le_of_ble_eq_true rfl) (And.intro (Nat.le_of_ble_eq_true rfl) (kjY_mono ty7 (fun q_ u8 ty8 xu8 h_ => ?_) (kx_settle (x := mkK y (esF (fun es => insL es jj (v3, [], n5)) y.2.2.2.2.2)) ty7 w7 (k := k) (by show nm[k]? = some y.2.2.2.2.2.1; rw [f1]; exact hk) _ e1)))))))
      obtain ⟨q9, q9b⟩ := h_
      intro _ _
      obtain ⟨rfl, nmA, ksA, pA5, wA, rA, eA, cA, sA5⟩ := cd_se (σ := u2) (nm := nm) PRE.rf ((sB.tr (s7.sub scBA)).sub (fun q hq => scHB q (scGH q hq))) ⟨q9, q9b⟩ (wkO_mk _ _) r1 (A := skA (P ++ mkK y (esF (fun es => insL es jj (v3, [], n5)) y.2.2.2.2.2) :: Q)) (fun z => absurd z hne) (fun _ => rfl)
      have hoo : inO (bI a) (bI b) (bI c) (bI d1) (skA (P ++ y :: Q)) v v3 n5 = some (skA (P ++ mkK y (esF (fun es => insL es jj (v3, [], n5)) y.2.2.2.2.2) :: Q)) := by
        have hN := zNew_k (P := P) (Q := Q) (x := y) (v := v3) (sc := n5) q3
        rw [hzI] at hN
        rw [hO, hN]
        show some (skA (P ++ mkK y (_, _, _, _, _, zeN y.2.2.2.2.2.2.2.2.2.2 (zeI y.2.2.2.2.2.2.2.2.2.2 v3) n5 v3) :: Q)) = some (skA (P ++ mkK y (_, _, _, _, _, insL _ jj (v3, [], n5)) :: Q))
        rw [hzI]
        show some (skA (P ++ mkK y (_, _, _, _, _, rkE n5 v3 _) :: Q)) = _
        rw [hrk]
      refine kjZ_y rfl rfl 1 _ _ _ _ ty8 ?_
      exact k_zi102 (d := d) u8 _ _ (.ref y.1) x1 x3 _ _ _ _ ty8 wA (fun z2 wz sz => cd_ok pA5 wz rA eA ((sz (59, 18) (by decide)).1.trans cA) (sA5.tr sz.g) hoo)
    exact go _ ty2' rfl
  · rw [if_pos hf]
    have hcl9 := nmC_le v3 y.2.2.2.2.2.2.2.2.2.2
    obtain ⟨x4, e4⟩ : ∃ x4, x4 = nI (nmC v3 y.2.2.2.2.2.2.2.2.2.2) := ⟨_, rfl⟩
    rw [← e4]
    have hge : ¬ x4 < 0 := by rw [e4]; exact nI_n0 (by omega)
    obtain ⟨zz, hzm, hzv⟩ : ∃ zz ∈ y.2.2.2.2.2.2.2.2.2.2, zz.1 = v3 := by
      have hf2 := hf
      unfold nmF at hf2
      rw [List.any_eq_true] at hf2
      obtain ⟨zz, hz1, hz2⟩ := hf2
      exact ⟨zz, hz1, of_decide_eq_true hz2⟩
    obtain ⟨jj, hjj, gjj⟩ := List.mem_iff_getElem.mp hzm
    have hjz : y.2.2.2.2.2.2.2.2.2.2[jj]? = some zz := by rw [List.getElem?_eq_getElem hjj, gjj]
    have hE := fdE_y hZ hjz hzv
    have hzI : zeI y.2.2.2.2.2.2.2.2.2.2 v3 = some (jj, zz.2.2) := by unfold zeI; rw [hE]; show (match y.2.2.2.2.2.2.2.2.2.2[jj]? with | some z => some (jj, z.2.2) | none => none) = _; rw [hjz]
    rw [hzI] at hO
    have hO : inO (bI a) (bI b) (bI c) (bI d1) (skA (P ++ y :: Q)) v v3 n5 = if bI a = 0 ∧ ovI zz.2.2 n5 = 0 ∧ (bI c = 0 ∨ zz.2.2 < zz.2.2 + n5) ∧ (bI d1 = 0 ∨ zz.2.2 + n5 < zz.2.2) ∧ ¬ n5 = 0 then some (zNew (skA (P ++ y :: Q)) v (some P.length) (some (jj, zz.2.2)) (zz.2.2 + n5) v3).1 else none := hO
    refine kjZ_y rfl rfl 5 _ _ _ _ ty1 ?_
    refine (And.intro (Nat.le_of_ble_eq_true rfl) (And.intro (ty1.k (by decide) rfl) (And.intro (ty1.k (by decide) rfl) (And.intro (Nat.le_of_ble_eq_true rfl) ?_))))
    rw [show u1.2.1 (kT 257).snd.fst (105 % 32) = n5 from hn5.symm]
    refine kjZ_y rfl rfl 3 _ _ _ _ ty1 ?_
    refine And.intro (fun c1 => ?_) (fun c1 => ?_)
    rotate_left
    · exact absurd (show (0 : Int32) ≤ x4 from Int32.not_lt.mp hge) c1
    refine kjZ_y rfl rfl 2 _ _ _ _ ty1 ?_
    refine (And.intro (Nat.le_of_ble_eq_true rfl) (And.intro (Or.inl ⟨(Nat.le_of_ble_eq_true rfl), (ty1.k (by decide) rfl)⟩) (And.intro (Nat.le_of_ble_eq_true rfl) (And.intro (Nat.le_of_ble_eq_true rfl) (kjY_mono ty1 (fun q_ u2 ty2 xu2 h_ => ?_) (kx_told ty1 _))))))
    obtain ⟨rfl, q⟩ := h_
    intro _ _
    rcases q with ⟨rfl, q⟩ | ⟨rfl, q⟩
    · have q : ¬ u2.1 75 3 &&& 1 = 0 := q
      rw [h75, enF_1] at q
      refine kjZ_y rfl rfl 1 _ _ _ _ ty2 ?_
      refine And.intro (fun c2 => ?_) (fun c2 => ?_)
      · exact absurd (show (1 : Int32) = 0 from c2) (by decide)
      exact nilR x4 0 none u2 ty2 w SCl.rf (by rw [hO, if_neg (fun z => q (bI_0.mp z.1))])
    have q : u2.1 75 3 &&& 1 = 0 := q
    rw [h75, enF_1] at q
    have qa : bI a = 0 := by rw [q]; rfl
    refine kjZ_y rfl rfl 1 _ _ _ _ ty2 ?_
    refine And.intro (fun c2 => ?_) (fun c2 => ?_)
    rotate_left
    · exact absurd rfl c2
    refine kjZ_y rfl rfl 4 _ _ _ _ ty2 ?_
    refine And.intro (fun c3 => ?_) (fun c3 => ?_)
    rotate_left
    · exact absurd (show (0 : Int32) ≤ x4 from Int32.not_lt.mp hge) c3
    refine kjZ_y rfl rfl 3 _ _ _ _ ty2 ?_
    refine (And.intro (Nat.le_of_ble_eq_true rfl) (And.intro (Or.inl ⟨(Nat.le_of_ble_eq_true rfl), (by assumption)⟩) (And.intro (Nat.le_of_ble_eq_true rfl) (And.intro (Nat.le_of_ble_eq_true rfl) (kjY_mono ty2 (fun q_ u3 ty3 xu3 h_ => ?_) (kx_osc ty2 w hso hk3 hf hZ hjz hzv _ e4))))))
    obtain ⟨rfl, rfl⟩ := h_
    intro _ _
    refine kjZ_y rfl rfl 5 _ _ _ _ ty3 ?_
    refine (And.intro (Nat.le_of_ble_eq_true rfl) (And.intro (ty3.k (by decide) rfl) (And.intro (ty3.k (by decide) rfl) (And.intro rfl (fun ty3' => ?_)))))
    have go : ∀ z, kTY z → z = (u3.1, mjLu u3.2.1 53 9 zz.2.2, u3.2.2) → kjY kPP (kQQ Y) (d + 7) 241 37 [some (.ref 75), some (.int x1), some (.ref y.1), some (.int x3), some (.int x4), some (.long n5), none, some (.long zz.2.2), none, none] [] z (cdP σ0 B u3 ws nm (P ++ y :: Q) (inO (bI a) (bI b) (bI c) (bI d1) (skA (P ++ y :: Q)) v v3 n5)) := by
      intro z tz ez
      have wz : KWd σ0 B z ws nm (P ++ y :: Q) := by rw [ez]; exact w.pl ty3 (by decide)
      have sz : SCl scB u3 z := by rw [ez]; exact SCl.l (by decide +kernel)
      have z9 : z.2.1 53 9 = zz.2.2 := by rw [ez]; exact (show mjLu u3.2.1 53 9 zz.2.2 53 9 = zz.2.2 from mjLu_p)
      have kvz := (wz.sz hs0).2.2
      refine kjZ_y rfl rfl 5 _ _ _ _ tz ?_
      refine (And.intro (tz.k (by decide) rfl) (And.intro (Nat.le_of_ble_eq_true rfl) (And.intro (Or.inl ⟨(Nat.le_of_ble_eq_true rfl), (tz.k (by decide) rfl)⟩) (And.intro (Nat.le_of_ble_eq_true rfl) (And.intro (Nat.le_of_ble_eq_true rfl) (kjY_mono tz (fun q_ u5 ty5 xu5 h_ => ?_) (kx_overflows tz wz _ false _ rfl)))))))
      obtain ⟨w5, s5, q5⟩ := h_
      intro _ _
      have kv5 := (w5.sz hs0).2.2
      rw [z9] at q5
      have sB : SCl scB u3 u5 := sz.tr s5
      rcases q5 with ⟨q5, rfl⟩ | ⟨q5, rfl, e5⟩
      · refine kjZ_y rfl rfl 1 _ _ _ _ ty5 ?_
        refine And.intro (fun c3 => ?_) (fun c3 => ?_)
        · exact absurd (show (1 : Int32) = 0 from c3) (by decide)
        refine kjZ_y rfl rfl 1 _ _ _ _ ty5 ?_
        refine And.intro rfl (And.intro rfl ?_)
        exact cd_no PRE.rf w5 hr (sB.sub scHB) (by rw [hO, if_neg (fun y => (ovI_0 _ _).mp y.2.1 q5)])
      have q5 := (ovI_0 _ _).mpr q5
      have e5 : u5.2.1 53 9 = zz.2.2 + n5 := e5
      have f75 : u5.1 75 3 = enF a b c d1 e g := (sB (75, 3) (by decide)).1.trans h75
      refine kjZ_y rfl rfl 1 _ _ _ _ ty5 ?_
      refine And.intro (fun c3 => ?_) (fun c3 => ?_)
      rotate_left
      · exact absurd rfl c3
      refine kjZ_y rfl rfl 2 _ _ _ _ ty5 ?_
      refine And.intro (fun c4 => ?_) (fun c4 => ?_)
      · exact absurd c4 hge
      refine kjZ_y rfl rfl 6 _ _ _ _ ty5 ?_
      refine (And.intro (ty5.k (by decide) rfl) (And.intro (ty5.k (by decide) rfl) (And.intro (Nat.le_of_ble_eq_true rfl) (And.intro (Or.inl ⟨(Nat.le_of_ble_eq_true rfl), (ty5.k (by decide) rfl)⟩) (And.intro (Nat.le_of_ble_eq_true rfl) (And.intro (Nat.le_of_ble_eq_true rfl) (kjY_mono ty5 (fun q_ u6 ty6 xu6 h_ => ?_) (kx_mayBe ty5 _ _))))))))
      obtain ⟨rfl, q6⟩ := h_
      intro _ _
      have hmb : ((bI c = 0 ∨ zz.2.2 < zz.2.2 + n5) ∧ (bI d1 = 0 ∨ zz.2.2 + n5 < zz.2.2)) ↔ (((¬ u6.1 75 3 &&& 4 = 0) → zz.2.2 < u6.2.1 53 9) ∧ ((¬ u6.1 75 3 &&& 8 = 0) → u6.2.1 53 9 < zz.2.2)) := by
        rw [f75, enF_4, enF_8, e5, bI_0, bI_0]
        refine ⟨fun z => ⟨fun y => z.1.elim (fun k9 => absurd k9 y) id, fun y => z.2.elim (fun k9 => absurd k9 y) id⟩, fun z => ⟨?_, ?_⟩⟩
        · by_cases k9 : c = false
          · exact Or.inl k9
          · exact Or.inr (z.1 k9)
        · by_cases k9 : d1 = false
          · exact Or.inl k9
          · exact Or.inr (z.2 k9)
      rcases q6 with ⟨rfl, q6⟩ | ⟨rfl, q6⟩
      rotate_left
      · obtain ⟨bb, hb, eb⟩ := w5.2.2.2.2.2.2.1
        have kb := ob_k ty6 (ANn_b bb (ANb_n bb hb)).1
        refine kjZ_y rfl rfl 1 _ _ _ _ ty6 ?_
        refine And.intro (fun c5 => ?_) (fun c5 => ?_)
        · exact absurd rfl c5
        refine kjZ_y rfl rfl 4 _ _ _ _ ty6 ?_
        refine (And.intro (ty6.k (by decide) rfl) (And.intro (ty6.k (by decide) rfl) (Exists.intro _ (And.intro eb (And.intro (Nat.le_of_ble_eq_true rfl) (And.intro (Or.inl ⟨(Nat.le_of_ble_eq_true rfl), (by assumption)⟩) (And.intro (Nat.le_of_ble_eq_true rfl) (And.intro (Nat.le_of_ble_eq_true rfl) (kjY_mono ty6 (fun q_ u7 ty7 xu7 h_ => ?_) (kx_nil ty6 w5 hb))))))))))
        obtain ⟨rfl, w7, s7⟩ := h_
        intro _ _
        refine kjZ_y rfl rfl 1 _ _ _ _ ty7 ?_
        refine And.intro rfl (And.intro rfl ?_)
        exact cd_no PRE.rf w7 hr ((sB.sub scHB).tr s7.h) (by rw [hO, if_neg (fun z => q6 (hmb.mp ⟨z.2.2.1, z.2.2.2.1⟩))])
      have hm2 := hmb.mpr q6
      refine kjZ_y rfl rfl 1 _ _ _ _ ty6 ?_
      refine And.intro (fun c5 => ?_) (fun c5 => ?_)
      rotate_left
      · exact absurd (show ¬ (1 : Int32) = 0 by decide) c5
      refine kjZ_y rfl rfl 2 _ _ _ _ ty6 ?_
      refine And.intro (fun c6 => ?_) (fun c6 => ?_)
      rotate_left
      · exact absurd (show (0 : Int32) ≤ x4 from Int32.not_lt.mp hge) c6
      refine kjZ_y rfl rfl 4 _ _ _ _ ty6 ?_
      refine And.intro (fun c7 => ?_) (fun c7 => ?_)
      · have c7 : n5 = 0 := (lg_cmp_eq _ _).mp c7
        exact k_zi102 (d := d) u6 nm _ (.ref y.1) x1 x3 _ _ _ _ ty6 w5 (fun z2 wz sz => cd_no PRE.rf wz hr ((sB.sub scHB).tr sz.h) (by rw [hO, if_neg (fun z => z.2.2.2.2 c7)]))
      have c7 : ¬ n5 = 0 := fun z => c7 ((lg_cmp_eq _ _).mpr z)
      refine kjZ_y rfl rfl 7 _ _ _ _ ty6 ?_
      refine (And.intro (ty6.k (by decide) rfl) (And.intro (ty6.k (by decide) rfl) (And.intro (Nat.le_of_ble_eq_true rfl) (And.intro (Or.inl ⟨(Nat.le_of_ble_eq_true rfl), (ty6.k (by decide) rfl)⟩) (And.intro (Nat.le_of_ble_eq_true rfl) (And.intro (Nat.le_of_ble_eq_true rfl) (kjY_mono ty6 (fun q_ u7 ty7 xu7 h_ => ?_) (kx_oresc ty6 w5 hso r2.1 hZ hk3 hf _ e4 (u6.2.1 53 9)))))))))
      obtain ⟨rfl, jn, zn, j2, hn1, hn2, hj1, w7, s7⟩ := h_
      intro _ _
      have kv7 : (u7.2.2.2.1 y.1).1 = 11 := xu7.k ty6 kv5 (by decide)
      have ejn : jn = jj := ZP_inj hZ hn1 hjz (hn2.trans hzv.symm)
      rw [ejn, e5] at hj1 w7
      have hrk : rkE (zz.2.2 + n5) v3 (rmE jj y.2.2.2.2.2.2.2.2.2.2) = insL (cutL y.2.2.2.2.2.2.2.2.2.2 jj 1) j2 (v3, [], zz.2.2 + n5) := by
        rw [rmE_cut]; exact rkE_lp hj1 (cut_ne hv8 hb8 hZ hjz hzv)
      have hne : ¬ emB (mkK y (esF (fun es => insL (cutL es jj 1) j2 (v3, [], zz.2.2 + n5)) y.2.2.2.2.2)) := fun z => by
        have z2 : insL (cutL y.2.2.2.2.2.2.2.2.2.2 jj 1) j2 ((v3, [], zz.2.2 + n5) : AE) = [] := z.2
        rw [← hrk] at z2; exact rkE_ne _ _ _ z2
      refine kjZ_y rfl rfl 5 _ _ _ _ ty7 ?_
      refine (And.intro (ty7.k (by decide) rfl) (And.intro (Nat.le_of_ble_eq_true rfl) (And.intro (Or.inl ⟨(Nat.le_of_ble_eq_true rfl), (ty7.k (by decide) rfl)⟩) (And.intro (Nat.le_of_ble_eq_true rfl) (And.intro (Nat.le_of_ble_eq_true rfl) (kjY_mono ty7 (fun q_ u8 ty8 xu8 h_ => ?_) (kx_settle (x := mkK y (esF (fun es => insL (cutL es jj 1) j2 (v3, [], zz.2.2 + n5)) y.2.2.2.2.2)) ty7 w7 (k := k) (by show nm[k]? = some y.2.2.2.2.2.1; rw [f1]; exact hk) _ e1)))))))
      obtain ⟨q9, q9b⟩ := h_
      intro _ _
      obtain ⟨rfl, nmA, ksA, pA5, wA, rA, eA, cA, sA5⟩ := cd_se (σ := u3) (nm := nm) PRE.rf ((sB.tr (s7.sub scBA)).sub (fun q hq => scHB q (scGH q hq))) ⟨q9, q9b⟩ (wkO_mk _ _) r1 (A := skA (P ++ mkK y (esF (fun es => insL (cutL es jj 1) j2 (v3, [], zz.2.2 + n5)) y.2.2.2.2.2) :: Q)) (fun z => absurd z hne) (fun _ => rfl)
      have hoo : inO (bI a) (bI b) (bI c) (bI d1) (skA (P ++ y :: Q)) v v3 n5 = some (skA (P ++ mkK y (esF (fun es => insL (cutL es jj 1) j2 (v3, [], zz.2.2 + n5)) y.2.2.2.2.2) :: Q)) := by
        have hN := zNew_k (P := P) (Q := Q) (x := y) (v := v3) (sc := zz.2.2 + n5) q3
        rw [hzI] at hN
        rw [hO, if_pos ⟨qa, q5, hm2.1, hm2.2, c7⟩, hN]
        show some (skA (P ++ mkK y (_, _, _, _, _, zeN y.2.2.2.2.2.2.2.2.2.2 (zeI y.2.2.2.2.2.2.2.2.2.2 v3) (zz.2.2 + n5) v3) :: Q)) = some (skA (P ++ mkK y (_, _, _, _, _, insL (cutL _ _ _) j2 (v3, [], zz.2.2 + n5)) :: Q))
        rw [hzI]
        show some (skA (P ++ mkK y (_, _, _, _, _, rkE (zz.2.2 + n5) v3 (rmE jj _)) :: Q)) = _
        rw [hrk]
      exact k_zi102 (d := d) u8 _ _ (.ref y.1) x1 x3 _ _ _ _ ty8 wA (fun z2 wz sz => cd_ok pA5 wz rA eA ((sz (59, 18) (by decide)).1.trans cA) (sA5.tr sz.g) hoo)
    exact go _ ty3' rfl
end KZINC
