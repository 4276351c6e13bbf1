/-! What a rewrite tells, and that it leads to the same list. -/
section DUMP1
theorem iaD_ok2 {k d : Nat} (hk : 10 * k + d ≤ 9223372036854775808) (hd : d < 10) : iaD (-(lN k)) (nI (48 + d)) = some (-(lN (10 * k + d))) := by
  unfold iaD
  have e1 : nI (48 + d) - 48 = nI d := by
    rw [show (48 : Int32) = nI 48 from rfl, pk_sub (by omega)]; exact congrArg nI (by omega)
  rw [e1]
  have e2 : -(lN k) = Int64.ofInt (-(k : Int)) := by rw [lN_zi, ← Int64.ofInt_neg]
  have t2 : (-(lN k)).toInt = -(k : Int) := by rw [e2]; exact zi_toInt (by omega) (by omega)
  rw [if_neg (show ¬ (nI d < 0 ∨ 9 < nI d) from fun z => z.elim (fun y => absurd y (nI_n0 (by omega))) (fun y => absurd y (Int32.not_lt.mpr (nI_le (a := d) (b := 9) (by omega) (by decide)))))]
  have c1 : ¬ (-(lN k) < -922337203685477580 ∨ (-(lN k) = -922337203685477580 ∧ 8 < nI d)) := by
    have t3 : (-922337203685477580 : Int64).toInt = -922337203685477580 := by decide
    refine fun z => z.elim (fun y => ?_) (fun y => ?_)
    · have := Int64.lt_iff_toInt_lt.mp y; rw [t2, t3] at this; omega
    · have h1 := congrArg Int64.toInt y.1
      have h2 : 8 < d := Nat.lt_of_not_le (fun q => absurd y.2 (Int32.not_lt.mpr (nI_le (a := d) (b := 8) q (by decide))))
      rw [t2, t3] at h1; omega
  rw [if_neg c1]
  refine congrArg some ?_
  have e3 : (nI d).toInt64 = Int64.ofInt (d : Int) := by
    apply Int64.toInt_inj.mp
    rw [Int32.toInt_toInt64, nI_toInt (by omega), zi_toInt (by omega) (by omega)]
  rw [e2, e3, show (10 : Int64) = Int64.ofInt 10 from rfl, ← Int64.ofInt_mul, ← Int64.ofInt_sub, lN_zi, ← Int64.ofInt_neg]
  exact congrArg Int64.ofInt (by omega)
theorem iaL_dec2 : ∀ (f m : Nat), m ≤ 9223372036854775808 → m < 10 ^ (f + 1) → iaL (decN f m) 0 = some (-(lN m)) := by
  intro f
  induction f with
  | zero =>
    intro m h1 h2
    have h2 : m < 10 := h2
    show iaL [nI (48 + m % 10)] 0 = _
    rw [Nat.mod_eq_of_lt h2]
    have := iaD_ok2 (k := 0) (d := m) (by omega) h2
    show (match iaD 0 (nI (48 + m)) with | none => none | some v' => iaL [] v') = _
    rw [show (0 : Int64) = -(lN 0) from rfl, this, show 10 * 0 + m = m by omega]; rfl
  | succ f ih =>
    intro m h1 h2
    show iaL (if m < 10 then [nI (48 + m)] else decN f (m / 10) ++ [nI (48 + m % 10)]) 0 = _
    by_cases c : m < 10
    · rw [if_pos c]
      have := iaD_ok2 (k := 0) (d := m) (by omega) c
      show (match iaD 0 (nI (48 + m)) with | none => none | some v' => iaL [] v') = _
      rw [show (0 : Int64) = -(lN 0) from rfl, this, show 10 * 0 + m = m by omega]; rfl
    · rw [if_neg c, iaL_app, ih (m / 10) (by omega) (by rw [Nat.pow_succ] at h2; omega)]
      have := iaD_ok2 (k := m / 10) (d := m % 10) (by omega) (Nat.mod_lt _ (by decide))
      show (match iaD (-(lN (m / 10))) (nI (48 + m % 10)) with | none => none | some v' => iaL [] v') = _
      rw [this, show 10 * (m / 10) + m % 10 = m by omega]; rfl
/-- every number is told and read again -/
theorem int_all (v : Int64) : intF (dec v) = some v := by
  have hv1 := v.toInt_lt
  have hv2 := v.le_toInt
  have e0 : (0 : Int64).toInt = 0 := by decide
  by_cases z : v = 0
  · subst z; decide +kernel
  have nz : v.toInt ≠ 0 := fun y => z (Int64.toInt_inj.mp (y.trans e0.symm))
  have hm1 : 1 ≤ mg v := by unfold mg; omega
  have hm2 : mg v ≤ 9223372036854775808 := mg_le v
  obtain ⟨k, r, ed, d1, d2⟩ := decN_head 19 (mg v) hm1 (by omega)
  have hl := decN_len2 19 19 (mg v) (by omega) (by decide)
  have hi := iaL_dec2 19 (mg v) hm2 (by omega)
  have n45 : ¬ nI (48 + k) = 45 := fun y => by have := (nI_eq (a := 48 + k) (b := 45) (by omega) (by decide)).mp y; omega
  have n48 : ¬ nI (48 + k) = 48 := fun y => by have := (nI_eq (a := 48 + k) (b := 48) (by omega) (by decide)).mp y; omega
  have e2 : -(lN (mg v)) = Int64.ofInt (-(mg v : Int)) := by rw [lN_zi, ← Int64.ofInt_neg]
  by_cases c : v < 0
  · have hn : v.toInt < 0 := by have := Int64.lt_iff_toInt_lt.mp c; rw [e0] at this; exact this
    have en : dec v = 45 :: decN 19 (mg v) := by unfold dec; rw [if_pos c]; rfl
    rw [en]
    show (if (45 : Int32) = 45 then iaB true (decN 19 (mg v)) else iaB false (45 :: decN 19 (mg v))) = _
    rw [if_pos rfl]
    unfold iaB
    rw [ed] at hl hi ⊢
    rw [if_neg (by omega), if_neg (fun y => n48 (Option.some.inj y.1)), hi]
    show (if true = false ∧ _ then none else some (if true = true then -(lN (mg v)) else -(-(lN (mg v))))) = _
    rw [if_neg (fun y => absurd y.1 (by decide)), if_pos rfl, e2]
    refine congrArg some ?_
    have : -(mg v : Int) = v.toInt := by unfold mg; omega
    rw [this, Int64.ofInt_toInt]
  · have hn : 0 < v.toInt := by
      have : ¬ v.toInt < 0 := fun y => c (Int64.lt_iff_toInt_lt.mpr (by rw [e0]; exact y))
      omega
    have en : dec v = decN 19 (mg v) := by unfold dec; rw [if_neg c]; rfl
    rw [en]
    unfold intF
    rw [ed] at hl hi ⊢
    show (if nI (48 + k) = 45 then iaB true r else iaB false (nI (48 + k) :: r)) = _
    rw [if_neg n45]
    unfold iaB
    rw [if_neg (by omega), if_neg (fun y => n48 (Option.some.inj y.1)), hi]
    show (if false = false ∧ -(lN (mg v)) = -9223372036854775808 then none else some (if false = true then -(lN (mg v)) else -(-(lN (mg v))))) = _
    have hm3 : (mg v : Int) = v.toInt := by unfold mg; omega
    have cc : ¬ (-(lN (mg v)) = -9223372036854775808) := fun y => by
      have := congrArg Int64.toInt y
      rw [e2, Int64.toInt_ofInt_of_le (by omega) (by omega)] at this
      have e : (-9223372036854775808 : Int64).toInt = -9223372036854775808 := by decide
      rw [e] at this; omega
    rw [if_neg (fun y => cc y.2), if_neg (by decide), Int64.neg_neg, lN_zi, hm3, Int64.ofInt_toInt]
theorem dec_wk (v : Int64) : WOK (dec v) := by
  refine ⟨by have := dec_len v; omega, fun x hx => ?_⟩
  unfold dec at hx
  rcases List.mem_append.mp hx with hx | hx
  · by_cases c : v < 0
    · rw [if_pos c] at hx; rw [List.mem_singleton.mp hx]; decide
    · rw [if_neg c] at hx; cases hx
  · obtain ⟨k, hk, ek⟩ := decN_DGS 19 (mg v) (by have := mg_le v; omega) x hx
    rw [ek]; exact nI_b8 (48 + k) (by omega)
/-- a key as it stands in a half told list -/
abbrev kx (n : List Int32) (s : Int32) (es : List AE) : AK := (n, s, 0, 0, [], es)
def flA (P : List AK) (n : List Int32) (s : Int32) (es : List AE) : List AK := if es = [] then P else P ++ [kx n s es]
/-- the name comes behind all -/
def BHD (P : List AK) (n : List Int32) : Prop := SRT P ∧ ∀ b ∈ P, cmpW b.1 n < 0
theorem BHD.srt {P : List AK} {n : List Int32} (h : BHD P n) (x : AK) (hx : x.1 = n) : SRT (P ++ [x]) := by
  rw [SRT_pw, List.pairwise_append]
  exact ⟨SRT_pw.mp h.1, List.pairwise_singleton _ _, fun a ha b hb => by rw [List.mem_singleton.mp hb, hx]; exact h.2 a ha⟩
theorem gt_at (P : List AK) (x : AK) : (P ++ [x])[P.length]? = some x := by
  rw [List.getElem?_append_right (Nat.le_refl _), Nat.sub_self]; rfl
theorem ky_new {P : List AK} {n : List Int32} (h : BHD P n) : plF (anm P) n = P.length ∧ kyI P n = none := by
  have hl : (anm P).length = P.length := anm_len P
  have hp : plF (anm P) n = P.length := by
    refine plF_uniq h.1 n P.length (by omega) (fun i hi => ?_) (fun i g1 g2 => by omega)
    rw [anm_get (List.getElem?_eq_getElem hi)]
    exact h.2 _ (List.getElem_mem hi)
  refine ⟨hp, ?_⟩
  unfold kyI
  rw [hp, List.getElem?_eq_none (Nat.le_refl _)]
theorem ky_old {P : List AK} {x : AK} (h : BHD P x.1) : kyI (P ++ [x]) x.1 = some P.length := ky_get (h.srt x rfl) (gt_at P x)
theorem or_fl {P : List AK} {n : List Int32} (h : BHD P n) (s : Int32) (es : List AE) : orA (flA P n s es) n s = (P ++ [kx n s es], P.length) := by
  unfold flA
  by_cases c : es = []
  · rw [if_pos c]
    obtain ⟨a, b⟩ := ky_new h
    rw [orA_none b, a, c]
    unfold inA
    rw [List.take_length, List.drop_length]
  · rw [if_neg c]
    exact orA_some (ky_old (x := kx n s es) h)
theorem up_fl (P : List AK) (n : List Int32) (s : Int32) (es : List AE) (g : List AE → List AE) : upA (P ++ [kx n s es]) P.length (esF g) = P ++ [kx n s (g es)] := upA_at P (kx n s es) [] (esF g)
theorem fl_ne {P : List AK} {n : List Int32} {s : Int32} {es : List AE} (h : es ≠ []) : flA P n s es = P ++ [kx n s es] := if_neg h
theorem so_fl {P : List AK} {n : List Int32} (h : BHD P n) (s : Int32) (es : List AE) : soT (flA P n s es) n s = true := by
  unfold soT flA
  by_cases c : es = []
  · rw [if_pos c, (ky_new h).2]
  · rw [if_neg c, ky_old (x := kx n s es) h]
    show (match (P ++ [kx n s es])[P.length]? with | some a => decide (a.2.1 = s) | none => true) = true
    rw [gt_at]
    exact decide_eq_true rfl
/-- lists -/
theorem ps_38 : ∀ (c es : List AE), (∀ z ∈ c, z.2 = ([], 0)) → psE 38 es (c.map (fun z => z.1)) = es ++ c := by
  intro c
  induction c with
  | nil => intro es _; exact (List.append_nil es).symm
  | cons z r ih =>
    intro es h
    show psE 38 (if 38 = 38 ∨ 38 = 40 then es ++ [(z.1, [], 0)] else (z.1, [], 0) :: es) (r.map (fun z => z.1)) = _
    rw [if_pos (Or.inl rfl), ih _ (fun y hy => h y (List.mem_cons_of_mem _ hy)), List.append_assoc]
    have : z = (z.1, [], 0) := by rw [← h z List.mem_cons_self]
    rw [this]; rfl
theorem cod_1 {P : List AK} {n : List Int32} (h : BHD P n) {es c : List AE} (hc : ∀ z ∈ c, z.2 = ([], 0)) (n0 : List Int32) : coF 38 (n0 :: n :: c.map (fun z => z.1)) (flA P n 1 es) = some (P ++ [kx n 1 (es ++ c)]) := by
  show puF (flA P n 1 es) n 38 (c.map (fun z => z.1)) = _
  unfold puF
  rw [if_neg (fun z => z.2.elim (by decide) (by decide)), or_fl h, up_fl, ps_38 c es hc]
/-- sets of names: the last name is behind all -/
theorem sk_end {v : List Int32} : ∀ {es : List AE}, (∀ z ∈ es, cmpW z.1 v < 0) → skI v es = es.length ∧ skT v es = false := by
  have a : ∀ {es : List AE}, (∀ z ∈ es, cmpW z.1 v < 0) → skI v es = es.length := by
    intro es
    induction es with
    | nil => intro _; rfl
    | cons z r ih =>
      intro h
      show (if cmpW z.1 v < 0 then skI v r + 1 else 0) = r.length + 1
      rw [if_pos (h z List.mem_cons_self), ih (fun y hy => h y (List.mem_cons_of_mem _ hy))]
  intro es h
  refine ⟨a h, ?_⟩
  unfold skT
  rw [a h, List.getElem?_eq_none (Nat.le_refl _)]
theorem pt_end {v : List Int32} {es : List AE} (h : ∀ z ∈ es, cmpW z.1 v < 0) : ptE v es = es ++ [(v, [], 0)] := by
  obtain ⟨a, b⟩ := sk_end h
  unfold ptE
  rw [if_neg (by rw [b]; decide), a, List.take_length, List.drop_length]
theorem SP_last {es : List AE} {z : AE} {c : List AE} (h : SP (es ++ z :: c)) : ∀ y ∈ es, cmpW y.1 z.1 < 0 := fun y hy => (List.pairwise_append.mp h).2.2 y hy z List.mem_cons_self
/-- the pairs of a hash -/
theorem hp_52 : ∀ (c es : List AE), SP (es ++ c) → (∀ z ∈ c, z.2.2 = 0) → hpA es (c.flatMap (fun z => [z.1, z.2.1])) = es ++ c := by
  intro c
  induction c with
  | nil => intro es _ _; show hpA es [] = _; rw [List.append_nil]; rfl
  | cons z r ih =>
    intro es h hz
    show hpA (hpE z.1 z.2.1 es) (r.flatMap (fun z => [z.1, z.2.1])) = _
    have e1 : hpE z.1 z.2.1 es = es ++ [z] := by
      unfold hpE
      rw [pt_end (SP_last h), (sk_end (SP_last h)).1, gvE_at]
      have : z = (z.1, z.2.1, 0) := by rw [← hz z List.mem_cons_self]
      rw [this]
    rw [e1, ih (es ++ [z]) (by rw [List.append_assoc]; exact h) (fun y hy => hz y (List.mem_cons_of_mem _ hy)), List.append_assoc]; rfl
theorem cod_2 {P : List AK} {n : List Int32} (h : BHD P n) {es c : List AE} (hs : SP (es ++ c)) (hc : ∀ z ∈ c, z.2.2 = 0) (n0 : List Int32) : coF 52 (n0 :: n :: c.flatMap (fun z => [z.1, z.2.1])) (flA P n 2 es) = some (P ++ [kx n 2 (es ++ c)]) := by
  show hsF (flA P n 2 es) n 52 (c.flatMap (fun z => [z.1, z.2.1])) (gw (n0 :: n :: c.flatMap (fun z => [z.1, z.2.1])) 2) (mbT (flA P n 2 es) n (gw (n0 :: n :: c.flatMap (fun z => [z.1, z.2.1])) 2)) = _
  unfold hsF
  rw [if_neg (fun z => absurd z.1 (by decide)), or_fl h, up_fl, hp_52 c es hs hc]
/-- sets -/
def kyC (P : List AK) (es : List AE) : Option Nat := if es = [] then none else some P.length
theorem ky_fl {P : List AK} {n : List Int32} (h : BHD P n) (s : Int32) (es : List AE) : kyI (flA P n s es) n = kyC P es := by
  unfold flA kyC
  by_cases c : es = []
  · rw [if_pos c, if_pos c]; exact (ky_new h).2
  · rw [if_neg c, if_neg c]; exact ky_old (x := kx n s es) h
theorem cur_no {P : List AK} {n : List Int32} {s : Int32} {es : List AE} {v : List Int32} (hv : ∀ z ∈ es, cmpW z.1 v < 0) : curH (flA P n s es) (kyC P es) v = false := by
  unfold curH kyC flA
  by_cases c : es = []
  · rw [if_pos c]
  · rw [if_neg c, if_neg c]
    show (match (P ++ [kx n s es])[P.length]? with | some a => skT v a.2.2.2.2.2 | none => false) = false
    rw [gt_at]
    exact (sk_end hv).2
theorem sa_64 {P : List AK} {n : List Int32} (h : BHD P n) : ∀ (c es : List AE), SP (es ++ c) → (∀ z ∈ c, z.2 = ([], 0)) → saA n (flA P n 3 es) (kyC P es) (c.map (fun z => z.1)) = flA P n 3 (es ++ c) ∧ saN n (flA P n 3 es) (kyC P es) (c.map (fun z => z.1)) = c.length := by
  intro c
  induction c with
  | nil => intro es _ _; rw [List.append_nil]; exact ⟨rfl, rfl⟩
  | cons z r ih =>
    intro es hs hz
    have hl := SP_last hs
    have cn := cur_no (P := P) (n := n) (s := 3) hl
    have ez : z = (z.1, [], 0) := by rw [← hz z List.mem_cons_self]
    have e1 : upA (orA (flA P n 3 es) n 3).1 (orA (flA P n 3 es) n 3).2 (esF (ptE z.1)) = flA P n 3 (es ++ [z]) := by
      rw [or_fl h, up_fl, pt_end hl, fl_ne (by simp), ← ez]
    have e2 : some (orA (flA P n 3 es) n 3).2 = kyC P (es ++ [z]) := by
      rw [or_fl h]; unfold kyC; rw [if_neg (by simp)]
    obtain ⟨i1, i2⟩ := ih (es ++ [z]) (by rw [List.append_assoc]; exact hs) (fun y hy => hz y (List.mem_cons_of_mem _ hy))
    rw [List.append_assoc] at i1
    refine ⟨?_, ?_⟩
    · show (if curH (flA P n 3 es) (kyC P es) z.1 = true then _ else saA n (upA (orA (flA P n 3 es) n 3).1 (orA (flA P n 3 es) n 3).2 (esF (ptE z.1))) (some (orA (flA P n 3 es) n 3).2) (r.map (fun z => z.1))) = _
      rw [if_neg (by rw [cn]; decide), e1, e2]; exact i1
    · show (if curH (flA P n 3 es) (kyC P es) z.1 = true then _ else saN n (upA (orA (flA P n 3 es) n 3).1 (orA (flA P n 3 es) n 3).2 (esF (ptE z.1))) (some (orA (flA P n 3 es) n 3).2) (r.map (fun z => z.1)) + 1) = _
      rw [if_neg (by rw [cn]; decide), e1, e2, i2]; rfl
theorem cod_3 {P : List AK} {n : List Int32} (h : BHD P n) {es c : List AE} (hs : SP (es ++ c)) (hc : ∀ z ∈ c, z.2 = ([], 0)) (hn : c ≠ []) (n0 : List Int32) : coF 64 (n0 :: n :: c.map (fun z => z.1)) (flA P n 3 es) = some (P ++ [kx n 3 (es ++ c)]) := by
  show saF (flA P n 3 es) n (c.map (fun z => z.1)) = _
  unfold saF
  obtain ⟨a, b⟩ := sa_64 h c es hs hc
  rw [ky_fl h, b, a, if_neg (fun z => hn (List.length_eq_zero_iff.mp z)), fl_ne (fun z => hn (List.append_eq_nil_iff.mp z).2)]
/-- orders -/
theorem ZP_last {es : List AE} {z : AE} {c : List AE} (h : ZP (es ++ z :: c)) : ∀ y ∈ es, (y.2.2 < z.2.2 ∨ (y.2.2 = z.2.2 ∧ cmpW y.1 z.1 < 0)) ∧ ¬ cmpW y.1 z.1 = 0 := fun y hy => (List.pairwise_append.mp h).2.2 y hy z List.mem_cons_self
theorem rk_end {s : Int64} {v : List Int32} {es : List AE} (h : ∀ y ∈ es, y.2.2 < s ∨ (y.2.2 = s ∧ cmpW y.1 v < 0)) : rkE s v es = es ++ [(v, [], s)] := by
  have e : rkR s v es.reverse = 0 := by
    cases q : es.reverse with
    | nil => rfl
    | cons z r =>
      have hz : z ∈ es := by rw [← List.mem_reverse, q]; exact List.mem_cons_self
      show (if s < z.2.2 ∨ (z.2.2 = s ∧ 0 < cmpW z.1 v) then rkR s v r + 1 else 0) = 0
      rw [if_neg (fun y => ?_)]
      rcases h z hz with a | ⟨a, b⟩
      · rcases y with y | ⟨y, _⟩
        · exact absurd (Int64.lt_trans a y) (Int64.lt_irrefl)
        · rw [y] at a; exact absurd a Int64.lt_irrefl
      · rcases y with y | ⟨_, y⟩
        · rw [a] at y; exact absurd y Int64.lt_irrefl
        · omega
  unfold rkE
  rw [e, Nat.sub_zero, List.take_length, List.drop_length]
theorem fd_end {v : List Int32} : ∀ {es : List AE}, (∀ y ∈ es, ¬ cmpW y.1 v = 0) → fdE v es = none := by
  intro es
  induction es with
  | nil => intro _; rfl
  | cons z r ih =>
    intro h
    show (if cmpW z.1 v = 0 then some 0 else (fdE v r).map (fun i => i + 1)) = none
    rw [if_neg (h z List.mem_cons_self), ih (fun y hy => h y (List.mem_cons_of_mem _ hy))]; rfl
theorem zix_no {P : List AK} {n : List Int32} {s : Int32} {es : List AE} {v : List Int32} (hv : ∀ z ∈ es, ¬ cmpW z.1 v = 0) : zIx (flA P n s es) (kyC P es) v = none := by
  unfold zIx kyC flA
  by_cases c : es = []
  · rw [if_pos c]
  · rw [if_neg c, if_neg c]
    show (match (P ++ [kx n s es])[P.length]? with | none => none | some a => (match fdE v a.2.2.2.2.2 with | none => none | some i => (match a.2.2.2.2.2[i]? with | some z => some (i, z.2.2) | none => none))) = none
    rw [gt_at]
    show (match fdE v es with | none => none | some i => (match es[i]? with | some z => some (i, z.2.2) | none => none)) = none
    rw [fd_end hv]
abbrev zwL (c : List AE) : List (List Int32) := c.flatMap (fun z => [dec z.2.2, z.1])
theorem za_78 {P : List AK} {n : List Int32} (h : BHD P n) : ∀ (c es : List AE), ZP (es ++ c) → (∀ z ∈ c, z.2.1 = []) → zaA 0 0 0 0 0 n (flA P n 4 es) (kyC P es) (zwL c) = flA P n 4 (es ++ c) ∧ zaN 0 0 0 0 0 n (flA P n 4 es) (kyC P es) (zwL c) = c.length := by
  intro c
  induction c with
  | nil => intro es _ _; rw [List.append_nil]; exact ⟨rfl, rfl⟩
  | cons z r ih =>
    intro es hs hz
    have hl := ZP_last hs
    have zn := zix_no (P := P) (n := n) (s := 4) (fun y hy => (hl y hy).2)
    have ez : z = (z.1, [], z.2.2) := by rw [← hz z List.mem_cons_self]
    have e1 : zNew (flA P n 4 es) n (kyC P es) none z.2.2 z.1 = (flA P n 4 (es ++ [z]), P.length) := by
      show (upA (orA (flA P n 4 es) n 4).1 (orA (flA P n 4 es) n 4).2 (esF (rkE z.2.2 z.1)), (orA (flA P n 4 es) n 4).2) = _
      rw [or_fl h, up_fl, rk_end (fun y hy => (hl y hy).1), fl_ne (by simp), ← ez]
    have e2 : some P.length = kyC P (es ++ [z]) := by unfold kyC; rw [if_neg (by simp)]
    obtain ⟨i1, i2⟩ := ih (es ++ [z]) (by rw [List.append_assoc]; exact hs) (fun y hy => hz y (List.mem_cons_of_mem _ hy))
    rw [List.append_assoc] at i1
    refine ⟨?_, ?_⟩
    · show (match intF (dec z.2.2) with | none => flA P n 4 es | some s0 => if zGo 0 0 0 0 (zIx (flA P n 4 es) (kyC P es) z.1) (zSc 0 0 (zIx (flA P n 4 es) (kyC P es) z.1) s0) = true then zaA 0 0 0 0 0 n (zNew (flA P n 4 es) n (kyC P es) (zIx (flA P n 4 es) (kyC P es) z.1) (zSc 0 0 (zIx (flA P n 4 es) (kyC P es) z.1) s0) z.1).1 (some (zNew (flA P n 4 es) n (kyC P es) (zIx (flA P n 4 es) (kyC P es) z.1) (zSc 0 0 (zIx (flA P n 4 es) (kyC P es) z.1) s0) z.1).2) (zwL r) else zaA 0 0 0 0 0 n (flA P n 4 es) (kyC P es) (zwL r)) = _
      rw [int_all, zn]
      show (if zGo 0 0 0 0 none z.2.2 = true then zaA 0 0 0 0 0 n (zNew (flA P n 4 es) n (kyC P es) none z.2.2 z.1).1 (some (zNew (flA P n 4 es) n (kyC P es) none z.2.2 z.1).2) (zwL r) else _) = _
      rw [if_pos (show zGo 0 0 0 0 none z.2.2 = true from rfl), e1]
      show zaA 0 0 0 0 0 n (flA P n 4 (es ++ [z])) (some P.length) (zwL r) = _
      rw [e2]; exact i1
    · show (match intF (dec z.2.2) with | none => 0 | some s0 => if zGo 0 0 0 0 (zIx (flA P n 4 es) (kyC P es) z.1) (zSc 0 0 (zIx (flA P n 4 es) (kyC P es) z.1) s0) = true then zaN 0 0 0 0 0 n (zNew (flA P n 4 es) n (kyC P es) (zIx (flA P n 4 es) (kyC P es) z.1) (zSc 0 0 (zIx (flA P n 4 es) (kyC P es) z.1) s0) z.1).1 (some (zNew (flA P n 4 es) n (kyC P es) (zIx (flA P n 4 es) (kyC P es) z.1) (zSc 0 0 (zIx (flA P n 4 es) (kyC P es) z.1) s0) z.1).2) (zwL r) + 1 else zaN 0 0 0 0 0 n (flA P n 4 es) (kyC P es) (zwL r)) = _
      rw [int_all, zn]
      show (if zGo 0 0 0 0 none z.2.2 = true then zaN 0 0 0 0 0 n (zNew (flA P n 4 es) n (kyC P es) none z.2.2 z.1).1 (some (zNew (flA P n 4 es) n (kyC P es) none z.2.2 z.1).2) (zwL r) + 1 else _) = _
      rw [if_pos (show zGo 0 0 0 0 none z.2.2 = true from rfl), e1]
      show zaN 0 0 0 0 0 n (flA P n 4 (es ++ [z])) (some P.length) (zwL r) + 1 = _
      rw [e2, i2]; rfl
theorem zob_all : ∀ c : List AE, zOb (zwL c) = true := by
  intro c
  induction c with
  | nil => rfl
  | cons z r ih =>
    show ((intF (dec z.2.2)).isSome && zOb (zwL r)) = true
    rw [int_all, ih]; rfl
end DUMP1
