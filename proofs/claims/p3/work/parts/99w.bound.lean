/-! Bounds of scores. -/
section BOUND
variable {Y : Nat → MethodName × ByteArray} {d : Nat}
abbrev mnL : Int64 := Int64.ofInt (-9223372036854775808)
abbrev mxL : Int64 := Int64.ofInt 9223372036854775807
def bdO (w : List Int32) : Bool := decide (w.head? = some 40)
def bdN (low : Bool) (out : Bool) (ns : Int32) (n : Int64) : Int64 × Int32 := if out = true then (if low = true then (if n = mxL then (n, 1) else (n + 1, ns)) else (if n = mnL then (n, 1) else (n - 1, ns))) else (n, ns)
def bdF (w : List Int32) (low : Bool) (ns : Int32) : Option (Int64 × Int32) := if isF w 759778886 = 1 then some (mnL, if ¬ ns = 0 ∨ low = false then 1 else 0) else if isF w 726224454 = 1 then some (mxL, if ¬ ns = 0 ∨ low = true then 1 else 0) else (intF (w.drop (if bdO w = true then 1 else 0))).map (bdN low (bdO w) ns)
def bdQ (σ u : mjS) (low : Bool) (q : Int64 × Int32) : Prop := u.1 f_noScore = q.2 ∧ (low = true → u.2.1 f_lowScore = q.1 ∧ u.2.1 f_highScore = σ.2.1 f_highScore) ∧ (low = false → u.2.1 f_highScore = q.1 ∧ u.2.1 f_lowScore = σ.2.1 f_lowScore)
abbrev bdFs : List Nat := [f_num, f_lowScore, f_highScore, f_noScore]
def bdK (σ : mjS) (w : List Int32) (low : Bool) : mjK := fun r u => r = some (.int (bI (bdF w low (σ.1 f_noScore)).isSome)) ∧ Fr bdFs [] σ u ∧ ∀ q, bdF w low (σ.1 f_noScore) = some q → bdQ σ u low q
theorem Fr.bd {σ : mjS} {k : Nat} {v : Int64} {j : Nat} {x : Int32} (hk : k ∈ bdFs) (hj : j ∈ bdFs) : Fr bdFs [] σ (upd σ.1 j x, vp_updL σ.2.1 k v, σ.2.2) := (Fr.l (σ := σ) (v := v) hk).tr (Fr.i (σ := (σ.1, vp_updL σ.2.1 k v, σ.2.2)) hj)
theorem bd_head {f : Nat → Int32} {a n : Nat} {w : List Int32} (h : wd f a n = w) (hn : 0 < n) : w.head? = some (f a) := by
  obtain ⟨m, rfl⟩ := Nat.exists_eq_add_of_lt hn
  rw [← h, show 0 + m + 1 = m + 1 by omega, wd_s]; rfl
set_option maxRecDepth 100000 in
theorem c_bound_1 {σ : mjS} {ws : List (List Int32)} {ks : List KR} {l : List Int32} (h : Wd σ ws ks l) (ty : mjTY σ) {i : Nat} {w : List Int32} (hw : ws[i]? = some w) {x : Int32} (ex : x = nI i) : mjY mjPP (mjQQ Y) (d + 4) 62 0 (mjL0 5 [.ref 0, .int x, .int 1]) [] σ (bdK σ w true) := by
  obtain ⟨v1, a, ea, el, ha, ew⟩ := h.2.1.clamp hw ex
  have s76 : ∀ (o : Bool) (x3 x4 : Int32), x3 = bI o → x4 = bI o → bdO w = o → ¬ isF w 759778886 = 1 → ¬ isF w 726224454 = 1 → mjY mjPP (mjQQ Y) (d + 4) 62 76 [some (.ref 0), some (.int x), some (.int 1), some (.int x3), some (.int x4)] [] σ (bdK σ w true) := by
    intro o x3 x4 e3 e4 ho n1 n2
    have hF : ∀ ns, bdF w true ns = (intF (w.drop (if o = true then 1 else 0))).map (bdN true o ns) := fun ns => by unfold bdF; rw [if_neg n1, if_neg n2, ho]
    have hlen : (if o = true then 1 else 0) ≤ w.length := by
      cases o with
      | false => exact Nat.zero_le _
      | true =>
        have := of_decide_eq_true ho
        cases w with
        | nil => cases this
        | cons b r => exact Nat.succ_le_succ (Nat.zero_le _)
    have e4' : x4 = nI (if o = true then 1 else 0) := by rw [e4]; cases o <;> rfl
    have eA : σ.2.2.1 r_aAt x.toNatClampNeg + x4 = nI (a + (if o = true then 1 else 0)) := by rw [ea, e4']; exact nI_add _ _
    have eL : σ.2.2.1 r_aLen x.toNatClampNeg - x4 = nI (w.length - (if o = true then 1 else 0)) := by rw [el, e4']; exact pk_sub hlen
    have hci := c_integerAt (Y := Y) (d := d + 3) ty r_req (a + (if o = true then 1 else 0)) (w.length - (if o = true then 1 else 0)) rfl (by show _ ≤ 131200; omega) (by decide)
    rw [← eA, ← eL, ← wd_drop ew hlen] at hci
    refine mjZ_y rfl rfl 16 _ _ _ _ ty ?_
    refine (And.intro rfl (And.intro rfl (And.intro rfl (And.intro v1 (And.intro rfl (And.intro rfl (And.intro v1 (And.intro (Nat.le_of_ble_eq_true rfl) (And.intro rfl (And.intro (Nat.le_of_ble_eq_true rfl) (And.intro (Nat.le_of_ble_eq_true rfl) (mjY_mono ty (fun q_ u2 ty2 h_ => ?_) (hci)))))))))))))
    have hz := h_
    intro _
    unfold bdK
    rw [hF]
    unfold iaK at hz
    cases hn : intF (w.drop (if o = true then 1 else 0)) with
    | none =>
      rw [hn] at hz
      obtain ⟨rfl, rfl⟩ := hz
      refine mjZ_y rfl rfl 1 _ _ _ _ ty2 ?_
      refine And.intro (fun c => ?_) (fun c => ?_)
      · exact absurd rfl c
      · refine mjZ_y rfl rfl 2 _ _ _ _ ty2 ?_
        refine And.intro rfl (And.intro (Or.inr ⟨rfl, Or.inl rfl⟩) ?_)
        exact ⟨rfl, Fr.rf, fun q y => by cases y⟩
    | some n =>
      rw [hn] at hz
      obtain ⟨rfl, f2, en⟩ := hz
      have ens : u2.1 f_noScore = σ.1 f_noScore := f2.1 _ (by decide)
      have eg : u2.2.1 f_highScore = σ.2.1 f_highScore := f2.2.1 _ (by decide)
      have f2b : Fr bdFs [] σ u2 := f2.up (by decide) (by decide)
      refine mjZ_y rfl rfl 1 _ _ _ _ ty2 ?_
      refine And.intro (fun c => ?_) (fun c => ?_)
      · cases o with
        | false =>
          subst e3
          subst e4
          refine mjZ_y rfl rfl 12 _ _ _ _ ty2 ?_
          refine (bk_f rfl (And.intro rfl (And.intro rfl (And.intro rfl (fun ty2' => (bk_t rfl (bk_t rfl (And.intro rfl (And.intro (Or.inr ⟨rfl, Or.inr rfl⟩) ?_)))))))))
          refine ⟨rfl, f2b.tr (Fr.l (by decide)), fun q y => ?_⟩
          have y : (n, σ.1 f_noScore) = q := Option.some.inj y
          rw [← y]
          exact ⟨ens, fun _ => ⟨(pk_uLs (f := u2.2.1) (k := f_lowScore) (x := u2.2.1 f_num)).trans en, (pk_uLn (f := u2.2.1) (k := f_lowScore) (x := u2.2.1 f_num) (j := f_highScore) (by decide)).trans eg⟩, fun z => (by cases z)⟩
        | true =>
          subst e3
          subst e4
          refine mjZ_y rfl rfl 13 _ _ _ _ ty2 ?_
          refine (bk_f rfl (And.intro rfl (And.intro rfl (And.intro rfl (fun ty2' => (bk_f rfl (And.intro rfl (And.intro (fun b => ?_) (fun b => ?_)))))))))
          · have b : ¬ n = mxL := fun y => b ((lg_cmp_eq _ _).mpr (show vp_updL u2.2.1 f_lowScore (u2.2.1 f_num) f_num = mxL from (pk_uLn (f := u2.2.1) (k := f_lowScore) (x := u2.2.1 f_num) (j := f_num) (by decide)).trans (en.trans y)))
            have eN : bdN true true (σ.1 f_noScore) n = (n + 1, σ.1 f_noScore) := if_neg b
            refine mjZ_y rfl rfl 11 _ _ _ _ ty2' ?_
            refine (bk_f rfl (And.intro rfl (And.intro rfl (And.intro rfl (fun ty2'' => And.intro rfl (And.intro (Or.inr ⟨rfl, Or.inr rfl⟩) ?_))))))
            refine ⟨rfl, (f2b.tr (Fr.l (by decide))).tr (Fr.l (by decide)), fun q y => ?_⟩
            have y : bdN true true (σ.1 f_noScore) n = q := Option.some.inj y
            rw [← y, eN, ← en]
            exact ⟨ens, fun _ => ⟨pk_uLs (f := vp_updL u2.2.1 f_lowScore (u2.2.1 f_num)) (k := f_lowScore) (x := u2.2.1 f_num + 1), ((pk_uLn (f := vp_updL u2.2.1 f_lowScore (u2.2.1 f_num)) (k := f_lowScore) (x := u2.2.1 f_num + 1) (j := f_highScore) (by decide)).trans (pk_uLn (f := u2.2.1) (k := f_lowScore) (x := u2.2.1 f_num) (j := f_highScore) (by decide))).trans eg⟩, fun z => (by cases z)⟩
          · have b : n = mxL := en.symm.trans ((lg_cmp_eq _ _).mp (Decidable.of_not_not b))
            have eN : bdN true true (σ.1 f_noScore) n = (n, 1) := if_pos b
            refine mjZ_y rfl rfl 6 _ _ _ _ ty2' ?_
            refine (And.intro rfl (And.intro (Or.inr ⟨rfl, Or.inr rfl⟩) (fun ty2'' => And.intro rfl (And.intro (Or.inr ⟨rfl, Or.inr rfl⟩) ?_))))
            refine ⟨rfl, f2b.tr (Fr.bd (by decide) (by decide)), fun q y => ?_⟩
            have y : bdN true true (σ.1 f_noScore) n = q := Option.some.inj y
            rw [← y, eN]
            exact ⟨pk_us (f := u2.1) (k := f_noScore) (x := 1), fun _ => ⟨(pk_uLs (f := u2.2.1) (k := f_lowScore) (x := u2.2.1 f_num)).trans en, (pk_uLn (f := u2.2.1) (k := f_lowScore) (x := u2.2.1 f_num) (j := f_highScore) (by decide)).trans eg⟩, fun z => (by cases z)⟩
      · exact absurd (show ¬ (1 : Int32) = 0 by decide) c
  have s52 : ¬ isF w 759778886 = 1 → ¬ isF w 726224454 = 1 → mjY mjPP (mjQQ Y) (d + 4) 62 52 [some (.ref 0), some (.int x), some (.int 1), none, none] [] σ (bdK σ w true) := by
    intro n1 n2
    refine mjZ_y rfl rfl 5 _ _ _ _ ty ?_
    refine (And.intro rfl (And.intro rfl (And.intro v1 (And.intro (fun c => ?_) (fun c => ?_)))))
    · have c : w.length = 0 := by
        have c : σ.2.2.1 r_aLen x.toNatClampNeg ≤ nI 0 := c
        rw [el] at c
        have := (nI_leI (by omega) (by decide)).mp c; omega
      have hb : bdO w = false := decide_eq_false (by rw [List.length_eq_zero_iff.mp c]; intro z; cases z)
      refine mjZ_y rfl rfl 6 _ _ _ _ ty ?_
      refine (And.intro (Nat.le_of_ble_eq_true rfl) (And.intro (Nat.le_of_ble_eq_true rfl) (bk_t rfl ?_)))
      exact s76 false _ _ rfl rfl hb n1 n2
    · have c : 0 < w.length := Nat.pos_of_ne_zero (fun z => c (show σ.2.2.1 r_aLen x.toNatClampNeg ≤ nI 0 by rw [el, z]; exact nI_le (Nat.le_refl _) (by decide)))
      have va : vp_in (σ.2.2.1 r_aAt x.toNatClampNeg) 131200 := by rw [ea]; exact vp_in_nI (by omega) (by decide)
      have eh : w.head? = some (σ.2.2.1 r_req (σ.2.2.1 r_aAt x.toNatClampNeg).toNatClampNeg) := by rw [bd_head ew c, ea, nI_clamp (by omega)]
      refine mjZ_y rfl rfl 9 _ _ _ _ ty ?_
      refine (And.intro rfl (And.intro rfl (And.intro rfl (And.intro v1 (And.intro (Or.inl rfl) (And.intro va (And.intro (fun b => ?_) (fun b => ?_))))))))
      · have hb : bdO w = false := decide_eq_false (by rw [eh]; intro z; exact b (Option.some.inj z))
        refine mjZ_y rfl rfl 6 _ _ _ _ ty ?_
        refine (And.intro (Nat.le_of_ble_eq_true rfl) (And.intro (Nat.le_of_ble_eq_true rfl) (bk_t rfl ?_)))
        exact s76 false _ _ rfl rfl hb n1 n2
      · have hb : bdO w = true := decide_eq_true (by rw [eh]; exact congrArg some (Decidable.of_not_not b))
        refine mjZ_y rfl rfl 9 _ _ _ _ ty ?_
        refine (And.intro (Nat.le_of_ble_eq_true rfl) (And.intro (Nat.le_of_ble_eq_true rfl) (bk_f rfl (And.intro (Nat.le_of_ble_eq_true rfl) ?_))))
        exact s76 true _ _ rfl rfl hb n1 n2
  have s26 : ¬ isF w 759778886 = 1 → mjY mjPP (mjQQ Y) (d + 4) 62 26 [some (.ref 0), some (.int x), some (.int 1), none, none] [] σ (bdK σ w true) := by
    intro n1
    refine mjZ_y rfl rfl 4 _ _ _ _ ty ?_
    refine (And.intro (Nat.le_of_ble_eq_true rfl) (And.intro rfl (And.intro (Nat.le_of_ble_eq_true rfl) (And.intro (Nat.le_of_ble_eq_true rfl) (mjY_mono ty (fun q_ u2 ty2 h_ => ?_) (w_is h ty hw ex 726224454))))))
    obtain ⟨rfl, rfl⟩ := h_
    intro _
    refine mjZ_y rfl rfl 1 _ _ _ _ ty2 ?_
    refine And.intro (fun c => ?_) (fun c => ?_)
    · exact s52 n1 (isF_ne c)
    · have c := isF_n c
      have eF : ∀ ns, bdF w true ns = some (mxL, if ¬ ns = 0 ∨ true = true then 1 else 0) := fun ns => by unfold bdF; rw [if_neg n1, if_pos c]
      unfold bdK
      rw [eF]
      refine mjZ_y rfl rfl 10 _ _ _ _ ty2 ?_
      refine (bk_f rfl (And.intro rfl (And.intro rfl (fun ty2' => (And.intro rfl (And.intro (fun b => ?_) (fun b => ?_)))))))
      · refine mjZ_y rfl rfl 5 _ _ _ _ ty2' ?_
        refine (And.intro rfl (And.intro (Or.inr ⟨rfl, Or.inr rfl⟩) (fun ty2'' => And.intro rfl (And.intro (Or.inr ⟨rfl, Or.inr rfl⟩) ?_))))
        refine ⟨rfl, Fr.bd (by decide) (by decide), fun q y => ?_⟩
        have y := Option.some.inj y
        rw [← y, if_pos (Or.inl (show ¬ u2.1 f_noScore = 0 from b))]
        exact ⟨pk_us (f := u2.1) (k := f_noScore) (x := 1), fun _ => ⟨pk_uLs (f := u2.2.1) (k := f_lowScore) (x := mxL), pk_uLn (f := u2.2.1) (k := f_lowScore) (x := mxL) (j := f_highScore) (by decide)⟩, fun z => (by cases z)⟩
      · refine mjZ_y rfl rfl 7 _ _ _ _ ty2' ?_
        refine (bk_f rfl (And.intro rfl (And.intro (Or.inr ⟨rfl, Or.inr rfl⟩) (fun ty2'' => And.intro rfl (And.intro (Or.inr ⟨rfl, Or.inr rfl⟩) ?_)))))
        refine ⟨rfl, Fr.bd (by decide) (by decide), fun q y => ?_⟩
        have y := Option.some.inj y
        rw [← y, if_pos (Or.inr rfl)]
        exact ⟨pk_us (f := u2.1) (k := f_noScore) (x := 1), fun _ => ⟨pk_uLs (f := u2.2.1) (k := f_lowScore) (x := mxL), pk_uLn (f := u2.2.1) (k := f_lowScore) (x := mxL) (j := f_highScore) (by decide)⟩, fun z => (by cases z)⟩
  refine mjZ_y rfl rfl 4 _ _ _ _ ty ?_
  refine (And.intro (Nat.le_of_ble_eq_true rfl) (And.intro rfl (And.intro (Nat.le_of_ble_eq_true rfl) (And.intro (Nat.le_of_ble_eq_true rfl) (mjY_mono ty (fun q_ u2 ty2 h_ => ?_) (w_is h ty hw ex 759778886))))))
  obtain ⟨rfl, rfl⟩ := h_
  intro _
  refine mjZ_y rfl rfl 1 _ _ _ _ ty2 ?_
  refine And.intro (fun c => ?_) (fun c => ?_)
  · exact s26 (isF_ne c)
  · have c := isF_n c
    have eF : ∀ ns, bdF w true ns = some (mnL, if ¬ ns = 0 ∨ true = false then 1 else 0) := fun ns => by unfold bdF; rw [if_pos c]
    unfold bdK
    rw [eF]
    refine mjZ_y rfl rfl 10 _ _ _ _ ty2 ?_
    refine (bk_f rfl (And.intro rfl (And.intro rfl (fun ty2' => (And.intro rfl (And.intro (fun b => ?_) (fun b => ?_)))))))
    · refine mjZ_y rfl rfl 5 _ _ _ _ ty2' ?_
      refine (And.intro rfl (And.intro (Or.inr ⟨rfl, Or.inr rfl⟩) (fun ty2'' => And.intro rfl (And.intro (Or.inr ⟨rfl, Or.inr rfl⟩) ?_))))
      refine ⟨rfl, Fr.bd (by decide) (by decide), fun q y => ?_⟩
      have y := Option.some.inj y
      rw [← y, if_pos (Or.inl (show ¬ u2.1 f_noScore = 0 from b))]
      exact ⟨pk_us (f := u2.1) (k := f_noScore) (x := 1), fun _ => ⟨pk_uLs (f := u2.2.1) (k := f_lowScore) (x := mnL), pk_uLn (f := u2.2.1) (k := f_lowScore) (x := mnL) (j := f_highScore) (by decide)⟩, fun z => (by cases z)⟩
    · refine mjZ_y rfl rfl 6 _ _ _ _ ty2' ?_
      refine (bk_t rfl (And.intro rfl (And.intro (Or.inr ⟨rfl, Or.inl rfl⟩) (fun ty2'' => And.intro rfl (And.intro (Or.inr ⟨rfl, Or.inr rfl⟩) ?_)))))
      refine ⟨rfl, Fr.bd (by decide) (by decide), fun q y => ?_⟩
      have y := Option.some.inj y
      rw [← y, if_neg (fun z => z.elim b (fun z => by cases z))]
      exact ⟨pk_us (f := u2.1) (k := f_noScore) (x := 0), fun _ => ⟨pk_uLs (f := u2.2.1) (k := f_lowScore) (x := mnL), pk_uLn (f := u2.2.1) (k := f_lowScore) (x := mnL) (j := f_highScore) (by decide)⟩, fun z => (by cases z)⟩
set_option maxRecDepth 100000 in
theorem c_bound_0 {σ : mjS} {ws : List (List Int32)} {ks : List KR} {l : List Int32} (h : Wd σ ws ks l) (ty : mjTY σ) {i : Nat} {w : List Int32} (hw : ws[i]? = some w) {x : Int32} (ex : x = nI i) : mjY mjPP (mjQQ Y) (d + 4) 62 0 (mjL0 5 [.ref 0, .int x, .int 0]) [] σ (bdK σ w false) := by
  obtain ⟨v1, a, ea, el, ha, ew⟩ := h.2.1.clamp hw ex
  have s76 : ∀ (o : Bool) (x3 x4 : Int32), x3 = bI o → x4 = bI o → bdO w = o → ¬ isF w 759778886 = 1 → ¬ isF w 726224454 = 1 → mjY mjPP (mjQQ Y) (d + 4) 62 76 [some (.ref 0), some (.int x), some (.int 0), some (.int x3), some (.int x4)] [] σ (bdK σ w false) := by
    intro o x3 x4 e3 e4 ho n1 n2
    have hF : ∀ ns, bdF w false ns = (intF (w.drop (if o = true then 1 else 0))).map (bdN false o ns) := fun ns => by unfold bdF; rw [if_neg n1, if_neg n2, ho]
    have hlen : (if o = true then 1 else 0) ≤ w.length := by
      cases o with
      | false => exact Nat.zero_le _
      | true =>
        have := of_decide_eq_true ho
        cases w with
        | nil => cases this
        | cons b r => exact Nat.succ_le_succ (Nat.zero_le _)
    have e4' : x4 = nI (if o = true then 1 else 0) := by rw [e4]; cases o <;> rfl
    have eA : σ.2.2.1 r_aAt x.toNatClampNeg + x4 = nI (a + (if o = true then 1 else 0)) := by rw [ea, e4']; exact nI_add _ _
    have eL : σ.2.2.1 r_aLen x.toNatClampNeg - x4 = nI (w.length - (if o = true then 1 else 0)) := by rw [el, e4']; exact pk_sub hlen
    have hci := c_integerAt (Y := Y) (d := d + 3) ty r_req (a + (if o = true then 1 else 0)) (w.length - (if o = true then 1 else 0)) rfl (by show _ ≤ 131200; omega) (by decide)
    rw [← eA, ← eL, ← wd_drop ew hlen] at hci
    refine mjZ_y rfl rfl 16 _ _ _ _ ty ?_
    refine (And.intro rfl (And.intro rfl (And.intro rfl (And.intro v1 (And.intro rfl (And.intro rfl (And.intro v1 (And.intro (Nat.le_of_ble_eq_true rfl) (And.intro rfl (And.intro (Nat.le_of_ble_eq_true rfl) (And.intro (Nat.le_of_ble_eq_true rfl) (mjY_mono ty (fun q_ u2 ty2 h_ => ?_) (hci)))))))))))))
    have hz := h_
    intro _
    unfold bdK
    rw [hF]
    unfold iaK at hz
    cases hn : intF (w.drop (if o = true then 1 else 0)) with
    | none =>
      rw [hn] at hz
      obtain ⟨rfl, rfl⟩ := hz
      refine mjZ_y rfl rfl 1 _ _ _ _ ty2 ?_
      refine And.intro (fun c => ?_) (fun c => ?_)
      · exact absurd rfl c
      · refine mjZ_y rfl rfl 2 _ _ _ _ ty2 ?_
        refine And.intro rfl (And.intro (Or.inr ⟨rfl, Or.inl rfl⟩) ?_)
        exact ⟨rfl, Fr.rf, fun q y => by cases y⟩
    | some n =>
      rw [hn] at hz
      obtain ⟨rfl, f2, en⟩ := hz
      have ens : u2.1 f_noScore = σ.1 f_noScore := f2.1 _ (by decide)
      have eg : u2.2.1 f_lowScore = σ.2.1 f_lowScore := f2.2.1 _ (by decide)
      have f2b : Fr bdFs [] σ u2 := f2.up (by decide) (by decide)
      refine mjZ_y rfl rfl 1 _ _ _ _ ty2 ?_
      refine And.intro (fun c => ?_) (fun c => ?_)
      · cases o with
        | false =>
          subst e3
          subst e4
          refine mjZ_y rfl rfl 12 _ _ _ _ ty2 ?_
          refine (bk_t rfl (And.intro rfl (And.intro rfl (And.intro rfl (fun ty2' => (bk_t rfl (bk_t rfl (And.intro rfl (And.intro (Or.inr ⟨rfl, Or.inr rfl⟩) ?_)))))))))
          refine ⟨rfl, f2b.tr (Fr.l (by decide)), fun q y => ?_⟩
          have y : (n, σ.1 f_noScore) = q := Option.some.inj y
          rw [← y]
          exact ⟨ens, fun z => (by cases z), fun _ => ⟨(pk_uLs (f := u2.2.1) (k := f_highScore) (x := u2.2.1 f_num)).trans en, (pk_uLn (f := u2.2.1) (k := f_highScore) (x := u2.2.1 f_num) (j := f_lowScore) (by decide)).trans eg⟩⟩
        | true =>
          subst e3
          subst e4
          refine mjZ_y rfl rfl 13 _ _ _ _ ty2 ?_
          refine (bk_t rfl (And.intro rfl (And.intro rfl (And.intro rfl (fun ty2' => (bk_f rfl (And.intro rfl (And.intro (fun b => ?_) (fun b => ?_)))))))))
          · have b : ¬ n = mnL := fun y => b ((lg_cmp_eq _ _).mpr (show vp_updL u2.2.1 f_highScore (u2.2.1 f_num) f_num = mnL from (pk_uLn (f := u2.2.1) (k := f_highScore) (x := u2.2.1 f_num) (j := f_num) (by decide)).trans (en.trans y)))
            have eN : bdN false true (σ.1 f_noScore) n = (n - 1, σ.1 f_noScore) := if_neg b
            refine mjZ_y rfl rfl 10 _ _ _ _ ty2' ?_
            refine (bk_f rfl (And.intro rfl (And.intro rfl (And.intro rfl (fun ty2'' => And.intro rfl (And.intro (Or.inr ⟨rfl, Or.inr rfl⟩) ?_))))))
            refine ⟨rfl, (f2b.tr (Fr.l (by decide))).tr (Fr.l (by decide)), fun q y => ?_⟩
            have y : bdN false true (σ.1 f_noScore) n = q := Option.some.inj y
            rw [← y, eN, ← en]
            exact ⟨ens, fun z => (by cases z), fun _ => ⟨pk_uLs (f := vp_updL u2.2.1 f_highScore (u2.2.1 f_num)) (k := f_highScore) (x := u2.2.1 f_num - 1), ((pk_uLn (f := vp_updL u2.2.1 f_highScore (u2.2.1 f_num)) (k := f_highScore) (x := u2.2.1 f_num - 1) (j := f_lowScore) (by decide)).trans (pk_uLn (f := u2.2.1) (k := f_highScore) (x := u2.2.1 f_num) (j := f_lowScore) (by decide))).trans eg⟩⟩
          · have b : n = mnL := en.symm.trans ((lg_cmp_eq _ _).mp (Decidable.of_not_not b))
            have eN : bdN false true (σ.1 f_noScore) n = (n, 1) := if_pos b
            refine mjZ_y rfl rfl 6 _ _ _ _ ty2' ?_
            refine (And.intro rfl (And.intro (Or.inr ⟨rfl, Or.inr rfl⟩) (fun ty2'' => And.intro rfl (And.intro (Or.inr ⟨rfl, Or.inr rfl⟩) ?_))))
            refine ⟨rfl, f2b.tr (Fr.bd (by decide) (by decide)), fun q y => ?_⟩
            have y : bdN false true (σ.1 f_noScore) n = q := Option.some.inj y
            rw [← y, eN]
            exact ⟨pk_us (f := u2.1) (k := f_noScore) (x := 1), fun z => (by cases z), fun _ => ⟨(pk_uLs (f := u2.2.1) (k := f_highScore) (x := u2.2.1 f_num)).trans en, (pk_uLn (f := u2.2.1) (k := f_highScore) (x := u2.2.1 f_num) (j := f_lowScore) (by decide)).trans eg⟩⟩
      · exact absurd (show ¬ (1 : Int32) = 0 by decide) c
  have s52 : ¬ isF w 759778886 = 1 → ¬ isF w 726224454 = 1 → mjY mjPP (mjQQ Y) (d + 4) 62 52 [some (.ref 0), some (.int x), some (.int 0), none, none] [] σ (bdK σ w false) := by
    intro n1 n2
    refine mjZ_y rfl rfl 5 _ _ _ _ ty ?_
    refine (And.intro rfl (And.intro rfl (And.intro v1 (And.intro (fun c => ?_) (fun c => ?_)))))
    · have c : w.length = 0 := by
        have c : σ.2.2.1 r_aLen x.toNatClampNeg ≤ nI 0 := c
        rw [el] at c
        have := (nI_leI (by omega) (by decide)).mp c; omega
      have hb : bdO w = false := decide_eq_false (by rw [List.length_eq_zero_iff.mp c]; intro z; cases z)
      refine mjZ_y rfl rfl 6 _ _ _ _ ty ?_
      refine (And.intro (Nat.le_of_ble_eq_true rfl) (And.intro (Nat.le_of_ble_eq_true rfl) (bk_t rfl ?_)))
      exact s76 false _ _ rfl rfl hb n1 n2
    · have c : 0 < w.length := Nat.pos_of_ne_zero (fun z => c (show σ.2.2.1 r_aLen x.toNatClampNeg ≤ nI 0 by rw [el, z]; exact nI_le (Nat.le_refl _) (by decide)))
      have va : vp_in (σ.2.2.1 r_aAt x.toNatClampNeg) 131200 := by rw [ea]; exact vp_in_nI (by omega) (by decide)
      have eh : w.head? = some (σ.2.2.1 r_req (σ.2.2.1 r_aAt x.toNatClampNeg).toNatClampNeg) := by rw [bd_head ew c, ea, nI_clamp (by omega)]
      refine mjZ_y rfl rfl 9 _ _ _ _ ty ?_
      refine (And.intro rfl (And.intro rfl (And.intro rfl (And.intro v1 (And.intro (Or.inl rfl) (And.intro va (And.intro (fun b => ?_) (fun b => ?_))))))))
      · have hb : bdO w = false := decide_eq_false (by rw [eh]; intro z; exact b (Option.some.inj z))
        refine mjZ_y rfl rfl 6 _ _ _ _ ty ?_
        refine (And.intro (Nat.le_of_ble_eq_true rfl) (And.intro (Nat.le_of_ble_eq_true rfl) (bk_t rfl ?_)))
        exact s76 false _ _ rfl rfl hb n1 n2
      · have hb : bdO w = true := decide_eq_true (by rw [eh]; exact congrArg some (Decidable.of_not_not b))
        refine mjZ_y rfl rfl 9 _ _ _ _ ty ?_
        refine (And.intro (Nat.le_of_ble_eq_true rfl) (And.intro (Nat.le_of_ble_eq_true rfl) (bk_f rfl (And.intro (Nat.le_of_ble_eq_true rfl) ?_))))
        exact s76 true _ _ rfl rfl hb n1 n2
  have s26 : ¬ isF w 759778886 = 1 → mjY mjPP (mjQQ Y) (d + 4) 62 26 [some (.ref 0), some (.int x), some (.int 0), none, none] [] σ (bdK σ w false) := by
    intro n1
    refine mjZ_y rfl rfl 4 _ _ _ _ ty ?_
    refine (And.intro (Nat.le_of_ble_eq_true rfl) (And.intro rfl (And.intro (Nat.le_of_ble_eq_true rfl) (And.intro (Nat.le_of_ble_eq_true rfl) (mjY_mono ty (fun q_ u2 ty2 h_ => ?_) (w_is h ty hw ex 726224454))))))
    obtain ⟨rfl, rfl⟩ := h_
    intro _
    refine mjZ_y rfl rfl 1 _ _ _ _ ty2 ?_
    refine And.intro (fun c => ?_) (fun c => ?_)
    · exact s52 n1 (isF_ne c)
    · have c := isF_n c
      have eF : ∀ ns, bdF w false ns = some (mxL, if ¬ ns = 0 ∨ false = true then 1 else 0) := fun ns => by unfold bdF; rw [if_neg n1, if_pos c]
      unfold bdK
      rw [eF]
      refine mjZ_y rfl rfl 9 _ _ _ _ ty2 ?_
      refine (bk_t rfl (And.intro rfl (And.intro rfl (fun ty2' => (And.intro rfl (And.intro (fun b => ?_) (fun b => ?_)))))))
      · refine mjZ_y rfl rfl 5 _ _ _ _ ty2' ?_
        refine (And.intro rfl (And.intro (Or.inr ⟨rfl, Or.inr rfl⟩) (fun ty2'' => And.intro rfl (And.intro (Or.inr ⟨rfl, Or.inr rfl⟩) ?_))))
        refine ⟨rfl, Fr.bd (by decide) (by decide), fun q y => ?_⟩
        have y := Option.some.inj y
        rw [← y, if_pos (Or.inl (show ¬ u2.1 f_noScore = 0 from b))]
        exact ⟨pk_us (f := u2.1) (k := f_noScore) (x := 1), fun z => (by cases z), fun _ => ⟨pk_uLs (f := u2.2.1) (k := f_highScore) (x := mxL), pk_uLn (f := u2.2.1) (k := f_highScore) (x := mxL) (j := f_lowScore) (by decide)⟩⟩
      · refine mjZ_y rfl rfl 6 _ _ _ _ ty2' ?_
        refine (bk_t rfl (And.intro rfl (And.intro (Or.inr ⟨rfl, Or.inl rfl⟩) (fun ty2'' => And.intro rfl (And.intro (Or.inr ⟨rfl, Or.inr rfl⟩) ?_)))))
        refine ⟨rfl, Fr.bd (by decide) (by decide), fun q y => ?_⟩
        have y := Option.some.inj y
        rw [← y, if_neg (fun z => z.elim b (fun z => by cases z))]
        exact ⟨pk_us (f := u2.1) (k := f_noScore) (x := 0), fun z => (by cases z), fun _ => ⟨pk_uLs (f := u2.2.1) (k := f_highScore) (x := mxL), pk_uLn (f := u2.2.1) (k := f_highScore) (x := mxL) (j := f_lowScore) (by decide)⟩⟩
  refine mjZ_y rfl rfl 4 _ _ _ _ ty ?_
  refine (And.intro (Nat.le_of_ble_eq_true rfl) (And.intro rfl (And.intro (Nat.le_of_ble_eq_true rfl) (And.intro (Nat.le_of_ble_eq_true rfl) (mjY_mono ty (fun q_ u2 ty2 h_ => ?_) (w_is h ty hw ex 759778886))))))
  obtain ⟨rfl, rfl⟩ := h_
  intro _
  refine mjZ_y rfl rfl 1 _ _ _ _ ty2 ?_
  refine And.intro (fun c => ?_) (fun c => ?_)
  · exact s26 (isF_ne c)
  · have c := isF_n c
    have eF : ∀ ns, bdF w false ns = some (mnL, if ¬ ns = 0 ∨ false = false then 1 else 0) := fun ns => by unfold bdF; rw [if_pos c]
    unfold bdK
    rw [eF]
    refine mjZ_y rfl rfl 9 _ _ _ _ ty2 ?_
    refine (bk_t rfl (And.intro rfl (And.intro rfl (fun ty2' => (And.intro rfl (And.intro (fun b => ?_) (fun b => ?_)))))))
    · refine mjZ_y rfl rfl 5 _ _ _ _ ty2' ?_
      refine (And.intro rfl (And.intro (Or.inr ⟨rfl, Or.inr rfl⟩) (fun ty2'' => And.intro rfl (And.intro (Or.inr ⟨rfl, Or.inr rfl⟩) ?_))))
      refine ⟨rfl, Fr.bd (by decide) (by decide), fun q y => ?_⟩
      have y := Option.some.inj y
      rw [← y, if_pos (Or.inl (show ¬ u2.1 f_noScore = 0 from b))]
      exact ⟨pk_us (f := u2.1) (k := f_noScore) (x := 1), fun z => (by cases z), fun _ => ⟨pk_uLs (f := u2.2.1) (k := f_highScore) (x := mnL), pk_uLn (f := u2.2.1) (k := f_highScore) (x := mnL) (j := f_lowScore) (by decide)⟩⟩
    · refine mjZ_y rfl rfl 7 _ _ _ _ ty2' ?_
      refine (bk_f rfl (And.intro rfl (And.intro (Or.inr ⟨rfl, Or.inr rfl⟩) (fun ty2'' => And.intro rfl (And.intro (Or.inr ⟨rfl, Or.inr rfl⟩) ?_)))))
      refine ⟨rfl, Fr.bd (by decide) (by decide), fun q y => ?_⟩
      have y := Option.some.inj y
      rw [← y, if_pos (Or.inr rfl)]
      exact ⟨pk_us (f := u2.1) (k := f_noScore) (x := 1), fun z => (by cases z), fun _ => ⟨pk_uLs (f := u2.2.1) (k := f_highScore) (x := mnL), pk_uLn (f := u2.2.1) (k := f_highScore) (x := mnL) (j := f_lowScore) (by decide)⟩⟩
end BOUND