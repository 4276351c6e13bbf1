/-! A logged request does in a replay what the command did. -/
section REPLAY
theorem zi_toInt {z : Int} (h1 : -(2 ^ 62) ≤ z) (h2 : z ≤ 2 ^ 62) : (Int64.ofInt z).toInt = z := Int64.toInt_ofInt_of_le (by omega) (by omega)
theorem lN_zi (n : Nat) : lN n = Int64.ofInt (n : Int) := rfl
theorem iaD_ok {k d : Nat} (hk : k ≤ 1000000000000000) (hd : d < 10) : iaD (-(lN k)) (nI (48 + d)) = some (-(lN (10 * k + d))) := by
  unfold iaD
  have e1 : nI (48 + d) - 48 = nI d := by
    rw [show (48 : Int32) = nI 48 from rfl, pk_sub (by omega)]; exact congrArg nI (by omega)
  rw [e1]
  have e2 : -(lN k) = Int64.ofInt (-(k : Int)) := by rw [lN_zi, ← Int64.ofInt_neg]
  have t2 : (-(lN k)).toInt = -(k : Int) := by rw [e2]; exact zi_toInt (by omega) (by omega)
  rw [if_neg (show ¬ (nI d < 0 ∨ 9 < nI d) from fun z => z.elim (fun y => absurd y (nI_n0 (by omega))) (fun y => absurd y (Int32.not_lt.mpr (nI_le (a := d) (b := 9) (by omega) (by decide)))))]
  have c1 : ¬ (-(lN k) < -922337203685477580 ∨ (-(lN k) = -922337203685477580 ∧ 8 < nI d)) := by
    have t3 : (-922337203685477580 : Int64).toInt = -922337203685477580 := by decide
    refine fun z => z.elim (fun y => ?_) (fun y => ?_)
    · have := Int64.lt_iff_toInt_lt.mp y; rw [t2, t3] at this; omega
    · have := congrArg Int64.toInt y.1; rw [t2, t3] at this; omega
  rw [if_neg c1]
  refine congrArg some ?_
  have e3 : (nI d).toInt64 = Int64.ofInt (d : Int) := by
    apply Int64.toInt_inj.mp
    rw [Int32.toInt_toInt64, nI_toInt (by omega), zi_toInt (by omega) (by omega)]
  rw [e2, e3, show (10 : Int64) = Int64.ofInt 10 from rfl, ← Int64.ofInt_mul, ← Int64.ofInt_sub, lN_zi, ← Int64.ofInt_neg]
  exact congrArg Int64.ofInt (by omega)
theorem iaL_app (a b : List Int32) : ∀ v, iaL (a ++ b) v = (iaL a v).bind (fun u => iaL b u) := by
  induction a with
  | nil => intro v; rfl
  | cons x a ih =>
    intro v
    show (match iaD v x with | none => none | some v' => iaL (a ++ b) v') = (match iaD v x with | none => none | some v' => iaL a v').bind (fun u => iaL b u)
    cases iaD v x with
    | none => rfl
    | some u => exact ih u
theorem iaL_dec : ∀ (f m : Nat), m ≤ 9999999999999999 → m < 10 ^ (f + 1) → iaL (decN f m) 0 = some (-(lN m)) := by
  intro f
  induction f with
  | zero =>
    intro m h1 h2
    have h2 : m < 10 := h2
    show iaL [nI (48 + m % 10)] 0 = _
    rw [Nat.mod_eq_of_lt h2]
    have := iaD_ok (k := 0) (d := m) (by omega) h2
    show (match iaD 0 (nI (48 + m)) with | none => none | some v' => iaL [] v') = _
    rw [show (0 : Int64) = -(lN 0) from rfl, this, show 10 * 0 + m = m by omega]; rfl
  | succ f ih =>
    intro m h1 h2
    show iaL (if m < 10 then [nI (48 + m)] else decN f (m / 10) ++ [nI (48 + m % 10)]) 0 = _
    by_cases c : m < 10
    · rw [if_pos c]
      have := iaD_ok (k := 0) (d := m) (by omega) c
      show (match iaD 0 (nI (48 + m)) with | none => none | some v' => iaL [] v') = _
      rw [show (0 : Int64) = -(lN 0) from rfl, this, show 10 * 0 + m = m by omega]; rfl
    · rw [if_neg c, iaL_app, ih (m / 10) (by omega) (by rw [Nat.pow_succ] at h2; omega)]
      have := iaD_ok (k := m / 10) (d := m % 10) (by omega) (Nat.mod_lt _ (by decide))
      show (match iaD (-(lN (m / 10))) (nI (48 + m % 10)) with | none => none | some v' => iaL [] v') = _
      rw [this, show 10 * (m / 10) + m % 10 = m by omega]; rfl
theorem decN_len2 : ∀ (k f m : Nat), m < 10 ^ k → 1 ≤ k → 1 ≤ (decN f m).length ∧ (decN f m).length ≤ k := by
  intro k
  induction k with
  | zero => intro f m _ h; omega
  | succ k ih =>
    intro f m h _
    cases f with
    | zero => exact ⟨Nat.le_refl _, by show 1 ≤ _; omega⟩
    | succ f =>
      show 1 ≤ (if m < 10 then [nI (48 + m)] else decN f (m / 10) ++ [nI (48 + m % 10)]).length ∧ (if m < 10 then [nI (48 + m)] else decN f (m / 10) ++ [nI (48 + m % 10)]).length ≤ _
      by_cases c : m < 10
      · rw [if_pos c]; exact ⟨Nat.le_refl _, by show 1 ≤ _; omega⟩
      · rw [if_neg c, List.length_append]
        have hk : 1 ≤ k := by
          cases k with
          | zero => exact absurd h (by omega)
          | succ k => omega
        have := ih f (m / 10) (by rw [Nat.pow_succ] at h; omega) hk
        show 1 ≤ _ + 1 ∧ _ + 1 ≤ _; omega
theorem decN_head : ∀ (f m : Nat), 1 ≤ m → m < 10 ^ (f + 1) → ∃ d r, decN f m = nI (48 + d) :: r ∧ 1 ≤ d ∧ d < 10 := by
  intro f
  induction f with
  | zero =>
    intro m h1 h2
    have h2 : m < 10 := h2
    exact ⟨m, [], by show [nI (48 + m % 10)] = _; rw [Nat.mod_eq_of_lt h2], h1, h2⟩
  | succ f ih =>
    intro m h1 h2
    show ∃ d r, (if m < 10 then [nI (48 + m)] else decN f (m / 10) ++ [nI (48 + m % 10)]) = _ ∧ _
    by_cases c : m < 10
    · rw [if_pos c]; exact ⟨m, [], rfl, h1, c⟩
    · rw [if_neg c]
      obtain ⟨d, r, e, a, b⟩ := ih (m / 10) (by omega) (by rw [Nat.pow_succ] at h2; omega)
      exact ⟨d, r ++ [nI (48 + m % 10)], by rw [e]; rfl, a, b⟩
theorem dec_pos {t : Int64} (h : 1 ≤ t) : dec t = decN 19 t.toInt.toNat ∧ t = lN t.toInt.toNat ∧ 1 ≤ t.toInt.toNat := by
  have e1 : (1 : Int64).toInt = 1 := by decide
  have h1 : (1 : Int) ≤ t.toInt := by have := Int64.le_iff_toInt_le.mp h; rw [e1] at this; exact this
  have hn : ¬ t < 0 := fun z => by
    have := Int64.lt_iff_toInt_lt.mp z
    have e0 : (0 : Int64).toInt = 0 := by decide
    rw [e0] at this; omega
  refine ⟨?_, (lN_of hn).1, by omega⟩
  unfold dec
  rw [if_neg hn]
  show decN 19 (mg t) = _
  unfold mg
  exact congrArg (decN 19) (by omega)
/-- a positive number is told and read again -/
theorem int_dec {t : Int64} (h : 1 ≤ t) (h2 : t ≤ LAT) : intF (dec t) = some t := by
  obtain ⟨e1, e2, e3⟩ := dec_pos h
  have hm : t.toInt.toNat ≤ 9007199254740991 := by
    have := Int64.le_iff_toInt_le.mp h2
    have e : LAT.toInt = 9007199254740991 := by decide
    rw [e] at this; omega
  rw [e1]
  generalize hq : t.toInt.toNat = m at *
  obtain ⟨d, r, ed, d1, d2⟩ := decN_head 19 m e3 (by omega)
  have hl := decN_len2 19 19 m (by omega) (by decide)
  have hi := iaL_dec 19 m (by omega) (by omega)
  unfold intF
  rw [ed] at hl hi ⊢
  have n45 : ¬ nI (48 + d) = 45 := fun z => by have := (nI_eq (a := 48 + d) (b := 45) (by omega) (by decide)).mp z; omega
  have n48 : ¬ nI (48 + d) = 48 := fun z => by have := (nI_eq (a := 48 + d) (b := 48) (by omega) (by decide)).mp z; omega
  show (if nI (48 + d) = 45 then iaB true r else iaB false (nI (48 + d) :: r)) = _
  rw [if_neg n45]
  unfold iaB
  rw [if_neg (by omega), if_neg (fun z => n48 (Option.some.inj z.1)), hi]
  show (if false = false ∧ -(lN m) = -9223372036854775808 then none else some (if false = true then -(lN m) else -(-(lN m)))) = _
  have c : ¬ (-(lN m) = -9223372036854775808) := fun z => by
    have := congrArg Int64.toInt z
    rw [lN_zi, ← Int64.ofInt_neg, zi_toInt (by omega) (by omega)] at this
    have e : (-9223372036854775808 : Int64).toInt = -9223372036854775808 := by decide
    rw [e] at this; omega
  rw [if_neg (fun z => c z.2), if_neg (by decide), Int64.neg_neg, ← e2]
/-- the commands' names -/
def nm (i : Nat) : List Int32 := nm8 (cA.getD i 0) 8 ++ nm8 (cB.getD i 0) 8
theorem TB.nmE {σ : mjS} (h : TB σ) {i : Nat} (h1 : 1 ≤ i) (h2 : i ≤ 105) : nmOf σ i = nm i := by
  show _ = nm8 (cA.getD i 0) 8 ++ nm8 (cB.getD i 0) 8
  unfold nmOf; rw [(h i h1 h2).1, (h i h1 h2).2.1]
theorem nm_cm : ∀ i, i < 106 → 1 ≤ i → cmC (nm i) = i := by decide +kernel
theorem nm_ok : ∀ i, i < 106 → (nm i).length ≤ 16 ∧ ∀ x ∈ nm i, x.toInt8.toInt32 = x := by decide +kernel
/-- the commands of the log -/
def lgB (i : Nat) : Bool := decide ((2 ≤ i ∧ i ≤ 7) ∨ (9 ≤ i ∧ i ≤ 11) ∨ (14 ≤ i ∧ i ≤ 19) ∨ i = 22 ∨ i = 25 ∨ i = 26 ∨ i = 29 ∨ i = 33 ∨ i = 34 ∨ (37 ≤ i ∧ i ≤ 42) ∨ (46 ≤ i ∧ i ≤ 51) ∨ i = 52 ∨ i = 53 ∨ i = 56 ∨ i = 63 ∨ i = 64 ∨ i = 65 ∨ i = 70 ∨ i = 77 ∨ (74 ≤ i ∧ i ≤ 76) ∨ i = 78 ∨ i = 79 ∨ i = 81 ∨ i = 90 ∨ i = 91 ∨ i = 92 ∨ i = 93)
theorem rkL_tail (how : Nat) (A : List AK) (n w0 : List Int32) (r : List (List Int32)) : ∀ (m a : Nat) (ms : List (List Int32)), 1 ≤ a → rkL how A (n :: r) 2 m a ms = rkL how A (w0 :: r) 2 m a ms := by
  intro m
  induction m with
  | zero => intro a ms _; rfl
  | succ m ih =>
    intro a ms ha
    show rkL how A (n :: r) 2 m (a + 1) (rcF (rkT how A (n :: r) 2 a) ms (esA A ((n :: r).getD a []))) = rkL how A (w0 :: r) 2 m (a + 1) (rcF (rkT how A (w0 :: r) 2 a) ms (esA A ((w0 :: r).getD a [])))
    have e1 : (n :: r).getD a [] = (w0 :: r).getD a [] := by
      cases a with
      | zero => omega
      | succ a => rfl
    rw [e1, ih (a + 1) _ (by omega)]; rfl
theorem coF_tail (i : Nat) (n w0 : List Int32) (r : List (List Int32)) (A : List AK) : coF i (n :: r) A = coF i (w0 :: r) A := by
  have e : ∀ how, rkM how A (n :: r) 2 = rkM how A (w0 :: r) 2 := fun how => by
    unfold rkM; exact rkL_tail how A n w0 r _ 2 [] (by decide)
  unfold coF
  split <;> first | rfl | (rw [e]; rfl)
theorem sfB_tail (i : Nat) (g : Int32) (n w0 : List Int32) (r : List (List Int32)) (A : List AK) : sfB i g (n :: r) A = sfB i g (w0 :: r) A := by
  have e : sf6 i (n :: r) A = sf6 i (w0 :: r) A := by
    unfold sf6
    by_cases c : i < 74
    · rw [if_pos c]; rfl
    · rw [if_neg c]; rfl
  unfold sfB sf2 sf3 sf4 sf5
  rw [e]; rfl
/-- the room that a logged request wants -/
def RB (A : List AK) (i : Nat) (q : Req) : Prop := tT A + sl q + (gw q 1).length ≤ 200000 ∧ eN A + q.length < 10000 ∧ A.length + q.length < 4700 ∧ 700 + sz q ≤ 420000 ∧ (74 ≤ i ∧ i ≤ 76 → memB A < 60000) ∧ sl q ≤ 131200
/-- a request of the log, and what it does -/
def LSt (A : List AK) (q : Req) (A' : List AK) : Prop := ∃ i, cmC (gw q 0) = i ∧ 1 ≤ i ∧ i ≤ 105 ∧ lgB i = true ∧ afX i (q.length - 1) = true ∧ 1 ≤ q.length ∧ q.length ≤ 1024 ∧ (∀ w ∈ q, WOK w) ∧ (∀ now : Int64, ∃ e, rnF i q now true A = some (A', e)) ∧ RB A i q
theorem stA_k {keep keep' timed : Int32} (hk : ¬ keep = 0) (hk' : ¬ keep' = 0) (A : List AK) (w v : List Int32) (t : Int64) : stA A w v keep timed t = stA A w v keep' timed t := by
  unfold stA
  refine congrArg (upA _ _) (funext (fun a => ?_))
  unfold tmF; rw [if_neg hk, if_neg hk', if_neg hk, if_neg hk']
theorem osF_x : ∀ (k : Nat) (r : List (List Int32)) (f : F4) (o : Option (Nat × List Int32)) (q : F4 × Option (Nat × List Int32)), r.length ≤ k → (f.2.2.2 = 0 ∨ o = none) → osF r f o = some q → q.1.2.2.2 = 0 ∨ q.2 = none := by
  have ot : ∀ (w : List Int32) (f f' : F4) (o : Option (Nat × List Int32)), (f.2.2.2 = 0 ∨ o = none) → osT w f o = some f' → f'.2.2.2 = 0 ∨ o = none := by
    intro w f f' o h e
    unfold osT at e
    split at e
    · cases e; exact h
    · split at e
      · cases e; exact h
      · split at e
        · cases e; exact h
        · split at e
          · rename_i c; exact Or.inr c.2.2
          · cases e
  intro k
  induction k with
  | zero =>
    intro r f o q hr h e
    cases r with
    | nil => cases e; exact h
    | cons w r => simp at hr
  | succ k ih =>
    intro r f o q hr h e
    cases r with
    | nil => cases e; exact h
    | cons w r =>
      cases r with
      | nil =>
        have e : (osT w f o).map (fun f => (f, o)) = some q := e
        cases z : osT w f o with
        | none => rw [z] at e; cases e
        | some f' => rw [z] at e; cases e; exact ot w f f' o h z
      | cons t r =>
        have e : (match osT w f o with | some f' => osF (t :: r) f' o | none => (match osM w with | some m => if o = none ∧ f.2.2.2 = 0 then osF r f (some (m, t)) else none | none => none)) = some q := e
        simp only [List.length_cons] at hr
        cases z : osT w f o with
        | some f' =>
          rw [z] at e
          exact ih (t :: r) f' o q (by simp only [List.length_cons]; omega) (ot w f f' o h z) e
        | none =>
          rw [z] at e
          have e : (match osM w with | some m => if o = none ∧ f.2.2.2 = 0 then osF r f (some (m, t)) else none | none => none) = some q := e
          cases y : osM w with
          | none => rw [y] at e; cases e
          | some m =>
            rw [y] at e
            have e : (if o = none ∧ f.2.2.2 = 0 then osF r f (some (m, t)) else none) = some q := e
            by_cases c : o = none ∧ f.2.2.2 = 0
            · rw [if_pos c] at e; exact ih r f (some (m, t)) q (by omega) (Or.inl c.2) e
            · rw [if_neg c] at e; cases e
theorem osR_x {ws : Req} {now : Int64} {q : F4 × Option Int64} (h : osR ws now = some q) : q.1.2.2.2 = 0 ∨ q.2 = none := by
  unfold osR at h
  obtain ⟨p, hp, h⟩ := bind_some h
  have x := osF_x (ws.drop 3).length (ws.drop 3) (0, 0, 0, 0) none p (Nat.le_refl _) (Or.inl rfl) hp
  cases e : p.2 with
  | none => rw [e] at h; have h : some (p.1, none) = some q := h; cases h; exact Or.inr rfl
  | some mt =>
    have x : p.1.2.2.2 = 0 := x.resolve_right (by rw [e]; exact fun z => by cases z)
    rw [e] at h
    have h : (match intF mt.2 with | none => none | some n => if n < 1 ∨ tmB n now mt.1 = false then none else some (p.1, some (tmV n now mt.1))) = some q := h
    cases f : intF mt.2 with
    | none => rw [f] at h; cases h
    | some n =>
      rw [f] at h
      have h : (if n < 1 ∨ tmB n now mt.1 = false then none else some (p.1, some (tmV n now mt.1))) = some q := h
      by_cases c : n < 1 ∨ tmB n now mt.1 = false
      · rw [if_pos c] at h; cases h
      · rw [if_neg c] at h; cases h; exact Or.inl x
theorem lan1 {t : Int64} (h : 1 ≤ t) : LAN ≤ t := by
  have := Int64.le_iff_toInt_le.mp h
  have e1 : (1 : Int64).toInt = 1 := by decide
  have e2 : LAN.toInt = -9007199254740991 := by decide
  exact Int64.le_iff_toInt_le.mpr (by omega)
theorem tmB_3 {t now : Int64} (h1 : 1 ≤ t) (h2 : t ≤ LAT) : tmB t now 3 = true := decide_eq_true ⟨h2, lan1 h1, h2, lan1 h1⟩
/-- the three forms of a logged SET -/
theorem re_set {A : List AK} {w v : List Int32} {keep timed : Int32} {t : Int64} (hk : keep = 0 ∨ timed = 0) (ht : timed = 0 ∨ (timed = 1 ∧ 1 ≤ t ∧ t ≤ LAT)) (n : List Int32) (now : Int64) : ∃ e, rnF 2 (n :: w :: v :: nsW keep timed t) now true A = some (stA A w v keep timed t, e) := by
  have sf : ∀ ws, sfB 2 0 ws A = true := fun ws => rfl
  have sF : ∀ (keep timed : Int32) (t : Int64), seF true keep timed t now true A w v = some (stA A w v keep timed t, 2, w :: v :: nsW keep timed t) := fun keep timed t => by
    unfold seF; rw [if_neg (by decide), if_neg (fun z => absurd z.2.2 (by decide))]
  by_cases c : timed = 0
  · by_cases k : keep = 0
    · have e : nsW keep timed t = [] := by unfold nsW; rw [if_pos k, if_pos c]
      rw [e]
      refine ⟨(2, w :: v :: nsW 0 0 0), ?_⟩
      show (if sfB 2 0 [n, w, v] A = true then seF (goB 0 0 A w) 0 0 0 now true A w v else none) = _
      rw [if_pos (sf _)]
      show seF true 0 0 0 now true A w v = _
      rw [sF, k, c, stA_0 rfl A w v 0 t]
    · have e : nsW keep timed t = [kTT] := by unfold nsW; rw [if_neg k]
      rw [e]
      refine ⟨(2, w :: v :: nsW 1 0 0), ?_⟩
      have eo : osR [n, w, v, kTT] now = some ((0, 0, 0, 1), none) := by
        have e1 : osF [kTT] (0, 0, 0, 0) none = some ((0, 0, 0, 1), none) := by decide +kernel
        show (osF [kTT] (0, 0, 0, 0) none).bind (fun q => osE now q.1 q.2) = _
        rw [e1]; rfl
      unfold rnF
      rw [if_pos rfl, eo]
      show (if sfB 2 0 [n, w, v, kTT] A = true then seF true 1 0 0 now true A w v else none) = _
      rw [if_pos (sf _), sF, c, stA_0 rfl A w v 0 t, stA_k (show ¬ (1 : Int32) = 0 by decide) k]
  · have k : keep = 0 := hk.resolve_right c
    obtain ⟨t1, t2, t3⟩ := ht.resolve_left c
    have e : nsW keep timed t = [pXT, dec t] := by unfold nsW; rw [if_pos k, if_neg c]
    rw [e]
    refine ⟨(2, w :: v :: nsW 0 1 t), ?_⟩
    have eo : osR [n, w, v, pXT, dec t] now = some ((0, 0, 0, 0), some t) := by
      have e1 : osT pXT (0, 0, 0, 0) none = none := by decide +kernel
      have e2 : osM pXT = some 3 := by decide +kernel
      have e3 : osF [pXT, dec t] (0, 0, 0, 0) none = some ((0, 0, 0, 0), some (3, dec t)) := by
        show (match osT pXT (0, 0, 0, 0) none with | some f' => osF [dec t] f' none | none => (match osM pXT with | some m => if (none : Option (Nat × List Int32)) = none ∧ ((0, 0, 0, 0) : F4).2.2.2 = 0 then osF [] (0, 0, 0, 0) (some (m, dec t)) else none | none => none)) = _
        rw [e1, e2]; rfl
      show (osF [pXT, dec t] (0, 0, 0, 0) none).bind (fun q => osE now q.1 q.2) = _
      rw [e3]
      show osE now ((0, 0, 0, 0) : F4) (some (3, dec t)) = _
      unfold osE
      simp only [int_dec t2 t3]
      rw [if_neg (fun z => z.elim (fun y => absurd t2 (Int64.not_le.mpr y)) (fun y => by rw [tmB_3 t2 t3] at y; cases y))]; rfl
    unfold rnF
    rw [if_pos rfl, eo]
    show (if sfB 2 0 [n, w, v, pXT, dec t] A = true then seF true 0 1 t now true A w v else none) = _
    rw [if_pos (sf _), sF, k, t1]
theorem re_del {A : List AK} {w : List Int32} {p : Nat} (h : kyI A w = some p) (n : List Int32) (now : Int64) : ∃ e, rnF 22 [n, w] now true A = some (rmA A p, e) := by
  have e1 : delA A w = rmA A p := by unfold delA; rw [h]
  have e2 : dlN A [w] = 1 := by
    unfold dlN; rw [h]; rfl
  refine ⟨(22, [w]), ?_⟩
  show nW 22 [n, w] (delF A [w]) = _
  unfold delF
  rw [if_neg (by rw [e2]; decide)]
  show some (delA A w, 22, [w]) = _
  rw [e1]
theorem re_exp {A : List AK} {w : List Int32} {p : Nat} {t : Int64} (h : kyI A w = some p) (h1 : 1 ≤ t) (h2 : t ≤ LAT) (n : List Int32) (now : Int64) : ∃ e, rnF 33 [n, w, dec t] now true A = some (upA A p (exF t), e) := by
  refine ⟨(33, [w, dec t]), ?_⟩
  show (tiR false 3 now (dec t)).bind (fun t => eiF t now true A w) = _
  have e : tiR false 3 now (dec t) = some t := by
    unfold tiR
    rw [int_dec h1 h2]
    show (if (false = true ∧ t < 1) ∨ tmB t now 3 = false then none else some (tmV t now 3)) = _
    rw [if_neg (fun z => z.elim (fun y => by cases y.1) (fun y => by rw [tmB_3 h1 h2] at y; cases y))]; rfl
  rw [e]
  show eiF t now true A w = _
  unfold eiF
  rw [h]
  show (if t ≤ now ∧ true = false then _ else _) = _
  rw [if_neg (fun z => by cases z.2)]
end REPLAY
