/-! Lemmas to put run, options and commands together. -/
section RNL
variable {Y : Nat → MethodName × ByteArray} {d : Nat}
theorem lN_of {n : Int64} (h : ¬ n < 0) : n = lN n.toInt.toNat ∧ n.toInt.toNat < 2 ^ 63 := by
  have h0 : 0 ≤ n.toInt := by
    have := Int64.not_lt.mp h
    exact Int64.le_iff_toInt_le.mp this
  have h1 : n.toInt < 2 ^ 63 := Int64.toInt_lt n
  have h2 : n.toInt.toNat < 2 ^ 63 := by omega
  refine ⟨?_, h2⟩
  apply Int64.toInt_inj.mp
  rw [pk_lT h2]; omega
theorem sfB_g {i : Nat} (hi : i ≠ 2) (g : Int32) (ws : Req) (A : List AK) : sfB i g ws A = sfB i 0 ws A := by
  unfold sfB
  have e : ∀ g : Int32, (i = 1 ∨ i = 3 ∨ i = 4 ∨ (11 ≤ i ∧ i ≤ 21) ∨ (i = 2 ∧ ¬ g = 0)) ↔ (i = 1 ∨ i = 3 ∨ i = 4 ∨ (11 ≤ i ∧ i ≤ 21)) := fun g => ⟨fun z => by rcases z with z | z | z | z | z; exact Or.inl z; exact Or.inr (Or.inl z); exact Or.inr (Or.inr (Or.inl z)); exact Or.inr (Or.inr (Or.inr z)); exact absurd z.1 hi, fun z => by rcases z with z | z | z | z; exact Or.inl z; exact Or.inr (Or.inl z); exact Or.inr (Or.inr (Or.inl z)); exact Or.inr (Or.inr (Or.inr (Or.inl z)))⟩
  by_cases c : i = 1 ∨ i = 3 ∨ i = 4 ∨ (11 ≤ i ∧ i ≤ 21)
  · rw [if_pos ((e g).mpr c), if_pos ((e 0).mpr c)]
  · rw [if_neg (fun z => c ((e g).mp z)), if_neg (fun z => c ((e 0).mp z))]
noncomputable def rnX (σ : mjS) (ks : List KR) (i : Nat) (ws : Req) : Eff := if i ∈ tiI then tiX i ws (σ.2.1 f_now0) (decide (¬ σ.1 f_replays = 0)) (strip ks) else nW i ws (coF i ws (strip ks))
theorem rnE_go {σ : mjS} {ks : List KR} {i : Nat} {ws : Req} {g : Int32} (hi : i ≠ 2) (nr : ¬ refP σ ks i) (sf : sfB i g ws (strip ks) = true) : rnE σ ks i ws = rnX σ ks i ws := by
  unfold rnE rnF
  rw [if_neg nr, if_neg hi, if_pos (by rw [← sfB_g hi g]; exact sf)]; rfl
theorem rnE_no {σ : mjS} {ks : List KR} {i : Nat} {ws : Req} {b : Bool} {Q : mjS → Prop} (hi : i ≠ 2) (c : b = false ∨ refP σ ks i ∨ ∃ g, (b = true → ∃ v, Q v ∧ v.1 f_optGet = g) ∧ sfB i g ws (strip ks) = false) (hb : b = false → rnX σ ks i ws = none) : rnE σ ks i ws = none := by
  unfold rnE rnF
  by_cases r : refP σ ks i
  · rw [if_pos r]
  · rw [if_neg r, if_neg hi]
    rcases c with c | c | ⟨g, -, c⟩
    · by_cases s : sfB i 0 ws (strip ks) = true
      · rw [if_pos s]; exact hb c
      · rw [if_neg s]
    · exact absurd c r
    · rw [if_neg (by rw [← sfB_g hi g, c]; decide)]
theorem rnE_rd {σ : mjS} {ks : List KR} {i : Nat} {ws : Req} (hi : i ≠ 2) (h : rnX σ ks i ws = none) : rnE σ ks i ws = none := by
  unfold rnE rnF
  by_cases r : refP σ ks i
  · rw [if_pos r]
  · rw [if_neg r, if_neg hi]
    by_cases s : sfB i 0 ws (strip ks) = true
    · rw [if_pos s]; exact h
    · rw [if_neg s]
theorem c_optE {σ : mjS} {ws : List (List Int32)} {ks : List KR} {l : List Int32} (h : Wd σ ws ks l) (ty : mjTY σ) {x : Int32} {Q : mjS → Prop} (go : ∀ u, mjTY u → Fr opFs oH σ u → Wd u ws ks l → flZ u → mjY mjPP (mjQQ Y) (d + 7) 72 3 [some (.ref 0), some (.int x)] [] u (fun r v => ∃ b, opK u ws ks l b Q r v)) : mjY mjPP (mjQQ Y) (d + 7) 72 0 (mjL0 2 [.ref 0, .int x]) [] σ (fun r v => ∃ b, opK σ ws ks l b Q r v) := by
  refine mjZ_y rfl rfl 2 _ _ _ _ ty ?_
  refine (And.intro (Nat.le_of_ble_eq_true rfl) (And.intro rfl (And.intro (Nat.le_of_ble_eq_true rfl) (And.intro (Nat.le_of_ble_eq_true rfl) (mjY_mono ty (fun q_ u1 ty1 h_ => ?_) (c_clears ty))))))
  obtain ⟨rfl, f1, z1⟩ := h_
  intro _
  refine mjZ_y rfl rfl 1 _ _ _ _ ty1 ?_
  have f1' : Fr opFs oH σ u1 := f1.up (by decide) (by decide)
  refine mjY_mono ty1 (fun r u _ q => ?_) (go u1 ty1 f1' (h.fr f1 (by decide) (by decide)) z1)
  obtain ⟨b, q⟩ := q
  exact ⟨b, q.1, f1'.tr q.2.1, q.2.2⟩
theorem rnK_rd {σ u v : mjS} {ws : Req} {ks : List KR} {l : List Int32} {i : Nat} {e : Eff} {r : Option Value} (f : Fr opFs oH σ u) (k : cmdK u ws ks l i none r v) (he : e = none) : rnK σ ws ks l e r v := by
  obtain ⟨hr, f2, ks', k⟩ := k
  subst he
  exact ⟨hr, f.op.tr f2, ks', k⟩
theorem rnK_sm {σ u v : mjS} {ws : Req} {ks : List KR} {l : List Int32} {i : Nat} {e : Eff} {r : Option Value} (f : Fr opFs oH σ u) (hw : 1 ≤ ws.length) (k : smK u ws ks l i r v) (he : e = nW i ws (smX i (strip ks) (ws.drop 1))) : rnK σ ws ks l e r v := by
  obtain ⟨hr, f2, ks', k1, k2⟩ := k
  refine rnK_cmd f hw (o := smX i (strip ks) (ws.drop 1)) ⟨hr, f2, ks', ?_⟩ he
  unfold smX
  by_cases c : i = 10 ∧ mxA (strip ks) (ws.drop 1)
  · rw [if_pos c]; exact k1 c
  · rw [if_neg c]; exact k2 c
/-- a text was set -/
theorem ntL_S {σ : mjS} (l w v : List Int32) (keep timed : Int32) (t : Int64) : ntS σ l w v keep timed t = if σ.1 f_replays = 0 then l ++ begL σ l (lN ((w :: v :: nsW keep timed t).length + 1)) 2 ++ wordsL (w :: v :: nsW keep timed t) else l := by
  unfold ntS
  have e1 : nsN keep timed = (w :: v :: nsW keep timed t).length + 1 := by
    unfold nsN nsW
    by_cases a : keep = 0
    · rw [if_pos a, if_pos a]
      by_cases b : timed = 0
      · rw [if_pos b, if_pos b]; rfl
      · rw [if_neg b, if_neg b]; rfl
    · rw [if_neg a, if_neg a]; rfl
  have e2 : wordL w ++ wordL v ++ nsT keep timed t = wordsL (w :: v :: nsW keep timed t) := by
    unfold nsT nsW wordsL
    by_cases a : keep = 0
    · rw [if_pos a, if_pos a]
      by_cases b : timed = 0
      · rw [if_pos b, if_pos b]; simp
      · rw [if_neg b, if_neg b]; simp
    · rw [if_neg a, if_neg a]; simp
  rw [← e1, ← e2]; simp only [List.append_assoc]
theorem ntL_G {σ : mjS} (l w : List Int32) : ntG σ l w = if σ.1 f_replays = 0 then l ++ begL σ l (lN ([w].length + 1)) 22 ++ wordsL [w] else l := by
  unfold ntG
  have e2 : wordL w = wordsL [w] := by unfold wordsL; simp
  rw [← e2]; rfl
theorem ntL_E {σ : mjS} (l w : List Int32) (t : Int64) : ntE σ l w t = if σ.1 f_replays = 0 then l ++ begL σ l (lN ([w, dec t].length + 1)) 33 ++ wordsL [w, dec t] else l := by
  unfold ntE
  have e2 : wordL w ++ wordL (dec t) = wordsL [w, dec t] := by unfold wordsL; simp
  rw [← e2, List.append_assoc, List.append_assoc, ← List.append_assoc l]; rfl
theorem nsW_0 {keep timed : Int32} (h : timed = 0) (t t' : Int64) : nsW keep timed t = nsW keep timed t' := by unfold nsW; rw [if_pos h, if_pos h]
theorem stA_0 {keep timed : Int32} (h : timed = 0) (A : List AK) (w v : List Int32) (t t' : Int64) : stA A w v keep timed t = stA A w v keep timed t' := by
  unfold stA
  refine congrArg (upA _ _) (funext (fun a => ?_))
  unfold tmF; rw [if_pos h, if_pos h, if_pos h]
theorem rnK_set {σ u v0 : mjS} {ws : Req} {ks : List KR} {l : List Int32} {i : Nat} {w v : List Int32} {e : Eff} {r : Option Value} (f : Fr opFs oH σ u) (go : Bool) (hgo : go = true ↔ goP u i (strip ks) w) (keep timed : Int32) (t : Int64) (e1 : u.1 f_optKeep = keep) (e2 : u.1 f_timed = timed) (e3 : ¬ timed = 0 → u.2.1 f_time = t) (k : rsK u ws ks l i w v r v0) (he : e = seF go keep timed t (σ.2.1 f_now0) (decide (¬ σ.1 f_replays = 0)) (strip ks) w v) : rnK σ ws ks l e r v0 := by
  obtain ⟨hr, f2, ks', k1, k2⟩ := k
  have fo := f.op
  have en : u.2.1 f_now0 = σ.2.1 f_now0 := fo.2.1 _ (by decide)
  have er : u.1 f_replays = σ.1 f_replays := fo.1 _ (by decide)
  subst he
  refine ⟨hr, fo.tr f2, ks', ?_⟩
  cases go with
  | false =>
    have ng : ¬ goP u i (strip ks) w := fun z => by have := hgo.mpr z; cases this
    exact k2 ng
  | true =>
    have k := k1 (hgo.mp rfl)
    unfold setL setR at k
    unfold seF
    rw [if_neg (by decide)]
    have dd : deadP u ↔ ((¬ timed = 0) ∧ t ≤ σ.2.1 f_now0 ∧ decide (¬ σ.1 f_replays = 0) = false) := by
      unfold deadP
      rw [e2, en, er]
      refine ⟨fun z => ⟨z.1, by rw [← e3 z.1]; exact z.2.1, by rw [decide_eq_false_iff_not]; exact fun y => y z.2.2⟩, fun z => ⟨z.1, by rw [e3 z.1]; exact z.2.1, ?_⟩⟩
      have := z.2.2; rw [decide_eq_false_iff_not] at this; exact Decidable.of_not_not this
    by_cases c : deadP u
    · rw [if_pos c, if_pos c] at k
      rw [if_pos (dd.mp c)]
      cases g : kyI (strip ks) w with
      | none => rw [g] at k; exact k
      | some p =>
        rw [g] at k
        refine ⟨?_, k.2⟩
        have k1 : Wd v0 ws ks' (ntG u l w) := k.1
        rw [ntG_fr fo, ntL_G] at k1
        exact k1
    · rw [if_neg c, if_neg c] at k
      rw [if_neg (fun z => c (dd.mpr z))]
      rw [e1, e2] at k
      have et : ∀ s : Int64, nsW keep timed (if timed = 0 then 0 else u.2.1 f_time) = nsW keep timed t := fun _ => by
        by_cases z : timed = 0
        · exact nsW_0 z _ _
        · rw [if_neg z, e3 z]
      have es : stA (strip ks) w v keep timed (u.2.1 f_time) = stA (strip ks) w v keep timed t := by
        by_cases z : timed = 0
        · exact stA_0 z _ _ _ _ _
        · rw [e3 z]
      refine ⟨?_, k.2.trans es⟩
      have k1 := k.1
      rw [ntS_fr fo, ntL_S, et 0] at k1
      exact k1
theorem rnK_exp {σ u v0 : mjS} {ws : Req} {ks : List KR} {l : List Int32} {w : List Int32} {e : Eff} {r : Option Value} (f : Fr opFs oH σ u) (t : Int64) (e3 : u.2.1 f_time = t) (k : r = none ∧ Fr cF cH u v0 ∧ ∃ ks', Wd v0 ws ks' (expL u l (strip ks) w) ∧ strip ks' = expR u (strip ks) w) (he : e = eiF t (σ.2.1 f_now0) (decide (¬ σ.1 f_replays = 0)) (strip ks) w) : rnK σ ws ks l e r v0 := by
  obtain ⟨hr, f2, ks', k1, k2⟩ := k
  have fo := f.op
  have en : u.2.1 f_now0 = σ.2.1 f_now0 := fo.2.1 _ (by decide)
  have er : u.1 f_replays = σ.1 f_replays := fo.1 _ (by decide)
  subst he
  refine ⟨hr, fo.tr f2, ks', ?_⟩
  unfold expL at k1
  unfold expR at k2
  unfold eiF
  cases g : kyI (strip ks) w with
  | none => rw [g] at k1 k2; exact ⟨k1, k2⟩
  | some p =>
    rw [g] at k1 k2
    have k1 : Wd v0 ws ks' (if overP u then ntG u l w else ntE u l w (u.2.1 f_time)) := k1
    have k2 : strip ks' = if overP u then rmA (strip ks) p else upA (strip ks) p (exF (u.2.1 f_time)) := k2
    have dd : overP u ↔ (t ≤ σ.2.1 f_now0 ∧ decide (¬ σ.1 f_replays = 0) = false) := by
      unfold overP
      rw [e3, en, er, decide_eq_false_iff_not, Decidable.not_not]
    show Wd v0 ws ks' (rnL σ l (if t ≤ σ.2.1 f_now0 ∧ decide (¬ σ.1 f_replays = 0) = false then _ else _)) ∧ _ = efA (strip ks) (if t ≤ σ.2.1 f_now0 ∧ decide (¬ σ.1 f_replays = 0) = false then _ else _)
    by_cases c : overP u
    · rw [if_pos c] at k1 k2
      rw [if_pos (dd.mp c)]
      refine ⟨?_, k2⟩
      rw [ntG_fr fo, ntL_G] at k1
      exact k1
    · rw [if_neg c] at k1 k2
      rw [if_neg (fun z => c (dd.mpr z))]
      rw [e3] at k1 k2
      refine ⟨?_, k2⟩
      rw [ntE_fr fo, ntL_E] at k1
      exact k1
theorem zcF_90 (A : List AK) (w : List Int32) (i j : Int64) (no no' : Int32) (lo lo' hi hi' : Int64) : zcF A w 90 i j no lo hi = zcF A w 90 i j no' lo' hi' := by
  have e : ∀ fr tt, zcT 90 fr tt no lo hi = zcT 90 fr tt no' lo' hi' := fun fr tt => funext (fun i => funext (fun z => by unfold zcT; rw [if_pos rfl, if_pos rfl]))
  unfold zcF; rw [e]
theorem zcF_91 (A : List AK) (w : List Int32) (i i' j j' : Int64) (no : Int32) (lo hi : Int64) : zcF A w 91 i j no lo hi = zcF A w 91 i' j' no lo hi := by
  have e : ∀ fr tt fr' tt', zcT 91 fr tt no lo hi = zcT 91 fr' tt' no lo hi := fun fr tt fr' tt' => funext (fun i => funext (fun z => by unfold zcT; rw [if_neg (by decide), if_neg (by decide)]))
  unfold zcF; rw [e (strF i j (mnA A w)).1 (strF i j (mnA A w)).2 (strF i' j' (mnA A w)).1 (strF i' j' (mnA A w)).2]
theorem zcF_89 (A : List AK) (w : List Int32) (i j : Int64) (no : Int32) (lo hi : Int64) : zcF A w 89 i j no lo hi = none := by
  unfold zcF
  cases kyI A w with
  | none => rfl
  | some p =>
    show (match A[p]? with | none => none | some a => _) = none
    cases A[p]? with
    | none => rfl
    | some a => exact if_pos (Or.inl rfl)
theorem lpF_45 (A : List AK) (w : List Int32) (n : Int64) (v : List Int32) : lpF A w 45 n v = none := by
  unfold lpF
  cases kyI A w with
  | none => rfl
  | some p => exact if_neg (fun z => absurd z.1 (by decide))
end RNL
