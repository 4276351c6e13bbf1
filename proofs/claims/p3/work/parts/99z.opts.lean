/-! options: what each command's words say. -/
section OPTS
variable {Y : Nat → MethodName × ByteArray} {d : Nat}
abbrev opFs : List Nat := [f_num, f_n1, f_n2, f_optNx, f_optXx, f_optGet, f_optKeep, f_optGt, f_optLt, f_optCh, f_optIncr, f_optScores, f_optLimit, f_limitFrom, f_limitMany, f_timed, f_time, f_pairs, f_lowScore, f_highScore, f_noScore, f_limitAt, f_answerSize, f_tooLong, f_digitsSize]
theorem Fr.op {σ u : mjS} (f : Fr opFs oH σ u) : Fr cF cH σ u := f.up (by decide) (by decide)
theorem oO.op {σ u : mjS} (o : oO σ u) : Fr opFs oH σ u := o.1.up (by decide) (by decide)
/-- what options has found: whether the words are fine, and then Q -/
def opK (σ : mjS) (ws : List (List Int32)) (ks : List KR) (l : List Int32) (b : Bool) (Q : mjS → Prop) : mjK := fun r u => r = some (.int (bI b)) ∧ Fr opFs oH σ u ∧ Wd u ws ks l ∧ (b = true → Q u)
def flZ (u : mjS) : Prop := ∀ k ∈ clFs, u.1 k = 0
theorem flZ.fr {u v : mjS} {fs hs : List Nat} (z : flZ u) (f : Fr fs hs u v) (h : ∀ k ∈ clFs, k ∉ fs) : flZ v := fun k hk => (f.1 k (h k hk)).trans (z k hk)
set_option maxRecDepth 100000 in
/-- the flags are cleared, then the words of this command are read -/
theorem c_opt {σ : mjS} {ws : List (List Int32)} {ks : List KR} {l : List Int32} (h : Wd σ ws ks l) (ty : mjTY σ) {x : Int32} {b : Bool} {Q : mjS → Prop} (go : ∀ u, mjTY u → Fr opFs oH σ u → Wd u ws ks l → flZ u → mjY mjPP (mjQQ Y) (d + 7) 72 3 [some (.ref 0), some (.int x)] [] u (opK u ws ks l b Q)) : mjY mjPP (mjQQ Y) (d + 7) 72 0 (mjL0 2 [.ref 0, .int x]) [] σ (opK σ ws ks l b Q) := by
  refine mjZ_y rfl rfl 2 _ _ _ _ ty ?_
  refine (And.intro (Nat.le_of_ble_eq_true rfl) (And.intro rfl (And.intro (Nat.le_of_ble_eq_true rfl) (And.intro (Nat.le_of_ble_eq_true rfl) (mjY_mono ty (fun q_ u1 ty1 h_ => ?_) (c_clears ty))))))
  obtain ⟨rfl, f1, z1⟩ := h_
  intro _
  refine mjZ_y rfl rfl 1 _ _ _ _ ty1 ?_
  have f1' : Fr opFs oH σ u1 := f1.up (by decide) (by decide)
  refine mjY_mono ty1 (fun r u _ q => ?_) (go u1 ty1 f1' (h.fr f1 (by decide) (by decide)) z1)
  exact ⟨q.1, f1'.tr q.2.1, q.2.2⟩
theorem opK.t {σ : mjS} {ws : List (List Int32)} {ks : List KR} {l : List Int32} {Q : mjS → Prop} {u : mjS} (f : Fr opFs oH σ u) (h : Wd u ws ks l) (q : Q u) : opK σ ws ks l true Q (some (.int 1)) u := ⟨rfl, f, h, fun _ => q⟩
theorem opK.f {σ : mjS} {ws : List (List Int32)} {ks : List KR} {l : List Int32} {Q : mjS → Prop} {u : mjS} (f : Fr opFs oH σ u) (h : Wd u ws ks l) : opK σ ws ks l false Q (some (.int 0)) u := ⟨rfl, f, h, fun z => by cases z⟩
theorem bn_t {P A B : Prop} (h : P) (a : A) : (P → A) ∧ (¬ P → B) := ⟨fun _ => a, fun n => absurd h n⟩
theorem bn_f {P A B : Prop} (h : ¬ P) (b : B) : (P → A) ∧ (¬ P → B) := ⟨fun p => absurd p h, fun _ => b⟩
/-- the commands whose words options reads -/
abbrev opI : List Nat := [2, 6, 7, 13, 14, 17, 18, 19, 20, 21, 30, 31, 32, 33, 41, 42, 44, 45, 46, 47, 48, 49, 50, 63, 78, 81, 85, 86, 87, 88, 89, 90, 91, 92, 93]
set_option maxRecDepth 100000 in
theorem c_opt_none {u : mjS} {ws : List (List Int32)} {ks : List KR} {l : List Int32} (h : Wd u ws ks l) (ty : mjTY u) (z : flZ u) (i1 : Nat) (hi : i1 < 128) (hn : i1 ∉ opI) {x : Int32} (ex : x = nI i1) : mjY mjPP (mjQQ Y) (d + 7) 72 3 [some (.ref 0), some (.int x)] [] u (opK u ws ks l true flZ) := by
  have ne : ∀ c : Nat, c ∈ opI → ¬ x = nI c := fun c hc y => by
    rw [ex] at y
    have hc2 : c < 128 := (show ∀ c ∈ opI, c < 128 by decide) c hc
    exact hn ((nI_eq (by omega) (by omega)).mp y ▸ hc)
  have s68 : mjY mjPP (mjQQ Y) (d + 7) 72 68 [some (.ref 0), some (.int x)] [] u (opK u ws ks l true flZ) := by
    refine mjZ_y rfl rfl 86 _ _ _ _ ty ?_
    refine (bn_f (ne 13 (by decide)) (bn_f (ne 44 (by decide)) (bn_f (ne 49 (by decide)) (bn_f (ne 90 (by decide)) (bn_t (ne 21 (by decide)) (bn_t (ne 19 (by decide)) (bn_f (ne 14 (by decide)) (bn_t (ne 20 (by decide)) (bn_f (ne 17 (by decide)) (bn_f (ne 18 (by decide)) (bn_f (ne 45 (by decide)) (bn_f (ne 46 (by decide)) (bn_f (ne 48 (by decide)) (bn_t (ne 81 (by decide)) (bn_t (ne 63 (by decide)) (bn_f (ne 41 (by decide)) (bn_f (ne 42 (by decide)) (bn_f (ne 92 (by decide)) (bn_t (ne 93 (by decide)) (bn_t (ne 47 (by decide)) (bn_t (ne 50 (by decide)) (bn_t (ne 78 (by decide)) (bn_f (ne 85 (by decide)) (bn_t (ne 86 (by decide)) (bn_t (ne 87 (by decide)) (bn_t (ne 88 (by decide)) (bn_f (ne 89 (by decide)) (bn_t (ne 91 (by decide)) (And.intro rfl (And.intro (Or.inr ⟨rfl, Or.inr rfl⟩) ?_))))))))))))))))))))))))))))))
    exact opK.t Fr.rf h z
  refine mjZ_y rfl rfl 12 _ _ _ _ ty ?_
  refine (bn_t (ne 2 (by decide)) (bn_f (ne 6 (by decide)) (bn_t (ne 7 (by decide)) (And.intro (fun c => ?_) (fun c => ?_)))))
  · exact s68
  · refine mjZ_y rfl rfl 3 _ _ _ _ ty ?_
    refine And.intro (fun b => ?_) (fun b => ?_)
    · exact s68
    · exfalso
      have c : ¬ i1 < 30 := fun y => c (show x < nI 30 by rw [ex]; exact Int32.not_le.mp (nI_ge y (by omega)))
      have b : ¬ 33 < i1 := fun y => b (show nI 33 < x by rw [ex]; exact Int32.not_le.mp (nI_ge y (by omega)))
      have : i1 = 30 ∨ i1 = 31 ∨ i1 = 32 ∨ i1 = 33 := by omega
      rcases this with rfl | rfl | rfl | rfl <;> exact hn (by decide)
set_option maxRecDepth 100000 in
theorem c_opt_2 {u : mjS} {ws : List (List Int32)} {ks : List KR} {l : List Int32} (h : Wd u ws ks l) (ty : mjTY u) (z : flZ u) (hw : 3 ≤ ws.length) : mjY mjPP (mjQQ Y) (d + 7) 72 3 [some (.ref 0), some (.int (nI 2))] [] u (opK u ws ks l (osR ws (u.2.1 f_now0)).isSome (fun v => ∀ q, osR ws (u.2.1 f_now0) = some q → osQ v q)) := by
  have ne : ∀ c : Nat, c < 128 ∧ c ≠ 2 → ¬ nI 2 = nI c := fun c hc y => hc.2 ((nI_eq (by decide) (by omega)).mp y).symm
  refine mjZ_y rfl rfl 5 _ _ _ _ ty ?_
  refine (bn_f (fun n => n rfl) (And.intro (Nat.le_of_ble_eq_true rfl) (And.intro rfl (And.intro (Nat.le_of_ble_eq_true rfl) (And.intro (Nat.le_of_ble_eq_true rfl) (mjY_mono ty (fun q_ u2 ty2 h_ => ?_) (c_optionsSet h ty hw ⟨z _ (by decide), z _ (by decide), z _ (by decide), z _ (by decide)⟩ (z _ (by decide)))))))))
  obtain ⟨rfl, f2, h2, q2⟩ := h_
  intro _
  refine mjZ_y rfl rfl 1 _ _ _ _ ty2 ?_
  refine And.intro rfl (And.intro (Or.inr ⟨rfl, bI_01 _⟩) ?_)
  exact ⟨rfl, f2.up (by decide) (by decide), h2, fun _ => q2⟩
set_option maxRecDepth 100000 in
theorem c_opt_78 {u : mjS} {ws : List (List Int32)} {ks : List KR} {l : List Int32} (h : Wd u ws ks l) (ty : mjTY u) (z : flZ u) (hw : 2 ≤ ws.length) : mjY mjPP (mjQQ Y) (d + 7) 72 3 [some (.ref 0), some (.int (nI 78))] [] u (opK u ws ks l (zoR ws).isSome (fun v => ∀ q, zoR ws = some q → ozI v q.1 ∧ v.1 f_pairs = nI (ws.length - q.2.length) ∧ q.2 = ws.drop (ws.length - q.2.length) ∧ q.2.length ≤ ws.length ∧ ¬ zoC q.1 q.2 ∧ zOb q.2 = true)) := by
  have ne : ∀ c : Nat, c < 128 ∧ c ≠ 78 → ¬ nI 78 = nI c := fun c hc y => hc.2 ((nI_eq (by decide) (by omega)).mp y).symm
  refine mjZ_y rfl rfl 83 _ _ _ _ ty ?_
  refine (bn_t (ne 2 (by decide)) (bn_f (ne 6 (by decide)) (bn_t (ne 7 (by decide)) (bk_f rfl (bk_t rfl (bn_f (ne 13 (by decide)) (bn_f (ne 44 (by decide)) (bn_f (ne 49 (by decide)) (bn_f (ne 90 (by decide)) (bn_t (ne 21 (by decide)) (bn_t (ne 19 (by decide)) (bn_f (ne 14 (by decide)) (bn_t (ne 20 (by decide)) (bn_f (ne 17 (by decide)) (bn_f (ne 18 (by decide)) (bn_f (ne 45 (by decide)) (bn_f (ne 46 (by decide)) (bn_f (ne 48 (by decide)) (bn_t (ne 81 (by decide)) (bn_t (ne 63 (by decide)) (bn_f (ne 41 (by decide)) (bn_f (ne 42 (by decide)) (bn_f (ne 92 (by decide)) (bn_t (ne 93 (by decide)) (bn_t (ne 47 (by decide)) (bn_t (ne 50 (by decide)) (bn_f (fun n => n rfl) (And.intro (Nat.le_of_ble_eq_true rfl) (And.intro rfl (And.intro (Nat.le_of_ble_eq_true rfl) (And.intro (Nat.le_of_ble_eq_true rfl) (mjY_mono ty (fun q_ u2 ty2 h_ => ?_) (c_optionsZadd h ty hw ⟨z _ (by decide), z _ (by decide), z _ (by decide), z _ (by decide), z _ (by decide), z _ (by decide)⟩)))))))))))))))))))))))))))))))))
  obtain ⟨rfl, f2, h2, q2⟩ := h_
  intro _
  refine mjZ_y rfl rfl 1 _ _ _ _ ty2 ?_
  refine And.intro rfl (And.intro (Or.inr ⟨rfl, bI_01 _⟩) ?_)
  exact ⟨rfl, f2.up (by decide) (by decide), h2, fun _ => q2⟩
set_option maxRecDepth 100000 in
theorem c_opt_13 {u : mjS} {ws : List (List Int32)} {ks : List KR} {l : List Int32} (h : Wd u ws ks l) (ty : mjTY u) (z : flZ u) {v w : List Int32} (h2 : ws[2]? = some v) (h3 : ws[3]? = some w) : mjY mjPP (mjQQ Y) (d + 7) 72 3 [some (.ref 0), some (.int (nI 13))] [] u (opK u ws ks l (twF v w).isSome (fun t => ∀ q, twF v w = some q → t.2.1 f_n1 = q.1 ∧ t.2.1 f_n2 = q.2)) := by
  have ne : ∀ c : Nat, c < 128 ∧ c ≠ 13 → ¬ nI 13 = nI c := fun c hc y => hc.2 ((nI_eq (by decide) (by omega)).mp y).symm
  refine mjZ_y rfl rfl 19 _ _ _ _ ty ?_
  refine (bn_t (ne 2 (by decide)) (bn_f (ne 6 (by decide)) (bn_t (ne 7 (by decide)) (bk_t rfl (bn_t rfl (And.intro (Nat.le_of_ble_eq_true rfl) (And.intro rfl (And.intro (Nat.le_of_ble_eq_true rfl) (And.intro (Nat.le_of_ble_eq_true rfl) (mjY_mono ty (fun q_ u2 ty2 h_ => ?_) (c_twoIntegers h ty h2 h3 (x := Int32.ofInt 2) (y := Int32.ofInt 3) rfl rfl)))))))))))
  obtain ⟨rfl, f2, w2, q2⟩ := h_
  intro _
  refine mjZ_y rfl rfl 1 _ _ _ _ ty2 ?_
  refine And.intro rfl (And.intro (Or.inr ⟨rfl, bI_01 _⟩) ?_)
  exact ⟨rfl, f2.up (by decide) (by decide), w2, fun _ => q2⟩
set_option maxRecDepth 100000 in
theorem c_opt_44 {u : mjS} {ws : List (List Int32)} {ks : List KR} {l : List Int32} (h : Wd u ws ks l) (ty : mjTY u) (z : flZ u) {v w : List Int32} (h2 : ws[2]? = some v) (h3 : ws[3]? = some w) : mjY mjPP (mjQQ Y) (d + 7) 72 3 [some (.ref 0), some (.int (nI 44))] [] u (opK u ws ks l (twF v w).isSome (fun t => ∀ q, twF v w = some q → t.2.1 f_n1 = q.1 ∧ t.2.1 f_n2 = q.2)) := by
  have ne : ∀ c : Nat, c < 128 ∧ c ≠ 44 → ¬ nI 44 = nI c := fun c hc y => hc.2 ((nI_eq (by decide) (by omega)).mp y).symm
  refine mjZ_y rfl rfl 25 _ _ _ _ ty ?_
  refine (bn_t (ne 2 (by decide)) (bn_f (ne 6 (by decide)) (bn_t (ne 7 (by decide)) (bk_f rfl (bk_t rfl (bn_f (ne 13 (by decide)) (bn_t rfl (And.intro (Nat.le_of_ble_eq_true rfl) (And.intro rfl (And.intro (Nat.le_of_ble_eq_true rfl) (And.intro (Nat.le_of_ble_eq_true rfl) (mjY_mono ty (fun q_ u2 ty2 h_ => ?_) (c_twoIntegers h ty h2 h3 (x := Int32.ofInt 2) (y := Int32.ofInt 3) rfl rfl)))))))))))))
  obtain ⟨rfl, f2, w2, q2⟩ := h_
  intro _
  refine mjZ_y rfl rfl 1 _ _ _ _ ty2 ?_
  refine And.intro rfl (And.intro (Or.inr ⟨rfl, bI_01 _⟩) ?_)
  exact ⟨rfl, f2.up (by decide) (by decide), w2, fun _ => q2⟩
set_option maxRecDepth 100000 in
theorem c_opt_49 {u : mjS} {ws : List (List Int32)} {ks : List KR} {l : List Int32} (h : Wd u ws ks l) (ty : mjTY u) (z : flZ u) {v w : List Int32} (h2 : ws[2]? = some v) (h3 : ws[3]? = some w) : mjY mjPP (mjQQ Y) (d + 7) 72 3 [some (.ref 0), some (.int (nI 49))] [] u (opK u ws ks l (twF v w).isSome (fun t => ∀ q, twF v w = some q → t.2.1 f_n1 = q.1 ∧ t.2.1 f_n2 = q.2)) := by
  have ne : ∀ c : Nat, c < 128 ∧ c ≠ 49 → ¬ nI 49 = nI c := fun c hc y => hc.2 ((nI_eq (by decide) (by omega)).mp y).symm
  refine mjZ_y rfl rfl 28 _ _ _ _ ty ?_
  refine (bn_t (ne 2 (by decide)) (bn_f (ne 6 (by decide)) (bn_t (ne 7 (by decide)) (bk_f rfl (bk_t rfl (bn_f (ne 13 (by decide)) (bn_f (ne 44 (by decide)) (bn_t rfl (And.intro (Nat.le_of_ble_eq_true rfl) (And.intro rfl (And.intro (Nat.le_of_ble_eq_true rfl) (And.intro (Nat.le_of_ble_eq_true rfl) (mjY_mono ty (fun q_ u2 ty2 h_ => ?_) (c_twoIntegers h ty h2 h3 (x := Int32.ofInt 2) (y := Int32.ofInt 3) rfl rfl))))))))))))))
  obtain ⟨rfl, f2, w2, q2⟩ := h_
  intro _
  refine mjZ_y rfl rfl 1 _ _ _ _ ty2 ?_
  refine And.intro rfl (And.intro (Or.inr ⟨rfl, bI_01 _⟩) ?_)
  exact ⟨rfl, f2.up (by decide) (by decide), w2, fun _ => q2⟩
set_option maxRecDepth 100000 in
theorem c_opt_90 {u : mjS} {ws : List (List Int32)} {ks : List KR} {l : List Int32} (h : Wd u ws ks l) (ty : mjTY u) (z : flZ u) {v w : List Int32} (h2 : ws[2]? = some v) (h3 : ws[3]? = some w) : mjY mjPP (mjQQ Y) (d + 7) 72 3 [some (.ref 0), some (.int (nI 90))] [] u (opK u ws ks l (twF v w).isSome (fun t => ∀ q, twF v w = some q → t.2.1 f_n1 = q.1 ∧ t.2.1 f_n2 = q.2)) := by
  have ne : ∀ c : Nat, c < 128 ∧ c ≠ 90 → ¬ nI 90 = nI c := fun c hc y => hc.2 ((nI_eq (by decide) (by omega)).mp y).symm
  refine mjZ_y rfl rfl 31 _ _ _ _ ty ?_
  refine (bn_t (ne 2 (by decide)) (bn_f (ne 6 (by decide)) (bn_t (ne 7 (by decide)) (bk_f rfl (bk_t rfl (bn_f (ne 13 (by decide)) (bn_f (ne 44 (by decide)) (bn_f (ne 49 (by decide)) (bn_t rfl (And.intro (Nat.le_of_ble_eq_true rfl) (And.intro rfl (And.intro (Nat.le_of_ble_eq_true rfl) (And.intro (Nat.le_of_ble_eq_true rfl) (mjY_mono ty (fun q_ u2 ty2 h_ => ?_) (c_twoIntegers h ty h2 h3 (x := Int32.ofInt 2) (y := Int32.ofInt 3) rfl rfl)))))))))))))))
  obtain ⟨rfl, f2, w2, q2⟩ := h_
  intro _
  refine mjZ_y rfl rfl 1 _ _ _ _ ty2 ?_
  refine And.intro rfl (And.intro (Or.inr ⟨rfl, bI_01 _⟩) ?_)
  exact ⟨rfl, f2.up (by decide) (by decide), w2, fun _ => q2⟩
set_option maxRecDepth 100000 in
theorem c_opt_17 {u : mjS} {ws : List (List Int32)} {ks : List KR} {l : List Int32} (h : Wd u ws ks l) (ty : mjTY u) (z : flZ u) {v : List Int32} (h2 : ws[2]? = some v) : mjY mjPP (mjQQ Y) (d + 7) 72 3 [some (.ref 0), some (.int (nI 17))] [] u (opK u ws ks l (intF v).isSome (fun t => ∀ q, intF v = some q → t.2.1 f_n1 = q)) := by
  have ne : ∀ c : Nat, c < 128 ∧ c ≠ 17 → ¬ nI 17 = nI c := fun c hc y => hc.2 ((nI_eq (by decide) (by omega)).mp y).symm
  refine mjZ_y rfl rfl 42 _ _ _ _ ty ?_
  refine (bn_t (ne 2 (by decide)) (bn_f (ne 6 (by decide)) (bn_t (ne 7 (by decide)) (bk_t rfl (bn_f (ne 13 (by decide)) (bn_f (ne 44 (by decide)) (bn_f (ne 49 (by decide)) (bn_f (ne 90 (by decide)) (bn_t (ne 21 (by decide)) (bn_t (ne 19 (by decide)) (bn_f (ne 14 (by decide)) (bn_t (ne 20 (by decide)) (bn_t rfl (And.intro (Nat.le_of_ble_eq_true rfl) (And.intro rfl (And.intro (Nat.le_of_ble_eq_true rfl) (And.intro (Nat.le_of_ble_eq_true rfl) (mjY_mono ty (fun q_ u2 ty2 h_ => ?_) (c_oneInteger h ty h2 (x := Int32.ofInt 2) rfl)))))))))))))))))))
  obtain ⟨rfl, f2, w2, q2⟩ := h_
  intro _
  refine mjZ_y rfl rfl 1 _ _ _ _ ty2 ?_
  refine And.intro rfl (And.intro (Or.inr ⟨rfl, bI_01 _⟩) ?_)
  exact ⟨rfl, f2.up (by decide) (by decide), w2, fun _ => q2⟩
set_option maxRecDepth 100000 in
theorem c_opt_18 {u : mjS} {ws : List (List Int32)} {ks : List KR} {l : List Int32} (h : Wd u ws ks l) (ty : mjTY u) (z : flZ u) {v : List Int32} (h2 : ws[2]? = some v) : mjY mjPP (mjQQ Y) (d + 7) 72 3 [some (.ref 0), some (.int (nI 18))] [] u (opK u ws ks l (intF v).isSome (fun t => ∀ q, intF v = some q → t.2.1 f_n1 = q)) := by
  have ne : ∀ c : Nat, c < 128 ∧ c ≠ 18 → ¬ nI 18 = nI c := fun c hc y => hc.2 ((nI_eq (by decide) (by omega)).mp y).symm
  refine mjZ_y rfl rfl 45 _ _ _ _ ty ?_
  refine (bn_t (ne 2 (by decide)) (bn_f (ne 6 (by decide)) (bn_t (ne 7 (by decide)) (bk_t rfl (bn_f (ne 13 (by decide)) (bn_f (ne 44 (by decide)) (bn_f (ne 49 (by decide)) (bn_f (ne 90 (by decide)) (bn_t (ne 21 (by decide)) (bn_t (ne 19 (by decide)) (bn_f (ne 14 (by decide)) (bn_t (ne 20 (by decide)) (bn_f (ne 17 (by decide)) (bn_t rfl (And.intro (Nat.le_of_ble_eq_true rfl) (And.intro rfl (And.intro (Nat.le_of_ble_eq_true rfl) (And.intro (Nat.le_of_ble_eq_true rfl) (mjY_mono ty (fun q_ u2 ty2 h_ => ?_) (c_oneInteger h ty h2 (x := Int32.ofInt 2) rfl))))))))))))))))))))
  obtain ⟨rfl, f2, w2, q2⟩ := h_
  intro _
  refine mjZ_y rfl rfl 1 _ _ _ _ ty2 ?_
  refine And.intro rfl (And.intro (Or.inr ⟨rfl, bI_01 _⟩) ?_)
  exact ⟨rfl, f2.up (by decide) (by decide), w2, fun _ => q2⟩
set_option maxRecDepth 100000 in
theorem c_opt_45 {u : mjS} {ws : List (List Int32)} {ks : List KR} {l : List Int32} (h : Wd u ws ks l) (ty : mjTY u) (z : flZ u) {v : List Int32} (h2 : ws[2]? = some v) : mjY mjPP (mjQQ Y) (d + 7) 72 3 [some (.ref 0), some (.int (nI 45))] [] u (opK u ws ks l (intF v).isSome (fun t => ∀ q, intF v = some q → t.2.1 f_n1 = q)) := by
  have ne : ∀ c : Nat, c < 128 ∧ c ≠ 45 → ¬ nI 45 = nI c := fun c hc y => hc.2 ((nI_eq (by decide) (by omega)).mp y).symm
  refine mjZ_y rfl rfl 51 _ _ _ _ ty ?_
  refine (bn_t (ne 2 (by decide)) (bn_f (ne 6 (by decide)) (bn_t (ne 7 (by decide)) (bk_f rfl (bk_t rfl (bn_f (ne 13 (by decide)) (bn_f (ne 44 (by decide)) (bn_f (ne 49 (by decide)) (bn_f (ne 90 (by decide)) (bn_t (ne 21 (by decide)) (bn_t (ne 19 (by decide)) (bn_f (ne 14 (by decide)) (bn_t (ne 20 (by decide)) (bn_f (ne 17 (by decide)) (bn_f (ne 18 (by decide)) (bn_t rfl (And.intro (Nat.le_of_ble_eq_true rfl) (And.intro rfl (And.intro (Nat.le_of_ble_eq_true rfl) (And.intro (Nat.le_of_ble_eq_true rfl) (mjY_mono ty (fun q_ u2 ty2 h_ => ?_) (c_oneInteger h ty h2 (x := Int32.ofInt 2) rfl))))))))))))))))))))))
  obtain ⟨rfl, f2, w2, q2⟩ := h_
  intro _
  refine mjZ_y rfl rfl 1 _ _ _ _ ty2 ?_
  refine And.intro rfl (And.intro (Or.inr ⟨rfl, bI_01 _⟩) ?_)
  exact ⟨rfl, f2.up (by decide) (by decide), w2, fun _ => q2⟩
set_option maxRecDepth 100000 in
theorem c_opt_46 {u : mjS} {ws : List (List Int32)} {ks : List KR} {l : List Int32} (h : Wd u ws ks l) (ty : mjTY u) (z : flZ u) {v : List Int32} (h2 : ws[2]? = some v) : mjY mjPP (mjQQ Y) (d + 7) 72 3 [some (.ref 0), some (.int (nI 46))] [] u (opK u ws ks l (intF v).isSome (fun t => ∀ q, intF v = some q → t.2.1 f_n1 = q)) := by
  have ne : ∀ c : Nat, c < 128 ∧ c ≠ 46 → ¬ nI 46 = nI c := fun c hc y => hc.2 ((nI_eq (by decide) (by omega)).mp y).symm
  refine mjZ_y rfl rfl 54 _ _ _ _ ty ?_
  refine (bn_t (ne 2 (by decide)) (bn_f (ne 6 (by decide)) (bn_t (ne 7 (by decide)) (bk_f rfl (bk_t rfl (bn_f (ne 13 (by decide)) (bn_f (ne 44 (by decide)) (bn_f (ne 49 (by decide)) (bn_f (ne 90 (by decide)) (bn_t (ne 21 (by decide)) (bn_t (ne 19 (by decide)) (bn_f (ne 14 (by decide)) (bn_t (ne 20 (by decide)) (bn_f (ne 17 (by decide)) (bn_f (ne 18 (by decide)) (bn_f (ne 45 (by decide)) (bn_t rfl (And.intro (Nat.le_of_ble_eq_true rfl) (And.intro rfl (And.intro (Nat.le_of_ble_eq_true rfl) (And.intro (Nat.le_of_ble_eq_true rfl) (mjY_mono ty (fun q_ u2 ty2 h_ => ?_) (c_oneInteger h ty h2 (x := Int32.ofInt 2) rfl)))))))))))))))))))))))
  obtain ⟨rfl, f2, w2, q2⟩ := h_
  intro _
  refine mjZ_y rfl rfl 1 _ _ _ _ ty2 ?_
  refine And.intro rfl (And.intro (Or.inr ⟨rfl, bI_01 _⟩) ?_)
  exact ⟨rfl, f2.up (by decide) (by decide), w2, fun _ => q2⟩
set_option maxRecDepth 100000 in
theorem c_opt_48 {u : mjS} {ws : List (List Int32)} {ks : List KR} {l : List Int32} (h : Wd u ws ks l) (ty : mjTY u) (z : flZ u) {v : List Int32} (h2 : ws[2]? = some v) : mjY mjPP (mjQQ Y) (d + 7) 72 3 [some (.ref 0), some (.int (nI 48))] [] u (opK u ws ks l (intF v).isSome (fun t => ∀ q, intF v = some q → t.2.1 f_n1 = q)) := by
  have ne : ∀ c : Nat, c < 128 ∧ c ≠ 48 → ¬ nI 48 = nI c := fun c hc y => hc.2 ((nI_eq (by decide) (by omega)).mp y).symm
  refine mjZ_y rfl rfl 57 _ _ _ _ ty ?_
  refine (bn_t (ne 2 (by decide)) (bn_f (ne 6 (by decide)) (bn_t (ne 7 (by decide)) (bk_f rfl (bk_t rfl (bn_f (ne 13 (by decide)) (bn_f (ne 44 (by decide)) (bn_f (ne 49 (by decide)) (bn_f (ne 90 (by decide)) (bn_t (ne 21 (by decide)) (bn_t (ne 19 (by decide)) (bn_f (ne 14 (by decide)) (bn_t (ne 20 (by decide)) (bn_f (ne 17 (by decide)) (bn_f (ne 18 (by decide)) (bn_f (ne 45 (by decide)) (bn_f (ne 46 (by decide)) (bn_t rfl (And.intro (Nat.le_of_ble_eq_true rfl) (And.intro rfl (And.intro (Nat.le_of_ble_eq_true rfl) (And.intro (Nat.le_of_ble_eq_true rfl) (mjY_mono ty (fun q_ u2 ty2 h_ => ?_) (c_oneInteger h ty h2 (x := Int32.ofInt 2) rfl))))))))))))))))))))))))
  obtain ⟨rfl, f2, w2, q2⟩ := h_
  intro _
  refine mjZ_y rfl rfl 1 _ _ _ _ ty2 ?_
  refine And.intro rfl (And.intro (Or.inr ⟨rfl, bI_01 _⟩) ?_)
  exact ⟨rfl, f2.up (by decide) (by decide), w2, fun _ => q2⟩
set_option maxRecDepth 100000 in
theorem c_opt_81 {u : mjS} {ws : List (List Int32)} {ks : List KR} {l : List Int32} (h : Wd u ws ks l) (ty : mjTY u) (z : flZ u) {v : List Int32} (h2 : ws[2]? = some v) : mjY mjPP (mjQQ Y) (d + 7) 72 3 [some (.ref 0), some (.int (nI 81))] [] u (opK u ws ks l (intF v).isSome (fun t => ∀ q, intF v = some q → t.2.1 f_n1 = q)) := by
  have ne : ∀ c : Nat, c < 128 ∧ c ≠ 81 → ¬ nI 81 = nI c := fun c hc y => hc.2 ((nI_eq (by decide) (by omega)).mp y).symm
  refine mjZ_y rfl rfl 60 _ _ _ _ ty ?_
  refine (bn_t (ne 2 (by decide)) (bn_f (ne 6 (by decide)) (bn_t (ne 7 (by decide)) (bk_f rfl (bk_t rfl (bn_f (ne 13 (by decide)) (bn_f (ne 44 (by decide)) (bn_f (ne 49 (by decide)) (bn_f (ne 90 (by decide)) (bn_t (ne 21 (by decide)) (bn_t (ne 19 (by decide)) (bn_f (ne 14 (by decide)) (bn_t (ne 20 (by decide)) (bn_f (ne 17 (by decide)) (bn_f (ne 18 (by decide)) (bn_f (ne 45 (by decide)) (bn_f (ne 46 (by decide)) (bn_f (ne 48 (by decide)) (bn_f (fun n => n rfl) (And.intro (Nat.le_of_ble_eq_true rfl) (And.intro rfl (And.intro (Nat.le_of_ble_eq_true rfl) (And.intro (Nat.le_of_ble_eq_true rfl) (mjY_mono ty (fun q_ u2 ty2 h_ => ?_) (c_oneInteger h ty h2 (x := Int32.ofInt 2) rfl)))))))))))))))))))))))))
  obtain ⟨rfl, f2, w2, q2⟩ := h_
  intro _
  refine mjZ_y rfl rfl 1 _ _ _ _ ty2 ?_
  refine And.intro rfl (And.intro (Or.inr ⟨rfl, bI_01 _⟩) ?_)
  exact ⟨rfl, f2.up (by decide) (by decide), w2, fun _ => q2⟩
set_option maxRecDepth 100000 in
theorem c_opt_63 {u : mjS} {ws : List (List Int32)} {ks : List KR} {l : List Int32} (h : Wd u ws ks l) (ty : mjTY u) (z : flZ u) {v : List Int32} (h3 : ws[3]? = some v) : mjY mjPP (mjQQ Y) (d + 7) 72 3 [some (.ref 0), some (.int (nI 63))] [] u (opK u ws ks l (intF v).isSome (fun t => ∀ q, intF v = some q → t.2.1 f_n1 = q)) := by
  have ne : ∀ c : Nat, c < 128 ∧ c ≠ 63 → ¬ nI 63 = nI c := fun c hc y => hc.2 ((nI_eq (by decide) (by omega)).mp y).symm
  refine mjZ_y rfl rfl 63 _ _ _ _ ty ?_
  refine (bn_t (ne 2 (by decide)) (bn_f (ne 6 (by decide)) (bn_t (ne 7 (by decide)) (bk_f rfl (bk_t rfl (bn_f (ne 13 (by decide)) (bn_f (ne 44 (by decide)) (bn_f (ne 49 (by decide)) (bn_f (ne 90 (by decide)) (bn_t (ne 21 (by decide)) (bn_t (ne 19 (by decide)) (bn_f (ne 14 (by decide)) (bn_t (ne 20 (by decide)) (bn_f (ne 17 (by decide)) (bn_f (ne 18 (by decide)) (bn_f (ne 45 (by decide)) (bn_f (ne 46 (by decide)) (bn_f (ne 48 (by decide)) (bn_t (ne 81 (by decide)) (bn_f (fun n => n rfl) (And.intro (Nat.le_of_ble_eq_true rfl) (And.intro rfl (And.intro (Nat.le_of_ble_eq_true rfl) (And.intro (Nat.le_of_ble_eq_true rfl) (mjY_mono ty (fun q_ u2 ty2 h_ => ?_) (c_oneInteger h ty h3 (x := Int32.ofInt 3) rfl))))))))))))))))))))))))))
  obtain ⟨rfl, f2, w2, q2⟩ := h_
  intro _
  refine mjZ_y rfl rfl 1 _ _ _ _ ty2 ?_
  refine And.intro rfl (And.intro (Or.inr ⟨rfl, bI_01 _⟩) ?_)
  exact ⟨rfl, f2.up (by decide) (by decide), w2, fun _ => q2⟩
set_option maxRecDepth 100000 in
theorem c_opt_89 {u : mjS} {ws : List (List Int32)} {ks : List KR} {l : List Int32} (h : Wd u ws ks l) (ty : mjTY u) (z : flZ u) {v w : List Int32} (h2 : ws[2]? = some v) (h3 : ws[3]? = some w) : mjY mjPP (mjQQ Y) (d + 7) 72 3 [some (.ref 0), some (.int (nI 89))] [] u (opK u ws ks l (bsF v w).isSome (fun t => ∀ q, bsF v w = some q → t.2.1 f_lowScore = q.1 ∧ t.2.1 f_highScore = q.2.1 ∧ t.1 f_noScore = q.2.2)) := by
  have ne : ∀ c : Nat, c < 128 ∧ c ≠ 89 → ¬ nI 89 = nI c := fun c hc y => hc.2 ((nI_eq (by decide) (by omega)).mp y).symm
  refine mjZ_y rfl rfl 100 _ _ _ _ ty ?_
  refine (bn_t (ne 2 (by decide)) (bn_f (ne 6 (by decide)) (bn_t (ne 7 (by decide)) (bk_f rfl (bk_t rfl (bn_f (ne 13 (by decide)) (bn_f (ne 44 (by decide)) (bn_f (ne 49 (by decide)) (bn_f (ne 90 (by decide)) (bn_t (ne 21 (by decide)) (bn_t (ne 19 (by decide)) (bn_f (ne 14 (by decide)) (bn_t (ne 20 (by decide)) (bn_f (ne 17 (by decide)) (bn_f (ne 18 (by decide)) (bn_f (ne 45 (by decide)) (bn_f (ne 46 (by decide)) (bn_f (ne 48 (by decide)) (bn_t (ne 81 (by decide)) (bn_t (ne 63 (by decide)) (bn_f (ne 41 (by decide)) (bn_f (ne 42 (by decide)) (bn_f (ne 92 (by decide)) (bn_t (ne 93 (by decide)) (bn_t (ne 47 (by decide)) (bn_t (ne 50 (by decide)) (bn_t (ne 78 (by decide)) (bn_f (ne 85 (by decide)) (bn_t (ne 86 (by decide)) (bn_t (ne 87 (by decide)) (bn_t (ne 88 (by decide)) (bn_t rfl (And.intro (Nat.le_of_ble_eq_true rfl) (And.intro rfl (And.intro (Nat.le_of_ble_eq_true rfl) (And.intro (Nat.le_of_ble_eq_true rfl) (mjY_mono ty (fun q_ u2 ty2 h_ => ?_) (c_bounds23 h ty h2 h3 (z _ (by decide))))))))))))))))))))))))))))))))))))))))
  obtain ⟨rfl, f2, w2, q2⟩ := h_
  intro _
  refine mjZ_y rfl rfl 1 _ _ _ _ ty2 ?_
  refine And.intro rfl (And.intro (Or.inr ⟨rfl, bI_01 _⟩) ?_)
  exact ⟨rfl, f2.up (by decide) (by decide), w2, fun _ => q2⟩
set_option maxRecDepth 100000 in
theorem c_opt_91 {u : mjS} {ws : List (List Int32)} {ks : List KR} {l : List Int32} (h : Wd u ws ks l) (ty : mjTY u) (z : flZ u) {v w : List Int32} (h2 : ws[2]? = some v) (h3 : ws[3]? = some w) : mjY mjPP (mjQQ Y) (d + 7) 72 3 [some (.ref 0), some (.int (nI 91))] [] u (opK u ws ks l (bsF v w).isSome (fun t => ∀ q, bsF v w = some q → t.2.1 f_lowScore = q.1 ∧ t.2.1 f_highScore = q.2.1 ∧ t.1 f_noScore = q.2.2)) := by
  have ne : ∀ c : Nat, c < 128 ∧ c ≠ 91 → ¬ nI 91 = nI c := fun c hc y => hc.2 ((nI_eq (by decide) (by omega)).mp y).symm
  refine mjZ_y rfl rfl 103 _ _ _ _ ty ?_
  refine (bn_t (ne 2 (by decide)) (bn_f (ne 6 (by decide)) (bn_t (ne 7 (by decide)) (bk_f rfl (bk_t rfl (bn_f (ne 13 (by decide)) (bn_f (ne 44 (by decide)) (bn_f (ne 49 (by decide)) (bn_f (ne 90 (by decide)) (bn_t (ne 21 (by decide)) (bn_t (ne 19 (by decide)) (bn_f (ne 14 (by decide)) (bn_t (ne 20 (by decide)) (bn_f (ne 17 (by decide)) (bn_f (ne 18 (by decide)) (bn_f (ne 45 (by decide)) (bn_f (ne 46 (by decide)) (bn_f (ne 48 (by decide)) (bn_t (ne 81 (by decide)) (bn_t (ne 63 (by decide)) (bn_f (ne 41 (by decide)) (bn_f (ne 42 (by decide)) (bn_f (ne 92 (by decide)) (bn_t (ne 93 (by decide)) (bn_t (ne 47 (by decide)) (bn_t (ne 50 (by decide)) (bn_t (ne 78 (by decide)) (bn_f (ne 85 (by decide)) (bn_t (ne 86 (by decide)) (bn_t (ne 87 (by decide)) (bn_t (ne 88 (by decide)) (bn_f (ne 89 (by decide)) (bn_f (fun n => n rfl) (And.intro (Nat.le_of_ble_eq_true rfl) (And.intro rfl (And.intro (Nat.le_of_ble_eq_true rfl) (And.intro (Nat.le_of_ble_eq_true rfl) (mjY_mono ty (fun q_ u2 ty2 h_ => ?_) (c_bounds23 h ty h2 h3 (z _ (by decide)))))))))))))))))))))))))))))))))))))))))
  obtain ⟨rfl, f2, w2, q2⟩ := h_
  intro _
  refine mjZ_y rfl rfl 1 _ _ _ _ ty2 ?_
  refine And.intro rfl (And.intro (Or.inr ⟨rfl, bI_01 _⟩) ?_)
  exact ⟨rfl, f2.up (by decide) (by decide), w2, fun _ => q2⟩
def tiR (first : Bool) (m : Nat) (now : Int64) (v : List Int32) : Option Int64 := (intF v).bind (fun n => if (first = true ∧ n < 1) ∨ tmB n now m = false then none else some (tmV n now m))
set_option maxRecDepth 100000 in
theorem c_opt_30 {u : mjS} {ws : List (List Int32)} {ks : List KR} {l : List Int32} (h : Wd u ws ks l) (ty : mjTY u) (z : flZ u) {v : List Int32} (h2 : ws[2]? = some v) : mjY mjPP (mjQQ Y) (d + 7) 72 3 [some (.ref 0), some (.int (nI 30))] [] u (opK u ws ks l (tiR false 0 (u.2.1 f_now0) v).isSome (fun t => ∀ q, tiR false 0 (u.2.1 f_now0) v = some q → t.2.1 f_time = q)) := by
  have ne : ∀ c : Nat, c < 128 ∧ c ≠ 30 → ¬ nI 30 = nI c := fun c hc y => hc.2 ((nI_eq (by decide) (by omega)).mp y).symm
  refine mjZ_y rfl rfl 18 _ _ _ _ ty ?_
  refine (bn_t (ne 2 (by decide)) (bn_f (ne 6 (by decide)) (bn_t (ne 7 (by decide)) (bk_f rfl (bk_f rfl (And.intro (Nat.le_of_ble_eq_true rfl) (And.intro rfl (And.intro (Nat.le_of_ble_eq_true rfl) (And.intro (Nat.le_of_ble_eq_true rfl) (mjY_mono ty (fun q_ u2 ty2 h_ => ?_) (w_integer h ty h2 (x := Int32.ofInt 2) rfl)))))))))))
  obtain ⟨w2, f2, hz⟩ := h_
  intro _
  have f2o : Fr opFs oH u u2 := f2.up (by decide) (by decide)
  rcases hz with ⟨n, hz, rfl, en⟩ | ⟨hz, rfl⟩
  · have e : tiR false 0 (u.2.1 f_now0) v = if tmB n (u.2.1 f_now0) 0 = false then none else some (tmV n (u.2.1 f_now0) 0) := by
      unfold tiR; rw [hz]; show (if (false = true ∧ n < 1) ∨ _ then _ else _) = _
      by_cases c : tmB n (u.2.1 f_now0) 0 = false
      · rw [if_pos (Or.inr c), if_pos c]
      · rw [if_neg (fun y => y.elim (fun y => by cases y.1) c), if_neg c]
    rw [e]
    refine mjZ_y rfl rfl 1 _ _ _ _ ty2 ?_
    refine And.intro (fun c => ?_) (fun c => ?_)
    · refine mjZ_y rfl rfl 5 _ _ _ _ ty2 ?_
      refine (And.intro (Nat.le_of_ble_eq_true rfl) (And.intro rfl (And.intro (Nat.le_of_ble_eq_true rfl) (And.intro (Nat.le_of_ble_eq_true rfl) (mjY_mono ty2 (fun q_ u3 ty3 h_ => ?_) (c_timeOf ty2 0 (by decide) (x1 := nI 30 - Int32.ofInt 30) rfl))))))
      obtain ⟨rfl, f3, h3⟩ := h_
      intro _
      have enow : u2.2.1 f_now0 = u.2.1 f_now0 := f2.2.1 _ (by decide)
      rw [show u2.2.1 f_num = n from en, enow] at h3 ⊢
      have w3 := w2.fr f3 (by decide) (by decide)
      have f3o : Fr opFs oH u u3 := f2o.tr (f3.up (by decide) (by decide))
      cases hb : tmB n (u.2.1 f_now0) 0 with
      | true =>
        refine mjZ_y rfl rfl 1 _ _ _ _ ty3 ?_
        refine And.intro (fun b => ?_) (fun b => ?_)
        · refine mjZ_y rfl rfl 2 _ _ _ _ ty3 ?_
          refine And.intro rfl (And.intro (Or.inr ⟨rfl, Or.inr rfl⟩) ?_)
          exact ⟨rfl, f3o, w3, fun _ q y => (h3 hb).trans (Option.some.inj y)⟩
        · exact absurd (show ¬ (1 : Int32) = 0 by decide) b
      | false =>
        refine mjZ_y rfl rfl 1 _ _ _ _ ty3 ?_
        refine And.intro (fun b => ?_) (fun b => ?_)
        · exact absurd rfl b
        · refine mjZ_y rfl rfl 2 _ _ _ _ ty3 ?_
          refine (And.intro (Nat.le_of_ble_eq_true rfl) (And.intro rfl (And.intro (Nat.le_of_ble_eq_true rfl) (And.intro (Nat.le_of_ble_eq_true rfl) (mjY_mono ty3 (fun q_ u4 ty4 h_ => ?_) (w_badTime w3 ty3))))))
          obtain ⟨rfl, w4, f4⟩ := h_
          intro _
          refine mjZ_y rfl rfl 1 _ _ _ _ ty4 ?_
          refine And.intro rfl (And.intro (Or.inr ⟨rfl, Or.inl rfl⟩) ?_)
          exact ⟨rfl, f3o.tr f4.op, w4, fun z => by cases z⟩
    · exact absurd (show ¬ (1 : Int32) = 0 by decide) c
  · have e : tiR false 0 (u.2.1 f_now0) v = none := by unfold tiR; rw [hz]; rfl
    rw [e]
    refine mjZ_y rfl rfl 1 _ _ _ _ ty2 ?_
    refine And.intro (fun c => ?_) (fun c => ?_)
    · exact absurd rfl c
    · refine mjZ_y rfl rfl 2 _ _ _ _ ty2 ?_
      refine (And.intro (Nat.le_of_ble_eq_true rfl) (And.intro rfl (And.intro (Nat.le_of_ble_eq_true rfl) (And.intro (Nat.le_of_ble_eq_true rfl) (mjY_mono ty2 (fun q_ u3 ty3 h_ => ?_) (w_noInteger w2 ty2))))))
      obtain ⟨rfl, w3, f3⟩ := h_
      intro _
      refine mjZ_y rfl rfl 1 _ _ _ _ ty3 ?_
      refine And.intro rfl (And.intro (Or.inr ⟨rfl, Or.inl rfl⟩) ?_)
      exact ⟨rfl, f2o.tr f3.op, w3, fun z => by cases z⟩
set_option maxRecDepth 100000 in
theorem c_opt_31 {u : mjS} {ws : List (List Int32)} {ks : List KR} {l : List Int32} (h : Wd u ws ks l) (ty : mjTY u) (z : flZ u) {v : List Int32} (h2 : ws[2]? = some v) : mjY mjPP (mjQQ Y) (d + 7) 72 3 [some (.ref 0), some (.int (nI 31))] [] u (opK u ws ks l (tiR false 1 (u.2.1 f_now0) v).isSome (fun t => ∀ q, tiR false 1 (u.2.1 f_now0) v = some q → t.2.1 f_time = q)) := by
  have ne : ∀ c : Nat, c < 128 ∧ c ≠ 31 → ¬ nI 31 = nI c := fun c hc y => hc.2 ((nI_eq (by decide) (by omega)).mp y).symm
  refine mjZ_y rfl rfl 18 _ _ _ _ ty ?_
  refine (bn_t (ne 2 (by decide)) (bn_f (ne 6 (by decide)) (bn_t (ne 7 (by decide)) (bk_f rfl (bk_f rfl (And.intro (Nat.le_of_ble_eq_true rfl) (And.intro rfl (And.intro (Nat.le_of_ble_eq_true rfl) (And.intro (Nat.le_of_ble_eq_true rfl) (mjY_mono ty (fun q_ u2 ty2 h_ => ?_) (w_integer h ty h2 (x := Int32.ofInt 2) rfl)))))))))))
  obtain ⟨w2, f2, hz⟩ := h_
  intro _
  have f2o : Fr opFs oH u u2 := f2.up (by decide) (by decide)
  rcases hz with ⟨n, hz, rfl, en⟩ | ⟨hz, rfl⟩
  · have e : tiR false 1 (u.2.1 f_now0) v = if tmB n (u.2.1 f_now0) 1 = false then none else some (tmV n (u.2.1 f_now0) 1) := by
      unfold tiR; rw [hz]; show (if (false = true ∧ n < 1) ∨ _ then _ else _) = _
      by_cases c : tmB n (u.2.1 f_now0) 1 = false
      · rw [if_pos (Or.inr c), if_pos c]
      · rw [if_neg (fun y => y.elim (fun y => by cases y.1) c), if_neg c]
    rw [e]
    refine mjZ_y rfl rfl 1 _ _ _ _ ty2 ?_
    refine And.intro (fun c => ?_) (fun c => ?_)
    · refine mjZ_y rfl rfl 5 _ _ _ _ ty2 ?_
      refine (And.intro (Nat.le_of_ble_eq_true rfl) (And.intro rfl (And.intro (Nat.le_of_ble_eq_true rfl) (And.intro (Nat.le_of_ble_eq_true rfl) (mjY_mono ty2 (fun q_ u3 ty3 h_ => ?_) (c_timeOf ty2 1 (by decide) (x1 := nI 31 - Int32.ofInt 30) rfl))))))
      obtain ⟨rfl, f3, h3⟩ := h_
      intro _
      have enow : u2.2.1 f_now0 = u.2.1 f_now0 := f2.2.1 _ (by decide)
      rw [show u2.2.1 f_num = n from en, enow] at h3 ⊢
      have w3 := w2.fr f3 (by decide) (by decide)
      have f3o : Fr opFs oH u u3 := f2o.tr (f3.up (by decide) (by decide))
      cases hb : tmB n (u.2.1 f_now0) 1 with
      | true =>
        refine mjZ_y rfl rfl 1 _ _ _ _ ty3 ?_
        refine And.intro (fun b => ?_) (fun b => ?_)
        · refine mjZ_y rfl rfl 2 _ _ _ _ ty3 ?_
          refine And.intro rfl (And.intro (Or.inr ⟨rfl, Or.inr rfl⟩) ?_)
          exact ⟨rfl, f3o, w3, fun _ q y => (h3 hb).trans (Option.some.inj y)⟩
        · exact absurd (show ¬ (1 : Int32) = 0 by decide) b
      | false =>
        refine mjZ_y rfl rfl 1 _ _ _ _ ty3 ?_
        refine And.intro (fun b => ?_) (fun b => ?_)
        · exact absurd rfl b
        · refine mjZ_y rfl rfl 2 _ _ _ _ ty3 ?_
          refine (And.intro (Nat.le_of_ble_eq_true rfl) (And.intro rfl (And.intro (Nat.le_of_ble_eq_true rfl) (And.intro (Nat.le_of_ble_eq_true rfl) (mjY_mono ty3 (fun q_ u4 ty4 h_ => ?_) (w_badTime w3 ty3))))))
          obtain ⟨rfl, w4, f4⟩ := h_
          intro _
          refine mjZ_y rfl rfl 1 _ _ _ _ ty4 ?_
          refine And.intro rfl (And.intro (Or.inr ⟨rfl, Or.inl rfl⟩) ?_)
          exact ⟨rfl, f3o.tr f4.op, w4, fun z => by cases z⟩
    · exact absurd (show ¬ (1 : Int32) = 0 by decide) c
  · have e : tiR false 1 (u.2.1 f_now0) v = none := by unfold tiR; rw [hz]; rfl
    rw [e]
    refine mjZ_y rfl rfl 1 _ _ _ _ ty2 ?_
    refine And.intro (fun c => ?_) (fun c => ?_)
    · exact absurd rfl c
    · refine mjZ_y rfl rfl 2 _ _ _ _ ty2 ?_
      refine (And.intro (Nat.le_of_ble_eq_true rfl) (And.intro rfl (And.intro (Nat.le_of_ble_eq_true rfl) (And.intro (Nat.le_of_ble_eq_true rfl) (mjY_mono ty2 (fun q_ u3 ty3 h_ => ?_) (w_noInteger w2 ty2))))))
      obtain ⟨rfl, w3, f3⟩ := h_
      intro _
      refine mjZ_y rfl rfl 1 _ _ _ _ ty3 ?_
      refine And.intro rfl (And.intro (Or.inr ⟨rfl, Or.inl rfl⟩) ?_)
      exact ⟨rfl, f2o.tr f3.op, w3, fun z => by cases z⟩
set_option maxRecDepth 100000 in
theorem c_opt_32 {u : mjS} {ws : List (List Int32)} {ks : List KR} {l : List Int32} (h : Wd u ws ks l) (ty : mjTY u) (z : flZ u) {v : List Int32} (h2 : ws[2]? = some v) : mjY mjPP (mjQQ Y) (d + 7) 72 3 [some (.ref 0), some (.int (nI 32))] [] u (opK u ws ks l (tiR false 2 (u.2.1 f_now0) v).isSome (fun t => ∀ q, tiR false 2 (u.2.1 f_now0) v = some q → t.2.1 f_time = q)) := by
  have ne : ∀ c : Nat, c < 128 ∧ c ≠ 32 → ¬ nI 32 = nI c := fun c hc y => hc.2 ((nI_eq (by decide) (by omega)).mp y).symm
  refine mjZ_y rfl rfl 18 _ _ _ _ ty ?_
  refine (bn_t (ne 2 (by decide)) (bn_f (ne 6 (by decide)) (bn_t (ne 7 (by decide)) (bk_f rfl (bk_f rfl (And.intro (Nat.le_of_ble_eq_true rfl) (And.intro rfl (And.intro (Nat.le_of_ble_eq_true rfl) (And.intro (Nat.le_of_ble_eq_true rfl) (mjY_mono ty (fun q_ u2 ty2 h_ => ?_) (w_integer h ty h2 (x := Int32.ofInt 2) rfl)))))))))))
  obtain ⟨w2, f2, hz⟩ := h_
  intro _
  have f2o : Fr opFs oH u u2 := f2.up (by decide) (by decide)
  rcases hz with ⟨n, hz, rfl, en⟩ | ⟨hz, rfl⟩
  · have e : tiR false 2 (u.2.1 f_now0) v = if tmB n (u.2.1 f_now0) 2 = false then none else some (tmV n (u.2.1 f_now0) 2) := by
      unfold tiR; rw [hz]; show (if (false = true ∧ n < 1) ∨ _ then _ else _) = _
      by_cases c : tmB n (u.2.1 f_now0) 2 = false
      · rw [if_pos (Or.inr c), if_pos c]
      · rw [if_neg (fun y => y.elim (fun y => by cases y.1) c), if_neg c]
    rw [e]
    refine mjZ_y rfl rfl 1 _ _ _ _ ty2 ?_
    refine And.intro (fun c => ?_) (fun c => ?_)
    · refine mjZ_y rfl rfl 5 _ _ _ _ ty2 ?_
      refine (And.intro (Nat.le_of_ble_eq_true rfl) (And.intro rfl (And.intro (Nat.le_of_ble_eq_true rfl) (And.intro (Nat.le_of_ble_eq_true rfl) (mjY_mono ty2 (fun q_ u3 ty3 h_ => ?_) (c_timeOf ty2 2 (by decide) (x1 := nI 32 - Int32.ofInt 30) rfl))))))
      obtain ⟨rfl, f3, h3⟩ := h_
      intro _
      have enow : u2.2.1 f_now0 = u.2.1 f_now0 := f2.2.1 _ (by decide)
      rw [show u2.2.1 f_num = n from en, enow] at h3 ⊢
      have w3 := w2.fr f3 (by decide) (by decide)
      have f3o : Fr opFs oH u u3 := f2o.tr (f3.up (by decide) (by decide))
      cases hb : tmB n (u.2.1 f_now0) 2 with
      | true =>
        refine mjZ_y rfl rfl 1 _ _ _ _ ty3 ?_
        refine And.intro (fun b => ?_) (fun b => ?_)
        · refine mjZ_y rfl rfl 2 _ _ _ _ ty3 ?_
          refine And.intro rfl (And.intro (Or.inr ⟨rfl, Or.inr rfl⟩) ?_)
          exact ⟨rfl, f3o, w3, fun _ q y => (h3 hb).trans (Option.some.inj y)⟩
        · exact absurd (show ¬ (1 : Int32) = 0 by decide) b
      | false =>
        refine mjZ_y rfl rfl 1 _ _ _ _ ty3 ?_
        refine And.intro (fun b => ?_) (fun b => ?_)
        · exact absurd rfl b
        · refine mjZ_y rfl rfl 2 _ _ _ _ ty3 ?_
          refine (And.intro (Nat.le_of_ble_eq_true rfl) (And.intro rfl (And.intro (Nat.le_of_ble_eq_true rfl) (And.intro (Nat.le_of_ble_eq_true rfl) (mjY_mono ty3 (fun q_ u4 ty4 h_ => ?_) (w_badTime w3 ty3))))))
          obtain ⟨rfl, w4, f4⟩ := h_
          intro _
          refine mjZ_y rfl rfl 1 _ _ _ _ ty4 ?_
          refine And.intro rfl (And.intro (Or.inr ⟨rfl, Or.inl rfl⟩) ?_)
          exact ⟨rfl, f3o.tr f4.op, w4, fun z => by cases z⟩
    · exact absurd (show ¬ (1 : Int32) = 0 by decide) c
  · have e : tiR false 2 (u.2.1 f_now0) v = none := by unfold tiR; rw [hz]; rfl
    rw [e]
    refine mjZ_y rfl rfl 1 _ _ _ _ ty2 ?_
    refine And.intro (fun c => ?_) (fun c => ?_)
    · exact absurd rfl c
    · refine mjZ_y rfl rfl 2 _ _ _ _ ty2 ?_
      refine (And.intro (Nat.le_of_ble_eq_true rfl) (And.intro rfl (And.intro (Nat.le_of_ble_eq_true rfl) (And.intro (Nat.le_of_ble_eq_true rfl) (mjY_mono ty2 (fun q_ u3 ty3 h_ => ?_) (w_noInteger w2 ty2))))))
      obtain ⟨rfl, w3, f3⟩ := h_
      intro _
      refine mjZ_y rfl rfl 1 _ _ _ _ ty3 ?_
      refine And.intro rfl (And.intro (Or.inr ⟨rfl, Or.inl rfl⟩) ?_)
      exact ⟨rfl, f2o.tr f3.op, w3, fun z => by cases z⟩
set_option maxRecDepth 100000 in
theorem c_opt_33 {u : mjS} {ws : List (List Int32)} {ks : List KR} {l : List Int32} (h : Wd u ws ks l) (ty : mjTY u) (z : flZ u) {v : List Int32} (h2 : ws[2]? = some v) : mjY mjPP (mjQQ Y) (d + 7) 72 3 [some (.ref 0), some (.int (nI 33))] [] u (opK u ws ks l (tiR false 3 (u.2.1 f_now0) v).isSome (fun t => ∀ q, tiR false 3 (u.2.1 f_now0) v = some q → t.2.1 f_time = q)) := by
  have ne : ∀ c : Nat, c < 128 ∧ c ≠ 33 → ¬ nI 33 = nI c := fun c hc y => hc.2 ((nI_eq (by decide) (by omega)).mp y).symm
  refine mjZ_y rfl rfl 18 _ _ _ _ ty ?_
  refine (bn_t (ne 2 (by decide)) (bn_f (ne 6 (by decide)) (bn_t (ne 7 (by decide)) (bk_f rfl (bk_f rfl (And.intro (Nat.le_of_ble_eq_true rfl) (And.intro rfl (And.intro (Nat.le_of_ble_eq_true rfl) (And.intro (Nat.le_of_ble_eq_true rfl) (mjY_mono ty (fun q_ u2 ty2 h_ => ?_) (w_integer h ty h2 (x := Int32.ofInt 2) rfl)))))))))))
  obtain ⟨w2, f2, hz⟩ := h_
  intro _
  have f2o : Fr opFs oH u u2 := f2.up (by decide) (by decide)
  rcases hz with ⟨n, hz, rfl, en⟩ | ⟨hz, rfl⟩
  · have e : tiR false 3 (u.2.1 f_now0) v = if tmB n (u.2.1 f_now0) 3 = false then none else some (tmV n (u.2.1 f_now0) 3) := by
      unfold tiR; rw [hz]; show (if (false = true ∧ n < 1) ∨ _ then _ else _) = _
      by_cases c : tmB n (u.2.1 f_now0) 3 = false
      · rw [if_pos (Or.inr c), if_pos c]
      · rw [if_neg (fun y => y.elim (fun y => by cases y.1) c), if_neg c]
    rw [e]
    refine mjZ_y rfl rfl 1 _ _ _ _ ty2 ?_
    refine And.intro (fun c => ?_) (fun c => ?_)
    · refine mjZ_y rfl rfl 5 _ _ _ _ ty2 ?_
      refine (And.intro (Nat.le_of_ble_eq_true rfl) (And.intro rfl (And.intro (Nat.le_of_ble_eq_true rfl) (And.intro (Nat.le_of_ble_eq_true rfl) (mjY_mono ty2 (fun q_ u3 ty3 h_ => ?_) (c_timeOf ty2 3 (by decide) (x1 := nI 33 - Int32.ofInt 30) rfl))))))
      obtain ⟨rfl, f3, h3⟩ := h_
      intro _
      have enow : u2.2.1 f_now0 = u.2.1 f_now0 := f2.2.1 _ (by decide)
      rw [show u2.2.1 f_num = n from en, enow] at h3 ⊢
      have w3 := w2.fr f3 (by decide) (by decide)
      have f3o : Fr opFs oH u u3 := f2o.tr (f3.up (by decide) (by decide))
      cases hb : tmB n (u.2.1 f_now0) 3 with
      | true =>
        refine mjZ_y rfl rfl 1 _ _ _ _ ty3 ?_
        refine And.intro (fun b => ?_) (fun b => ?_)
        · refine mjZ_y rfl rfl 2 _ _ _ _ ty3 ?_
          refine And.intro rfl (And.intro (Or.inr ⟨rfl, Or.inr rfl⟩) ?_)
          exact ⟨rfl, f3o, w3, fun _ q y => (h3 hb).trans (Option.some.inj y)⟩
        · exact absurd (show ¬ (1 : Int32) = 0 by decide) b
      | false =>
        refine mjZ_y rfl rfl 1 _ _ _ _ ty3 ?_
        refine And.intro (fun b => ?_) (fun b => ?_)
        · exact absurd rfl b
        · refine mjZ_y rfl rfl 2 _ _ _ _ ty3 ?_
          refine (And.intro (Nat.le_of_ble_eq_true rfl) (And.intro rfl (And.intro (Nat.le_of_ble_eq_true rfl) (And.intro (Nat.le_of_ble_eq_true rfl) (mjY_mono ty3 (fun q_ u4 ty4 h_ => ?_) (w_badTime w3 ty3))))))
          obtain ⟨rfl, w4, f4⟩ := h_
          intro _
          refine mjZ_y rfl rfl 1 _ _ _ _ ty4 ?_
          refine And.intro rfl (And.intro (Or.inr ⟨rfl, Or.inl rfl⟩) ?_)
          exact ⟨rfl, f3o.tr f4.op, w4, fun z => by cases z⟩
    · exact absurd (show ¬ (1 : Int32) = 0 by decide) c
  · have e : tiR false 3 (u.2.1 f_now0) v = none := by unfold tiR; rw [hz]; rfl
    rw [e]
    refine mjZ_y rfl rfl 1 _ _ _ _ ty2 ?_
    refine And.intro (fun c => ?_) (fun c => ?_)
    · exact absurd rfl c
    · refine mjZ_y rfl rfl 2 _ _ _ _ ty2 ?_
      refine (And.intro (Nat.le_of_ble_eq_true rfl) (And.intro rfl (And.intro (Nat.le_of_ble_eq_true rfl) (And.intro (Nat.le_of_ble_eq_true rfl) (mjY_mono ty2 (fun q_ u3 ty3 h_ => ?_) (w_noInteger w2 ty2))))))
      obtain ⟨rfl, w3, f3⟩ := h_
      intro _
      refine mjZ_y rfl rfl 1 _ _ _ _ ty3 ?_
      refine And.intro rfl (And.intro (Or.inr ⟨rfl, Or.inl rfl⟩) ?_)
      exact ⟨rfl, f2o.tr f3.op, w3, fun z => by cases z⟩
end OPTS