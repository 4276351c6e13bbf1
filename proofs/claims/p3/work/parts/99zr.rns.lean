/-! run, command by command. -/
section RNS
variable {Y : Nat → MethodName × ByteArray} {d : Nat}
theorem srR_ge {v : List Int32} {n : Int64} (h : srR false v = some n) : ¬ n < 0 := by
  unfold srR at h
  cases e : intF v with
  | none => rw [e] at h; cases h
  | some m =>
    rw [e] at h
    have h : (if m < 0 ∨ (false = true ∧ 131071 < m) then none else some m) = some n := h
    by_cases c : m < 0 ∨ (false = true ∧ 131071 < m)
    · rw [if_pos c] at h; cases h
    · rw [if_neg c] at h; cases h; exact fun z => c (Or.inl z)
theorem srR_top {v : List Int32} {n : Int64} (h : srR true v = some n) : ¬ n < 0 ∧ n.toInt.toNat ≤ 131071 := by
  unfold srR at h
  cases e : intF v with
  | none => rw [e] at h; cases h
  | some m =>
    rw [e] at h
    have h : (if m < 0 ∨ (true = true ∧ 131071 < m) then none else some m) = some n := h
    by_cases c : m < 0 ∨ (true = true ∧ 131071 < m)
    · rw [if_pos c] at h; cases h
    · rw [if_neg c] at h; cases h
      refine ⟨fun z => c (Or.inl z), ?_⟩
      have h2 : ¬ 131071 < n := fun z => c (Or.inr ⟨rfl, z⟩)
      have h3 : n.toInt ≤ (131071 : Int64).toInt := Int64.le_iff_toInt_le.mp (Int64.not_lt.mp h2)
      have h4 : (131071 : Int64).toInt = 131071 := by decide
      omega
theorem sbR_ge {v w : List Int32} {n : Int64 × Int64} (h : sbR v w = some n) : ¬ n.1 < 0 ∧ n.1.toInt.toNat ≤ 131071 := by
  unfold sbR at h
  cases e : twF v w with
  | none => rw [e] at h; cases h
  | some m =>
    rw [e] at h
    have h : (if m.1 < 0 ∨ 131071 < m.1 ∨ m.2 < 0 ∨ 1 < m.2 then none else some m) = some n := h
    by_cases c : m.1 < 0 ∨ 131071 < m.1 ∨ m.2 < 0 ∨ 1 < m.2
    · rw [if_pos c] at h; cases h
    · rw [if_neg c] at h; cases h
      refine ⟨fun z => c (Or.inl z), ?_⟩
      have h2 : ¬ 131071 < n.1 := fun z => c (Or.inr (Or.inl z))
      have h3 : n.1.toInt ≤ (131071 : Int64).toInt := Int64.le_iff_toInt_le.mp (Int64.not_lt.mp h2)
      have h4 : (131071 : Int64).toInt = 131071 := by decide
      omega
theorem ppR_ge {ws : Req} {n : Int64} (h : ppR ws = some n) : ¬ n < 0 := by
  unfold ppR at h
  cases e : ws[2]? with
  | none => rw [e] at h; cases h; decide
  | some v => rw [e] at h; exact srR_ge h
theorem mv1 {i : Nat} {g : Int32} {ws : Req} {A : List AK} (hw : 3 ≤ ws.length) (sf : sfB i g ws A = true) (hi : i = 50 ∨ i = 51) : soT A (gw ws 1) 1 = true := by
  have e : sfB i g ws A = (soW A ws 1 1 && soW A ws 2 1) := by rcases hi with rfl | rfl <;> rfl
  rw [e, Bool.and_eq_true] at sf
  rw [← soW_at (gw_at (show 1 < ws.length by omega))]; exact sf.1
theorem so77 {g : Int32} {ws : Req} {A : List AK} (hw : 2 ≤ ws.length) (sf : sfB 77 g ws A = true) : soT A (gw ws 1) 3 = true := by
  have e : sfB 77 g ws A = soW A ws 1 3 := rfl
  rw [e] at sf
  rw [← soW_at (gw_at (show 1 < ws.length by omega))]; exact sf
theorem rn_11 {σ : mjS} {ws : Req} {ks : List KR} {l : List Int32} (h : Wd σ ws ks l) (ty : mjTY σ) (B : BD σ 11 ws ks l) (hw : 3 ≤ ws.length) : mjY mjPP (mjQQ Y) (d + 9) 155 0 (mjL0 2 [.ref 0, .int (nI 11)]) [] σ (rnK σ ws ks l (rnE σ ks 11 ws)) := by
  obtain ⟨B1, B2, B3, B4, B5, B6, B7, B8, B9⟩ := B
  have g1 := gw_sl ws 1; have g2 := gw_sl ws 2; have g3 := gw_sl ws 3; have g4 := gw_sl ws 4; have gz := sl_sz ws; have h1024 := h.2.1.2.1
  refine c_run (b := true) (Q := flZ) ty 11 (by decide) rfl B5 (fun _ => by omega) (fun _ => by omega) (c_opt h ty (fun u tu fu hu z => c_opt_none hu tu z 11 (by decide) (by decide) rfl)) (fun u fu hu c => rnK_no fu hu (rnE_no (by decide) c (fun hb => ?_))) (fun hb u tu fu hu q nr sf => ?_)
  · cases hb
  · refine dp_11 tu (fun r u k => k.1) (mjY_mono tu (fun r v tv k => rnK_cmd fu (by omega) k ?_) (r_append hu tu (gw_at (by omega)) (gw_at (by omega)) (B6.tx _) (B7 _ (gw_mem (by omega))).1 (by omega) (by omega) (by omega) (by omega)))
    rw [rnE_go (by decide) nr sf]
    rfl
theorem rn_14 {σ : mjS} {ws : Req} {ks : List KR} {l : List Int32} (h : Wd σ ws ks l) (ty : mjTY σ) (B : BD σ 14 ws ks l) (hw : 4 ≤ ws.length) : mjY mjPP (mjQQ Y) (d + 9) 155 0 (mjL0 2 [.ref 0, .int (nI 14)]) [] σ (rnK σ ws ks l (rnE σ ks 14 ws)) := by
  obtain ⟨B1, B2, B3, B4, B5, B6, B7, B8, B9⟩ := B
  have g1 := gw_sl ws 1; have g2 := gw_sl ws 2; have g3 := gw_sl ws 3; have g4 := gw_sl ws 4; have gz := sl_sz ws; have h1024 := h.2.1.2.1
  refine c_run (b := (srR false (gw ws 2)).isSome) (Q := (fun t => ∀ q, srR false (gw ws 2) = some q → t.2.1 f_n1 = q)) ty 14 (by decide) rfl B5 (fun _ => by omega) (fun _ => by omega) (c_opt h ty (fun u tu fu hu z => c_opt_14 hu tu z (gw_at (by omega)))) (fun u fu hu c => rnK_no fu hu (rnE_no (by decide) c (fun hb => ?_))) (fun hb u tu fu hu q nr sf => ?_)
  · have e : srR false (gw ws 2) = none := by cases e : srR false (gw ws 2) with | none => rfl | some n => rw [e] at hb; cases hb
    show nW 14 ws ((srR false (gw ws 2)).bind (fun n => srF (strip ks) (gw ws 1) (gw ws 3) n.toInt.toNat)) = none; rw [e]; rfl
  · obtain ⟨n, en⟩ := Option.isSome_iff_exists.mp hb
    have n0 := srR_ge en
    obtain ⟨n1, n2⟩ := lN_of n0
    refine dp_14 tu (fun r u k => k.1) (mjY_mono tu (fun r v tv k => rnK_cmd fu (by omega) k ?_) (r_setRange hu tu (gw_at (by omega)) (gw_at (by omega)) n.toInt.toNat n2 ((q n en).trans n1) (B6.tx _) (B7 _ (gw_mem (by omega))).1 (by omega) (by omega) (by omega) (by omega)))
    rw [rnE_go (by decide) nr sf]
    show nW 14 ws ((srR false (gw ws 2)).bind (fun n => srF (strip ks) (gw ws 1) (gw ws 3) n.toInt.toNat)) = _; rw [en]; rfl
theorem rn_15 {σ : mjS} {ws : Req} {ks : List KR} {l : List Int32} (h : Wd σ ws ks l) (ty : mjTY σ) (B : BD σ 15 ws ks l) (hw : 2 ≤ ws.length) : mjY mjPP (mjQQ Y) (d + 9) 155 0 (mjL0 2 [.ref 0, .int (nI 15)]) [] σ (rnK σ ws ks l (rnE σ ks 15 ws)) := by
  obtain ⟨B1, B2, B3, B4, B5, B6, B7, B8, B9⟩ := B
  have g1 := gw_sl ws 1; have g2 := gw_sl ws 2; have g3 := gw_sl ws 3; have g4 := gw_sl ws 4; have gz := sl_sz ws; have h1024 := h.2.1.2.1
  refine c_run (b := true) (Q := flZ) ty 15 (by decide) rfl B5 (fun _ => by omega) (fun _ => by omega) (c_opt h ty (fun u tu fu hu z => c_opt_none hu tu z 15 (by decide) (by decide) rfl)) (fun u fu hu c => rnK_no fu hu (rnE_no (by decide) c (fun hb => ?_))) (fun hb u tu fu hu q nr sf => ?_)
  · cases hb
  · refine dp_15 tu (fun r u k => k.1) (mjY_mono tu (fun r v tv k => rnK_cmd fu (by omega) k ?_) (r_incr hu tu _ 15 rfl (by decide) _ rfl (gw_at (by omega)) (by omega) (by omega) (by omega)))
    rw [rnE_go (by decide) nr sf]
    rfl
theorem rn_16 {σ : mjS} {ws : Req} {ks : List KR} {l : List Int32} (h : Wd σ ws ks l) (ty : mjTY σ) (B : BD σ 16 ws ks l) (hw : 2 ≤ ws.length) : mjY mjPP (mjQQ Y) (d + 9) 155 0 (mjL0 2 [.ref 0, .int (nI 16)]) [] σ (rnK σ ws ks l (rnE σ ks 16 ws)) := by
  obtain ⟨B1, B2, B3, B4, B5, B6, B7, B8, B9⟩ := B
  have g1 := gw_sl ws 1; have g2 := gw_sl ws 2; have g3 := gw_sl ws 3; have g4 := gw_sl ws 4; have gz := sl_sz ws; have h1024 := h.2.1.2.1
  refine c_run (b := true) (Q := flZ) ty 16 (by decide) rfl B5 (fun _ => by omega) (fun _ => by omega) (c_opt h ty (fun u tu fu hu z => c_opt_none hu tu z 16 (by decide) (by decide) rfl)) (fun u fu hu c => rnK_no fu hu (rnE_no (by decide) c (fun hb => ?_))) (fun hb u tu fu hu q nr sf => ?_)
  · cases hb
  · refine dp_16 tu (fun r u k => k.1) (mjY_mono tu (fun r v tv k => rnK_cmd fu (by omega) k ?_) (r_incr hu tu _ 16 rfl (by decide) _ rfl (gw_at (by omega)) (by omega) (by omega) (by omega)))
    rw [rnE_go (by decide) nr sf]
    rfl
theorem rn_17 {σ : mjS} {ws : Req} {ks : List KR} {l : List Int32} (h : Wd σ ws ks l) (ty : mjTY σ) (B : BD σ 17 ws ks l) (hw : 3 ≤ ws.length) : mjY mjPP (mjQQ Y) (d + 9) 155 0 (mjL0 2 [.ref 0, .int (nI 17)]) [] σ (rnK σ ws ks l (rnE σ ks 17 ws)) := by
  obtain ⟨B1, B2, B3, B4, B5, B6, B7, B8, B9⟩ := B
  have g1 := gw_sl ws 1; have g2 := gw_sl ws 2; have g3 := gw_sl ws 3; have g4 := gw_sl ws 4; have gz := sl_sz ws; have h1024 := h.2.1.2.1
  refine c_run (b := (intF (gw ws 2)).isSome) (Q := (fun t => ∀ q, intF (gw ws 2) = some q → t.2.1 f_n1 = q)) ty 17 (by decide) rfl B5 (fun _ => by omega) (fun _ => by omega) (c_opt h ty (fun u tu fu hu z => c_opt_17 hu tu z (gw_at (by omega)))) (fun u fu hu c => rnK_no fu hu (rnE_no (by decide) c (fun hb => ?_))) (fun hb u tu fu hu q nr sf => ?_)
  · have e : intF (gw ws 2) = none := by cases e : intF (gw ws 2) with | none => rfl | some n => rw [e] at hb; cases hb
    show nW 17 ws ((intF (gw ws 2)).bind (fun n => icF (strip ks) (gw ws 1) 17 n)) = none; rw [e]; rfl
  · obtain ⟨n, en⟩ := Option.isSome_iff_exists.mp hb
    refine dp_17 tu (fun r u k => k.1) (mjY_mono tu (fun r v tv k => rnK_cmd fu (by omega) k ?_) (r_incr hu tu _ 17 rfl (by decide) n (q n en) (gw_at (by omega)) (by omega) (by omega) (by omega)))
    rw [rnE_go (by decide) nr sf]
    show nW 17 ws ((intF (gw ws 2)).bind (fun n => icF (strip ks) (gw ws 1) 17 n)) = _; rw [en]; rfl
theorem rn_18 {σ : mjS} {ws : Req} {ks : List KR} {l : List Int32} (h : Wd σ ws ks l) (ty : mjTY σ) (B : BD σ 18 ws ks l) (hw : 3 ≤ ws.length) : mjY mjPP (mjQQ Y) (d + 9) 155 0 (mjL0 2 [.ref 0, .int (nI 18)]) [] σ (rnK σ ws ks l (rnE σ ks 18 ws)) := by
  obtain ⟨B1, B2, B3, B4, B5, B6, B7, B8, B9⟩ := B
  have g1 := gw_sl ws 1; have g2 := gw_sl ws 2; have g3 := gw_sl ws 3; have g4 := gw_sl ws 4; have gz := sl_sz ws; have h1024 := h.2.1.2.1
  refine c_run (b := (intF (gw ws 2)).isSome) (Q := (fun t => ∀ q, intF (gw ws 2) = some q → t.2.1 f_n1 = q)) ty 18 (by decide) rfl B5 (fun _ => by omega) (fun _ => by omega) (c_opt h ty (fun u tu fu hu z => c_opt_18 hu tu z (gw_at (by omega)))) (fun u fu hu c => rnK_no fu hu (rnE_no (by decide) c (fun hb => ?_))) (fun hb u tu fu hu q nr sf => ?_)
  · have e : intF (gw ws 2) = none := by cases e : intF (gw ws 2) with | none => rfl | some n => rw [e] at hb; cases hb
    show nW 18 ws ((intF (gw ws 2)).bind (fun n => icF (strip ks) (gw ws 1) 18 n)) = none; rw [e]; rfl
  · obtain ⟨n, en⟩ := Option.isSome_iff_exists.mp hb
    refine dp_18 tu (fun r u k => k.1) (mjY_mono tu (fun r v tv k => rnK_cmd fu (by omega) k ?_) (r_incr hu tu _ 18 rfl (by decide) n (q n en) (gw_at (by omega)) (by omega) (by omega) (by omega)))
    rw [rnE_go (by decide) nr sf]
    show nW 18 ws ((intF (gw ws 2)).bind (fun n => icF (strip ks) (gw ws 1) 18 n)) = _; rw [en]; rfl
theorem rn_19 {σ : mjS} {ws : Req} {ks : List KR} {l : List Int32} (h : Wd σ ws ks l) (ty : mjTY σ) (B : BD σ 19 ws ks l) (hw : 4 ≤ ws.length) : mjY mjPP (mjQQ Y) (d + 9) 155 0 (mjL0 2 [.ref 0, .int (nI 19)]) [] σ (rnK σ ws ks l (rnE σ ks 19 ws)) := by
  obtain ⟨B1, B2, B3, B4, B5, B6, B7, B8, B9⟩ := B
  have g1 := gw_sl ws 1; have g2 := gw_sl ws 2; have g3 := gw_sl ws 3; have g4 := gw_sl ws 4; have gz := sl_sz ws; have h1024 := h.2.1.2.1
  refine c_run (b := (sbR (gw ws 2) (gw ws 3)).isSome) (Q := (fun t => ∀ q, sbR (gw ws 2) (gw ws 3) = some q → t.2.1 f_n1 = q.1 ∧ t.2.1 f_n2 = q.2)) ty 19 (by decide) rfl B5 (fun _ => by omega) (fun _ => by omega) (c_opt h ty (fun u tu fu hu z => c_opt_19 hu tu z (gw_at (by omega)) (gw_at (by omega)))) (fun u fu hu c => rnK_no fu hu (rnE_no (by decide) c (fun hb => ?_))) (fun hb u tu fu hu q nr sf => ?_)
  · have e : sbR (gw ws 2) (gw ws 3) = none := by cases e : sbR (gw ws 2) (gw ws 3) with | none => rfl | some n => rw [e] at hb; cases hb
    show nW 19 ws ((sbR (gw ws 2) (gw ws 3)).bind (fun n => sbF (strip ks) (gw ws 1) n.1.toInt.toNat n.2)) = none; rw [e]; rfl
  · obtain ⟨n, en⟩ := Option.isSome_iff_exists.mp hb
    obtain ⟨n0, n3⟩ := sbR_ge en
    obtain ⟨n1, n2⟩ := lN_of n0
    refine dp_19 tu (fun r u k => k.1) (mjY_mono tu (fun r v tv k => rnK_cmd fu (by omega) k ?_) (r_setBit hu tu (gw_at (by omega)) n.1.toInt.toNat n3 ((q n en).1.trans n1) n.2 (q n en).2 (B6.tx _) (by omega) (by omega) (by omega) (by omega)))
    rw [rnE_go (by decide) nr sf]
    show nW 19 ws ((sbR (gw ws 2) (gw ws 3)).bind (fun n => sbF (strip ks) (gw ws 1) n.1.toInt.toNat n.2)) = _; rw [en]; rfl
theorem rn_9 {σ : mjS} {ws : Req} {ks : List KR} {l : List Int32} (h : Wd σ ws ks l) (ty : mjTY σ) (B : BD σ 9 ws ks l) (hw : 3 ≤ ws.length) (m : Nat) (hm : 1 + 2 * m = ws.length) : mjY mjPP (mjQQ Y) (d + 9) 155 0 (mjL0 2 [.ref 0, .int (nI 9)]) [] σ (rnK σ ws ks l (rnE σ ks 9 ws)) := by
  obtain ⟨B1, B2, B3, B4, B5, B6, B7, B8, B9⟩ := B
  have g1 := gw_sl ws 1; have g2 := gw_sl ws 2; have g3 := gw_sl ws 3; have g4 := gw_sl ws 4; have gz := sl_sz ws; have h1024 := h.2.1.2.1
  refine c_run (b := true) (Q := flZ) ty 9 (by decide) rfl B5 (fun _ => by omega) (fun _ => by omega) (c_opt h ty (fun u tu fu hu z => c_opt_none hu tu z 9 (by decide) (by decide) rfl)) (fun u fu hu c => rnK_no fu hu (rnE_no (by decide) c (fun hb => ?_))) (fun hb u tu fu hu q nr sf => ?_)
  · cases hb
  · refine dp_9 tu (fun r u k => k.1) (mjY_mono tu (fun r v tv k => rnK_sm fu (by omega) k ?_) (r_setMany hu tu m hm 9 (by decide) rfl (by omega) (by omega) (by omega)))
    rw [rnE_go (by decide) nr sf]
    rfl
theorem rn_10 {σ : mjS} {ws : Req} {ks : List KR} {l : List Int32} (h : Wd σ ws ks l) (ty : mjTY σ) (B : BD σ 10 ws ks l) (hw : 3 ≤ ws.length) (m : Nat) (hm : 1 + 2 * m = ws.length) : mjY mjPP (mjQQ Y) (d + 9) 155 0 (mjL0 2 [.ref 0, .int (nI 10)]) [] σ (rnK σ ws ks l (rnE σ ks 10 ws)) := by
  obtain ⟨B1, B2, B3, B4, B5, B6, B7, B8, B9⟩ := B
  have g1 := gw_sl ws 1; have g2 := gw_sl ws 2; have g3 := gw_sl ws 3; have g4 := gw_sl ws 4; have gz := sl_sz ws; have h1024 := h.2.1.2.1
  refine c_run (b := true) (Q := flZ) ty 10 (by decide) rfl B5 (fun _ => by omega) (fun _ => by omega) (c_opt h ty (fun u tu fu hu z => c_opt_none hu tu z 10 (by decide) (by decide) rfl)) (fun u fu hu c => rnK_no fu hu (rnE_no (by decide) c (fun hb => ?_))) (fun hb u tu fu hu q nr sf => ?_)
  · cases hb
  · refine dp_10 tu (fun r u k => k.1) (mjY_mono tu (fun r v tv k => rnK_sm fu (by omega) k ?_) (r_setMany hu tu m hm 10 (by decide) rfl (by omega) (by omega) (by omega)))
    rw [rnE_go (by decide) nr sf]
    rfl
theorem rn_22 {σ : mjS} {ws : Req} {ks : List KR} {l : List Int32} (h : Wd σ ws ks l) (ty : mjTY σ) (B : BD σ 22 ws ks l) (hw : 2 ≤ ws.length) : mjY mjPP (mjQQ Y) (d + 9) 155 0 (mjL0 2 [.ref 0, .int (nI 22)]) [] σ (rnK σ ws ks l (rnE σ ks 22 ws)) := by
  obtain ⟨B1, B2, B3, B4, B5, B6, B7, B8, B9⟩ := B
  have g1 := gw_sl ws 1; have g2 := gw_sl ws 2; have g3 := gw_sl ws 3; have g4 := gw_sl ws 4; have gz := sl_sz ws; have h1024 := h.2.1.2.1
  refine c_run (b := true) (Q := flZ) ty 22 (by decide) rfl B5 (fun _ => by omega) (fun _ => by omega) (c_opt h ty (fun u tu fu hu z => c_opt_none hu tu z 22 (by decide) (by decide) rfl)) (fun u fu hu c => rnK_no fu hu (rnE_no (by decide) c (fun hb => ?_))) (fun hb u tu fu hu q nr sf => ?_)
  · cases hb
  · refine dp_22 tu (fun r u k => k.1) (mjY_mono tu (fun r v tv k => rnK_cmd fu (by omega) k ?_) (r_del hu tu (by omega) (by omega)))
    rw [rnE_go (by decide) nr sf]
    rfl
theorem rn_29 {σ : mjS} {ws : Req} {ks : List KR} {l : List Int32} (h : Wd σ ws ks l) (ty : mjTY σ) (B : BD σ 29 ws ks l) (hw : 1 ≤ ws.length) : mjY mjPP (mjQQ Y) (d + 9) 155 0 (mjL0 2 [.ref 0, .int (nI 29)]) [] σ (rnK σ ws ks l (rnE σ ks 29 ws)) := by
  obtain ⟨B1, B2, B3, B4, B5, B6, B7, B8, B9⟩ := B
  have g1 := gw_sl ws 1; have g2 := gw_sl ws 2; have g3 := gw_sl ws 3; have g4 := gw_sl ws 4; have gz := sl_sz ws; have h1024 := h.2.1.2.1
  refine c_run (b := true) (Q := flZ) ty 29 (by decide) rfl B5 (fun _ => by omega) (fun _ => by omega) (c_opt h ty (fun u tu fu hu z => c_opt_none hu tu z 29 (by decide) (by decide) rfl)) (fun u fu hu c => rnK_no fu hu (rnE_no (by decide) c (fun hb => ?_))) (fun hb u tu fu hu q nr sf => ?_)
  · cases hb
  · refine dp_29 tu (fun r u k => k.1) (mjY_mono tu (fun r v tv k => rnK_cmd fu (by omega) k ?_) (r_flush hu tu (by omega) (by omega)))
    rw [rnE_go (by decide) nr sf]
    rfl
theorem rn_25 {σ : mjS} {ws : Req} {ks : List KR} {l : List Int32} (h : Wd σ ws ks l) (ty : mjTY σ) (B : BD σ 25 ws ks l) (hw : 3 ≤ ws.length) : mjY mjPP (mjQQ Y) (d + 9) 155 0 (mjL0 2 [.ref 0, .int (nI 25)]) [] σ (rnK σ ws ks l (rnE σ ks 25 ws)) := by
  obtain ⟨B1, B2, B3, B4, B5, B6, B7, B8, B9⟩ := B
  have g1 := gw_sl ws 1; have g2 := gw_sl ws 2; have g3 := gw_sl ws 3; have g4 := gw_sl ws 4; have gz := sl_sz ws; have h1024 := h.2.1.2.1
  refine c_run (b := true) (Q := flZ) ty 25 (by decide) rfl B5 (fun _ => by omega) (fun _ => by omega) (c_opt h ty (fun u tu fu hu z => c_opt_none hu tu z 25 (by decide) (by decide) rfl)) (fun u fu hu c => rnK_no fu hu (rnE_no (by decide) c (fun hb => ?_))) (fun hb u tu fu hu q nr sf => ?_)
  · cases hb
  · refine dp_25 tu (fun r u k => k.1) (mjY_mono tu (fun r v tv k => rnK_cmd fu (by omega) k ?_) (r_rename hu tu 25 (by decide) rfl (gw_at (by omega)) (gw_at (by omega)) (by omega) (by omega) (by omega)))
    rw [rnE_go (by decide) nr sf]
    rfl
theorem rn_26 {σ : mjS} {ws : Req} {ks : List KR} {l : List Int32} (h : Wd σ ws ks l) (ty : mjTY σ) (B : BD σ 26 ws ks l) (hw : 3 ≤ ws.length) : mjY mjPP (mjQQ Y) (d + 9) 155 0 (mjL0 2 [.ref 0, .int (nI 26)]) [] σ (rnK σ ws ks l (rnE σ ks 26 ws)) := by
  obtain ⟨B1, B2, B3, B4, B5, B6, B7, B8, B9⟩ := B
  have g1 := gw_sl ws 1; have g2 := gw_sl ws 2; have g3 := gw_sl ws 3; have g4 := gw_sl ws 4; have gz := sl_sz ws; have h1024 := h.2.1.2.1
  refine c_run (b := true) (Q := flZ) ty 26 (by decide) rfl B5 (fun _ => by omega) (fun _ => by omega) (c_opt h ty (fun u tu fu hu z => c_opt_none hu tu z 26 (by decide) (by decide) rfl)) (fun u fu hu c => rnK_no fu hu (rnE_no (by decide) c (fun hb => ?_))) (fun hb u tu fu hu q nr sf => ?_)
  · cases hb
  · refine dp_26 tu (fun r u k => k.1) (mjY_mono tu (fun r v tv k => rnK_cmd fu (by omega) k ?_) (r_rename hu tu 26 (by decide) rfl (gw_at (by omega)) (gw_at (by omega)) (by omega) (by omega) (by omega)))
    rw [rnE_go (by decide) nr sf]
    rfl
theorem rn_37 {σ : mjS} {ws : Req} {ks : List KR} {l : List Int32} (h : Wd σ ws ks l) (ty : mjTY σ) (B : BD σ 37 ws ks l) (hw : 3 ≤ ws.length) : mjY mjPP (mjQQ Y) (d + 9) 155 0 (mjL0 2 [.ref 0, .int (nI 37)]) [] σ (rnK σ ws ks l (rnE σ ks 37 ws)) := by
  obtain ⟨B1, B2, B3, B4, B5, B6, B7, B8, B9⟩ := B
  have g1 := gw_sl ws 1; have g2 := gw_sl ws 2; have g3 := gw_sl ws 3; have g4 := gw_sl ws 4; have gz := sl_sz ws; have h1024 := h.2.1.2.1
  refine c_run (b := true) (Q := flZ) ty 37 (by decide) rfl B5 (fun _ => by omega) (fun _ => by omega) (c_opt h ty (fun u tu fu hu z => c_opt_none hu tu z 37 (by decide) (by decide) rfl)) (fun u fu hu c => rnK_no fu hu (rnE_no (by decide) c (fun hb => ?_))) (fun hb u tu fu hu q nr sf => ?_)
  · cases hb
  · refine dp_37 tu (fun r u k => k.1) (mjY_mono tu (fun r v tv k => rnK_cmd fu (by omega) k ?_) (r_push hu tu 37 (by decide) rfl (gw_at (by omega)) (by omega) (by omega) (by omega) (by omega)))
    rw [rnE_go (by decide) nr sf]
    rfl
theorem rn_38 {σ : mjS} {ws : Req} {ks : List KR} {l : List Int32} (h : Wd σ ws ks l) (ty : mjTY σ) (B : BD σ 38 ws ks l) (hw : 3 ≤ ws.length) : mjY mjPP (mjQQ Y) (d + 9) 155 0 (mjL0 2 [.ref 0, .int (nI 38)]) [] σ (rnK σ ws ks l (rnE σ ks 38 ws)) := by
  obtain ⟨B1, B2, B3, B4, B5, B6, B7, B8, B9⟩ := B
  have g1 := gw_sl ws 1; have g2 := gw_sl ws 2; have g3 := gw_sl ws 3; have g4 := gw_sl ws 4; have gz := sl_sz ws; have h1024 := h.2.1.2.1
  refine c_run (b := true) (Q := flZ) ty 38 (by decide) rfl B5 (fun _ => by omega) (fun _ => by omega) (c_opt h ty (fun u tu fu hu z => c_opt_none hu tu z 38 (by decide) (by decide) rfl)) (fun u fu hu c => rnK_no fu hu (rnE_no (by decide) c (fun hb => ?_))) (fun hb u tu fu hu q nr sf => ?_)
  · cases hb
  · refine dp_38 tu (fun r u k => k.1) (mjY_mono tu (fun r v tv k => rnK_cmd fu (by omega) k ?_) (r_push hu tu 38 (by decide) rfl (gw_at (by omega)) (by omega) (by omega) (by omega) (by omega)))
    rw [rnE_go (by decide) nr sf]
    rfl
theorem rn_39 {σ : mjS} {ws : Req} {ks : List KR} {l : List Int32} (h : Wd σ ws ks l) (ty : mjTY σ) (B : BD σ 39 ws ks l) (hw : 3 ≤ ws.length) : mjY mjPP (mjQQ Y) (d + 9) 155 0 (mjL0 2 [.ref 0, .int (nI 39)]) [] σ (rnK σ ws ks l (rnE σ ks 39 ws)) := by
  obtain ⟨B1, B2, B3, B4, B5, B6, B7, B8, B9⟩ := B
  have g1 := gw_sl ws 1; have g2 := gw_sl ws 2; have g3 := gw_sl ws 3; have g4 := gw_sl ws 4; have gz := sl_sz ws; have h1024 := h.2.1.2.1
  refine c_run (b := true) (Q := flZ) ty 39 (by decide) rfl B5 (fun _ => by omega) (fun _ => by omega) (c_opt h ty (fun u tu fu hu z => c_opt_none hu tu z 39 (by decide) (by decide) rfl)) (fun u fu hu c => rnK_no fu hu (rnE_no (by decide) c (fun hb => ?_))) (fun hb u tu fu hu q nr sf => ?_)
  · cases hb
  · refine dp_39 tu (fun r u k => k.1) (mjY_mono tu (fun r v tv k => rnK_cmd fu (by omega) k ?_) (r_push hu tu 39 (by decide) rfl (gw_at (by omega)) (by omega) (by omega) (by omega) (by omega)))
    rw [rnE_go (by decide) nr sf]
    rfl
theorem rn_40 {σ : mjS} {ws : Req} {ks : List KR} {l : List Int32} (h : Wd σ ws ks l) (ty : mjTY σ) (B : BD σ 40 ws ks l) (hw : 3 ≤ ws.length) : mjY mjPP (mjQQ Y) (d + 9) 155 0 (mjL0 2 [.ref 0, .int (nI 40)]) [] σ (rnK σ ws ks l (rnE σ ks 40 ws)) := by
  obtain ⟨B1, B2, B3, B4, B5, B6, B7, B8, B9⟩ := B
  have g1 := gw_sl ws 1; have g2 := gw_sl ws 2; have g3 := gw_sl ws 3; have g4 := gw_sl ws 4; have gz := sl_sz ws; have h1024 := h.2.1.2.1
  refine c_run (b := true) (Q := flZ) ty 40 (by decide) rfl B5 (fun _ => by omega) (fun _ => by omega) (c_opt h ty (fun u tu fu hu z => c_opt_none hu tu z 40 (by decide) (by decide) rfl)) (fun u fu hu c => rnK_no fu hu (rnE_no (by decide) c (fun hb => ?_))) (fun hb u tu fu hu q nr sf => ?_)
  · cases hb
  · refine dp_40 tu (fun r u k => k.1) (mjY_mono tu (fun r v tv k => rnK_cmd fu (by omega) k ?_) (r_push hu tu 40 (by decide) rfl (gw_at (by omega)) (by omega) (by omega) (by omega) (by omega)))
    rw [rnE_go (by decide) nr sf]
    rfl
theorem rn_34 {σ : mjS} {ws : Req} {ks : List KR} {l : List Int32} (h : Wd σ ws ks l) (ty : mjTY σ) (B : BD σ 34 ws ks l) (hw : 2 ≤ ws.length) : mjY mjPP (mjQQ Y) (d + 9) 155 0 (mjL0 2 [.ref 0, .int (nI 34)]) [] σ (rnK σ ws ks l (rnE σ ks 34 ws)) := by
  obtain ⟨B1, B2, B3, B4, B5, B6, B7, B8, B9⟩ := B
  have g1 := gw_sl ws 1; have g2 := gw_sl ws 2; have g3 := gw_sl ws 3; have g4 := gw_sl ws 4; have gz := sl_sz ws; have h1024 := h.2.1.2.1
  refine c_run (b := true) (Q := flZ) ty 34 (by decide) rfl B5 (fun _ => by omega) (fun _ => by omega) (c_opt h ty (fun u tu fu hu z => c_opt_none hu tu z 34 (by decide) (by decide) rfl)) (fun u fu hu c => rnK_no fu hu (rnE_no (by decide) c (fun hb => ?_))) (fun hb u tu fu hu q nr sf => ?_)
  · cases hb
  · refine dp_34 tu (fun r u k => k.1) (mjY_mono tu (fun r v tv k => rnK_cmd fu (by omega) k ?_) (r_key hu tu 34 (by decide) rfl (gw_at (by omega)) (by omega)))
    rw [rnE_go (by decide) nr sf]
    rfl
theorem rn_41 {σ : mjS} {ws : Req} {ks : List KR} {l : List Int32} (h : Wd σ ws ks l) (ty : mjTY σ) (B : BD σ 41 ws ks l) (hw : 2 ≤ ws.length) : mjY mjPP (mjQQ Y) (d + 9) 155 0 (mjL0 2 [.ref 0, .int (nI 41)]) [] σ (rnK σ ws ks l (rnE σ ks 41 ws)) := by
  obtain ⟨B1, B2, B3, B4, B5, B6, B7, B8, B9⟩ := B
  have g1 := gw_sl ws 1; have g2 := gw_sl ws 2; have g3 := gw_sl ws 3; have g4 := gw_sl ws 4; have gz := sl_sz ws; have h1024 := h.2.1.2.1
  refine c_run (b := (ppR ws).isSome) (Q := (fun t => ∀ q, ppR ws = some q → t.2.1 f_n1 = q)) ty 41 (by decide) rfl B5 (fun _ => by omega) (fun _ => by omega) (c_opt h ty (fun u tu fu hu z => c_opt_41 hu tu z)) (fun u fu hu c => rnK_no fu hu (rnE_no (by decide) c (fun hb => ?_))) (fun hb u tu fu hu q nr sf => ?_)
  · have e : ppR ws = none := by cases e : ppR ws with | none => rfl | some n => rw [e] at hb; cases hb
    show nW 41 ws ((ppR ws).bind (fun n => popF (strip ks) (gw ws 1) 41 n.toInt.toNat)) = none; rw [e]; rfl
  · obtain ⟨n, en⟩ := Option.isSome_iff_exists.mp hb
    have n0 := ppR_ge en
    obtain ⟨n1, n2⟩ := lN_of n0
    refine dp_41 tu (fun r u k => k.1) (mjY_mono tu (fun r v tv k => rnK_cmd fu (by omega) k ?_) (r_pop hu tu 41 (by decide) rfl (gw_at (by omega)) n.toInt.toNat n2 ((q n en).trans n1) (by omega)))
    rw [rnE_go (by decide) nr sf]
    show nW 41 ws ((ppR ws).bind (fun n => popF (strip ks) (gw ws 1) 41 n.toInt.toNat)) = _; rw [en]; rfl
theorem rn_42 {σ : mjS} {ws : Req} {ks : List KR} {l : List Int32} (h : Wd σ ws ks l) (ty : mjTY σ) (B : BD σ 42 ws ks l) (hw : 2 ≤ ws.length) : mjY mjPP (mjQQ Y) (d + 9) 155 0 (mjL0 2 [.ref 0, .int (nI 42)]) [] σ (rnK σ ws ks l (rnE σ ks 42 ws)) := by
  obtain ⟨B1, B2, B3, B4, B5, B6, B7, B8, B9⟩ := B
  have g1 := gw_sl ws 1; have g2 := gw_sl ws 2; have g3 := gw_sl ws 3; have g4 := gw_sl ws 4; have gz := sl_sz ws; have h1024 := h.2.1.2.1
  refine c_run (b := (ppR ws).isSome) (Q := (fun t => ∀ q, ppR ws = some q → t.2.1 f_n1 = q)) ty 42 (by decide) rfl B5 (fun _ => by omega) (fun _ => by omega) (c_opt h ty (fun u tu fu hu z => c_opt_42 hu tu z)) (fun u fu hu c => rnK_no fu hu (rnE_no (by decide) c (fun hb => ?_))) (fun hb u tu fu hu q nr sf => ?_)
  · have e : ppR ws = none := by cases e : ppR ws with | none => rfl | some n => rw [e] at hb; cases hb
    show nW 42 ws ((ppR ws).bind (fun n => popF (strip ks) (gw ws 1) 42 n.toInt.toNat)) = none; rw [e]; rfl
  · obtain ⟨n, en⟩ := Option.isSome_iff_exists.mp hb
    have n0 := ppR_ge en
    obtain ⟨n1, n2⟩ := lN_of n0
    refine dp_42 tu (fun r u k => k.1) (mjY_mono tu (fun r v tv k => rnK_cmd fu (by omega) k ?_) (r_pop hu tu 42 (by decide) rfl (gw_at (by omega)) n.toInt.toNat n2 ((q n en).trans n1) (by omega)))
    rw [rnE_go (by decide) nr sf]
    show nW 42 ws ((ppR ws).bind (fun n => popF (strip ks) (gw ws 1) 42 n.toInt.toNat)) = _; rw [en]; rfl
theorem rn_92 {σ : mjS} {ws : Req} {ks : List KR} {l : List Int32} (h : Wd σ ws ks l) (ty : mjTY σ) (B : BD σ 92 ws ks l) (hw : 2 ≤ ws.length) : mjY mjPP (mjQQ Y) (d + 9) 155 0 (mjL0 2 [.ref 0, .int (nI 92)]) [] σ (rnK σ ws ks l (rnE σ ks 92 ws)) := by
  obtain ⟨B1, B2, B3, B4, B5, B6, B7, B8, B9⟩ := B
  have g1 := gw_sl ws 1; have g2 := gw_sl ws 2; have g3 := gw_sl ws 3; have g4 := gw_sl ws 4; have gz := sl_sz ws; have h1024 := h.2.1.2.1
  refine c_run (b := (ppR ws).isSome) (Q := (fun t => ∀ q, ppR ws = some q → t.2.1 f_n1 = q)) ty 92 (by decide) rfl B5 (fun _ => by omega) (fun _ => by omega) (c_opt h ty (fun u tu fu hu z => c_opt_92 hu tu z)) (fun u fu hu c => rnK_no fu hu (rnE_no (by decide) c (fun hb => ?_))) (fun hb u tu fu hu q nr sf => ?_)
  · have e : ppR ws = none := by cases e : ppR ws with | none => rfl | some n => rw [e] at hb; cases hb
    show nW 92 ws ((ppR ws).bind (fun n => zpF (strip ks) (gw ws 1) 92 n.toInt.toNat)) = none; rw [e]; rfl
  · obtain ⟨n, en⟩ := Option.isSome_iff_exists.mp hb
    have n0 := ppR_ge en
    obtain ⟨n1, n2⟩ := lN_of n0
    refine dp_92 tu (fun r u k => k.1) (mjY_mono tu (fun r v tv k => rnK_cmd fu (by omega) k ?_) (r_zpop hu tu 92 (by decide) rfl (gw_at (by omega)) n.toInt.toNat n2 ((q n en).trans n1) (by omega)))
    rw [rnE_go (by decide) nr sf]
    show nW 92 ws ((ppR ws).bind (fun n => zpF (strip ks) (gw ws 1) 92 n.toInt.toNat)) = _; rw [en]; rfl
theorem rn_93 {σ : mjS} {ws : Req} {ks : List KR} {l : List Int32} (h : Wd σ ws ks l) (ty : mjTY σ) (B : BD σ 93 ws ks l) (hw : 2 ≤ ws.length) : mjY mjPP (mjQQ Y) (d + 9) 155 0 (mjL0 2 [.ref 0, .int (nI 93)]) [] σ (rnK σ ws ks l (rnE σ ks 93 ws)) := by
  obtain ⟨B1, B2, B3, B4, B5, B6, B7, B8, B9⟩ := B
  have g1 := gw_sl ws 1; have g2 := gw_sl ws 2; have g3 := gw_sl ws 3; have g4 := gw_sl ws 4; have gz := sl_sz ws; have h1024 := h.2.1.2.1
  refine c_run (b := (ppR ws).isSome) (Q := (fun t => ∀ q, ppR ws = some q → t.2.1 f_n1 = q)) ty 93 (by decide) rfl B5 (fun _ => by omega) (fun _ => by omega) (c_opt h ty (fun u tu fu hu z => c_opt_93 hu tu z)) (fun u fu hu c => rnK_no fu hu (rnE_no (by decide) c (fun hb => ?_))) (fun hb u tu fu hu q nr sf => ?_)
  · have e : ppR ws = none := by cases e : ppR ws with | none => rfl | some n => rw [e] at hb; cases hb
    show nW 93 ws ((ppR ws).bind (fun n => zpF (strip ks) (gw ws 1) 93 n.toInt.toNat)) = none; rw [e]; rfl
  · obtain ⟨n, en⟩ := Option.isSome_iff_exists.mp hb
    have n0 := ppR_ge en
    obtain ⟨n1, n2⟩ := lN_of n0
    refine dp_93 tu (fun r u k => k.1) (mjY_mono tu (fun r v tv k => rnK_cmd fu (by omega) k ?_) (r_zpop hu tu 93 (by decide) rfl (gw_at (by omega)) n.toInt.toNat n2 ((q n en).trans n1) (by omega)))
    rw [rnE_go (by decide) nr sf]
    show nW 93 ws ((ppR ws).bind (fun n => zpF (strip ks) (gw ws 1) 93 n.toInt.toNat)) = _; rw [en]; rfl
theorem rn_46 {σ : mjS} {ws : Req} {ks : List KR} {l : List Int32} (h : Wd σ ws ks l) (ty : mjTY σ) (B : BD σ 46 ws ks l) (hw : 4 ≤ ws.length) : mjY mjPP (mjQQ Y) (d + 9) 155 0 (mjL0 2 [.ref 0, .int (nI 46)]) [] σ (rnK σ ws ks l (rnE σ ks 46 ws)) := by
  obtain ⟨B1, B2, B3, B4, B5, B6, B7, B8, B9⟩ := B
  have g1 := gw_sl ws 1; have g2 := gw_sl ws 2; have g3 := gw_sl ws 3; have g4 := gw_sl ws 4; have gz := sl_sz ws; have h1024 := h.2.1.2.1
  refine c_run (b := (intF (gw ws 2)).isSome) (Q := (fun t => ∀ q, intF (gw ws 2) = some q → t.2.1 f_n1 = q)) ty 46 (by decide) rfl B5 (fun _ => by omega) (fun _ => by omega) (c_opt h ty (fun u tu fu hu z => c_opt_46 hu tu z (gw_at (by omega)))) (fun u fu hu c => rnK_no fu hu (rnE_no (by decide) c (fun hb => ?_))) (fun hb u tu fu hu q nr sf => ?_)
  · have e : intF (gw ws 2) = none := by cases e : intF (gw ws 2) with | none => rfl | some n => rw [e] at hb; cases hb
    show nW 46 ws ((intF (gw ws 2)).bind (fun n => lpF (strip ks) (gw ws 1) 46 n (gw ws 3))) = none; rw [e]; rfl
  · obtain ⟨n, en⟩ := Option.isSome_iff_exists.mp hb
    refine dp_46 tu (fun r u k => k.1) (mjY_mono tu (fun r v tv k => rnK_cmd fu (by omega) k ?_) (r_place hu tu 46 (Or.inr rfl) rfl (gw_at (by omega)) (fun _ => gw_at (k := 3) (by omega)) n (q n en) (by omega) (by omega) (by omega)))
    rw [rnE_go (by decide) nr sf]
    show nW 46 ws ((intF (gw ws 2)).bind (fun n => lpF (strip ks) (gw ws 1) 46 n (gw ws 3))) = _; rw [en]; rfl
theorem rn_48 {σ : mjS} {ws : Req} {ks : List KR} {l : List Int32} (h : Wd σ ws ks l) (ty : mjTY σ) (B : BD σ 48 ws ks l) (hw : 4 ≤ ws.length) : mjY mjPP (mjQQ Y) (d + 9) 155 0 (mjL0 2 [.ref 0, .int (nI 48)]) [] σ (rnK σ ws ks l (rnE σ ks 48 ws)) := by
  obtain ⟨B1, B2, B3, B4, B5, B6, B7, B8, B9⟩ := B
  have g1 := gw_sl ws 1; have g2 := gw_sl ws 2; have g3 := gw_sl ws 3; have g4 := gw_sl ws 4; have gz := sl_sz ws; have h1024 := h.2.1.2.1
  refine c_run (b := (intF (gw ws 2)).isSome) (Q := (fun t => ∀ q, intF (gw ws 2) = some q → t.2.1 f_n1 = q)) ty 48 (by decide) rfl B5 (fun _ => by omega) (fun _ => by omega) (c_opt h ty (fun u tu fu hu z => c_opt_48 hu tu z (gw_at (by omega)))) (fun u fu hu c => rnK_no fu hu (rnE_no (by decide) c (fun hb => ?_))) (fun hb u tu fu hu q nr sf => ?_)
  · have e : intF (gw ws 2) = none := by cases e : intF (gw ws 2) with | none => rfl | some n => rw [e] at hb; cases hb
    show nW 48 ws ((intF (gw ws 2)).bind (fun n => lrF (strip ks) (gw ws 1) n (gw ws 3))) = none; rw [e]; rfl
  · obtain ⟨n, en⟩ := Option.isSome_iff_exists.mp hb
    refine dp_48 tu (fun r u k => k.1) (mjY_mono tu (fun r v tv k => rnK_cmd fu (by omega) k ?_) (r_take hu tu (gw_at (by omega)) (gw_at (by omega)) n (q n en) (by omega)))
    rw [rnE_go (by decide) nr sf]
    show nW 48 ws ((intF (gw ws 2)).bind (fun n => lrF (strip ks) (gw ws 1) n (gw ws 3))) = _; rw [en]; rfl
theorem rn_81 {σ : mjS} {ws : Req} {ks : List KR} {l : List Int32} (h : Wd σ ws ks l) (ty : mjTY σ) (B : BD σ 81 ws ks l) (hw : 4 ≤ ws.length) : mjY mjPP (mjQQ Y) (d + 9) 155 0 (mjL0 2 [.ref 0, .int (nI 81)]) [] σ (rnK σ ws ks l (rnE σ ks 81 ws)) := by
  obtain ⟨B1, B2, B3, B4, B5, B6, B7, B8, B9⟩ := B
  have g1 := gw_sl ws 1; have g2 := gw_sl ws 2; have g3 := gw_sl ws 3; have g4 := gw_sl ws 4; have gz := sl_sz ws; have h1024 := h.2.1.2.1
  refine c_run (b := (intF (gw ws 2)).isSome) (Q := (fun t => ∀ q, intF (gw ws 2) = some q → t.2.1 f_n1 = q)) ty 81 (by decide) rfl B5 (fun _ => by omega) (fun _ => by omega) (c_opt h ty (fun u tu fu hu z => c_opt_81 hu tu z (gw_at (by omega)))) (fun u fu hu c => rnK_no fu hu (rnE_no (by decide) c (fun hb => ?_))) (fun hb u tu fu hu q nr sf => ?_)
  · have e : intF (gw ws 2) = none := by cases e : intF (gw ws 2) with | none => rfl | some n => rw [e] at hb; cases hb
    show nW 81 ws ((intF (gw ws 2)).bind (fun n => ziF (strip ks) (gw ws 1) (gw ws 3) n)) = none; rw [e]; rfl
  · obtain ⟨n, en⟩ := Option.isSome_iff_exists.mp hb
    refine dp_81 tu (fun r u k => k.1) (mjY_mono tu (fun r v tv k => rnK_cmd fu (by omega) k ?_) (r_zincr hu tu (gw_at (k := 1) (by omega)) (gw_at (k := 3) (by omega)) n (q n en) (by have := gw_sl2 (ws := ws) (j := 1) (k := 3) (by omega) (by omega); omega) (by omega) (by omega) (by omega)))
    rw [rnE_go (by decide) nr sf]
    show nW 81 ws ((intF (gw ws 2)).bind (fun n => ziF (strip ks) (gw ws 1) (gw ws 3) n)) = _; rw [en]; rfl
theorem rn_63 {σ : mjS} {ws : Req} {ks : List KR} {l : List Int32} (h : Wd σ ws ks l) (ty : mjTY σ) (B : BD σ 63 ws ks l) (hw : 4 ≤ ws.length) : mjY mjPP (mjQQ Y) (d + 9) 155 0 (mjL0 2 [.ref 0, .int (nI 63)]) [] σ (rnK σ ws ks l (rnE σ ks 63 ws)) := by
  obtain ⟨B1, B2, B3, B4, B5, B6, B7, B8, B9⟩ := B
  have g1 := gw_sl ws 1; have g2 := gw_sl ws 2; have g3 := gw_sl ws 3; have g4 := gw_sl ws 4; have gz := sl_sz ws; have h1024 := h.2.1.2.1
  refine c_run (b := (intF (gw ws 3)).isSome) (Q := (fun t => ∀ q, intF (gw ws 3) = some q → t.2.1 f_n1 = q)) ty 63 (by decide) rfl B5 (fun _ => by omega) (fun _ => by omega) (c_opt h ty (fun u tu fu hu z => c_opt_63 hu tu z (gw_at (by omega)))) (fun u fu hu c => rnK_no fu hu (rnE_no (by decide) c (fun hb => ?_))) (fun hb u tu fu hu q nr sf => ?_)
  · have e : intF (gw ws 3) = none := by cases e : intF (gw ws 3) with | none => rfl | some n => rw [e] at hb; cases hb
    show nW 63 ws ((intF (gw ws 3)).bind (fun n => hiF (strip ks) (gw ws 1) (gw ws 2) n)) = none; rw [e]; rfl
  · obtain ⟨n, en⟩ := Option.isSome_iff_exists.mp hb
    refine dp_63 tu (fun r u k => k.1) (mjY_mono tu (fun r v tv k => rnK_cmd fu (by omega) k ?_) (r_hashIncr hu tu (gw_at (k := 1) (by omega)) (gw_at (k := 2) (by omega)) n (q n en) (by have := gw_sl2 (ws := ws) (j := 1) (k := 2) (by omega) (by omega); omega) (by omega) (by omega) (by omega)))
    rw [rnE_go (by decide) nr sf]
    show nW 63 ws ((intF (gw ws 3)).bind (fun n => hiF (strip ks) (gw ws 1) (gw ws 2) n)) = _; rw [en]; rfl
theorem rn_49 {σ : mjS} {ws : Req} {ks : List KR} {l : List Int32} (h : Wd σ ws ks l) (ty : mjTY σ) (B : BD σ 49 ws ks l) (hw : 4 ≤ ws.length) : mjY mjPP (mjQQ Y) (d + 9) 155 0 (mjL0 2 [.ref 0, .int (nI 49)]) [] σ (rnK σ ws ks l (rnE σ ks 49 ws)) := by
  obtain ⟨B1, B2, B3, B4, B5, B6, B7, B8, B9⟩ := B
  have g1 := gw_sl ws 1; have g2 := gw_sl ws 2; have g3 := gw_sl ws 3; have g4 := gw_sl ws 4; have gz := sl_sz ws; have h1024 := h.2.1.2.1
  refine c_run (b := (twF (gw ws 2) (gw ws 3)).isSome) (Q := (fun t => ∀ q, twF (gw ws 2) (gw ws 3) = some q → t.2.1 f_n1 = q.1 ∧ t.2.1 f_n2 = q.2)) ty 49 (by decide) rfl B5 (fun _ => by omega) (fun _ => by omega) (c_opt h ty (fun u tu fu hu z => c_opt_49 hu tu z (gw_at (by omega)) (gw_at (by omega)))) (fun u fu hu c => rnK_no fu hu (rnE_no (by decide) c (fun hb => ?_))) (fun hb u tu fu hu q nr sf => ?_)
  · have e : twF (gw ws 2) (gw ws 3) = none := by cases e : twF (gw ws 2) (gw ws 3) with | none => rfl | some n => rw [e] at hb; cases hb
    show nW 49 ws ((twF (gw ws 2) (gw ws 3)).bind (fun n => trF (strip ks) (gw ws 1) n.1 n.2)) = none; rw [e]; rfl
  · obtain ⟨n, en⟩ := Option.isSome_iff_exists.mp hb
    refine dp_49 tu (fun r u k => k.1) (mjY_mono tu (fun r v tv k => rnK_cmd fu (by omega) k ?_) (r_trim hu tu (gw_at (by omega)) n.1 n.2 (q n en).1 (q n en).2 (by omega)))
    rw [rnE_go (by decide) nr sf]
    show nW 49 ws ((twF (gw ws 2) (gw ws 3)).bind (fun n => trF (strip ks) (gw ws 1) n.1 n.2)) = _; rw [en]; rfl
theorem rn_90 {σ : mjS} {ws : Req} {ks : List KR} {l : List Int32} (h : Wd σ ws ks l) (ty : mjTY σ) (B : BD σ 90 ws ks l) (hw : 4 ≤ ws.length) : mjY mjPP (mjQQ Y) (d + 9) 155 0 (mjL0 2 [.ref 0, .int (nI 90)]) [] σ (rnK σ ws ks l (rnE σ ks 90 ws)) := by
  obtain ⟨B1, B2, B3, B4, B5, B6, B7, B8, B9⟩ := B
  have g1 := gw_sl ws 1; have g2 := gw_sl ws 2; have g3 := gw_sl ws 3; have g4 := gw_sl ws 4; have gz := sl_sz ws; have h1024 := h.2.1.2.1
  refine c_run (b := (twF (gw ws 2) (gw ws 3)).isSome) (Q := (fun t => ∀ q, twF (gw ws 2) (gw ws 3) = some q → t.2.1 f_n1 = q.1 ∧ t.2.1 f_n2 = q.2)) ty 90 (by decide) rfl B5 (fun _ => by omega) (fun _ => by omega) (c_opt h ty (fun u tu fu hu z => c_opt_90 hu tu z (gw_at (by omega)) (gw_at (by omega)))) (fun u fu hu c => rnK_no fu hu (rnE_no (by decide) c (fun hb => ?_))) (fun hb u tu fu hu q nr sf => ?_)
  · have e : twF (gw ws 2) (gw ws 3) = none := by cases e : twF (gw ws 2) (gw ws 3) with | none => rfl | some n => rw [e] at hb; cases hb
    show nW 90 ws ((twF (gw ws 2) (gw ws 3)).bind (fun n => zcF (strip ks) (gw ws 1) 90 n.1 n.2 0 0 0)) = none; rw [e]; rfl
  · obtain ⟨n, en⟩ := Option.isSome_iff_exists.mp hb
    refine dp_90 tu (fun r u k => k.1) (mjY_mono tu (fun r v tv k => rnK_cmd fu (by omega) k ?_) (r_zcut hu tu 90 (by decide) rfl (gw_at (by omega)) _ _ (q n en).1 (q n en).2 (by omega)))
    rw [rnE_go (by decide) nr sf]
    show nW 90 ws ((twF (gw ws 2) (gw ws 3)).bind (fun n => zcF (strip ks) (gw ws 1) 90 n.1 n.2 0 0 0)) = _; rw [en]; exact congrArg (nW 90 ws) (zcF_90 _ _ _ _ _ _ _ _ _ _)
theorem rn_91 {σ : mjS} {ws : Req} {ks : List KR} {l : List Int32} (h : Wd σ ws ks l) (ty : mjTY σ) (B : BD σ 91 ws ks l) (hw : 4 ≤ ws.length) : mjY mjPP (mjQQ Y) (d + 9) 155 0 (mjL0 2 [.ref 0, .int (nI 91)]) [] σ (rnK σ ws ks l (rnE σ ks 91 ws)) := by
  obtain ⟨B1, B2, B3, B4, B5, B6, B7, B8, B9⟩ := B
  have g1 := gw_sl ws 1; have g2 := gw_sl ws 2; have g3 := gw_sl ws 3; have g4 := gw_sl ws 4; have gz := sl_sz ws; have h1024 := h.2.1.2.1
  refine c_run (b := (bsF (gw ws 2) (gw ws 3)).isSome) (Q := (fun t => ∀ q, bsF (gw ws 2) (gw ws 3) = some q → t.2.1 f_lowScore = q.1 ∧ t.2.1 f_highScore = q.2.1 ∧ t.1 f_noScore = q.2.2)) ty 91 (by decide) rfl B5 (fun _ => by omega) (fun _ => by omega) (c_opt h ty (fun u tu fu hu z => c_opt_91 hu tu z (gw_at (by omega)) (gw_at (by omega)))) (fun u fu hu c => rnK_no fu hu (rnE_no (by decide) c (fun hb => ?_))) (fun hb u tu fu hu q nr sf => ?_)
  · have e : bsF (gw ws 2) (gw ws 3) = none := by cases e : bsF (gw ws 2) (gw ws 3) with | none => rfl | some n => rw [e] at hb; cases hb
    show nW 91 ws ((bsF (gw ws 2) (gw ws 3)).bind (fun n => zcF (strip ks) (gw ws 1) 91 0 0 n.2.2 n.1 n.2.1)) = none; rw [e]; rfl
  · obtain ⟨n, en⟩ := Option.isSome_iff_exists.mp hb
    refine dp_91 tu (fun r u k => k.1) (mjY_mono tu (fun r v tv k => rnK_cmd fu (by omega) k ?_) (r_zcut hu tu 91 (by decide) rfl (gw_at (by omega)) _ _ rfl rfl (by omega)))
    rw [rnE_go (by decide) nr sf]
    show nW 91 ws ((bsF (gw ws 2) (gw ws 3)).bind (fun n => zcF (strip ks) (gw ws 1) 91 0 0 n.2.2 n.1 n.2.1)) = _; rw [en]; rw [(q n en).1, (q n en).2.1, (q n en).2.2]; exact congrArg (nW 91 ws) (zcF_91 _ _ _ _ _ _ _ _ _)
theorem rn_47 {σ : mjS} {ws : Req} {ks : List KR} {l : List Int32} (h : Wd σ ws ks l) (ty : mjTY σ) (B : BD σ 47 ws ks l) (hw : 5 ≤ ws.length) : mjY mjPP (mjQQ Y) (d + 9) 155 0 (mjL0 2 [.ref 0, .int (nI 47)]) [] σ (rnK σ ws ks l (rnE σ ks 47 ws)) := by
  obtain ⟨B1, B2, B3, B4, B5, B6, B7, B8, B9⟩ := B
  have g1 := gw_sl ws 1; have g2 := gw_sl ws 2; have g3 := gw_sl ws 3; have g4 := gw_sl ws 4; have gz := sl_sz ws; have h1024 := h.2.1.2.1
  refine c_run (b := decide (isF (gw ws 2) 72865299780165 = 1 ∨ isF (gw ws 2) 280352802130 = 1)) (Q := (fun _ => True)) ty 47 (by decide) rfl B5 (fun _ => by omega) (fun _ => by omega) (c_opt h ty (fun u tu fu hu z => c_opt_47 hu tu z (gw_at (by omega)))) (fun u fu hu c => rnK_no fu hu (rnE_no (by decide) c (fun hb => ?_))) (fun hb u tu fu hu q nr sf => ?_)
  · show nW 47 ws (if isF (gw ws 2) 72865299780165 = 1 ∨ isF (gw ws 2) 280352802130 = 1 then liF (strip ks) (gw ws 1) (gw ws 2) (gw ws 3) (gw ws 4) else none) = none; rw [if_neg (of_decide_eq_false hb)]; rfl
  · refine dp_47 tu (fun r u k => k.1) (mjY_mono tu (fun r v tv k => rnK_cmd fu (by omega) k ?_) (r_insert hu tu (gw_at (by omega)) (gw_at (by omega)) (gw_at (by omega)) (gw_at (by omega)) (by omega) (by omega) (by omega) (by omega)))
    rw [rnE_go (by decide) nr sf]
    show nW 47 ws (if isF (gw ws 2) 72865299780165 = 1 ∨ isF (gw ws 2) 280352802130 = 1 then liF (strip ks) (gw ws 1) (gw ws 2) (gw ws 3) (gw ws 4) else none) = _; rw [if_pos (of_decide_eq_true hb)]
theorem rn_50 {σ : mjS} {ws : Req} {ks : List KR} {l : List Int32} (h : Wd σ ws ks l) (ty : mjTY σ) (B : BD σ 50 ws ks l) (hw : 5 ≤ ws.length) : mjY mjPP (mjQQ Y) (d + 9) 155 0 (mjL0 2 [.ref 0, .int (nI 50)]) [] σ (rnK σ ws ks l (rnE σ ks 50 ws)) := by
  obtain ⟨B1, B2, B3, B4, B5, B6, B7, B8, B9⟩ := B
  have g1 := gw_sl ws 1; have g2 := gw_sl ws 2; have g3 := gw_sl ws 3; have g4 := gw_sl ws 4; have gz := sl_sz ws; have h1024 := h.2.1.2.1
  refine c_run (b := siD (gw ws 3) && siD (gw ws 4)) (Q := (fun _ => True)) ty 50 (by decide) rfl B5 (fun _ => by omega) (fun _ => by omega) (c_opt h ty (fun u tu fu hu z => c_opt_50 hu tu z (gw_at (by omega)) (gw_at (by omega)))) (fun u fu hu c => rnK_no fu hu (rnE_no (by decide) c (fun hb => ?_))) (fun hb u tu fu hu q nr sf => ?_)
  · show nW 50 ws (if (siD (gw ws 3) && siD (gw ws 4)) = true then mvF (strip ks) (gw ws 1) (gw ws 2) (mvFl 50 (gw ws 3)) (mvTl 50 (gw ws 4)) else none) = none; rw [if_neg (by rw [hb]; decide)]; rfl
  · refine dp_50 tu (fun r u k => k.1) (mjY_mono tu (fun r v tv k => rnK_cmd fu (by omega) k ?_) (r_move hu tu 50 (Or.inl rfl) rfl (gw_at (by omega)) (gw_at (by omega)) (fun _ => gw_at (k := 3) (by omega)) (fun _ => gw_at (k := 4) (by omega)) (fun p a hk ha => B6.ne (s := 1) (by decide) (mv1 (by omega) sf (Or.inl rfl)) hk ha) (by omega) (by omega) (by omega) (by omega)))
    rw [rnE_go (by decide) nr sf]
    show nW 50 ws (if (siD (gw ws 3) && siD (gw ws 4)) = true then mvF (strip ks) (gw ws 1) (gw ws 2) (mvFl 50 (gw ws 3)) (mvTl 50 (gw ws 4)) else none) = _; rw [if_pos hb]
theorem rn_51 {σ : mjS} {ws : Req} {ks : List KR} {l : List Int32} (h : Wd σ ws ks l) (ty : mjTY σ) (B : BD σ 51 ws ks l) (hw : 3 ≤ ws.length) : mjY mjPP (mjQQ Y) (d + 9) 155 0 (mjL0 2 [.ref 0, .int (nI 51)]) [] σ (rnK σ ws ks l (rnE σ ks 51 ws)) := by
  obtain ⟨B1, B2, B3, B4, B5, B6, B7, B8, B9⟩ := B
  have g1 := gw_sl ws 1; have g2 := gw_sl ws 2; have g3 := gw_sl ws 3; have g4 := gw_sl ws 4; have gz := sl_sz ws; have h1024 := h.2.1.2.1
  refine c_run (b := true) (Q := flZ) ty 51 (by decide) rfl B5 (fun _ => by omega) (fun _ => by omega) (c_opt h ty (fun u tu fu hu z => c_opt_none hu tu z 51 (by decide) (by decide) rfl)) (fun u fu hu c => rnK_no fu hu (rnE_no (by decide) c (fun hb => ?_))) (fun hb u tu fu hu q nr sf => ?_)
  · cases hb
  · refine dp_51 tu (fun r u k => k.1) (mjY_mono tu (fun r v tv k => rnK_cmd fu (by omega) k ?_) (r_move hu tu 51 (Or.inr rfl) rfl (o3 := []) (o4 := []) (gw_at (by omega)) (gw_at (by omega)) (fun z => absurd z (by decide)) (fun z => absurd z (by decide)) (fun p a hk ha => B6.ne (s := 1) (by decide) (mv1 (by omega) sf (Or.inr rfl)) hk ha) (by omega) (by omega) (by omega) (by omega)))
    rw [rnE_go (by decide) nr sf]
    rfl
theorem rn_52 {σ : mjS} {ws : Req} {ks : List KR} {l : List Int32} (h : Wd σ ws ks l) (ty : mjTY σ) (B : BD σ 52 ws ks l) (hw : 3 ≤ ws.length) (m : Nat) (hm : 2 + 2 * m = ws.length) : mjY mjPP (mjQQ Y) (d + 9) 155 0 (mjL0 2 [.ref 0, .int (nI 52)]) [] σ (rnK σ ws ks l (rnE σ ks 52 ws)) := by
  obtain ⟨B1, B2, B3, B4, B5, B6, B7, B8, B9⟩ := B
  have g1 := gw_sl ws 1; have g2 := gw_sl ws 2; have g3 := gw_sl ws 3; have g4 := gw_sl ws 4; have gz := sl_sz ws; have h1024 := h.2.1.2.1
  refine c_run (b := true) (Q := flZ) ty 52 (by decide) rfl B5 (fun _ => by omega) (fun _ => by omega) (c_opt h ty (fun u tu fu hu z => c_opt_none hu tu z 52 (by decide) (by decide) rfl)) (fun u fu hu c => rnK_no fu hu (rnE_no (by decide) c (fun hb => ?_))) (fun hb u tu fu hu q nr sf => ?_)
  · cases hb
  · refine dp_52 tu (fun r u k => k.1) (mjY_mono tu (fun r v tv k => rnK_cmd fu (by omega) k ?_) (r_hashPut hu tu 52 (by decide) rfl (gw_at (by omega)) (gw_at (by omega)) m hm (by omega) (by omega) (by omega) (by omega)))
    rw [rnE_go (by decide) nr sf]
    rfl
theorem rn_53 {σ : mjS} {ws : Req} {ks : List KR} {l : List Int32} (h : Wd σ ws ks l) (ty : mjTY σ) (B : BD σ 53 ws ks l) (hw : 3 ≤ ws.length) (m : Nat) (hm : 2 + 2 * m = ws.length) : mjY mjPP (mjQQ Y) (d + 9) 155 0 (mjL0 2 [.ref 0, .int (nI 53)]) [] σ (rnK σ ws ks l (rnE σ ks 53 ws)) := by
  obtain ⟨B1, B2, B3, B4, B5, B6, B7, B8, B9⟩ := B
  have g1 := gw_sl ws 1; have g2 := gw_sl ws 2; have g3 := gw_sl ws 3; have g4 := gw_sl ws 4; have gz := sl_sz ws; have h1024 := h.2.1.2.1
  refine c_run (b := true) (Q := flZ) ty 53 (by decide) rfl B5 (fun _ => by omega) (fun _ => by omega) (c_opt h ty (fun u tu fu hu z => c_opt_none hu tu z 53 (by decide) (by decide) rfl)) (fun u fu hu c => rnK_no fu hu (rnE_no (by decide) c (fun hb => ?_))) (fun hb u tu fu hu q nr sf => ?_)
  · cases hb
  · refine dp_53 tu (fun r u k => k.1) (mjY_mono tu (fun r v tv k => rnK_cmd fu (by omega) k ?_) (r_hashPut hu tu 53 (by decide) rfl (gw_at (by omega)) (gw_at (by omega)) m hm (by omega) (by omega) (by omega) (by omega)))
    rw [rnE_go (by decide) nr sf]
    rfl
theorem rn_56 {σ : mjS} {ws : Req} {ks : List KR} {l : List Int32} (h : Wd σ ws ks l) (ty : mjTY σ) (B : BD σ 56 ws ks l) (hw : 3 ≤ ws.length) : mjY mjPP (mjQQ Y) (d + 9) 155 0 (mjL0 2 [.ref 0, .int (nI 56)]) [] σ (rnK σ ws ks l (rnE σ ks 56 ws)) := by
  obtain ⟨B1, B2, B3, B4, B5, B6, B7, B8, B9⟩ := B
  have g1 := gw_sl ws 1; have g2 := gw_sl ws 2; have g3 := gw_sl ws 3; have g4 := gw_sl ws 4; have gz := sl_sz ws; have h1024 := h.2.1.2.1
  refine c_run (b := true) (Q := flZ) ty 56 (by decide) rfl B5 (fun _ => by omega) (fun _ => by omega) (c_opt h ty (fun u tu fu hu z => c_opt_none hu tu z 56 (by decide) (by decide) rfl)) (fun u fu hu c => rnK_no fu hu (rnE_no (by decide) c (fun hb => ?_))) (fun hb u tu fu hu q nr sf => ?_)
  · cases hb
  · refine dp_56 tu (fun r u k => k.1) (mjY_mono tu (fun r v tv k => rnK_cmd fu (by omega) k ?_) (r_remove hu tu 56 (by decide) rfl (gw_at (by omega)) (by omega)))
    rw [rnE_go (by decide) nr sf]
    rfl
theorem rn_65 {σ : mjS} {ws : Req} {ks : List KR} {l : List Int32} (h : Wd σ ws ks l) (ty : mjTY σ) (B : BD σ 65 ws ks l) (hw : 3 ≤ ws.length) : mjY mjPP (mjQQ Y) (d + 9) 155 0 (mjL0 2 [.ref 0, .int (nI 65)]) [] σ (rnK σ ws ks l (rnE σ ks 65 ws)) := by
  obtain ⟨B1, B2, B3, B4, B5, B6, B7, B8, B9⟩ := B
  have g1 := gw_sl ws 1; have g2 := gw_sl ws 2; have g3 := gw_sl ws 3; have g4 := gw_sl ws 4; have gz := sl_sz ws; have h1024 := h.2.1.2.1
  refine c_run (b := true) (Q := flZ) ty 65 (by decide) rfl B5 (fun _ => by omega) (fun _ => by omega) (c_opt h ty (fun u tu fu hu z => c_opt_none hu tu z 65 (by decide) (by decide) rfl)) (fun u fu hu c => rnK_no fu hu (rnE_no (by decide) c (fun hb => ?_))) (fun hb u tu fu hu q nr sf => ?_)
  · cases hb
  · refine dp_65 tu (fun r u k => k.1) (mjY_mono tu (fun r v tv k => rnK_cmd fu (by omega) k ?_) (r_remove hu tu 65 (by decide) rfl (gw_at (by omega)) (by omega)))
    rw [rnE_go (by decide) nr sf]
    rfl
theorem rn_79 {σ : mjS} {ws : Req} {ks : List KR} {l : List Int32} (h : Wd σ ws ks l) (ty : mjTY σ) (B : BD σ 79 ws ks l) (hw : 3 ≤ ws.length) : mjY mjPP (mjQQ Y) (d + 9) 155 0 (mjL0 2 [.ref 0, .int (nI 79)]) [] σ (rnK σ ws ks l (rnE σ ks 79 ws)) := by
  obtain ⟨B1, B2, B3, B4, B5, B6, B7, B8, B9⟩ := B
  have g1 := gw_sl ws 1; have g2 := gw_sl ws 2; have g3 := gw_sl ws 3; have g4 := gw_sl ws 4; have gz := sl_sz ws; have h1024 := h.2.1.2.1
  refine c_run (b := true) (Q := flZ) ty 79 (by decide) rfl B5 (fun _ => by omega) (fun _ => by omega) (c_opt h ty (fun u tu fu hu z => c_opt_none hu tu z 79 (by decide) (by decide) rfl)) (fun u fu hu c => rnK_no fu hu (rnE_no (by decide) c (fun hb => ?_))) (fun hb u tu fu hu q nr sf => ?_)
  · cases hb
  · refine dp_79 tu (fun r u k => k.1) (mjY_mono tu (fun r v tv k => rnK_cmd fu (by omega) k ?_) (r_remove hu tu 79 (by decide) rfl (gw_at (by omega)) (by omega)))
    rw [rnE_go (by decide) nr sf]
    rfl
theorem rn_64 {σ : mjS} {ws : Req} {ks : List KR} {l : List Int32} (h : Wd σ ws ks l) (ty : mjTY σ) (B : BD σ 64 ws ks l) (hw : 3 ≤ ws.length) : mjY mjPP (mjQQ Y) (d + 9) 155 0 (mjL0 2 [.ref 0, .int (nI 64)]) [] σ (rnK σ ws ks l (rnE σ ks 64 ws)) := by
  obtain ⟨B1, B2, B3, B4, B5, B6, B7, B8, B9⟩ := B
  have g1 := gw_sl ws 1; have g2 := gw_sl ws 2; have g3 := gw_sl ws 3; have g4 := gw_sl ws 4; have gz := sl_sz ws; have h1024 := h.2.1.2.1
  refine c_run (b := true) (Q := flZ) ty 64 (by decide) rfl B5 (fun _ => by omega) (fun _ => by omega) (c_opt h ty (fun u tu fu hu z => c_opt_none hu tu z 64 (by decide) (by decide) rfl)) (fun u fu hu c => rnK_no fu hu (rnE_no (by decide) c (fun hb => ?_))) (fun hb u tu fu hu q nr sf => ?_)
  · cases hb
  · refine dp_64 tu (fun r u k => k.1) (mjY_mono tu (fun r v tv k => rnK_cmd fu (by omega) k ?_) (r_add hu tu (gw_at (by omega)) B6.1 (by omega) (by omega) (by omega) (by omega) (by omega)))
    rw [rnE_go (by decide) nr sf]
    rfl
theorem rn_70 {σ : mjS} {ws : Req} {ks : List KR} {l : List Int32} (h : Wd σ ws ks l) (ty : mjTY σ) (B : BD σ 70 ws ks l) (hw : 4 ≤ ws.length) : mjY mjPP (mjQQ Y) (d + 9) 155 0 (mjL0 2 [.ref 0, .int (nI 70)]) [] σ (rnK σ ws ks l (rnE σ ks 70 ws)) := by
  obtain ⟨B1, B2, B3, B4, B5, B6, B7, B8, B9⟩ := B
  have g1 := gw_sl ws 1; have g2 := gw_sl ws 2; have g3 := gw_sl ws 3; have g4 := gw_sl ws 4; have gz := sl_sz ws; have h1024 := h.2.1.2.1
  refine c_run (b := true) (Q := flZ) ty 70 (by decide) rfl B5 (fun _ => by omega) (fun _ => by omega) (c_opt h ty (fun u tu fu hu z => c_opt_none hu tu z 70 (by decide) (by decide) rfl)) (fun u fu hu c => rnK_no fu hu (rnE_no (by decide) c (fun hb => ?_))) (fun hb u tu fu hu q nr sf => ?_)
  · cases hb
  · refine dp_70 tu (fun r u k => k.1) (mjY_mono tu (fun r v tv k => rnK_cmd fu (by omega) k ?_) (r_setMove hu tu (gw_at (by omega)) (gw_at (by omega)) (gw_at (k := 3) (by omega)) (by omega) (by have := (B7 _ (gw_mem (ws := ws) (k := 3) (by omega))).1; omega) (by omega) (by omega) (by omega)))
    rw [rnE_go (by decide) nr sf]
    rfl
theorem rn_77 {σ : mjS} {ws : Req} {ks : List KR} {l : List Int32} (h : Wd σ ws ks l) (ty : mjTY σ) (B : BD σ 77 ws ks l) (hw : 2 ≤ ws.length) : mjY mjPP (mjQQ Y) (d + 9) 155 0 (mjL0 2 [.ref 0, .int (nI 77)]) [] σ (rnK σ ws ks l (rnE σ ks 77 ws)) := by
  obtain ⟨B1, B2, B3, B4, B5, B6, B7, B8, B9⟩ := B
  have g1 := gw_sl ws 1; have g2 := gw_sl ws 2; have g3 := gw_sl ws 3; have g4 := gw_sl ws 4; have gz := sl_sz ws; have h1024 := h.2.1.2.1
  refine c_run (b := true) (Q := flZ) ty 77 (by decide) rfl B5 (fun _ => by omega) (fun _ => by omega) (c_opt h ty (fun u tu fu hu z => c_opt_none hu tu z 77 (by decide) (by decide) rfl)) (fun u fu hu c => rnK_no fu hu (rnE_no (by decide) c (fun hb => ?_))) (fun hb u tu fu hu q nr sf => ?_)
  · cases hb
  · refine dp_77 tu (fun r u k => k.1) (mjY_mono tu (fun r v tv k => rnK_cmd fu (by omega) k ?_) (r_set1 hu tu 77 (by decide) (by decide) rfl (v := []) (gw_at (by omega)) (fun z => absurd z (by decide)) (fun z => absurd z (by decide)) (fun _ p a hk ha => (B6.ne (s := 3) (by decide) (so77 (by omega) sf) hk ha).1) (by omega)))
    rw [rnE_go (by decide) nr sf]
    rfl
theorem rn_74 {σ : mjS} {ws : Req} {ks : List KR} {l : List Int32} (h : Wd σ ws ks l) (ty : mjTY σ) (B : BD σ 74 ws ks l) (hw : 3 ≤ ws.length) : mjY mjPP (mjQQ Y) (d + 9) 155 0 (mjL0 2 [.ref 0, .int (nI 74)]) [] σ (rnK σ ws ks l (rnE σ ks 74 ws)) := by
  obtain ⟨B1, B2, B3, B4, B5, B6, B7, B8, B9⟩ := B
  have g1 := gw_sl ws 1; have g2 := gw_sl ws 2; have g3 := gw_sl ws 3; have g4 := gw_sl ws 4; have gz := sl_sz ws; have h1024 := h.2.1.2.1
  refine c_run (b := true) (Q := flZ) ty 74 (by decide) rfl B5 (fun _ => by omega) (fun _ => by omega) (c_opt h ty (fun u tu fu hu z => c_opt_none hu tu z 74 (by decide) (by decide) rfl)) (fun u fu hu c => rnK_no fu hu (rnE_no (by decide) c (fun hb => ?_))) (fun hb u tu fu hu q nr sf => ?_)
  · cases hb
  · refine dp_74 tu (fun r u k => k.1) (mjY_mono tu (fun r v tv k => rnK_cmd fu (by omega) k ?_) (r_reckonS hu tu 74 (by decide) (by decide) rfl (gw_at (by omega)) (by omega) (B9 (by decide) nr ((sfB_g (by decide) _ _ _).symm.trans sf)).1 (B9 (by decide) nr ((sfB_g (by decide) _ _ _).symm.trans sf)).2 (by omega) (by omega)))
    rw [rnE_go (by decide) nr sf]
    rfl
theorem rn_75 {σ : mjS} {ws : Req} {ks : List KR} {l : List Int32} (h : Wd σ ws ks l) (ty : mjTY σ) (B : BD σ 75 ws ks l) (hw : 3 ≤ ws.length) : mjY mjPP (mjQQ Y) (d + 9) 155 0 (mjL0 2 [.ref 0, .int (nI 75)]) [] σ (rnK σ ws ks l (rnE σ ks 75 ws)) := by
  obtain ⟨B1, B2, B3, B4, B5, B6, B7, B8, B9⟩ := B
  have g1 := gw_sl ws 1; have g2 := gw_sl ws 2; have g3 := gw_sl ws 3; have g4 := gw_sl ws 4; have gz := sl_sz ws; have h1024 := h.2.1.2.1
  refine c_run (b := true) (Q := flZ) ty 75 (by decide) rfl B5 (fun _ => by omega) (fun _ => by omega) (c_opt h ty (fun u tu fu hu z => c_opt_none hu tu z 75 (by decide) (by decide) rfl)) (fun u fu hu c => rnK_no fu hu (rnE_no (by decide) c (fun hb => ?_))) (fun hb u tu fu hu q nr sf => ?_)
  · cases hb
  · refine dp_75 tu (fun r u k => k.1) (mjY_mono tu (fun r v tv k => rnK_cmd fu (by omega) k ?_) (r_reckonS hu tu 75 (by decide) (by decide) rfl (gw_at (by omega)) (by omega) (B9 (by decide) nr ((sfB_g (by decide) _ _ _).symm.trans sf)).1 (B9 (by decide) nr ((sfB_g (by decide) _ _ _).symm.trans sf)).2 (by omega) (by omega)))
    rw [rnE_go (by decide) nr sf]
    rfl
theorem rn_76 {σ : mjS} {ws : Req} {ks : List KR} {l : List Int32} (h : Wd σ ws ks l) (ty : mjTY σ) (B : BD σ 76 ws ks l) (hw : 3 ≤ ws.length) : mjY mjPP (mjQQ Y) (d + 9) 155 0 (mjL0 2 [.ref 0, .int (nI 76)]) [] σ (rnK σ ws ks l (rnE σ ks 76 ws)) := by
  obtain ⟨B1, B2, B3, B4, B5, B6, B7, B8, B9⟩ := B
  have g1 := gw_sl ws 1; have g2 := gw_sl ws 2; have g3 := gw_sl ws 3; have g4 := gw_sl ws 4; have gz := sl_sz ws; have h1024 := h.2.1.2.1
  refine c_run (b := true) (Q := flZ) ty 76 (by decide) rfl B5 (fun _ => by omega) (fun _ => by omega) (c_opt h ty (fun u tu fu hu z => c_opt_none hu tu z 76 (by decide) (by decide) rfl)) (fun u fu hu c => rnK_no fu hu (rnE_no (by decide) c (fun hb => ?_))) (fun hb u tu fu hu q nr sf => ?_)
  · cases hb
  · refine dp_76 tu (fun r u k => k.1) (mjY_mono tu (fun r v tv k => rnK_cmd fu (by omega) k ?_) (r_reckonS hu tu 76 (by decide) (by decide) rfl (gw_at (by omega)) (by omega) (B9 (by decide) nr ((sfB_g (by decide) _ _ _).symm.trans sf)).1 (B9 (by decide) nr ((sfB_g (by decide) _ _ _).symm.trans sf)).2 (by omega) (by omega)))
    rw [rnE_go (by decide) nr sf]
    rfl
theorem rn_78 {σ : mjS} {ws : Req} {ks : List KR} {l : List Int32} (h : Wd σ ws ks l) (ty : mjTY σ) (B : BD σ 78 ws ks l) (hw : 2 ≤ ws.length) : mjY mjPP (mjQQ Y) (d + 9) 155 0 (mjL0 2 [.ref 0, .int (nI 78)]) [] σ (rnK σ ws ks l (rnE σ ks 78 ws)) := by
  obtain ⟨B1, B2, B3, B4, B5, B6, B7, B8, B9⟩ := B
  have g1 := gw_sl ws 1; have g2 := gw_sl ws 2; have g3 := gw_sl ws 3; have g4 := gw_sl ws 4; have gz := sl_sz ws; have h1024 := h.2.1.2.1
  refine c_run (b := (zoR ws).isSome) (Q := (fun v => ∀ q, zoR ws = some q → ozI v q.1 ∧ v.1 f_pairs = nI (ws.length - q.2.length) ∧ q.2 = ws.drop (ws.length - q.2.length) ∧ q.2.length ≤ ws.length ∧ ¬ zoC q.1 q.2 ∧ zOb q.2 = true)) ty 78 (by decide) rfl B5 (fun _ => by omega) (fun _ => by omega) (c_opt h ty (fun u tu fu hu z => c_opt_78 hu tu z (by omega))) (fun u fu hu c => rnK_no fu hu (rnE_no (by decide) c (fun hb => ?_))) (fun hb u tu fu hu q nr sf => ?_)
  · have e : zoR ws = none := by cases e : zoR ws with | none => rfl | some n => rw [e] at hb; cases hb
    show nW 78 ws ((zoR ws).bind (fun q => zdF q.1.1 q.1.2.1 q.1.2.2.1 q.1.2.2.2.1 q.1.2.2.2.2.2 (strip ks) (gw ws 1) q.2)) = none; rw [e]; rfl
  · obtain ⟨n, en⟩ := Option.isSome_iff_exists.mp hb
    obtain ⟨q1, q2, q3, q4, q5, q6⟩ := q n en
    have n2 : ¬ n.2.length < 2 := fun z => q5 (Or.inl z)
    have ne : n.2.length % 2 = 0 := by
      have : ¬ n.2.length % 2 = 1 := fun z => q5 (Or.inr (Or.inl z))
      omega
    have ni : n.1.2.2.2.2.2 = 0 ∨ n.2.length / 2 ≤ 1 := by
      by_cases c : n.1.2.2.2.2.2 = 0
      · exact Or.inl c
      · exact Or.inr (by have : ¬ 2 < n.2.length := fun z => q5 (Or.inr (Or.inr (Or.inl ⟨c, z⟩))); omega)
    have hz : zOK (ws.drop (ws.length - n.2.length)) := by rw [← q3]; exact zOb_ok n.2.length n.2 (Nat.le_refl _) ne q6
    have w1 := (B7 _ (gw_mem (ws := ws) (k := 1) (by omega))).1
    refine dp_78 tu (fun r u k => k.1) (mjY_mono tu (fun r v tv k => rnK_cmd fu (by omega) k ?_) (r_zadd hu tu (gw_at (k := 1) (by omega)) (ws.length - n.2.length) (n.2.length / 2) q2 (by omega) hz B6.1 (by rw [q1.2.2.2.2.2]; exact ni) (by omega) (by omega) (by omega) (by omega) (by omega)))
    rw [rnE_go (by decide) nr sf]
    show nW 78 ws ((zoR ws).bind (fun q => zdF q.1.1 q.1.2.1 q.1.2.2.1 q.1.2.2.2.1 q.1.2.2.2.2.2 (strip ks) (gw ws 1) q.2)) = _
    rw [en, q1.1, q1.2.1, q1.2.2.1, q1.2.2.2.1, q1.2.2.2.2.2, ← q3]; rfl
theorem rn_4 {σ : mjS} {ws : Req} {ks : List KR} {l : List Int32} (h : Wd σ ws ks l) (ty : mjTY σ) (B : BD σ 4 ws ks l) (hw : 3 ≤ ws.length) : mjY mjPP (mjQQ Y) (d + 9) 155 0 (mjL0 2 [.ref 0, .int (nI 4)]) [] σ (rnK σ ws ks l (rnE σ ks 4 ws)) := by
  obtain ⟨B1, B2, B3, B4, B5, B6, B7, B8, B9⟩ := B
  have g1 := gw_sl ws 1; have g2 := gw_sl ws 2; have g3 := gw_sl ws 3; have g4 := gw_sl ws 4; have gz := sl_sz ws; have h1024 := h.2.1.2.1
  refine c_run (b := true) (Q := flZ) ty 4 (by decide) rfl B5 (fun _ => by omega) (fun _ => by omega) (c_opt h ty (fun u tu fu hu z => c_opt_none hu tu z 4 (by decide) (by decide) rfl)) (fun u fu hu c => rnK_no fu hu (rnE_no (by decide) c (fun hb => ?_))) (fun hb u tu fu hu q nr sf => ?_)
  · cases hb
  · refine dp_4 tu (fun r u k => k.1) (mjY_mono tu (fun r v tv k => rnK_set fu true ⟨fun _ => ⟨fun z => absurd z (by decide), fun z => absurd z (by decide)⟩, fun _ => rfl⟩ 0 0 0 (q f_optKeep (by decide)) (q f_timed (by decide)) (fun z => absurd rfl z) k ?_) (r_set hu tu (w := gw ws 1) (v := gw ws 2) 4 (by decide) ⟨gw_at (by omega), (show ws[2]? = some (gw ws 2) from gw_at (by omega)), by omega, by have := gw_sl2 (ws := ws) (j := 1) (k := 2) (by omega) (by omega); omega, by omega, by have := gw_sl2 (ws := ws) (j := 1) (k := 2) (by omega) (by omega); omega⟩ rfl))
    rw [rnE_go (by decide) nr sf]
    rfl
theorem rn_5 {σ : mjS} {ws : Req} {ks : List KR} {l : List Int32} (h : Wd σ ws ks l) (ty : mjTY σ) (B : BD σ 5 ws ks l) (hw : 3 ≤ ws.length) : mjY mjPP (mjQQ Y) (d + 9) 155 0 (mjL0 2 [.ref 0, .int (nI 5)]) [] σ (rnK σ ws ks l (rnE σ ks 5 ws)) := by
  obtain ⟨B1, B2, B3, B4, B5, B6, B7, B8, B9⟩ := B
  have g1 := gw_sl ws 1; have g2 := gw_sl ws 2; have g3 := gw_sl ws 3; have g4 := gw_sl ws 4; have gz := sl_sz ws; have h1024 := h.2.1.2.1
  refine c_run (b := true) (Q := flZ) ty 5 (by decide) rfl B5 (fun _ => by omega) (fun _ => by omega) (c_opt h ty (fun u tu fu hu z => c_opt_none hu tu z 5 (by decide) (by decide) rfl)) (fun u fu hu c => rnK_no fu hu (rnE_no (by decide) c (fun hb => ?_))) (fun hb u tu fu hu q nr sf => ?_)
  · cases hb
  · refine dp_5 tu (fun r u k => k.1) (mjY_mono tu (fun r v tv k => rnK_set fu (kyI (strip ks) (gw ws 1)).isNone ⟨fun g => ⟨fun _ => Option.isNone_iff_eq_none.mp g, fun z => absurd z (by decide)⟩, fun g => Option.isNone_iff_eq_none.mpr (g.1 rfl)⟩ 0 0 0 (q f_optKeep (by decide)) (q f_timed (by decide)) (fun z => absurd rfl z) k ?_) (r_set hu tu (w := gw ws 1) (v := gw ws 2) 5 (by decide) ⟨gw_at (by omega), (show ws[2]? = some (gw ws 2) from gw_at (by omega)), by omega, by have := gw_sl2 (ws := ws) (j := 1) (k := 2) (by omega) (by omega); omega, by omega, by have := gw_sl2 (ws := ws) (j := 1) (k := 2) (by omega) (by omega); omega⟩ rfl))
    rw [rnE_go (by decide) nr sf]
    rfl
theorem rn_6 {σ : mjS} {ws : Req} {ks : List KR} {l : List Int32} (h : Wd σ ws ks l) (ty : mjTY σ) (B : BD σ 6 ws ks l) (hw : 4 ≤ ws.length) : mjY mjPP (mjQQ Y) (d + 9) 155 0 (mjL0 2 [.ref 0, .int (nI 6)]) [] σ (rnK σ ws ks l (rnE σ ks 6 ws)) := by
  obtain ⟨B1, B2, B3, B4, B5, B6, B7, B8, B9⟩ := B
  have g1 := gw_sl ws 1; have g2 := gw_sl ws 2; have g3 := gw_sl ws 3; have g4 := gw_sl ws 4; have gz := sl_sz ws; have h1024 := h.2.1.2.1
  refine c_run (b := (tiR true 0 (σ.2.1 f_now0) (gw ws 2)).isSome) (Q := (fun t => ∀ q, tiR true 0 (σ.2.1 f_now0) (gw ws 2) = some q → t.2.1 f_time = q ∧ t.1 f_timed = 1 ∧ ∀ k ∈ o4, t.1 k = 0)) ty 6 (by decide) rfl B5 (fun _ => by omega) (fun _ => by omega) (c_opt h ty (fun u tu fu hu z => by have en : u.2.1 f_now0 = σ.2.1 f_now0 := fu.op.2.1 _ (by decide); rw [← en]; exact c_opt_6 hu tu z (gw_at (by omega)))) (fun u fu hu c => rnK_no fu hu (rnE_no (by decide) c (fun hb => ?_))) (fun hb u tu fu hu q nr sf => ?_)
  · have e : tiR true 0 (σ.2.1 f_now0) (gw ws 2) = none := by cases e : tiR true 0 (σ.2.1 f_now0) (gw ws 2) with | none => rfl | some n => rw [e] at hb; cases hb
    show (tiR true 0 (σ.2.1 f_now0) (gw ws 2)).bind (fun t => seF true 0 1 t (σ.2.1 f_now0) (decide (¬ σ.1 f_replays = 0)) (strip ks) (gw ws 1) (gw ws 3)) = none; rw [e]; rfl
  · obtain ⟨n, en⟩ := Option.isSome_iff_exists.mp hb
    obtain ⟨q1, q2, q3⟩ := q n en
    refine dp_6 tu (fun r u k => k.1) (mjY_mono tu (fun r v tv k => rnK_set fu true ⟨fun _ => ⟨fun z => absurd z (by decide), fun z => absurd z (by decide)⟩, fun _ => rfl⟩ 0 1 n (q3 f_optKeep (by decide)) q2 (fun _ => q1) k ?_) (r_set hu tu (w := gw ws 1) (v := gw ws 3) 6 (by decide) ⟨gw_at (by omega), (show ws[3]? = some (gw ws 3) from gw_at (by omega)), by omega, by have := gw_sl2 (ws := ws) (j := 1) (k := 3) (by omega) (by omega); omega, by omega, by have := gw_sl2 (ws := ws) (j := 1) (k := 3) (by omega) (by omega); omega⟩ rfl))
    rw [rnE_go (by decide) nr sf]
    show (tiR true 0 (σ.2.1 f_now0) (gw ws 2)).bind (fun t => seF true 0 1 t (σ.2.1 f_now0) (decide (¬ σ.1 f_replays = 0)) (strip ks) (gw ws 1) (gw ws 3)) = _
    rw [en]; rfl
theorem rn_7 {σ : mjS} {ws : Req} {ks : List KR} {l : List Int32} (h : Wd σ ws ks l) (ty : mjTY σ) (B : BD σ 7 ws ks l) (hw : 4 ≤ ws.length) : mjY mjPP (mjQQ Y) (d + 9) 155 0 (mjL0 2 [.ref 0, .int (nI 7)]) [] σ (rnK σ ws ks l (rnE σ ks 7 ws)) := by
  obtain ⟨B1, B2, B3, B4, B5, B6, B7, B8, B9⟩ := B
  have g1 := gw_sl ws 1; have g2 := gw_sl ws 2; have g3 := gw_sl ws 3; have g4 := gw_sl ws 4; have gz := sl_sz ws; have h1024 := h.2.1.2.1
  refine c_run (b := (tiR true 1 (σ.2.1 f_now0) (gw ws 2)).isSome) (Q := (fun t => ∀ q, tiR true 1 (σ.2.1 f_now0) (gw ws 2) = some q → t.2.1 f_time = q ∧ t.1 f_timed = 1 ∧ ∀ k ∈ o4, t.1 k = 0)) ty 7 (by decide) rfl B5 (fun _ => by omega) (fun _ => by omega) (c_opt h ty (fun u tu fu hu z => by have en : u.2.1 f_now0 = σ.2.1 f_now0 := fu.op.2.1 _ (by decide); rw [← en]; exact c_opt_7 hu tu z (gw_at (by omega)))) (fun u fu hu c => rnK_no fu hu (rnE_no (by decide) c (fun hb => ?_))) (fun hb u tu fu hu q nr sf => ?_)
  · have e : tiR true 1 (σ.2.1 f_now0) (gw ws 2) = none := by cases e : tiR true 1 (σ.2.1 f_now0) (gw ws 2) with | none => rfl | some n => rw [e] at hb; cases hb
    show (tiR true 1 (σ.2.1 f_now0) (gw ws 2)).bind (fun t => seF true 0 1 t (σ.2.1 f_now0) (decide (¬ σ.1 f_replays = 0)) (strip ks) (gw ws 1) (gw ws 3)) = none; rw [e]; rfl
  · obtain ⟨n, en⟩ := Option.isSome_iff_exists.mp hb
    obtain ⟨q1, q2, q3⟩ := q n en
    refine dp_7 tu (fun r u k => k.1) (mjY_mono tu (fun r v tv k => rnK_set fu true ⟨fun _ => ⟨fun z => absurd z (by decide), fun z => absurd z (by decide)⟩, fun _ => rfl⟩ 0 1 n (q3 f_optKeep (by decide)) q2 (fun _ => q1) k ?_) (r_set hu tu (w := gw ws 1) (v := gw ws 3) 7 (by decide) ⟨gw_at (by omega), (show ws[3]? = some (gw ws 3) from gw_at (by omega)), by omega, by have := gw_sl2 (ws := ws) (j := 1) (k := 3) (by omega) (by omega); omega, by omega, by have := gw_sl2 (ws := ws) (j := 1) (k := 3) (by omega) (by omega); omega⟩ rfl))
    rw [rnE_go (by decide) nr sf]
    show (tiR true 1 (σ.2.1 f_now0) (gw ws 2)).bind (fun t => seF true 0 1 t (σ.2.1 f_now0) (decide (¬ σ.1 f_replays = 0)) (strip ks) (gw ws 1) (gw ws 3)) = _
    rw [en]; rfl
theorem rn_30 {σ : mjS} {ws : Req} {ks : List KR} {l : List Int32} (h : Wd σ ws ks l) (ty : mjTY σ) (B : BD σ 30 ws ks l) (hw : 3 ≤ ws.length) : mjY mjPP (mjQQ Y) (d + 9) 155 0 (mjL0 2 [.ref 0, .int (nI 30)]) [] σ (rnK σ ws ks l (rnE σ ks 30 ws)) := by
  obtain ⟨B1, B2, B3, B4, B5, B6, B7, B8, B9⟩ := B
  have g1 := gw_sl ws 1; have g2 := gw_sl ws 2; have g3 := gw_sl ws 3; have g4 := gw_sl ws 4; have gz := sl_sz ws; have h1024 := h.2.1.2.1
  refine c_run (b := (tiR false 0 (σ.2.1 f_now0) (gw ws 2)).isSome) (Q := (fun t => ∀ q, tiR false 0 (σ.2.1 f_now0) (gw ws 2) = some q → t.2.1 f_time = q)) ty 30 (by decide) rfl B5 (fun _ => by omega) (fun _ => by omega) (c_opt h ty (fun u tu fu hu z => by have en : u.2.1 f_now0 = σ.2.1 f_now0 := fu.op.2.1 _ (by decide); rw [← en]; exact c_opt_30 hu tu z (gw_at (by omega)))) (fun u fu hu c => rnK_no fu hu (rnE_no (by decide) c (fun hb => ?_))) (fun hb u tu fu hu q nr sf => ?_)
  · have e : tiR false 0 (σ.2.1 f_now0) (gw ws 2) = none := by cases e : tiR false 0 (σ.2.1 f_now0) (gw ws 2) with | none => rfl | some n => rw [e] at hb; cases hb
    show (tiR false 0 (σ.2.1 f_now0) (gw ws 2)).bind (fun t => eiF t (σ.2.1 f_now0) (decide (¬ σ.1 f_replays = 0)) (strip ks) (gw ws 1)) = none; rw [e]; rfl
  · obtain ⟨n, en⟩ := Option.isSome_iff_exists.mp hb
    refine dp_30 tu (fun r u k => k.1) (mjY_mono tu (fun r v tv k => rnK_exp fu n (q n en) k ?_) (r_expire hu tu (gw_at (by omega)) (by omega)))
    rw [rnE_go (by decide) nr sf]
    show (tiR false 0 (σ.2.1 f_now0) (gw ws 2)).bind (fun t => eiF t (σ.2.1 f_now0) (decide (¬ σ.1 f_replays = 0)) (strip ks) (gw ws 1)) = _
    rw [en]; rfl
theorem rn_31 {σ : mjS} {ws : Req} {ks : List KR} {l : List Int32} (h : Wd σ ws ks l) (ty : mjTY σ) (B : BD σ 31 ws ks l) (hw : 3 ≤ ws.length) : mjY mjPP (mjQQ Y) (d + 9) 155 0 (mjL0 2 [.ref 0, .int (nI 31)]) [] σ (rnK σ ws ks l (rnE σ ks 31 ws)) := by
  obtain ⟨B1, B2, B3, B4, B5, B6, B7, B8, B9⟩ := B
  have g1 := gw_sl ws 1; have g2 := gw_sl ws 2; have g3 := gw_sl ws 3; have g4 := gw_sl ws 4; have gz := sl_sz ws; have h1024 := h.2.1.2.1
  refine c_run (b := (tiR false 1 (σ.2.1 f_now0) (gw ws 2)).isSome) (Q := (fun t => ∀ q, tiR false 1 (σ.2.1 f_now0) (gw ws 2) = some q → t.2.1 f_time = q)) ty 31 (by decide) rfl B5 (fun _ => by omega) (fun _ => by omega) (c_opt h ty (fun u tu fu hu z => by have en : u.2.1 f_now0 = σ.2.1 f_now0 := fu.op.2.1 _ (by decide); rw [← en]; exact c_opt_31 hu tu z (gw_at (by omega)))) (fun u fu hu c => rnK_no fu hu (rnE_no (by decide) c (fun hb => ?_))) (fun hb u tu fu hu q nr sf => ?_)
  · have e : tiR false 1 (σ.2.1 f_now0) (gw ws 2) = none := by cases e : tiR false 1 (σ.2.1 f_now0) (gw ws 2) with | none => rfl | some n => rw [e] at hb; cases hb
    show (tiR false 1 (σ.2.1 f_now0) (gw ws 2)).bind (fun t => eiF t (σ.2.1 f_now0) (decide (¬ σ.1 f_replays = 0)) (strip ks) (gw ws 1)) = none; rw [e]; rfl
  · obtain ⟨n, en⟩ := Option.isSome_iff_exists.mp hb
    refine dp_31 tu (fun r u k => k.1) (mjY_mono tu (fun r v tv k => rnK_exp fu n (q n en) k ?_) (r_expire hu tu (gw_at (by omega)) (by omega)))
    rw [rnE_go (by decide) nr sf]
    show (tiR false 1 (σ.2.1 f_now0) (gw ws 2)).bind (fun t => eiF t (σ.2.1 f_now0) (decide (¬ σ.1 f_replays = 0)) (strip ks) (gw ws 1)) = _
    rw [en]; rfl
theorem rn_32 {σ : mjS} {ws : Req} {ks : List KR} {l : List Int32} (h : Wd σ ws ks l) (ty : mjTY σ) (B : BD σ 32 ws ks l) (hw : 3 ≤ ws.length) : mjY mjPP (mjQQ Y) (d + 9) 155 0 (mjL0 2 [.ref 0, .int (nI 32)]) [] σ (rnK σ ws ks l (rnE σ ks 32 ws)) := by
  obtain ⟨B1, B2, B3, B4, B5, B6, B7, B8, B9⟩ := B
  have g1 := gw_sl ws 1; have g2 := gw_sl ws 2; have g3 := gw_sl ws 3; have g4 := gw_sl ws 4; have gz := sl_sz ws; have h1024 := h.2.1.2.1
  refine c_run (b := (tiR false 2 (σ.2.1 f_now0) (gw ws 2)).isSome) (Q := (fun t => ∀ q, tiR false 2 (σ.2.1 f_now0) (gw ws 2) = some q → t.2.1 f_time = q)) ty 32 (by decide) rfl B5 (fun _ => by omega) (fun _ => by omega) (c_opt h ty (fun u tu fu hu z => by have en : u.2.1 f_now0 = σ.2.1 f_now0 := fu.op.2.1 _ (by decide); rw [← en]; exact c_opt_32 hu tu z (gw_at (by omega)))) (fun u fu hu c => rnK_no fu hu (rnE_no (by decide) c (fun hb => ?_))) (fun hb u tu fu hu q nr sf => ?_)
  · have e : tiR false 2 (σ.2.1 f_now0) (gw ws 2) = none := by cases e : tiR false 2 (σ.2.1 f_now0) (gw ws 2) with | none => rfl | some n => rw [e] at hb; cases hb
    show (tiR false 2 (σ.2.1 f_now0) (gw ws 2)).bind (fun t => eiF t (σ.2.1 f_now0) (decide (¬ σ.1 f_replays = 0)) (strip ks) (gw ws 1)) = none; rw [e]; rfl
  · obtain ⟨n, en⟩ := Option.isSome_iff_exists.mp hb
    refine dp_32 tu (fun r u k => k.1) (mjY_mono tu (fun r v tv k => rnK_exp fu n (q n en) k ?_) (r_expire hu tu (gw_at (by omega)) (by omega)))
    rw [rnE_go (by decide) nr sf]
    show (tiR false 2 (σ.2.1 f_now0) (gw ws 2)).bind (fun t => eiF t (σ.2.1 f_now0) (decide (¬ σ.1 f_replays = 0)) (strip ks) (gw ws 1)) = _
    rw [en]; rfl
theorem rn_33 {σ : mjS} {ws : Req} {ks : List KR} {l : List Int32} (h : Wd σ ws ks l) (ty : mjTY σ) (B : BD σ 33 ws ks l) (hw : 3 ≤ ws.length) : mjY mjPP (mjQQ Y) (d + 9) 155 0 (mjL0 2 [.ref 0, .int (nI 33)]) [] σ (rnK σ ws ks l (rnE σ ks 33 ws)) := by
  obtain ⟨B1, B2, B3, B4, B5, B6, B7, B8, B9⟩ := B
  have g1 := gw_sl ws 1; have g2 := gw_sl ws 2; have g3 := gw_sl ws 3; have g4 := gw_sl ws 4; have gz := sl_sz ws; have h1024 := h.2.1.2.1
  refine c_run (b := (tiR false 3 (σ.2.1 f_now0) (gw ws 2)).isSome) (Q := (fun t => ∀ q, tiR false 3 (σ.2.1 f_now0) (gw ws 2) = some q → t.2.1 f_time = q)) ty 33 (by decide) rfl B5 (fun _ => by omega) (fun _ => by omega) (c_opt h ty (fun u tu fu hu z => by have en : u.2.1 f_now0 = σ.2.1 f_now0 := fu.op.2.1 _ (by decide); rw [← en]; exact c_opt_33 hu tu z (gw_at (by omega)))) (fun u fu hu c => rnK_no fu hu (rnE_no (by decide) c (fun hb => ?_))) (fun hb u tu fu hu q nr sf => ?_)
  · have e : tiR false 3 (σ.2.1 f_now0) (gw ws 2) = none := by cases e : tiR false 3 (σ.2.1 f_now0) (gw ws 2) with | none => rfl | some n => rw [e] at hb; cases hb
    show (tiR false 3 (σ.2.1 f_now0) (gw ws 2)).bind (fun t => eiF t (σ.2.1 f_now0) (decide (¬ σ.1 f_replays = 0)) (strip ks) (gw ws 1)) = none; rw [e]; rfl
  · obtain ⟨n, en⟩ := Option.isSome_iff_exists.mp hb
    refine dp_33 tu (fun r u k => k.1) (mjY_mono tu (fun r v tv k => rnK_exp fu n (q n en) k ?_) (r_expire hu tu (gw_at (by omega)) (by omega)))
    rw [rnE_go (by decide) nr sf]
    show (tiR false 3 (σ.2.1 f_now0) (gw ws 2)).bind (fun t => eiF t (σ.2.1 f_now0) (decide (¬ σ.1 f_replays = 0)) (strip ks) (gw ws 1)) = _
    rw [en]; rfl
theorem rn_2 {σ : mjS} {ws : Req} {ks : List KR} {l : List Int32} (h : Wd σ ws ks l) (ty : mjTY σ) (B : BD σ 2 ws ks l) (hw : 3 ≤ ws.length) : mjY mjPP (mjQQ Y) (d + 9) 155 0 (mjL0 2 [.ref 0, .int (nI 2)]) [] σ (rnK σ ws ks l (rnE σ ks 2 ws)) := by
  obtain ⟨B1, B2, B3, B4, B5, B6, B7, B8, B9⟩ := B
  have g1 := gw_sl ws 1; have g2 := gw_sl ws 2; have g3 := gw_sl ws 3; have g4 := gw_sl ws 4; have gz := sl_sz ws; have h1024 := h.2.1.2.1
  have hb0 : osR ws (σ.2.1 f_now0) = none → rnE σ ks 2 ws = none := fun e => by
    unfold rnE rnF
    by_cases r : refP σ ks 2
    · rw [if_pos r]
    · rw [if_neg r, if_pos rfl, e]; rfl
  have key : ∀ q, osR ws (σ.2.1 f_now0) = some q → ¬ refP σ ks 2 → rnE σ ks 2 ws = if sfB 2 q.1.2.2.1 ws (strip ks) = true then seF (goB q.1.1 q.1.2.1 (strip ks) (gw ws 1)) q.1.2.2.2 (if q.2.isSome then 1 else 0) (q.2.getD 0) (σ.2.1 f_now0) (decide (¬ σ.1 f_replays = 0)) (strip ks) (gw ws 1) (gw ws 2) else none := fun q e r => by
    unfold rnE rnF
    rw [if_neg r, if_pos rfl, e]; rfl
  refine c_run (b := (osR ws (σ.2.1 f_now0)).isSome) (Q := (fun v => ∀ q, osR ws (σ.2.1 f_now0) = some q → osQ v q)) ty 2 (by decide) rfl B5 (fun _ => by omega) (fun _ => by omega) (c_opt h ty (fun u tu fu hu z => by have en : u.2.1 f_now0 = σ.2.1 f_now0 := fu.op.2.1 _ (by decide); rw [← en]; exact c_opt_2 hu tu z (by omega))) (fun u fu hu c => rnK_no fu hu ?_) (fun hb u tu fu hu q nr sf => ?_)
  · rcases c with hb | c | ⟨g, c1, c2⟩
    · have e : osR ws (σ.2.1 f_now0) = none := by cases e : osR ws (σ.2.1 f_now0) with | none => rfl | some n => rw [e] at hb; cases hb
      exact hb0 e
    · unfold rnE; rw [if_pos c]
    · cases e : osR ws (σ.2.1 f_now0) with
      | none => exact hb0 e
      | some q =>
        by_cases r : refP σ ks 2
        · unfold rnE; rw [if_pos r]
        · rw [key q e r]
          obtain ⟨v, v1, v2⟩ := c1 (by rw [e]; rfl)
          have v3 : v.1 f_optGet = q.1.2.2.1 := (v1 q e).1.2.2.1
          rw [← v3, v2, c2]; rfl
  · obtain ⟨n, en⟩ := Option.isSome_iff_exists.mp hb
    obtain ⟨⟨q1, q2, q3, q4⟩, q5, q6⟩ := q n en
    have sz2 := gw_sl2 (ws := ws) (j := 1) (k := 2) (by omega) (by omega)
    have hgo : goB n.1.1 n.1.2.1 (strip ks) (gw ws 1) = true ↔ goP u 2 (strip ks) (gw ws 1) := by
      unfold goB goP
      rw [q1, q2, Bool.and_eq_true, Bool.or_eq_true, Bool.or_eq_true, decide_eq_true_iff, decide_eq_true_iff, Option.isNone_iff_eq_none]
      refine ⟨fun z => ⟨fun y => absurd y (by decide), fun _ => ⟨z.1, z.2.imp id (fun y w => by rw [w] at y; cases y)⟩⟩, fun z => ⟨(z.2 rfl).1, (z.2 rfl).2.imp id (fun y => Option.isSome_iff_ne_none.mpr y)⟩⟩
    have ht : u.1 f_timed = if n.2.isSome then 1 else 0 := by
      cases e : n.2 with
      | none => exact q5 e
      | some t => exact (q6 t e).1
    have ht2 : ¬ (if n.2.isSome then (1 : Int32) else 0) = 0 → u.2.1 f_time = n.2.getD 0 := by
      intro z
      cases e : n.2 with
      | none => rw [e] at z; exact absurd rfl z
      | some t => exact (q6 t e).2
    refine dp_2 tu (fun r u k => k.1) (mjY_mono tu (fun r v tv k => rnK_set fu (goB n.1.1 n.1.2.1 (strip ks) (gw ws 1)) hgo n.1.2.2.2 (if n.2.isSome then 1 else 0) (n.2.getD 0) q4 ht ht2 k ?_) (r_set hu tu (w := gw ws 1) (v := gw ws 2) 2 (by decide) ⟨gw_at (by omega), (show ws[2]? = some (gw ws 2) from gw_at (by omega)), by omega, by omega, by omega, by omega⟩ rfl))
    rw [key n en nr, ← q3, if_pos sf]
theorem rn_3 {σ : mjS} {ws : Req} {ks : List KR} {l : List Int32} (h : Wd σ ws ks l) (ty : mjTY σ) (B : BD σ 3 ws ks l) (hw : 2 ≤ ws.length) : mjY mjPP (mjQQ Y) (d + 9) 155 0 (mjL0 2 [.ref 0, .int (nI 3)]) [] σ (rnK σ ws ks l (rnE σ ks 3 ws)) := by
  obtain ⟨B1, B2, B3, B4, B5, B6, B7, B8, B9⟩ := B
  have g1 := gw_sl ws 1; have g2 := gw_sl ws 2; have g3 := gw_sl ws 3; have g4 := gw_sl ws 4; have gz := sl_sz ws; have h1024 := h.2.1.2.1
  refine c_run (b := true) (Q := flZ) ty 3 (by decide) rfl B5 (fun _ => by omega) (fun _ => by omega) (c_opt h ty (fun u tu fu hu z => c_opt_none hu tu z 3 (by decide) (by decide) rfl)) (fun u fu hu c => rnK_no fu hu (rnE_no (by decide) c (fun hb => ?_))) (fun hb u tu fu hu q nr sf => ?_)
  · cases hb
  · refine dp_3 tu (fun r u k => k.1) (mjY_mono tu (fun r v tv k => ?_) (r_text hu tu 3 (by decide) rfl (gw_at (by omega)) (by have := B6.tx (gw ws 1); omega) 0 (fun z => absurd z (by decide)) (by omega)))
    rw [rnE_go (by decide) nr sf]
    obtain ⟨hr, f2, ks', k1, k2⟩ := k
    refine ⟨hr, fu.op.tr f2, ks', ?_⟩
    rw [if_pos rfl] at k1 k2
    show Wd v ws ks' (rnL σ l (if kyI (strip ks) (gw ws 1) = none then none else some (delA (strip ks) (gw ws 1), 22, [gw ws 1]))) ∧ strip ks' = efA (strip ks) (if kyI (strip ks) (gw ws 1) = none then none else some (delA (strip ks) (gw ws 1), 22, [gw ws 1]))
    unfold gdL at k1
    by_cases c : kyI (strip ks) (gw ws 1) = none
    · rw [if_pos c] at k1
      rw [if_pos c]
      refine ⟨k1, ?_⟩
      rw [k2]; unfold delA; rw [c]; rfl
    · rw [if_neg c] at k1
      rw [if_neg c]
      rw [ntG_fr fu.op, ntL_G] at k1
      exact ⟨k1, k2⟩
theorem rn_1 {σ : mjS} {ws : Req} {ks : List KR} {l : List Int32} (h : Wd σ ws ks l) (ty : mjTY σ) (B : BD σ 1 ws ks l) (hw : 2 ≤ ws.length) : mjY mjPP (mjQQ Y) (d + 9) 155 0 (mjL0 2 [.ref 0, .int (nI 1)]) [] σ (rnK σ ws ks l (rnE σ ks 1 ws)) := by
  obtain ⟨B1, B2, B3, B4, B5, B6, B7, B8, B9⟩ := B
  have g1 := gw_sl ws 1; have g2 := gw_sl ws 2; have g3 := gw_sl ws 3; have g4 := gw_sl ws 4; have gz := sl_sz ws; have h1024 := h.2.1.2.1
  refine c_runR (Q := flZ) ty 1 (by decide) rfl B5 (fun _ => by omega) (fun _ => by omega) (mjY_mono ty (fun r u _ k => ⟨_, k⟩) (c_opt h ty (fun u tu fu hu z => c_opt_none hu tu z 1 (by decide) (by decide) rfl))) (fun u fu hu => rnK_no fu hu (rnE_rd (by decide) rfl)) (fun u tu fu hu q => ?_)
  refine dp_1 tu (fun r u k => k.1) (mjY_mono tu (fun r v tv k => ?_) (r_text hu tu 1 (by decide) rfl (gw_at (by omega)) (by have := B6.tx (gw ws 1); omega) 0 (fun z => absurd z (by decide)) (by omega)))
  rw [rnE_rd (by decide) rfl]
  obtain ⟨hr, f2, ks', k1, k2⟩ := k
  exact ⟨hr, fu.op.tr f2, ks', k1, k2⟩
theorem rn_12 {σ : mjS} {ws : Req} {ks : List KR} {l : List Int32} (h : Wd σ ws ks l) (ty : mjTY σ) (B : BD σ 12 ws ks l) (hw : 2 ≤ ws.length) : mjY mjPP (mjQQ Y) (d + 9) 155 0 (mjL0 2 [.ref 0, .int (nI 12)]) [] σ (rnK σ ws ks l (rnE σ ks 12 ws)) := by
  obtain ⟨B1, B2, B3, B4, B5, B6, B7, B8, B9⟩ := B
  have g1 := gw_sl ws 1; have g2 := gw_sl ws 2; have g3 := gw_sl ws 3; have g4 := gw_sl ws 4; have gz := sl_sz ws; have h1024 := h.2.1.2.1
  refine c_runR (Q := flZ) ty 12 (by decide) rfl B5 (fun _ => by omega) (fun _ => by omega) (mjY_mono ty (fun r u _ k => ⟨_, k⟩) (c_opt h ty (fun u tu fu hu z => c_opt_none hu tu z 12 (by decide) (by decide) rfl))) (fun u fu hu => rnK_no fu hu (rnE_rd (by decide) rfl)) (fun u tu fu hu q => ?_)
  refine dp_12 tu (fun r u k => k.1) (mjY_mono tu (fun r v tv k => ?_) (r_text hu tu 12 (by decide) rfl (gw_at (by omega)) (by have := B6.tx (gw ws 1); omega) 0 (fun z => absurd z (by decide)) (by omega)))
  rw [rnE_rd (by decide) rfl]
  obtain ⟨hr, f2, ks', k1, k2⟩ := k
  exact ⟨hr, fu.op.tr f2, ks', k1, k2⟩
theorem rn_13 {σ : mjS} {ws : Req} {ks : List KR} {l : List Int32} (h : Wd σ ws ks l) (ty : mjTY σ) (B : BD σ 13 ws ks l) (hw : 4 ≤ ws.length) : mjY mjPP (mjQQ Y) (d + 9) 155 0 (mjL0 2 [.ref 0, .int (nI 13)]) [] σ (rnK σ ws ks l (rnE σ ks 13 ws)) := by
  obtain ⟨B1, B2, B3, B4, B5, B6, B7, B8, B9⟩ := B
  have g1 := gw_sl ws 1; have g2 := gw_sl ws 2; have g3 := gw_sl ws 3; have g4 := gw_sl ws 4; have gz := sl_sz ws; have h1024 := h.2.1.2.1
  refine c_runR (Q := (fun t => ∀ q, twF (gw ws 2) (gw ws 3) = some q → t.2.1 f_n1 = q.1 ∧ t.2.1 f_n2 = q.2)) ty 13 (by decide) rfl B5 (fun _ => by omega) (fun _ => by omega) (mjY_mono ty (fun r u _ k => ⟨_, k⟩) (c_opt h ty (fun u tu fu hu z => c_opt_13 hu tu z (gw_at (by omega)) (gw_at (by omega))))) (fun u fu hu => rnK_no fu hu (rnE_rd (by decide) rfl)) (fun u tu fu hu q => ?_)
  refine dp_13 tu (fun r u k => k.1) (mjY_mono tu (fun r v tv k => ?_) (r_text hu tu 13 (by decide) rfl (gw_at (by omega)) (by have := B6.tx (gw ws 1); omega) 0 (fun z => absurd z (by decide)) (by omega)))
  rw [rnE_rd (by decide) rfl]
  obtain ⟨hr, f2, ks', k1, k2⟩ := k
  exact ⟨hr, fu.op.tr f2, ks', k1, k2⟩
theorem rn_21 {σ : mjS} {ws : Req} {ks : List KR} {l : List Int32} (h : Wd σ ws ks l) (ty : mjTY σ) (B : BD σ 21 ws ks l) (hw : 2 ≤ ws.length) : mjY mjPP (mjQQ Y) (d + 9) 155 0 (mjL0 2 [.ref 0, .int (nI 21)]) [] σ (rnK σ ws ks l (rnE σ ks 21 ws)) := by
  obtain ⟨B1, B2, B3, B4, B5, B6, B7, B8, B9⟩ := B
  have g1 := gw_sl ws 1; have g2 := gw_sl ws 2; have g3 := gw_sl ws 3; have g4 := gw_sl ws 4; have gz := sl_sz ws; have h1024 := h.2.1.2.1
  refine c_runR (Q := (fun _ => True)) ty 21 (by decide) rfl B5 (fun _ => by omega) (fun _ => by omega) (c_optE h ty (fun u tu fu hu z => c_opt_21 hu tu z)) (fun u fu hu => rnK_no fu hu (rnE_rd (by decide) rfl)) (fun u tu fu hu q => ?_)
  refine dp_21 tu (fun r u k => k.1) (mjY_mono tu (fun r v tv k => ?_) (r_text hu tu 21 (by decide) rfl (gw_at (by omega)) (by have := B6.tx (gw ws 1); omega) 0 (fun z => absurd z (by decide)) (by omega)))
  rw [rnE_rd (by decide) rfl]
  obtain ⟨hr, f2, ks', k1, k2⟩ := k
  exact ⟨hr, fu.op.tr f2, ks', k1, k2⟩
theorem rn_20 {σ : mjS} {ws : Req} {ks : List KR} {l : List Int32} (h : Wd σ ws ks l) (ty : mjTY σ) (B : BD σ 20 ws ks l) (hw : 3 ≤ ws.length) : mjY mjPP (mjQQ Y) (d + 9) 155 0 (mjL0 2 [.ref 0, .int (nI 20)]) [] σ (rnK σ ws ks l (rnE σ ks 20 ws)) := by
  obtain ⟨B1, B2, B3, B4, B5, B6, B7, B8, B9⟩ := B
  have g1 := gw_sl ws 1; have g2 := gw_sl ws 2; have g3 := gw_sl ws 3; have g4 := gw_sl ws 4; have gz := sl_sz ws; have h1024 := h.2.1.2.1
  refine c_run (b := (srR true (gw ws 2)).isSome) (Q := (fun t => ∀ q, srR true (gw ws 2) = some q → t.2.1 f_n1 = q)) ty 20 (by decide) rfl B5 (fun _ => by omega) (fun _ => by omega) (c_opt h ty (fun u tu fu hu z => c_opt_20 hu tu z (gw_at (by omega)))) (fun u fu hu c => rnK_no fu hu (rnE_rd (by decide) rfl)) (fun hb u tu fu hu q nr sf => ?_)
  obtain ⟨n, en⟩ := Option.isSome_iff_exists.mp hb
  obtain ⟨n0, n3⟩ := srR_top en
  obtain ⟨n1, n2⟩ := lN_of n0
  refine dp_20 tu (fun r u k => k.1) (mjY_mono tu (fun r v tv k => ?_) (r_text hu tu 20 (by decide) rfl (gw_at (by omega)) (by have := B6.tx (gw ws 1); omega) n.toInt.toNat (fun _ => ⟨n3, (q n en).trans n1⟩) (by omega)))
  rw [rnE_rd (by decide) rfl]
  obtain ⟨hr, f2, ks', k1, k2⟩ := k
  exact ⟨hr, fu.op.tr f2, ks', k1, k2⟩
theorem rn_8 {σ : mjS} {ws : Req} {ks : List KR} {l : List Int32} (h : Wd σ ws ks l) (ty : mjTY σ) (B : BD σ 8 ws ks l) (hw : 2 ≤ ws.length) : mjY mjPP (mjQQ Y) (d + 9) 155 0 (mjL0 2 [.ref 0, .int (nI 8)]) [] σ (rnK σ ws ks l (rnE σ ks 8 ws)) := by
  obtain ⟨B1, B2, B3, B4, B5, B6, B7, B8, B9⟩ := B
  have g1 := gw_sl ws 1; have g2 := gw_sl ws 2; have g3 := gw_sl ws 3; have g4 := gw_sl ws 4; have gz := sl_sz ws; have h1024 := h.2.1.2.1
  refine c_runR (Q := flZ) ty 8 (by decide) rfl B5 (fun _ => by omega) (fun _ => by omega) (mjY_mono ty (fun r u _ k => ⟨_, k⟩) (c_opt h ty (fun u tu fu hu z => c_opt_none hu tu z 8 (by decide) (by decide) rfl))) (fun u fu hu => rnK_no fu hu (rnE_rd (by decide) rfl)) (fun u tu fu hu q => ?_)
  exact dp_8 tu (fun r u k => k.1) (mjY_mono tu (fun r v tv k => rnK_rd fu k (rnE_rd (by decide) rfl)) (r_getMany hu tu (by omega)))
theorem rn_23 {σ : mjS} {ws : Req} {ks : List KR} {l : List Int32} (h : Wd σ ws ks l) (ty : mjTY σ) (B : BD σ 23 ws ks l) (hw : 2 ≤ ws.length) : mjY mjPP (mjQQ Y) (d + 9) 155 0 (mjL0 2 [.ref 0, .int (nI 23)]) [] σ (rnK σ ws ks l (rnE σ ks 23 ws)) := by
  obtain ⟨B1, B2, B3, B4, B5, B6, B7, B8, B9⟩ := B
  have g1 := gw_sl ws 1; have g2 := gw_sl ws 2; have g3 := gw_sl ws 3; have g4 := gw_sl ws 4; have gz := sl_sz ws; have h1024 := h.2.1.2.1
  refine c_runR (Q := flZ) ty 23 (by decide) rfl B5 (fun _ => by omega) (fun _ => by omega) (mjY_mono ty (fun r u _ k => ⟨_, k⟩) (c_opt h ty (fun u tu fu hu z => c_opt_none hu tu z 23 (by decide) (by decide) rfl))) (fun u fu hu => rnK_no fu hu (rnE_rd (by decide) rfl)) (fun u tu fu hu q => ?_)
  exact mjY_mono tu (fun r v tv k => rnK_rd fu k (rnE_rd (by decide) rfl)) (rd_23 hu tu (by omega))
theorem rn_28 {σ : mjS} {ws : Req} {ks : List KR} {l : List Int32} (h : Wd σ ws ks l) (ty : mjTY σ) (B : BD σ 28 ws ks l) (hw : 1 ≤ ws.length) : mjY mjPP (mjQQ Y) (d + 9) 155 0 (mjL0 2 [.ref 0, .int (nI 28)]) [] σ (rnK σ ws ks l (rnE σ ks 28 ws)) := by
  obtain ⟨B1, B2, B3, B4, B5, B6, B7, B8, B9⟩ := B
  have g1 := gw_sl ws 1; have g2 := gw_sl ws 2; have g3 := gw_sl ws 3; have g4 := gw_sl ws 4; have gz := sl_sz ws; have h1024 := h.2.1.2.1
  refine c_runR (Q := flZ) ty 28 (by decide) rfl B5 (fun _ => by omega) (fun _ => by omega) (mjY_mono ty (fun r u _ k => ⟨_, k⟩) (c_opt h ty (fun u tu fu hu z => c_opt_none hu tu z 28 (by decide) (by decide) rfl))) (fun u fu hu => rnK_no fu hu (rnE_rd (by decide) rfl)) (fun u tu fu hu q => ?_)
  exact mjY_mono tu (fun r v tv k => rnK_rd fu k (rnE_rd (by decide) rfl)) (rd_28 hu tu)
theorem rn_24 {σ : mjS} {ws : Req} {ks : List KR} {l : List Int32} (h : Wd σ ws ks l) (ty : mjTY σ) (B : BD σ 24 ws ks l) (hw : 2 ≤ ws.length) : mjY mjPP (mjQQ Y) (d + 9) 155 0 (mjL0 2 [.ref 0, .int (nI 24)]) [] σ (rnK σ ws ks l (rnE σ ks 24 ws)) := by
  obtain ⟨B1, B2, B3, B4, B5, B6, B7, B8, B9⟩ := B
  have g1 := gw_sl ws 1; have g2 := gw_sl ws 2; have g3 := gw_sl ws 3; have g4 := gw_sl ws 4; have gz := sl_sz ws; have h1024 := h.2.1.2.1
  refine c_runR (Q := flZ) ty 24 (by decide) rfl B5 (fun _ => by omega) (fun _ => by omega) (mjY_mono ty (fun r u _ k => ⟨_, k⟩) (c_opt h ty (fun u tu fu hu z => c_opt_none hu tu z 24 (by decide) (by decide) rfl))) (fun u fu hu => rnK_no fu hu (rnE_rd (by decide) rfl)) (fun u tu fu hu q => ?_)
  exact dp_24 tu (fun r u k => k.1) (mjY_mono tu (fun r v tv k => rnK_rd fu k (rnE_rd (by decide) rfl)) (r_key hu tu 24 (by decide) rfl (gw_at (by omega)) (by omega)))
theorem rn_35 {σ : mjS} {ws : Req} {ks : List KR} {l : List Int32} (h : Wd σ ws ks l) (ty : mjTY σ) (B : BD σ 35 ws ks l) (hw : 2 ≤ ws.length) : mjY mjPP (mjQQ Y) (d + 9) 155 0 (mjL0 2 [.ref 0, .int (nI 35)]) [] σ (rnK σ ws ks l (rnE σ ks 35 ws)) := by
  obtain ⟨B1, B2, B3, B4, B5, B6, B7, B8, B9⟩ := B
  have g1 := gw_sl ws 1; have g2 := gw_sl ws 2; have g3 := gw_sl ws 3; have g4 := gw_sl ws 4; have gz := sl_sz ws; have h1024 := h.2.1.2.1
  refine c_runR (Q := flZ) ty 35 (by decide) rfl B5 (fun _ => by omega) (fun _ => by omega) (mjY_mono ty (fun r u _ k => ⟨_, k⟩) (c_opt h ty (fun u tu fu hu z => c_opt_none hu tu z 35 (by decide) (by decide) rfl))) (fun u fu hu => rnK_no fu hu (rnE_rd (by decide) rfl)) (fun u tu fu hu q => ?_)
  exact dp_35 tu (fun r u k => k.1) (mjY_mono tu (fun r v tv k => rnK_rd fu k (rnE_rd (by decide) rfl)) (r_key hu tu 35 (by decide) rfl (gw_at (by omega)) (by omega)))
theorem rn_36 {σ : mjS} {ws : Req} {ks : List KR} {l : List Int32} (h : Wd σ ws ks l) (ty : mjTY σ) (B : BD σ 36 ws ks l) (hw : 2 ≤ ws.length) : mjY mjPP (mjQQ Y) (d + 9) 155 0 (mjL0 2 [.ref 0, .int (nI 36)]) [] σ (rnK σ ws ks l (rnE σ ks 36 ws)) := by
  obtain ⟨B1, B2, B3, B4, B5, B6, B7, B8, B9⟩ := B
  have g1 := gw_sl ws 1; have g2 := gw_sl ws 2; have g3 := gw_sl ws 3; have g4 := gw_sl ws 4; have gz := sl_sz ws; have h1024 := h.2.1.2.1
  refine c_runR (Q := flZ) ty 36 (by decide) rfl B5 (fun _ => by omega) (fun _ => by omega) (mjY_mono ty (fun r u _ k => ⟨_, k⟩) (c_opt h ty (fun u tu fu hu z => c_opt_none hu tu z 36 (by decide) (by decide) rfl))) (fun u fu hu => rnK_no fu hu (rnE_rd (by decide) rfl)) (fun u tu fu hu q => ?_)
  exact dp_36 tu (fun r u k => k.1) (mjY_mono tu (fun r v tv k => rnK_rd fu k (rnE_rd (by decide) rfl)) (r_key hu tu 36 (by decide) rfl (gw_at (by omega)) (by omega)))
theorem rn_27 {σ : mjS} {ws : Req} {ks : List KR} {l : List Int32} (h : Wd σ ws ks l) (ty : mjTY σ) (B : BD σ 27 ws ks l) (hw : 2 ≤ ws.length) : mjY mjPP (mjQQ Y) (d + 9) 155 0 (mjL0 2 [.ref 0, .int (nI 27)]) [] σ (rnK σ ws ks l (rnE σ ks 27 ws)) := by
  obtain ⟨B1, B2, B3, B4, B5, B6, B7, B8, B9⟩ := B
  have g1 := gw_sl ws 1; have g2 := gw_sl ws 2; have g3 := gw_sl ws 3; have g4 := gw_sl ws 4; have gz := sl_sz ws; have h1024 := h.2.1.2.1
  refine c_runR (Q := flZ) ty 27 (by decide) rfl B5 (fun _ => by omega) (fun _ => by omega) (mjY_mono ty (fun r u _ k => ⟨_, k⟩) (c_opt h ty (fun u tu fu hu z => c_opt_none hu tu z 27 (by decide) (by decide) rfl))) (fun u fu hu => rnK_no fu hu (rnE_rd (by decide) rfl)) (fun u tu fu hu q => ?_)
  exact dp_27 tu (fun r u k => k.1) (mjY_mono tu (fun r v tv k => rnK_rd fu k (rnE_rd (by decide) rfl)) (r_keys hu tu (gw_at (by omega))))
theorem rn_43 {σ : mjS} {ws : Req} {ks : List KR} {l : List Int32} (h : Wd σ ws ks l) (ty : mjTY σ) (B : BD σ 43 ws ks l) (hw : 2 ≤ ws.length) : mjY mjPP (mjQQ Y) (d + 9) 155 0 (mjL0 2 [.ref 0, .int (nI 43)]) [] σ (rnK σ ws ks l (rnE σ ks 43 ws)) := by
  obtain ⟨B1, B2, B3, B4, B5, B6, B7, B8, B9⟩ := B
  have g1 := gw_sl ws 1; have g2 := gw_sl ws 2; have g3 := gw_sl ws 3; have g4 := gw_sl ws 4; have gz := sl_sz ws; have h1024 := h.2.1.2.1
  refine c_runR (Q := flZ) ty 43 (by decide) rfl B5 (fun _ => by omega) (fun _ => by omega) (mjY_mono ty (fun r u _ k => ⟨_, k⟩) (c_opt h ty (fun u tu fu hu z => c_opt_none hu tu z 43 (by decide) (by decide) rfl))) (fun u fu hu => rnK_no fu hu (rnE_rd (by decide) rfl)) (fun u tu fu hu q => ?_)
  exact mjY_mono tu (fun r v tv k => rnK_rd fu k (rnE_rd (by decide) rfl)) (rd_43 hu tu (gw_at (k := 1) (by omega)))
theorem rn_44 {σ : mjS} {ws : Req} {ks : List KR} {l : List Int32} (h : Wd σ ws ks l) (ty : mjTY σ) (B : BD σ 44 ws ks l) (hw : 4 ≤ ws.length) : mjY mjPP (mjQQ Y) (d + 9) 155 0 (mjL0 2 [.ref 0, .int (nI 44)]) [] σ (rnK σ ws ks l (rnE σ ks 44 ws)) := by
  obtain ⟨B1, B2, B3, B4, B5, B6, B7, B8, B9⟩ := B
  have g1 := gw_sl ws 1; have g2 := gw_sl ws 2; have g3 := gw_sl ws 3; have g4 := gw_sl ws 4; have gz := sl_sz ws; have h1024 := h.2.1.2.1
  refine c_runR (Q := (fun t => ∀ q, twF (gw ws 2) (gw ws 3) = some q → t.2.1 f_n1 = q.1 ∧ t.2.1 f_n2 = q.2)) ty 44 (by decide) rfl B5 (fun _ => by omega) (fun _ => by omega) (mjY_mono ty (fun r u _ k => ⟨_, k⟩) (c_opt h ty (fun u tu fu hu z => c_opt_44 hu tu z (gw_at (by omega)) (gw_at (by omega))))) (fun u fu hu => rnK_no fu hu (rnE_rd (by decide) rfl)) (fun u tu fu hu q => ?_)
  exact mjY_mono tu (fun r v tv k => rnK_rd fu k (rnE_rd (by decide) rfl)) (rd_44 hu tu (gw_at (k := 1) (by omega)))
theorem rn_45 {σ : mjS} {ws : Req} {ks : List KR} {l : List Int32} (h : Wd σ ws ks l) (ty : mjTY σ) (B : BD σ 45 ws ks l) (hw : 3 ≤ ws.length) : mjY mjPP (mjQQ Y) (d + 9) 155 0 (mjL0 2 [.ref 0, .int (nI 45)]) [] σ (rnK σ ws ks l (rnE σ ks 45 ws)) := by
  obtain ⟨B1, B2, B3, B4, B5, B6, B7, B8, B9⟩ := B
  have g1 := gw_sl ws 1; have g2 := gw_sl ws 2; have g3 := gw_sl ws 3; have g4 := gw_sl ws 4; have gz := sl_sz ws; have h1024 := h.2.1.2.1
  refine c_runR (Q := (fun t => ∀ q, intF (gw ws 2) = some q → t.2.1 f_n1 = q)) ty 45 (by decide) rfl B5 (fun _ => by omega) (fun _ => by omega) (mjY_mono ty (fun r u _ k => ⟨_, k⟩) (c_opt h ty (fun u tu fu hu z => c_opt_45 hu tu z (gw_at (by omega))))) (fun u fu hu => rnK_no fu hu (rnE_rd (by decide) rfl)) (fun u tu fu hu q => ?_)
  have k := r_place (Y := Y) (d := d + 1) hu tu 45 (Or.inl rfl) rfl (v := []) (gw_at (k := 1) (by omega)) (fun z => absurd z (by decide)) _ rfl (by omega) (by show _ + 0 ≤ _; omega) (by omega)
  rw [lpF_45] at k
  exact dp_45 tu (fun r u k => k.1) (mjY_mono tu (fun r v tv k => rnK_rd fu k (rnE_rd (by decide) rfl)) k)
theorem rn_54 {σ : mjS} {ws : Req} {ks : List KR} {l : List Int32} (h : Wd σ ws ks l) (ty : mjTY σ) (B : BD σ 54 ws ks l) (hw : 3 ≤ ws.length) : mjY mjPP (mjQQ Y) (d + 9) 155 0 (mjL0 2 [.ref 0, .int (nI 54)]) [] σ (rnK σ ws ks l (rnE σ ks 54 ws)) := by
  obtain ⟨B1, B2, B3, B4, B5, B6, B7, B8, B9⟩ := B
  have g1 := gw_sl ws 1; have g2 := gw_sl ws 2; have g3 := gw_sl ws 3; have g4 := gw_sl ws 4; have gz := sl_sz ws; have h1024 := h.2.1.2.1
  refine c_runR (Q := flZ) ty 54 (by decide) rfl B5 (fun _ => by omega) (fun _ => by omega) (mjY_mono ty (fun r u _ k => ⟨_, k⟩) (c_opt h ty (fun u tu fu hu z => c_opt_none hu tu z 54 (by decide) (by decide) rfl))) (fun u fu hu => rnK_no fu hu (rnE_rd (by decide) rfl)) (fun u tu fu hu q => ?_)
  exact dp_54 tu (fun r u k => k.1) (mjY_mono tu (fun r v tv k => rnK_rd fu k (rnE_rd (by decide) rfl)) (r_hash hu tu 54 (by decide) rfl (v := gw ws 2) (gw_at (by omega)) (fun _ => gw_at (by omega)) (fun _ => by omega)))
theorem rn_55 {σ : mjS} {ws : Req} {ks : List KR} {l : List Int32} (h : Wd σ ws ks l) (ty : mjTY σ) (B : BD σ 55 ws ks l) (hw : 3 ≤ ws.length) : mjY mjPP (mjQQ Y) (d + 9) 155 0 (mjL0 2 [.ref 0, .int (nI 55)]) [] σ (rnK σ ws ks l (rnE σ ks 55 ws)) := by
  obtain ⟨B1, B2, B3, B4, B5, B6, B7, B8, B9⟩ := B
  have g1 := gw_sl ws 1; have g2 := gw_sl ws 2; have g3 := gw_sl ws 3; have g4 := gw_sl ws 4; have gz := sl_sz ws; have h1024 := h.2.1.2.1
  refine c_runR (Q := flZ) ty 55 (by decide) rfl B5 (fun _ => by omega) (fun _ => by omega) (mjY_mono ty (fun r u _ k => ⟨_, k⟩) (c_opt h ty (fun u tu fu hu z => c_opt_none hu tu z 55 (by decide) (by decide) rfl))) (fun u fu hu => rnK_no fu hu (rnE_rd (by decide) rfl)) (fun u tu fu hu q => ?_)
  exact dp_55 tu (fun r u k => k.1) (mjY_mono tu (fun r v tv k => rnK_rd fu k (rnE_rd (by decide) rfl)) (r_hash hu tu 55 (by decide) rfl (v := gw ws 2) (gw_at (by omega)) (fun _ => gw_at (by omega)) (fun _ => by omega)))
theorem rn_57 {σ : mjS} {ws : Req} {ks : List KR} {l : List Int32} (h : Wd σ ws ks l) (ty : mjTY σ) (B : BD σ 57 ws ks l) (hw : 3 ≤ ws.length) : mjY mjPP (mjQQ Y) (d + 9) 155 0 (mjL0 2 [.ref 0, .int (nI 57)]) [] σ (rnK σ ws ks l (rnE σ ks 57 ws)) := by
  obtain ⟨B1, B2, B3, B4, B5, B6, B7, B8, B9⟩ := B
  have g1 := gw_sl ws 1; have g2 := gw_sl ws 2; have g3 := gw_sl ws 3; have g4 := gw_sl ws 4; have gz := sl_sz ws; have h1024 := h.2.1.2.1
  refine c_runR (Q := flZ) ty 57 (by decide) rfl B5 (fun _ => by omega) (fun _ => by omega) (mjY_mono ty (fun r u _ k => ⟨_, k⟩) (c_opt h ty (fun u tu fu hu z => c_opt_none hu tu z 57 (by decide) (by decide) rfl))) (fun u fu hu => rnK_no fu hu (rnE_rd (by decide) rfl)) (fun u tu fu hu q => ?_)
  exact dp_57 tu (fun r u k => k.1) (mjY_mono tu (fun r v tv k => rnK_rd fu k (rnE_rd (by decide) rfl)) (r_hash hu tu 57 (by decide) rfl (v := gw ws 2) (gw_at (by omega)) (fun _ => gw_at (by omega)) (fun _ => by omega)))
theorem rn_58 {σ : mjS} {ws : Req} {ks : List KR} {l : List Int32} (h : Wd σ ws ks l) (ty : mjTY σ) (B : BD σ 58 ws ks l) (hw : 2 ≤ ws.length) : mjY mjPP (mjQQ Y) (d + 9) 155 0 (mjL0 2 [.ref 0, .int (nI 58)]) [] σ (rnK σ ws ks l (rnE σ ks 58 ws)) := by
  obtain ⟨B1, B2, B3, B4, B5, B6, B7, B8, B9⟩ := B
  have g1 := gw_sl ws 1; have g2 := gw_sl ws 2; have g3 := gw_sl ws 3; have g4 := gw_sl ws 4; have gz := sl_sz ws; have h1024 := h.2.1.2.1
  refine c_runR (Q := flZ) ty 58 (by decide) rfl B5 (fun _ => by omega) (fun _ => by omega) (mjY_mono ty (fun r u _ k => ⟨_, k⟩) (c_opt h ty (fun u tu fu hu z => c_opt_none hu tu z 58 (by decide) (by decide) rfl))) (fun u fu hu => rnK_no fu hu (rnE_rd (by decide) rfl)) (fun u tu fu hu q => ?_)
  exact dp_58 tu (fun r u k => k.1) (mjY_mono tu (fun r v tv k => rnK_rd fu k (rnE_rd (by decide) rfl)) (r_hash hu tu 58 (by decide) rfl (v := gw ws 2) (gw_at (by omega)) (fun z => absurd z (by decide)) (fun _ => by omega)))
theorem rn_59 {σ : mjS} {ws : Req} {ks : List KR} {l : List Int32} (h : Wd σ ws ks l) (ty : mjTY σ) (B : BD σ 59 ws ks l) (hw : 3 ≤ ws.length) : mjY mjPP (mjQQ Y) (d + 9) 155 0 (mjL0 2 [.ref 0, .int (nI 59)]) [] σ (rnK σ ws ks l (rnE σ ks 59 ws)) := by
  obtain ⟨B1, B2, B3, B4, B5, B6, B7, B8, B9⟩ := B
  have g1 := gw_sl ws 1; have g2 := gw_sl ws 2; have g3 := gw_sl ws 3; have g4 := gw_sl ws 4; have gz := sl_sz ws; have h1024 := h.2.1.2.1
  refine c_runR (Q := flZ) ty 59 (by decide) rfl B5 (fun _ => by omega) (fun _ => by omega) (mjY_mono ty (fun r u _ k => ⟨_, k⟩) (c_opt h ty (fun u tu fu hu z => c_opt_none hu tu z 59 (by decide) (by decide) rfl))) (fun u fu hu => rnK_no fu hu (rnE_rd (by decide) rfl)) (fun u tu fu hu q => ?_)
  exact dp_59 tu (fun r u k => k.1) (mjY_mono tu (fun r v tv k => rnK_rd fu k (rnE_rd (by decide) rfl)) (r_hash hu tu 59 (by decide) rfl (v := gw ws 2) (gw_at (by omega)) (fun _ => gw_at (by omega)) (fun _ => by omega)))
theorem rn_60 {σ : mjS} {ws : Req} {ks : List KR} {l : List Int32} (h : Wd σ ws ks l) (ty : mjTY σ) (B : BD σ 60 ws ks l) (hw : 2 ≤ ws.length) : mjY mjPP (mjQQ Y) (d + 9) 155 0 (mjL0 2 [.ref 0, .int (nI 60)]) [] σ (rnK σ ws ks l (rnE σ ks 60 ws)) := by
  obtain ⟨B1, B2, B3, B4, B5, B6, B7, B8, B9⟩ := B
  have g1 := gw_sl ws 1; have g2 := gw_sl ws 2; have g3 := gw_sl ws 3; have g4 := gw_sl ws 4; have gz := sl_sz ws; have h1024 := h.2.1.2.1
  refine c_runR (Q := flZ) ty 60 (by decide) rfl B5 (fun _ => by omega) (fun _ => by omega) (mjY_mono ty (fun r u _ k => ⟨_, k⟩) (c_opt h ty (fun u tu fu hu z => c_opt_none hu tu z 60 (by decide) (by decide) rfl))) (fun u fu hu => rnK_no fu hu (rnE_rd (by decide) rfl)) (fun u tu fu hu q => ?_)
  exact dp_60 tu (fun r u k => k.1) (mjY_mono tu (fun r v tv k => rnK_rd fu k (rnE_rd (by decide) rfl)) (r_hash hu tu 60 (by decide) rfl (v := gw ws 2) (gw_at (by omega)) (fun z => absurd z (by decide)) (fun _ => by omega)))
theorem rn_61 {σ : mjS} {ws : Req} {ks : List KR} {l : List Int32} (h : Wd σ ws ks l) (ty : mjTY σ) (B : BD σ 61 ws ks l) (hw : 2 ≤ ws.length) : mjY mjPP (mjQQ Y) (d + 9) 155 0 (mjL0 2 [.ref 0, .int (nI 61)]) [] σ (rnK σ ws ks l (rnE σ ks 61 ws)) := by
  obtain ⟨B1, B2, B3, B4, B5, B6, B7, B8, B9⟩ := B
  have g1 := gw_sl ws 1; have g2 := gw_sl ws 2; have g3 := gw_sl ws 3; have g4 := gw_sl ws 4; have gz := sl_sz ws; have h1024 := h.2.1.2.1
  refine c_runR (Q := flZ) ty 61 (by decide) rfl B5 (fun _ => by omega) (fun _ => by omega) (mjY_mono ty (fun r u _ k => ⟨_, k⟩) (c_opt h ty (fun u tu fu hu z => c_opt_none hu tu z 61 (by decide) (by decide) rfl))) (fun u fu hu => rnK_no fu hu (rnE_rd (by decide) rfl)) (fun u tu fu hu q => ?_)
  exact dp_61 tu (fun r u k => k.1) (mjY_mono tu (fun r v tv k => rnK_rd fu k (rnE_rd (by decide) rfl)) (r_hash hu tu 61 (by decide) rfl (v := gw ws 2) (gw_at (by omega)) (fun z => absurd z (by decide)) (fun _ => by omega)))
theorem rn_62 {σ : mjS} {ws : Req} {ks : List KR} {l : List Int32} (h : Wd σ ws ks l) (ty : mjTY σ) (B : BD σ 62 ws ks l) (hw : 2 ≤ ws.length) : mjY mjPP (mjQQ Y) (d + 9) 155 0 (mjL0 2 [.ref 0, .int (nI 62)]) [] σ (rnK σ ws ks l (rnE σ ks 62 ws)) := by
  obtain ⟨B1, B2, B3, B4, B5, B6, B7, B8, B9⟩ := B
  have g1 := gw_sl ws 1; have g2 := gw_sl ws 2; have g3 := gw_sl ws 3; have g4 := gw_sl ws 4; have gz := sl_sz ws; have h1024 := h.2.1.2.1
  refine c_runR (Q := flZ) ty 62 (by decide) rfl B5 (fun _ => by omega) (fun _ => by omega) (mjY_mono ty (fun r u _ k => ⟨_, k⟩) (c_opt h ty (fun u tu fu hu z => c_opt_none hu tu z 62 (by decide) (by decide) rfl))) (fun u fu hu => rnK_no fu hu (rnE_rd (by decide) rfl)) (fun u tu fu hu q => ?_)
  exact dp_62 tu (fun r u k => k.1) (mjY_mono tu (fun r v tv k => rnK_rd fu k (rnE_rd (by decide) rfl)) (r_hash hu tu 62 (by decide) rfl (v := gw ws 2) (gw_at (by omega)) (fun z => absurd z (by decide)) (fun _ => by omega)))
theorem rn_66 {σ : mjS} {ws : Req} {ks : List KR} {l : List Int32} (h : Wd σ ws ks l) (ty : mjTY σ) (B : BD σ 66 ws ks l) (hw : 3 ≤ ws.length) : mjY mjPP (mjQQ Y) (d + 9) 155 0 (mjL0 2 [.ref 0, .int (nI 66)]) [] σ (rnK σ ws ks l (rnE σ ks 66 ws)) := by
  obtain ⟨B1, B2, B3, B4, B5, B6, B7, B8, B9⟩ := B
  have g1 := gw_sl ws 1; have g2 := gw_sl ws 2; have g3 := gw_sl ws 3; have g4 := gw_sl ws 4; have gz := sl_sz ws; have h1024 := h.2.1.2.1
  refine c_runR (Q := flZ) ty 66 (by decide) rfl B5 (fun _ => by omega) (fun _ => by omega) (mjY_mono ty (fun r u _ k => ⟨_, k⟩) (c_opt h ty (fun u tu fu hu z => c_opt_none hu tu z 66 (by decide) (by decide) rfl))) (fun u fu hu => rnK_no fu hu (rnE_rd (by decide) rfl)) (fun u tu fu hu q => ?_)
  exact dp_66 tu (fun r u k => k.1) (mjY_mono tu (fun r v tv k => rnK_rd fu k (rnE_rd (by decide) rfl)) (r_set1 hu tu 66 (by decide) (by decide) rfl (v := gw ws 2) (gw_at (by omega)) (fun _ => gw_at (by omega)) (fun _ => by omega) (fun z => absurd z (by decide)) (by omega)))
theorem rn_67 {σ : mjS} {ws : Req} {ks : List KR} {l : List Int32} (h : Wd σ ws ks l) (ty : mjTY σ) (B : BD σ 67 ws ks l) (hw : 3 ≤ ws.length) : mjY mjPP (mjQQ Y) (d + 9) 155 0 (mjL0 2 [.ref 0, .int (nI 67)]) [] σ (rnK σ ws ks l (rnE σ ks 67 ws)) := by
  obtain ⟨B1, B2, B3, B4, B5, B6, B7, B8, B9⟩ := B
  have g1 := gw_sl ws 1; have g2 := gw_sl ws 2; have g3 := gw_sl ws 3; have g4 := gw_sl ws 4; have gz := sl_sz ws; have h1024 := h.2.1.2.1
  refine c_runR (Q := flZ) ty 67 (by decide) rfl B5 (fun _ => by omega) (fun _ => by omega) (mjY_mono ty (fun r u _ k => ⟨_, k⟩) (c_opt h ty (fun u tu fu hu z => c_opt_none hu tu z 67 (by decide) (by decide) rfl))) (fun u fu hu => rnK_no fu hu (rnE_rd (by decide) rfl)) (fun u tu fu hu q => ?_)
  exact dp_67 tu (fun r u k => k.1) (mjY_mono tu (fun r v tv k => rnK_rd fu k (rnE_rd (by decide) rfl)) (r_set1 hu tu 67 (by decide) (by decide) rfl (v := gw ws 2) (gw_at (by omega)) (fun _ => gw_at (by omega)) (fun _ => by omega) (fun z => absurd z (by decide)) (by omega)))
theorem rn_68 {σ : mjS} {ws : Req} {ks : List KR} {l : List Int32} (h : Wd σ ws ks l) (ty : mjTY σ) (B : BD σ 68 ws ks l) (hw : 2 ≤ ws.length) : mjY mjPP (mjQQ Y) (d + 9) 155 0 (mjL0 2 [.ref 0, .int (nI 68)]) [] σ (rnK σ ws ks l (rnE σ ks 68 ws)) := by
  obtain ⟨B1, B2, B3, B4, B5, B6, B7, B8, B9⟩ := B
  have g1 := gw_sl ws 1; have g2 := gw_sl ws 2; have g3 := gw_sl ws 3; have g4 := gw_sl ws 4; have gz := sl_sz ws; have h1024 := h.2.1.2.1
  refine c_runR (Q := flZ) ty 68 (by decide) rfl B5 (fun _ => by omega) (fun _ => by omega) (mjY_mono ty (fun r u _ k => ⟨_, k⟩) (c_opt h ty (fun u tu fu hu z => c_opt_none hu tu z 68 (by decide) (by decide) rfl))) (fun u fu hu => rnK_no fu hu (rnE_rd (by decide) rfl)) (fun u tu fu hu q => ?_)
  exact dp_68 tu (fun r u k => k.1) (mjY_mono tu (fun r v tv k => rnK_rd fu k (rnE_rd (by decide) rfl)) (r_set1 hu tu 68 (by decide) (by decide) rfl (v := gw ws 2) (gw_at (by omega)) (fun z => absurd z (by decide)) (fun _ => by omega) (fun z => absurd z (by decide)) (by omega)))
theorem rn_69 {σ : mjS} {ws : Req} {ks : List KR} {l : List Int32} (h : Wd σ ws ks l) (ty : mjTY σ) (B : BD σ 69 ws ks l) (hw : 2 ≤ ws.length) : mjY mjPP (mjQQ Y) (d + 9) 155 0 (mjL0 2 [.ref 0, .int (nI 69)]) [] σ (rnK σ ws ks l (rnE σ ks 69 ws)) := by
  obtain ⟨B1, B2, B3, B4, B5, B6, B7, B8, B9⟩ := B
  have g1 := gw_sl ws 1; have g2 := gw_sl ws 2; have g3 := gw_sl ws 3; have g4 := gw_sl ws 4; have gz := sl_sz ws; have h1024 := h.2.1.2.1
  refine c_runR (Q := flZ) ty 69 (by decide) rfl B5 (fun _ => by omega) (fun _ => by omega) (mjY_mono ty (fun r u _ k => ⟨_, k⟩) (c_opt h ty (fun u tu fu hu z => c_opt_none hu tu z 69 (by decide) (by decide) rfl))) (fun u fu hu => rnK_no fu hu (rnE_rd (by decide) rfl)) (fun u tu fu hu q => ?_)
  exact dp_69 tu (fun r u k => k.1) (mjY_mono tu (fun r v tv k => rnK_rd fu k (rnE_rd (by decide) rfl)) (r_set1 hu tu 69 (by decide) (by decide) rfl (v := gw ws 2) (gw_at (by omega)) (fun z => absurd z (by decide)) (fun _ => by omega) (fun z => absurd z (by decide)) (by omega)))
theorem rn_71 {σ : mjS} {ws : Req} {ks : List KR} {l : List Int32} (h : Wd σ ws ks l) (ty : mjTY σ) (B : BD σ 71 ws ks l) (hw : 2 ≤ ws.length) : mjY mjPP (mjQQ Y) (d + 9) 155 0 (mjL0 2 [.ref 0, .int (nI 71)]) [] σ (rnK σ ws ks l (rnE σ ks 71 ws)) := by
  obtain ⟨B1, B2, B3, B4, B5, B6, B7, B8, B9⟩ := B
  have g1 := gw_sl ws 1; have g2 := gw_sl ws 2; have g3 := gw_sl ws 3; have g4 := gw_sl ws 4; have gz := sl_sz ws; have h1024 := h.2.1.2.1
  refine c_run (b := true) (Q := flZ) ty 71 (by decide) rfl B5 (fun _ => by omega) (fun _ => by omega) (c_opt h ty (fun u tu fu hu z => c_opt_none hu tu z 71 (by decide) (by decide) rfl)) (fun u fu hu c => rnK_no fu hu (rnE_rd (by decide) rfl)) (fun hb u tu fu hu q nr sf => ?_)
  have bb := B8 (by decide) ((sfB_g (by decide) _ _ _).symm.trans sf)
  exact dp_71 tu (fun r u k => k.1) (mjY_mono tu (fun r v tv k => rnK_rd fu k (rnE_rd (by decide) rfl)) (r_reckon hu tu 71 (by decide) (by decide) rfl (by omega) bb.1 bb.2))
theorem rn_72 {σ : mjS} {ws : Req} {ks : List KR} {l : List Int32} (h : Wd σ ws ks l) (ty : mjTY σ) (B : BD σ 72 ws ks l) (hw : 2 ≤ ws.length) : mjY mjPP (mjQQ Y) (d + 9) 155 0 (mjL0 2 [.ref 0, .int (nI 72)]) [] σ (rnK σ ws ks l (rnE σ ks 72 ws)) := by
  obtain ⟨B1, B2, B3, B4, B5, B6, B7, B8, B9⟩ := B
  have g1 := gw_sl ws 1; have g2 := gw_sl ws 2; have g3 := gw_sl ws 3; have g4 := gw_sl ws 4; have gz := sl_sz ws; have h1024 := h.2.1.2.1
  refine c_run (b := true) (Q := flZ) ty 72 (by decide) rfl B5 (fun _ => by omega) (fun _ => by omega) (c_opt h ty (fun u tu fu hu z => c_opt_none hu tu z 72 (by decide) (by decide) rfl)) (fun u fu hu c => rnK_no fu hu (rnE_rd (by decide) rfl)) (fun hb u tu fu hu q nr sf => ?_)
  have bb := B8 (by decide) ((sfB_g (by decide) _ _ _).symm.trans sf)
  exact dp_72 tu (fun r u k => k.1) (mjY_mono tu (fun r v tv k => rnK_rd fu k (rnE_rd (by decide) rfl)) (r_reckon hu tu 72 (by decide) (by decide) rfl (by omega) bb.1 bb.2))
theorem rn_73 {σ : mjS} {ws : Req} {ks : List KR} {l : List Int32} (h : Wd σ ws ks l) (ty : mjTY σ) (B : BD σ 73 ws ks l) (hw : 2 ≤ ws.length) : mjY mjPP (mjQQ Y) (d + 9) 155 0 (mjL0 2 [.ref 0, .int (nI 73)]) [] σ (rnK σ ws ks l (rnE σ ks 73 ws)) := by
  obtain ⟨B1, B2, B3, B4, B5, B6, B7, B8, B9⟩ := B
  have g1 := gw_sl ws 1; have g2 := gw_sl ws 2; have g3 := gw_sl ws 3; have g4 := gw_sl ws 4; have gz := sl_sz ws; have h1024 := h.2.1.2.1
  refine c_run (b := true) (Q := flZ) ty 73 (by decide) rfl B5 (fun _ => by omega) (fun _ => by omega) (c_opt h ty (fun u tu fu hu z => c_opt_none hu tu z 73 (by decide) (by decide) rfl)) (fun u fu hu c => rnK_no fu hu (rnE_rd (by decide) rfl)) (fun hb u tu fu hu q nr sf => ?_)
  have bb := B8 (by decide) ((sfB_g (by decide) _ _ _).symm.trans sf)
  exact dp_73 tu (fun r u k => k.1) (mjY_mono tu (fun r v tv k => rnK_rd fu k (rnE_rd (by decide) rfl)) (r_reckon hu tu 73 (by decide) (by decide) rfl (by omega) bb.1 bb.2))
theorem rn_80 {σ : mjS} {ws : Req} {ks : List KR} {l : List Int32} (h : Wd σ ws ks l) (ty : mjTY σ) (B : BD σ 80 ws ks l) (hw : 3 ≤ ws.length) : mjY mjPP (mjQQ Y) (d + 9) 155 0 (mjL0 2 [.ref 0, .int (nI 80)]) [] σ (rnK σ ws ks l (rnE σ ks 80 ws)) := by
  obtain ⟨B1, B2, B3, B4, B5, B6, B7, B8, B9⟩ := B
  have g1 := gw_sl ws 1; have g2 := gw_sl ws 2; have g3 := gw_sl ws 3; have g4 := gw_sl ws 4; have gz := sl_sz ws; have h1024 := h.2.1.2.1
  refine c_runR (Q := flZ) ty 80 (by decide) rfl B5 (fun _ => by omega) (fun _ => by omega) (mjY_mono ty (fun r u _ k => ⟨_, k⟩) (c_opt h ty (fun u tu fu hu z => c_opt_none hu tu z 80 (by decide) (by decide) rfl))) (fun u fu hu => rnK_no fu hu (rnE_rd (by decide) rfl)) (fun u tu fu hu q => ?_)
  exact dp_80 tu (fun r u k => k.1) (mjY_mono tu (fun r v tv k => rnK_rd fu k (rnE_rd (by decide) rfl)) (r_ranks hu tu 80 (by decide) rfl (v := gw ws 2) (gw_at (by omega)) (fun _ => gw_at (by omega))))
theorem rn_82 {σ : mjS} {ws : Req} {ks : List KR} {l : List Int32} (h : Wd σ ws ks l) (ty : mjTY σ) (B : BD σ 82 ws ks l) (hw : 2 ≤ ws.length) : mjY mjPP (mjQQ Y) (d + 9) 155 0 (mjL0 2 [.ref 0, .int (nI 82)]) [] σ (rnK σ ws ks l (rnE σ ks 82 ws)) := by
  obtain ⟨B1, B2, B3, B4, B5, B6, B7, B8, B9⟩ := B
  have g1 := gw_sl ws 1; have g2 := gw_sl ws 2; have g3 := gw_sl ws 3; have g4 := gw_sl ws 4; have gz := sl_sz ws; have h1024 := h.2.1.2.1
  refine c_runR (Q := flZ) ty 82 (by decide) rfl B5 (fun _ => by omega) (fun _ => by omega) (mjY_mono ty (fun r u _ k => ⟨_, k⟩) (c_opt h ty (fun u tu fu hu z => c_opt_none hu tu z 82 (by decide) (by decide) rfl))) (fun u fu hu => rnK_no fu hu (rnE_rd (by decide) rfl)) (fun u tu fu hu q => ?_)
  exact dp_82 tu (fun r u k => k.1) (mjY_mono tu (fun r v tv k => rnK_rd fu k (rnE_rd (by decide) rfl)) (r_ranks hu tu 82 (by decide) rfl (v := gw ws 2) (gw_at (by omega)) (fun z => absurd rfl z)))
theorem rn_83 {σ : mjS} {ws : Req} {ks : List KR} {l : List Int32} (h : Wd σ ws ks l) (ty : mjTY σ) (B : BD σ 83 ws ks l) (hw : 3 ≤ ws.length) : mjY mjPP (mjQQ Y) (d + 9) 155 0 (mjL0 2 [.ref 0, .int (nI 83)]) [] σ (rnK σ ws ks l (rnE σ ks 83 ws)) := by
  obtain ⟨B1, B2, B3, B4, B5, B6, B7, B8, B9⟩ := B
  have g1 := gw_sl ws 1; have g2 := gw_sl ws 2; have g3 := gw_sl ws 3; have g4 := gw_sl ws 4; have gz := sl_sz ws; have h1024 := h.2.1.2.1
  refine c_runR (Q := flZ) ty 83 (by decide) rfl B5 (fun _ => by omega) (fun _ => by omega) (mjY_mono ty (fun r u _ k => ⟨_, k⟩) (c_opt h ty (fun u tu fu hu z => c_opt_none hu tu z 83 (by decide) (by decide) rfl))) (fun u fu hu => rnK_no fu hu (rnE_rd (by decide) rfl)) (fun u tu fu hu q => ?_)
  exact dp_83 tu (fun r u k => k.1) (mjY_mono tu (fun r v tv k => rnK_rd fu k (rnE_rd (by decide) rfl)) (r_ranks hu tu 83 (by decide) rfl (v := gw ws 2) (gw_at (by omega)) (fun _ => gw_at (by omega))))
theorem rn_84 {σ : mjS} {ws : Req} {ks : List KR} {l : List Int32} (h : Wd σ ws ks l) (ty : mjTY σ) (B : BD σ 84 ws ks l) (hw : 3 ≤ ws.length) : mjY mjPP (mjQQ Y) (d + 9) 155 0 (mjL0 2 [.ref 0, .int (nI 84)]) [] σ (rnK σ ws ks l (rnE σ ks 84 ws)) := by
  obtain ⟨B1, B2, B3, B4, B5, B6, B7, B8, B9⟩ := B
  have g1 := gw_sl ws 1; have g2 := gw_sl ws 2; have g3 := gw_sl ws 3; have g4 := gw_sl ws 4; have gz := sl_sz ws; have h1024 := h.2.1.2.1
  refine c_runR (Q := flZ) ty 84 (by decide) rfl B5 (fun _ => by omega) (fun _ => by omega) (mjY_mono ty (fun r u _ k => ⟨_, k⟩) (c_opt h ty (fun u tu fu hu z => c_opt_none hu tu z 84 (by decide) (by decide) rfl))) (fun u fu hu => rnK_no fu hu (rnE_rd (by decide) rfl)) (fun u tu fu hu q => ?_)
  exact dp_84 tu (fun r u k => k.1) (mjY_mono tu (fun r v tv k => rnK_rd fu k (rnE_rd (by decide) rfl)) (r_ranks hu tu 84 (by decide) rfl (v := gw ws 2) (gw_at (by omega)) (fun _ => gw_at (by omega))))
theorem rn_85 {σ : mjS} {ws : Req} {ks : List KR} {l : List Int32} (h : Wd σ ws ks l) (ty : mjTY σ) (B : BD σ 85 ws ks l) (hw : 4 ≤ ws.length) : mjY mjPP (mjQQ Y) (d + 9) 155 0 (mjL0 2 [.ref 0, .int (nI 85)]) [] σ (rnK σ ws ks l (rnE σ ks 85 ws)) := by
  obtain ⟨B1, B2, B3, B4, B5, B6, B7, B8, B9⟩ := B
  have g1 := gw_sl ws 1; have g2 := gw_sl ws 2; have g3 := gw_sl ws 3; have g4 := gw_sl ws 4; have gz := sl_sz ws; have h1024 := h.2.1.2.1
  refine c_runR (Q := (fun _ => True)) ty 85 (by decide) rfl B5 (fun _ => by omega) (fun _ => by omega) (c_optE h ty (fun u tu fu hu z => c_opt_85 hu tu z (by omega))) (fun u fu hu => rnK_no fu hu (rnE_rd (by decide) rfl)) (fun u tu fu hu q => ?_)
  exact dp_85 tu (fun r u k => k.1) (mjY_mono tu (fun r v tv k => rnK_rd fu k (rnE_rd (by decide) rfl)) (r_zrange hu tu 85 (by decide) rfl (gw_at (by omega))))
theorem rn_86 {σ : mjS} {ws : Req} {ks : List KR} {l : List Int32} (h : Wd σ ws ks l) (ty : mjTY σ) (B : BD σ 86 ws ks l) (hw : 4 ≤ ws.length) : mjY mjPP (mjQQ Y) (d + 9) 155 0 (mjL0 2 [.ref 0, .int (nI 86)]) [] σ (rnK σ ws ks l (rnE σ ks 86 ws)) := by
  obtain ⟨B1, B2, B3, B4, B5, B6, B7, B8, B9⟩ := B
  have g1 := gw_sl ws 1; have g2 := gw_sl ws 2; have g3 := gw_sl ws 3; have g4 := gw_sl ws 4; have gz := sl_sz ws; have h1024 := h.2.1.2.1
  refine c_runR (Q := (fun _ => True)) ty 86 (by decide) rfl B5 (fun _ => by omega) (fun _ => by omega) (c_optE h ty (fun u tu fu hu z => c_opt_86 hu tu z (by omega))) (fun u fu hu => rnK_no fu hu (rnE_rd (by decide) rfl)) (fun u tu fu hu q => ?_)
  exact dp_86 tu (fun r u k => k.1) (mjY_mono tu (fun r v tv k => rnK_rd fu k (rnE_rd (by decide) rfl)) (r_zrange hu tu 86 (by decide) rfl (gw_at (by omega))))
theorem rn_87 {σ : mjS} {ws : Req} {ks : List KR} {l : List Int32} (h : Wd σ ws ks l) (ty : mjTY σ) (B : BD σ 87 ws ks l) (hw : 4 ≤ ws.length) : mjY mjPP (mjQQ Y) (d + 9) 155 0 (mjL0 2 [.ref 0, .int (nI 87)]) [] σ (rnK σ ws ks l (rnE σ ks 87 ws)) := by
  obtain ⟨B1, B2, B3, B4, B5, B6, B7, B8, B9⟩ := B
  have g1 := gw_sl ws 1; have g2 := gw_sl ws 2; have g3 := gw_sl ws 3; have g4 := gw_sl ws 4; have gz := sl_sz ws; have h1024 := h.2.1.2.1
  refine c_runR (Q := (fun _ => True)) ty 87 (by decide) rfl B5 (fun _ => by omega) (fun _ => by omega) (c_optE h ty (fun u tu fu hu z => c_opt_87 hu tu z (by omega))) (fun u fu hu => rnK_no fu hu (rnE_rd (by decide) rfl)) (fun u tu fu hu q => ?_)
  exact dp_87 tu (fun r u k => k.1) (mjY_mono tu (fun r v tv k => rnK_rd fu k (rnE_rd (by decide) rfl)) (r_byScore hu tu 87 (gw_at (by omega))))
theorem rn_88 {σ : mjS} {ws : Req} {ks : List KR} {l : List Int32} (h : Wd σ ws ks l) (ty : mjTY σ) (B : BD σ 88 ws ks l) (hw : 4 ≤ ws.length) : mjY mjPP (mjQQ Y) (d + 9) 155 0 (mjL0 2 [.ref 0, .int (nI 88)]) [] σ (rnK σ ws ks l (rnE σ ks 88 ws)) := by
  obtain ⟨B1, B2, B3, B4, B5, B6, B7, B8, B9⟩ := B
  have g1 := gw_sl ws 1; have g2 := gw_sl ws 2; have g3 := gw_sl ws 3; have g4 := gw_sl ws 4; have gz := sl_sz ws; have h1024 := h.2.1.2.1
  refine c_runR (Q := (fun _ => True)) ty 88 (by decide) rfl B5 (fun _ => by omega) (fun _ => by omega) (c_optE h ty (fun u tu fu hu z => c_opt_88 hu tu z (by omega))) (fun u fu hu => rnK_no fu hu (rnE_rd (by decide) rfl)) (fun u tu fu hu q => ?_)
  exact dp_88 tu (fun r u k => k.1) (mjY_mono tu (fun r v tv k => rnK_rd fu k (rnE_rd (by decide) rfl)) (r_byScore hu tu 88 (gw_at (by omega))))
theorem rn_89 {σ : mjS} {ws : Req} {ks : List KR} {l : List Int32} (h : Wd σ ws ks l) (ty : mjTY σ) (B : BD σ 89 ws ks l) (hw : 4 ≤ ws.length) : mjY mjPP (mjQQ Y) (d + 9) 155 0 (mjL0 2 [.ref 0, .int (nI 89)]) [] σ (rnK σ ws ks l (rnE σ ks 89 ws)) := by
  obtain ⟨B1, B2, B3, B4, B5, B6, B7, B8, B9⟩ := B
  have g1 := gw_sl ws 1; have g2 := gw_sl ws 2; have g3 := gw_sl ws 3; have g4 := gw_sl ws 4; have gz := sl_sz ws; have h1024 := h.2.1.2.1
  refine c_runR (Q := (fun t => ∀ q, bsF (gw ws 2) (gw ws 3) = some q → t.2.1 f_lowScore = q.1 ∧ t.2.1 f_highScore = q.2.1 ∧ t.1 f_noScore = q.2.2)) ty 89 (by decide) rfl B5 (fun _ => by omega) (fun _ => by omega) (mjY_mono ty (fun r u _ k => ⟨_, k⟩) (c_opt h ty (fun u tu fu hu z => c_opt_89 hu tu z (gw_at (by omega)) (gw_at (by omega))))) (fun u fu hu => rnK_no fu hu (rnE_rd (by decide) rfl)) (fun u tu fu hu q => ?_)
  have k := r_zcut (Y := Y) (d := d + 1) hu tu 89 (by decide) rfl (gw_at (k := 1) (by omega)) _ _ rfl rfl (by omega)
  rw [zcF_89] at k
  exact dp_89 tu (fun r u k => k.1) (mjY_mono tu (fun r v tv k => rnK_rd fu k (rnE_rd (by decide) rfl)) k)
theorem rn_94 {σ : mjS} {ws : Req} {ks : List KR} {l : List Int32} (h : Wd σ ws ks l) (ty : mjTY σ) (B : BD σ 94 ws ks l) (hw : 1 ≤ ws.length) : mjY mjPP (mjQQ Y) (d + 9) 155 0 (mjL0 2 [.ref 0, .int (nI 94)]) [] σ (rnK σ ws ks l (rnE σ ks 94 ws)) := by
  obtain ⟨B1, B2, B3, B4, B5, B6, B7, B8, B9⟩ := B
  have g1 := gw_sl ws 1; have g2 := gw_sl ws 2; have g3 := gw_sl ws 3; have g4 := gw_sl ws 4; have gz := sl_sz ws; have h1024 := h.2.1.2.1
  refine c_runR (Q := flZ) ty 94 (by decide) rfl B5 (fun _ => by omega) (fun _ => by omega) (mjY_mono ty (fun r u _ k => ⟨_, k⟩) (c_opt h ty (fun u tu fu hu z => c_opt_none hu tu z 94 (by decide) (by decide) rfl))) (fun u fu hu => rnK_no fu hu (rnE_rd (by decide) rfl)) (fun u tu fu hu q => ?_)
  exact mjY_mono tu (fun r v tv k => rnK_rd fu k (rnE_rd (by decide) rfl)) (rd_94 hu tu (by omega))
theorem rn_95 {σ : mjS} {ws : Req} {ks : List KR} {l : List Int32} (h : Wd σ ws ks l) (ty : mjTY σ) (B : BD σ 95 ws ks l) (hw : 2 ≤ ws.length) : mjY mjPP (mjQQ Y) (d + 9) 155 0 (mjL0 2 [.ref 0, .int (nI 95)]) [] σ (rnK σ ws ks l (rnE σ ks 95 ws)) := by
  obtain ⟨B1, B2, B3, B4, B5, B6, B7, B8, B9⟩ := B
  have g1 := gw_sl ws 1; have g2 := gw_sl ws 2; have g3 := gw_sl ws 3; have g4 := gw_sl ws 4; have gz := sl_sz ws; have h1024 := h.2.1.2.1
  refine c_runR (Q := flZ) ty 95 (by decide) rfl B5 (fun _ => by omega) (fun _ => by omega) (mjY_mono ty (fun r u _ k => ⟨_, k⟩) (c_opt h ty (fun u tu fu hu z => c_opt_none hu tu z 95 (by decide) (by decide) rfl))) (fun u fu hu => rnK_no fu hu (rnE_rd (by decide) rfl)) (fun u tu fu hu q => ?_)
  exact mjY_mono tu (fun r v tv k => rnK_rd fu k (rnE_rd (by decide) rfl)) (rd_95 hu tu (gw_at (k := 1) (by omega)))
theorem rn_105 {σ : mjS} {ws : Req} {ks : List KR} {l : List Int32} (h : Wd σ ws ks l) (ty : mjTY σ) (B : BD σ 105 ws ks l) (hw : 1 ≤ ws.length) : mjY mjPP (mjQQ Y) (d + 9) 155 0 (mjL0 2 [.ref 0, .int (nI 105)]) [] σ (rnK σ ws ks l (rnE σ ks 105 ws)) := by
  obtain ⟨B1, B2, B3, B4, B5, B6, B7, B8, B9⟩ := B
  have g1 := gw_sl ws 1; have g2 := gw_sl ws 2; have g3 := gw_sl ws 3; have g4 := gw_sl ws 4; have gz := sl_sz ws; have h1024 := h.2.1.2.1
  refine c_runR (Q := flZ) ty 105 (by decide) rfl B5 (fun _ => by omega) (fun _ => by omega) (mjY_mono ty (fun r u _ k => ⟨_, k⟩) (c_opt h ty (fun u tu fu hu z => c_opt_none hu tu z 105 (by decide) (by decide) rfl))) (fun u fu hu => rnK_no fu hu (rnE_rd (by decide) rfl)) (fun u tu fu hu q => ?_)
  exact dp_105 tu (fun r u k => k.1) (mjY_mono tu (fun r v tv k => rnK_rd fu k (rnE_rd (by decide) rfl)) (r_time hu tu))
end RNS
