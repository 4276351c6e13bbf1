/-! Options: what the words behind a command say. -/
section OPT
variable {Y : Nat → MethodName × ByteArray} {d : Nat}
/-- a branch whose sides are known -/
def mjCd (c : ClassFile.Cond) (x y : Int32) : Decidable (mjCc c x y) := match c with
  | .eq => inferInstanceAs (Decidable (x = y))
  | .ne => inferInstanceAs (Decidable (¬ x = y))
  | .lt => inferInstanceAs (Decidable (x < y))
  | .ge => inferInstanceAs (Decidable (y ≤ x))
  | .gt => inferInstanceAs (Decidable (y < x))
  | .le => inferInstanceAs (Decidable (x ≤ y))
def mjCb (c : ClassFile.Cond) (x y : Int32) : Bool := @decide (mjCc c x y) (mjCd c x y)
theorem bk_t {c : ClassFile.Cond} {x y : Int32} {A B : Prop} (h : mjCb c x y = true) (a : A) : (mjCc c x y → A) ∧ (¬ mjCc c x y → B) := ⟨fun _ => a, fun n => absurd (@of_decide_eq_true _ (mjCd c x y) h) n⟩
theorem bk_f {c : ClassFile.Cond} {x y : Int32} {A B : Prop} (h : mjCb c x y = false) (b : B) : (mjCc c x y → A) ∧ (¬ mjCc c x y → B) := ⟨fun t => absurd t (@of_decide_eq_false _ (mjCd c x y) h), fun _ => b⟩
abbrev LAT : Int64 := Int64.ofInt 9007199254740991
abbrev LAN : Int64 := Int64.ofInt (-9007199254740991)
def bI (b : Bool) : Int32 := if b = true then 1 else 0
theorem bI_01 (b : Bool) : bI b = 0 ∨ bI b = 1 := by cases b; exact Or.inl rfl; exact Or.inr rfl
theorem bI_0 {b : Bool} : bI b = 0 ↔ b = false := by cases b <;> decide
def tmV (n now : Int64) (m : Nat) : Int64 := if m = 0 then n * 1000 + now else if m = 1 then n + now else if m = 2 then n * 1000 else n
def tmB (n now : Int64) (m : Nat) : Bool := decide (n ≤ LAT ∧ LAN ≤ n ∧ tmV n now m ≤ LAT ∧ LAN ≤ tmV n now m)
set_option maxRecDepth 100000 in
theorem c_timeOf {σ : mjS} (ty : mjTY σ) (m : Nat) (hm : m < 4) {x1 : Int32} (e1 : x1 = nI m) : mjY mjPP (mjQQ Y) d 59 0 (mjL0 4 [.ref 0, .int x1]) [] σ (fun r u => r = some (.int (bI (tmB (σ.2.1 f_num) (σ.2.1 f_now0) m))) ∧ Fr [f_time] [] σ u ∧ (tmB (σ.2.1 f_num) (σ.2.1 f_now0) m = true → u.2.1 f_time = tmV (σ.2.1 f_num) (σ.2.1 f_now0) m)) := by
  have no : ¬ (σ.2.1 f_num ≤ LAT ∧ LAN ≤ σ.2.1 f_num) → mjY mjPP (mjQQ Y) d 59 10 [some (.ref 0), some (.int x1), none, none] [] σ (fun r u => r = some (.int (bI (tmB (σ.2.1 f_num) (σ.2.1 f_now0) m))) ∧ Fr [f_time] [] σ u ∧ (tmB (σ.2.1 f_num) (σ.2.1 f_now0) m = true → u.2.1 f_time = tmV (σ.2.1 f_num) (σ.2.1 f_now0) m)) := by
    intro n
    have e : tmB (σ.2.1 f_num) (σ.2.1 f_now0) m = false := decide_eq_false (fun z => n ⟨z.1, z.2.1⟩)
    rw [e]
    refine mjZ_y rfl rfl 2 _ _ _ _ ty ?_
    refine And.intro rfl (And.intro (Or.inr ⟨rfl, Or.inl rfl⟩) ?_)
    exact ⟨rfl, Fr.rf, fun z => by cases z⟩
  have fin : ∀ (t : Int64) (l3 : Option Value), (σ.2.1 f_num ≤ LAT ∧ LAN ≤ σ.2.1 f_num) → t = tmV (σ.2.1 f_num) (σ.2.1 f_now0) m → mjY mjPP (mjQQ Y) d 59 32 [some (.ref 0), some (.int x1), some (.long t), l3] [] σ (fun r u => r = some (.int (bI (tmB (σ.2.1 f_num) (σ.2.1 f_now0) m))) ∧ Fr [f_time] [] σ u ∧ (tmB (σ.2.1 f_num) (σ.2.1 f_now0) m = true → u.2.1 f_time = tmV (σ.2.1 f_num) (σ.2.1 f_now0) m)) := by
    intro t l3 hn et
    have out : ∀ u : mjS, mjTY u → Fr [f_time] [] σ u → ¬ (t ≤ LAT ∧ LAN ≤ t) → mjY mjPP (mjQQ Y) d 59 45 [some (.ref 0), some (.int x1), some (.long t), l3] [] u (fun r u => r = some (.int (bI (tmB (σ.2.1 f_num) (σ.2.1 f_now0) m))) ∧ Fr [f_time] [] σ u ∧ (tmB (σ.2.1 f_num) (σ.2.1 f_now0) m = true → u.2.1 f_time = tmV (σ.2.1 f_num) (σ.2.1 f_now0) m)) := by
      intro u tu fu n
      have e : tmB (σ.2.1 f_num) (σ.2.1 f_now0) m = false := decide_eq_false (fun z => n (by rw [et]; exact ⟨z.2.2.1, z.2.2.2⟩))
      rw [e]
      refine mjZ_y rfl rfl 2 _ _ _ _ tu ?_
      refine And.intro rfl (And.intro (Or.inr ⟨rfl, Or.inl rfl⟩) ?_)
      exact ⟨rfl, fu, fun z => by cases z⟩
    refine mjZ_y rfl rfl 7 _ _ _ _ ty ?_
    refine (And.intro rfl (And.intro rfl (fun ty' => And.intro (fun c => ?_) (fun c => ?_))))
    · exact out _ ty' (Fr.l (by decide)) (fun z => Int64.not_lt.mpr z.1 ((lg_cmp_gt _ _).mp c))
    · refine mjZ_y rfl rfl 4 _ _ _ _ ty' ?_
      refine And.intro (fun b => ?_) (fun b => ?_)
      · exact out _ ty' (Fr.l (by decide)) (fun z => Int64.not_lt.mpr z.2 ((lg_cmp_lt _ _).mp b))
      · have e : tmB (σ.2.1 f_num) (σ.2.1 f_now0) m = true := decide_eq_true ⟨hn.1, hn.2, by rw [← et]; exact Int64.not_lt.mp (fun z => c ((lg_cmp_gt _ _).mpr z)), by rw [← et]; exact Int64.not_lt.mp (fun z => b ((lg_cmp_lt _ _).mpr z))⟩
        rw [e]
        refine mjZ_y rfl rfl 3 _ _ _ _ ty' ?_
        refine And.intro rfl (And.intro (Or.inr ⟨rfl, Or.inr rfl⟩) ?_)
        exact ⟨rfl, Fr.l (by decide), fun _ => (pk_uLs (f := σ.2.1) (k := f_time) (x := t)).trans et⟩
  refine mjZ_y rfl rfl 5 _ _ _ _ ty ?_
  refine (And.intro rfl (And.intro (fun c => ?_) (fun c => ?_)))
  · exact no (fun z => Int64.not_lt.mpr z.1 ((lg_cmp_gt _ _).mp c))
  · refine mjZ_y rfl rfl 5 _ _ _ _ ty ?_
    refine (And.intro rfl (And.intro (fun b => ?_) (fun b => ?_)))
    · have hn : σ.2.1 f_num ≤ LAT ∧ LAN ≤ σ.2.1 f_num := ⟨Int64.not_lt.mp (fun z => c ((lg_cmp_gt _ _).mpr z)), (lg_cmp_ge _ _).mp b⟩
      match m, hm, e1 with
      | 0, _, e1 =>
        subst e1
        refine mjZ_y rfl rfl 17 _ _ _ _ ty ?_
        refine (And.intro rfl (And.intro (Nat.le_of_ble_eq_true rfl) (bk_t rfl (And.intro (Nat.le_of_ble_eq_true rfl) (bk_f rfl (And.intro rfl (And.intro (Nat.le_of_ble_eq_true rfl) ?_)))))))
        exact fin _ _ hn rfl
      | 1, _, e1 =>
        subst e1
        refine mjZ_y rfl rfl 16 _ _ _ _ ty ?_
        refine (And.intro rfl (And.intro (Nat.le_of_ble_eq_true rfl) (bk_f rfl (bk_t rfl (bk_f rfl (And.intro rfl (And.intro (Nat.le_of_ble_eq_true rfl) ?_)))))))
        exact fin _ _ hn rfl
      | 2, _, e1 =>
        subst e1
        refine mjZ_y rfl rfl 15 _ _ _ _ ty ?_
        refine (And.intro rfl (And.intro (Nat.le_of_ble_eq_true rfl) (bk_f rfl (bk_f rfl (And.intro (Nat.le_of_ble_eq_true rfl) (bk_t rfl ?_))))))
        exact fin _ _ hn rfl
      | 3, _, e1 =>
        subst e1
        refine mjZ_y rfl rfl 11 _ _ _ _ ty ?_
        refine (And.intro rfl (And.intro (Nat.le_of_ble_eq_true rfl) (bk_f rfl (bk_t rfl (bk_t rfl ?_)))))
        exact fin _ _ hn rfl
    · exact no (fun z => b ((lg_cmp_ge _ _).mpr z.2))
end OPT
