/-! The fresh state of the class. -/
section KFRE
def f0T : List (List (Option Nat)) := [[some 1, some 3, some 11, some 48, some 53, some 59, some 67, some 70, some 71, some 75, some 5, some 7, some 9], [none, some 2], [], [none, some 4], [], [none, some 6], [], [none, some 8], [], [none, some 10], [], [some 12, some 21, some 30, some 39], [none, some 13, some 15, some 17, none, none, none, none, some 19, none, some 20], [none, some 14], [], [none, some 16], [], [none, some 18], [], [], [], [none, some 22, some 24, some 26, none, none, none, none, some 28, none, some 29], [none, some 23], [], [none, some 25], [], [none, some 27], [], [], [], [none, some 31, some 33, some 35, none, none, none, none, some 37, none, some 38], [none, some 32], [], [none, some 34], [], [none, some 36], [], [], [], [none, some 40, some 42, some 44, none, none, none, none, some 46, none, some 47], [none, some 41], [], [none, some 43], [], [none, some 45], [], [], [], [some 49, some 50, some 51, some 52], [], [], [], [], [some 48, some 54, some 55, some 56, none, none, some 57], [], [], [], [none, some 58], [], [some 48, some 53, some 11, some 60, some 61, some 62, none, some 63, some 64, none, some 65, some 66], [], [], [], [], [], [], [], [some 53, some 59, some 68], [none, some 69], [], [some 48, some 53, some 59], [some 48, some 53, some 59, some 72, some 74], [none, some 73], [], [], [some 48, some 53, some 59]]
def i0T : List (List Int32) := [[0, 0, 0, 0, 0, 0, 0, 0, 0, 0, 0, 0, 0, 0, 0, 0, (-1), 1], [65540], [], [], [], [67108864], [], [67108864], [], [67108864], [], [], [1], [131076], [], [65536], [], [67108864], [], [], [], [1], [131076], [], [65536], [], [67108864], [], [], [], [1], [131076], [], [65536], [], [67108864], [], [], [], [1], [131076], [], [65536], [], [67108864], [], [], [], [], [], [], [], [], [], [], [], [], [], [], [], [], [], [], [], [], [], [], [], [32], [], [], [], [32], [], [], []]
def f0F (h x : Nat) : Option Nat := (f0T.getD h []).getD x none
def i0F (h x : Nat) : Int32 := (i0T.getD h []).getD x 0
def C0 : Nat := 3500
def S0 : Nat := 4940000
def Z0k : kS := (i0F, fun _ _ => 0, f0F, kd0, 76, C0, S0)
theorem kd0_hi (h : Nat) (hh : 76 ≤ h) : kd0 h = (99, 0) := by
  unfold kd0
  rw [List.getD_eq_getElem?_getD, List.getElem?_eq_none (by show kK0.length ≤ h; exact Nat.le_trans (show kK0.length ≤ 76 by decide +kernel) hh)]; rfl
theorem i0_hi (h x : Nat) (hx : 18 ≤ x) : i0F h x = 0 := by
  unfold i0F
  have hl : ∀ l ∈ i0T, l.length ≤ 18 := by decide +kernel
  have h2 : (i0T.getD h []).length ≤ 18 := by
    rw [List.getD_eq_getElem?_getD]
    cases hg : i0T[h]? with
    | none => exact Nat.zero_le _
    | some l => exact hl l (List.mem_of_getElem? hg)
  rw [List.getD_eq_getElem?_getD, List.getElem?_eq_none (by omega)]; rfl
theorem f0_hi (h x : Nat) (hx : 13 ≤ x) : f0F h x = none := by
  unfold f0F
  have hl : ∀ l ∈ f0T, l.length ≤ 13 := by decide +kernel
  have h2 : (f0T.getD h []).length ≤ 13 := by
    rw [List.getD_eq_getElem?_getD]
    cases hg : f0T[h]? with
    | none => exact Nat.zero_le _
    | some l => exact hl l (List.mem_of_getElem? hg)
  rw [List.getD_eq_getElem?_getD, List.getElem?_eq_none (by omega)]; rfl
def rk0 (h x : Nat) (t : Nat × Nat × Nat) : Bool := match t.1 with
  | 3 => decide (f0F h x = some t.2.1) && decide ((kd0 t.2.1).1 = t.2.2)
  | 4 => decide (f0F h x = some (h + t.2.1)) && decide ((kd0 (h + t.2.1)).1 = t.2.2)
  | 5 => match f0F h x with
    | some g => decide ((kd0 g).1 = t.2.2)
    | none => false
  | 6 => decide (f0F h x = none)
  | 7 => decide (f0F h x = none)
  | _ => true
theorem rk0_ok {h x : Nat} {t : Nat × Nat × Nat} (hb : rk0 h x t = true) : kRk Z0k h x t := by
  obtain ⟨t1, t2, t3⟩ := t
  unfold rk0 at hb
  unfold kRk
  dsimp only at hb ⊢
  split at hb
  · rw [Bool.and_eq_true] at hb; exact ⟨of_decide_eq_true hb.1, of_decide_eq_true hb.2⟩
  · rw [Bool.and_eq_true] at hb; exact ⟨of_decide_eq_true hb.1, of_decide_eq_true hb.2⟩
  · cases hf : f0F h x with
    | none => rw [hf] at hb; cases hb
    | some g => rw [hf] at hb; exact ⟨g, hf, of_decide_eq_true hb⟩
  · intro g hg
    have : f0F h x = some g := hg
    rw [of_decide_eq_true hb] at this; cases this
  · intro g hg
    have : f0F h x = some g := hg
    rw [of_decide_eq_true hb] at this; cases this
  · next h3 h4 h5 h6 h7 => 
    split
    · exact absurd rfl h3
    · exact absurd rfl h4
    · exact absurd rfl h5
    · exact absurd rfl h6
    · exact absurd rfl h7
    · trivial
theorem z0_chk1 : ((List.range 76).all (fun h => !decide ((kd0 h).1 < 20) || (List.range 18).all (fun x => !decide ((kT (32 * (kd0 h).1 + x)).1 = 1) || (decide (i0F h x = 0) || decide (i0F h x = 1))))) = true := by decide +kernel
theorem z0_chk2 : ((List.range 76).all (fun h => !decide ((kd0 h).1 = 21) || decide (i0T.getD h [] = []))) = true := by decide +kernel
theorem z0_chk3 : ((List.range 76).all (fun h => !decide ((kd0 h).1 < 20) || (List.range (kNf (kd0 h).1)).all (fun x => rk0 h x (kT (32 * (kd0 h).1 + x))))) = true := by decide +kernel
theorem z0_chk4 : ((List.range 76).all (fun h => decide ((kd0 h).2 < 2 ^ 31) && (!decide ((kd0 h).1 = 25) || decide (f0T.getD h [] = [])))) = true := by decide +kernel
theorem Z0k_ty : kTY Z0k := by
  have hi : ∀ h, 76 ≤ h → Z0k.2.2.2.1 h = (99, 0) := kd0_hi
  have nb : ∀ {a b : Bool}, (!a || b) = true → a = true → b = true := fun {a b} h1 h2 => by subst h2; exact h1
  refine ⟨fun h x h1 h2 => ?_, fun h j h1 => ?_, fun h hh => rfl, Nat.le_refl _, by decide, hi, fun h => ?_, fun h x h1 h2 => ?_, fun h j g h1 h2 => ?_, fun j hj => ?_⟩
  · by_cases c : h < 76
    · by_cases cx : x < 18
      · have := nb (List.all_eq_true.mp z0_chk1 h (List.mem_range.mpr c)) (decide_eq_true h1)
        have := nb (List.all_eq_true.mp this x (List.mem_range.mpr cx)) (decide_eq_true h2)
        rw [Bool.or_eq_true] at this
        exact this.imp of_decide_eq_true of_decide_eq_true
      · exact Or.inl (i0_hi h x (by omega))
    · rw [hi h (by omega)] at h1; exact absurd h1 (by decide)
  · by_cases c : h < 76
    · have := of_decide_eq_true (nb (List.all_eq_true.mp z0_chk2 h (List.mem_range.mpr c)) (decide_eq_true h1))
      have e : Z0k.1 h j = 0 := by show (i0T.getD h []).getD j 0 = 0; rw [this]; rfl
      rw [e]; decide
    · rw [hi h (by omega)] at h1; exact absurd h1 (by decide)
  · by_cases c : h < 76
    · have := List.all_eq_true.mp z0_chk4 h (List.mem_range.mpr c)
      rw [Bool.and_eq_true] at this
      exact of_decide_eq_true this.1
    · rw [hi h (by omega)]; decide
  · by_cases c : h < 76
    · have := nb (List.all_eq_true.mp z0_chk3 h (List.mem_range.mpr c)) (decide_eq_true h1)
      exact rk0_ok (List.all_eq_true.mp this x (List.mem_range.mpr h2))
    · rw [hi h (by omega)] at h1; exact absurd h1 (by decide)
  · by_cases c : h < 76
    · have := List.all_eq_true.mp z0_chk4 h (List.mem_range.mpr c)
      rw [Bool.and_eq_true] at this
      have e := of_decide_eq_true (nb this.2 (decide_eq_true h1))
      have : f0F h j = none := by unfold f0F; rw [e]; rfl
      have h2 : f0F h j = some g := h2
      rw [this] at h2; cases h2
    · rw [hi h (by omega)] at h1; exact absurd h1 (by decide)
  · have : ∀ j, j < 4 → f0F 11 j = some (12 + 9 * j) := by decide
    exact this j hj
theorem Z0k_gd : GKd Z0k := fun h h1 h2 => absurd h2 (Nat.not_lt.mpr h1)
def M0 : Nat := 40976
theorem z0_own : OWN (kHd M0 Z0k) := by
  have : ∀ p ∈ OWs, ∀ q ∈ OWs, f0F p.1 p.2 = f0F q.1 q.2 → p = q := by decide +kernel
  exact this
theorem z0_pot : POT (kHd M0 Z0k) := by
  have : decide (potB (kHd M0 Z0k) (ksz (kHd M0 Z0k)) + potR (kHd M0 Z0k) + potT (kHd M0 Z0k) ≤ (kHd M0 Z0k).2.2.2.2.2.2 ∧ gcs (kHd M0 Z0k) + (2600 - kmade (kHd M0 Z0k)) ≤ (kHd M0 Z0k).2.2.2.2.2.1) = true := by decide +kernel
  have h := of_decide_eq_true this
  exact h
theorem i0_row (h : Nat) (e : i0T.getD h [] = []) (x : Nat) : i0F h x = 0 := by unfold i0F; rw [e]; rfl
theorem z0_kby (b : Nat) (hb : b ∈ OWb) : kBY Z0k b [] := by
  have : ∀ b ∈ OWb, f0F b 1 = some (b + 1) ∧ kd0 (b + 1) = (21, 64) := by decide +kernel
  have t2 : ∀ b ∈ OWb, i0F b 0 = nI (kMo b) ∧ i0F b 2 = 0 := by decide +kernel
  obtain ⟨a1, a2⟩ := this b hb
  obtain ⟨a3, a4⟩ := t2 b hb
  exact ⟨b + 1, 64, a1, a2, ⟨by decide, by decide⟩, a3, a4, Nat.zero_le _, rfl⟩
theorem z0_wrd : WRD (kHd M0 Z0k) [] := by
  have r52 : i0T.getD 52 [] = [] := by decide +kernel
  have r50 : i0T.getD 50 [] = [] := by decide +kernel
  refine ⟨49, 1024, 50, 128, 51, ⟨rfl, rfl, by decide, by decide⟩, ⟨rfl, rfl, rfl, rfl, by decide, by decide⟩, by decide, rfl, fun i hi => ?_, Nat.zero_le _, fun i w h => (by simp at h), List.nodup_nil, fun b hb => ?_, fun i hi => absurd hi (Nat.not_lt_zero _)⟩
  · have : i = 0 := Nat.le_zero.mp hi
    subst this
    exact i0_row 50 r50 0
  · exact (i0_row 52 r52 b).trans (by show (0 : Int32) = -1 + 1; decide)
theorem z0_sto : STO (kHd M0 Z0k) [] [] := by
  refine ⟨[], [], ⟨60, 61, 62, 64, 63, 64, 64, 0, 0, 65, 64, 66, 0, 0, [], ⟨⟨rfl, rfl⟩, ⟨rfl, rfl⟩, ⟨rfl, rfl⟩, by decide, by decide⟩, ⟨⟨rfl, rfl⟩, ⟨rfl, rfl⟩, ⟨0, rfl⟩, Or.inl rfl, by decide, by decide, rfl, by decide⟩, ⟨⟨rfl, rfl⟩, ⟨rfl, rfl⟩, ⟨0, rfl⟩, Or.inl rfl, by decide, by decide, rfl, by decide⟩, ⟨⟨rfl, rfl, Nat.le_refl _, Nat.zero_le _, Nat.zero_le _⟩, ⟨rfl, List.nodup_nil, fun s hs => (by cases hs)⟩, fun i k h => (by simp at h), fun i s h => (by simp at h), fun i r h => (by simp at h), List.nodup_nil⟩, ⟨rfl, fun i r l h => (by simp at h), fun i j r l r' l' _ h => (by simp at h)⟩, rfl, rfl⟩, ⟨fun x hx => (by cases hx), fun s hs => (by cases hs), fun i j _ h => absurd h (Nat.not_lt_zero _)⟩⟩
theorem z0_kg : KG [] (kHd M0 Z0k) [] [] := by
  refine ⟨⟨z0_own, z0_pot⟩, ⟨z0_wrd, fun w hw => (by cases hw)⟩, z0_sto, fun b hb => ⟨[], z0_kby b hb⟩, ⟨74, 64, 0, rfl, rfl, by decide, by decide, rfl, by decide⟩, fun c hc => ⟨0, by decide, ?_⟩, fun c hc => ⟨0, by decide, ?_⟩⟩
  · have : ∀ c ∈ [12, 21, 30, 39], i0F c 9 = nI 0 := by decide +kernel
    exact this c hc
  · have : ∀ c ∈ CNs, i0F c 11 = nI 0 := by decide +kernel
    exact this c hc
theorem z0_cn : CNW Z0k (fun _ => []) (fun _ => []) := by
  intro c hc
  have t1 : ∀ c ∈ CNs, (c + 1) ∈ OWb ∧ (c + 5) ∈ payB ∧ (c + 5) ∈ OWb := by decide
  have t2 : ∀ c ∈ CNs, i0F (c + 1) 3 = 0 ∧ i0F (c + 5) 3 = 0 ∧ i0F c 7 = 0 ∧ f0F c 3 = some (c + 5) := by decide +kernel
  obtain ⟨a1, a2, a3⟩ := t1 c hc
  obtain ⟨b1, b2, b3, b4⟩ := t2 c hc
  exact ⟨⟨z0_kby _ a1, b1⟩, ⟨c + 5, a2, b4, z0_kby _ a3, b2⟩, b3, Nat.zero_le _, fun q hq => (by cases hq)⟩
theorem z0_rn : RNW Z0k := by
  refine ⟨⟨fun c hc => ?_, fun c hc c' hc' => ?_⟩, 9, by decide, rfl, fun c hc => ?_⟩
  · have : ∀ c ∈ CNs, f0F c 3 = some (c + 5) ∧ (c + 5) ∈ payB := by decide +kernel
    exact ⟨c + 5, (this c hc).2, (this c hc).1⟩
  · have : ∀ c ∈ CNs, ∀ c' ∈ CNs, f0F c 3 = f0F c' 3 → c = c' := by decide +kernel
    exact this c hc c' hc'
  · have : ∀ c ∈ CNs, ¬ f0F c 3 = some 9 := by decide +kernel
    exact this c hc
theorem Z0k_inv : INV 10240 Z0k := by
  refine Or.inl ⟨[], [], 5, [], 10240, M0, fun _ => [], fun _ => [], [], ⟨⟨by decide, by decide⟩, z0_kg, ⟨fun x hx => (by cases hx), LJ_nil 10240 (Nat.le_refl _), ⟨⟨by decide, by decide⟩, Or.inr (by decide)⟩, Nat.le_refl _⟩, ⟨by decide, rfl, 7, by decide, rfl, by decide⟩, ⟨z0_kby 5 (by decide), rfl⟩, rfl, by decide, ⟨rfl, by decide, by decide⟩, rfl, by decide⟩, z0_rn, z0_cn, ⟨z0_kby 1 (by decide), rfl⟩, by decide, by decide⟩
end KFRE
