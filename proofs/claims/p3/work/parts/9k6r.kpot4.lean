/-! The pot is sifted. -/
section KPOT4
variable {Y : Nat → MethodName × ByteArray} {d : Nat} {σ0 σ u : kS} {B ws nm nm' : List (List Int32)} {ks : List KC}
def sfT (es : List AE) (b : Bool) (v : List Int32) : Bool := skT v es == b
/-- a row that is being sifted: so many are kept, so many looked at -/
def SFG (f : Nat → Int32) (nm ms : List (List Int32)) (T : List Int32 → Bool) (k i : Nat) : Prop := k = ((ms.take i).filter T).length ∧ (∀ j q, ((ms.take i).filter T)[j]? = some q → ∃ n, f j = nI n ∧ nm[n]? = some q) ∧ ∀ j q, i ≤ j → ms[j]? = some q → ∃ n, f j = nI n ∧ nm[n]? = some q
set_option maxHeartbeats 1000000 in
theorem k_sift_l0 (b : Bool) (x2 : Int32) (e2 : x2 = if b = true then 1 else 0) {ms : List (List Int32)} {g N : Nat} (h3 : 64 ≤ N) (h4 : N ≤ 17400) (h6 : ms.length ≤ N) :
    ∀ (f i k : Nat) (x3 x4 : Int32) (u : kS), i + f = ms.length → x4 = nI i → x3 = nI k → kTY u → KWd σ0 B u ws nm ks → SCl scA σ u → u.2.2.1 71 4 = some g → u.2.2.2.1 g = (20, N) → u.1 71 5 = nI ms.length → SFG (u.1 g) nm ms (sfT [] b) k i →
    kjY kPP (kQQ Y) (d + 3) 227 4 [some (.ref 71), some .null, some (.int x2), some (.int x3), some (.int x4)] [] u (poP σ0 B σ ws nm ks (ms.filter (sfT [] b))) := by
  intro f
  induction f with
  | zero =>
    intro i k x3 x4 u hi e4 e3 tu wu su f1 f2 f5 hg
    skip
    refine kjZ_y rfl rfl 4 _ _ _ _ tu ?_
    refine (And.intro (tu.k (by decide) rfl) (And.intro (fun c => ?_) (fun c => ?_)))
    rotate_left
    · refine absurd (show u.1 71 5 ≤ x4 from ?_) c
      rw [f5, e4, nle (by omega) (by omega)]; omega
    have hti : ms.take i = ms := List.take_of_length_le (by omega)
    obtain ⟨q1, q2, q3⟩ := hg
    rw [hti] at q1 q2
    have hkl : k ≤ N := by rw [q1]; exact Nat.le_trans (List.length_filter_le _ _) h6
    refine kjZ_y rfl rfl 4 _ _ _ _ tu ?_
    refine (And.intro (tu.k (by decide) rfl) (And.intro (Or.inl rfl) (fun tu' => And.intro rfl (And.intro rfl ?_))))
    have go : ∀ z, z = (mjIu u.1 71 5 x3, u.2) → KWd σ0 B z ws nm ks ∧ SCl scA σ z ∧ PTT z nm (ms.filter (sfT [] b)) := by
      intro z ez
      have k71 : (u.2.2.2.1 71).1 = 7 := tu.k (by decide) rfl
      have ng : ¬ g = 71 := fun z => by rw [z] at f2; rw [f2] at k71; exact absurd (show (20 : Nat) = 7 from k71) (by decide)
      have ez2 : z = (mjIu (kUp u.1 g (u.1 g)) 71 5 (nI k), u.2) := by
        rw [ez, e3]; congr 2; funext h; by_cases y : h = g
        · rw [y, kUp_s]
        · rw [kUp_n y]
      obtain ⟨wz, sz⟩ := wu.potS tu f1 f2 ⟨h3, h4⟩ _ hkl ez2
      refine ⟨wz, su.tr sz, g, N, by rw [ez]; exact f1, by rw [ez]; exact f2, h3, h4, ?_, by rw [← q1]; exact hkl, ?_⟩
      · rw [ez]; show mjIu u.1 71 5 x3 71 5 = _; rw [mjIu_at, if_pos ⟨rfl, rfl⟩, e3, q1]
      · intro j q hq
        rw [ez]; show ∃ n, mjIu u.1 71 5 x3 g j = _ ∧ _
        rw [mjIu_n ng]; exact q2 j q hq
    exact ⟨rfl, go _ rfl⟩
  | succ f ih =>
    intro i k x3 x4 u hi e4 e3 tu wu su f1 f2 f5 hg
    skip
    have hil : i < ms.length := by omega
    have hv := List.getElem?_eq_getElem hil
    generalize ms[i] = v at hv
    obtain ⟨q1, q2, q3⟩ := hg
    obtain ⟨n, n1, n2⟩ := q3 i v (Nat.le_refl _) hv
    have hki : k ≤ i := by
      rw [q1]; refine Nat.le_trans (List.length_filter_le _ _) ?_
      rw [List.length_take]; omega
    have c4 : x4.toNatClampNeg = i := by rw [e4]; exact nI_clamp (by omega)
    have c3 : x3.toNatClampNeg = k := by rw [e3]; exact nI_clamp (by omega)
    have v4 : vp_in x4 N := by rw [e4]; exact vp_in_nI (by omega) (by omega)
    have v3 : vp_in x3 N := by rw [e3]; exact vp_in_nI (by omega) (by omega)
    have k71 : (u.2.2.2.1 71).1 = 7 := tu.k (by decide) rfl
    have ng : ¬ g = 71 := fun z => by rw [z] at f2; rw [f2] at k71; exact absurd (show (20 : Nat) = 7 from k71) (by decide)
    have hfs := filt_s (sfT [] b) hv
    refine kjZ_y rfl rfl 4 _ _ _ _ tu ?_
    refine (And.intro (tu.k (by decide) rfl) (And.intro (fun c => ?_) (fun c => ?_)))
    · refine absurd (show u.1 71 5 ≤ x4 from c) ?_
      rw [f5, e4, nle (by omega) (by omega)]; omega
    refine kjZ_y rfl rfl 8 _ _ _ _ tu ?_
    refine (And.intro (tu.k (by decide) rfl) (And.intro (tu.k (by decide) rfl) (Exists.intro _ (And.intro f1 (Or.inl (And.intro (kdk f2) (And.intro (kdv f2 v4) (And.intro (Nat.le_of_ble_eq_true rfl) (And.intro (Or.inl ⟨(Nat.le_of_ble_eq_true rfl), (tu.k (by decide) rfl)⟩) (And.intro (Nat.le_of_ble_eq_true rfl) (And.intro (Nat.le_of_ble_eq_true rfl) (kjY_mono tu (fun q_ u2 ty2 xu2 h_ => ?_) (kx_placeOf0 tu _)))))))))))))
    obtain ⟨rfl, rfl⟩ := h_
    intro _ _
    -- it stays
    have yes : sfT [] b v = true → kjY kPP (kQQ Y) (d + 3) 227 22 [some (.ref 71), some .null, some (.int x2), some (.int x3), some (.int x4)] [] u2 (poP σ0 B σ ws nm ks (ms.filter (sfT [] b))) := by
      intro hT
      rw [if_pos hT] at hfs
      refine kjZ_y rfl rfl 8 _ _ _ _ ty2 ?_
      refine (And.intro (ty2.k (by decide) rfl) (Exists.intro _ (And.intro f1 (And.intro (ty2.k (by decide) rfl) (Exists.intro _ (And.intro f1 (Or.inl (And.intro (kdk f2) (And.intro (kdv f2 v4) (And.intro (kdk f2) (And.intro (kdv f2 v3) (fun ty2' => ?_))))))))))))
      have go : ∀ z, kTY z → z = (mjIu u2.1 g x3.toNatClampNeg (u2.1 g x4.toNatClampNeg), u2.2) → kjY kPP (kQQ Y) (d + 3) 227 30 [some (.ref 71), some .null, some (.int x2), some (.int x3), some (.int x4)] [] z (poP σ0 B σ ws nm ks (ms.filter (sfT [] b))) := by
        intro z tz ez
        rw [c3, c4] at ez
        have ez2 : z = (kUp u2.1 g (upd (u2.1 g) k (u2.1 g i)), u2.2) := by rw [ez, mjIu_up]
        obtain ⟨wz, sz⟩ := wu.potR ty2 f1 f2 ⟨h3, h4⟩ f5 h6 _ ez2
        have hz : ∀ j, z.1 g j = if j = k then u2.1 g i else u2.1 g j := fun j => by
          rw [ez2]; show kUp u2.1 g _ g j = _; rw [kUp_s]
          by_cases y : j = k
          · rw [if_pos y, y, pk_us]
          · rw [if_neg y, pk_un y]
        skip
        refine kjZ_y rfl rfl 3 _ _ _ _ tz ?_
        refine ih (i + 1) (k + 1) _ _ z (by omega) (by rw [e4]; exact nI_1 i) (by rw [e3]; exact nI_1 k) tz wz (su.tr sz) (by rw [ez]; exact f1) (by rw [ez]; exact f2) ?_ ⟨?_, fun j q hq => ?_, fun j q hj hq => ?_⟩
        · rw [ez]; show mjIu u2.1 g k _ 71 5 = _; rw [mjIu_n (fun y => ng y.symm)]; exact f5
        · rw [hfs, List.length_append, ← q1]; rfl
        · rw [hz]
          rw [hfs] at hq
          by_cases y : j = k
          · rw [if_pos y, n1]
            rw [y, q1, List.getElem?_append_right (Nat.le_refl _), Nat.sub_self] at hq
            cases hq; exact ⟨n, rfl, n2⟩
          · rw [if_neg y]
            refine q2 j q ?_
            by_cases y2 : j < ((ms.take i).filter (sfT [] b)).length
            · rw [List.getElem?_append_left y2] at hq; exact hq
            · rw [List.getElem?_append_right (by omega)] at hq
              have := (List.getElem?_eq_some_iff.mp hq).1
              rw [List.length_singleton] at this; omega
        · rw [hz, if_neg (by omega)]; exact q3 j q (by omega) hq
      exact go _ ty2' rfl
    have no : ¬ sfT [] b v = true → kjY kPP (kQQ Y) (d + 3) 227 31 [some (.ref 71), some .null, some (.int x2), some (.int x3), some (.int x4)] [] u2 (poP σ0 B σ ws nm ks (ms.filter (sfT [] b))) := by
      intro hT
      rw [if_neg hT, List.append_nil] at hfs
      refine kjZ_y rfl rfl 2 _ _ _ _ ty2 ?_
      refine ih (i + 1) k _ _ u2 (by omega) (by rw [e4]; exact nI_1 i) e3 ty2 wu su f1 f2 f5 ⟨by rw [hfs]; exact q1, fun j q hq => q2 j q (by rw [← hfs]; exact hq), fun j q hj hq => q3 j q (by omega) hq⟩
    have s20 : ∀ y : Int32, y = (if skT v [] = true then 1 else 0) → kjY kPP (kQQ Y) (d + 3) 227 20 [some (.ref 71), some .null, some (.int x2), some (.int x3), some (.int x4)] [.int y] u2 (poP σ0 B σ ws nm ks (ms.filter (sfT [] b))) := by
      intro y ey
      have hiff : (y = x2) ↔ sfT [] b v = true := by
        unfold sfT; rw [ey, e2]
        cases skT v [] <;> cases b <;> decide
      refine kjZ_y rfl rfl 2 _ _ _ _ ty2 ?_
      refine And.intro (fun c2 => ?_) (fun c2 => ?_)
      · exact no (fun z => c2 (hiff.mpr z))
      · exact yes (hiff.mp (Decidable.of_not_not (fun z => c2 z)))
    refine kjZ_y rfl rfl 1 _ _ _ _ ty2 ?_
    refine And.intro (fun c2 => ?_) (fun c2 => ?_)
    · refine kjZ_y rfl rfl 1 _ _ _ _ ty2 ?_
      exact s20 _ (by show (0 : Int32) = if false = true then 1 else 0; rfl)
    · exact absurd (show (-1 : Int32) < 0 by decide) c2
set_option maxHeartbeats 1000000 in
theorem k_sift_l {P Q : List KC} {x : KC} (hs : x.2.2.2.2.2.2.1 = 3) (hSP : SP x.2.2.2.2.2.2.2.2.2.2) (b : Bool) (x2 : Int32) (e2 : x2 = if b = true then 1 else 0) {ms : List (List Int32)} {g N : Nat} (h3 : 64 ≤ N) (h4 : N ≤ 17400) (h6 : ms.length ≤ N) :
    ∀ (f i k : Nat) (x3 x4 : Int32) (u : kS), i + f = ms.length → x4 = nI i → x3 = nI k → kTY u → KWd σ0 B u ws nm (P ++ x :: Q) → SCl scA σ u → u.2.2.1 71 4 = some g → u.2.2.2.1 g = (20, N) → u.1 71 5 = nI ms.length → SFG (u.1 g) nm ms (sfT x.2.2.2.2.2.2.2.2.2.2 b) k i →
    kjY kPP (kQQ Y) (d + 3) 227 4 [some (.ref 71), some (.ref x.1), some (.int x2), some (.int x3), some (.int x4)] [] u (poP σ0 B σ ws nm (P ++ x :: Q) (ms.filter (sfT x.2.2.2.2.2.2.2.2.2.2 b))) := by
  intro f
  induction f with
  | zero =>
    intro i k x3 x4 u hi e4 e3 tu wu su f1 f2 f5 hg
    have kv := (wu.sz (by rw [hs]; decide)).2.2
    refine kjZ_y rfl rfl 4 _ _ _ _ tu ?_
    refine (And.intro (tu.k (by decide) rfl) (And.intro (fun c => ?_) (fun c => ?_)))
    rotate_left
    · refine absurd (show u.1 71 5 ≤ x4 from ?_) c
      rw [f5, e4, nle (by omega) (by omega)]; omega
    have hti : ms.take i = ms := List.take_of_length_le (by omega)
    obtain ⟨q1, q2, q3⟩ := hg
    rw [hti] at q1 q2
    have hkl : k ≤ N := by rw [q1]; exact Nat.le_trans (List.length_filter_le _ _) h6
    refine kjZ_y rfl rfl 4 _ _ _ _ tu ?_
    refine (And.intro (tu.k (by decide) rfl) (And.intro (Or.inl rfl) (fun tu' => And.intro rfl (And.intro rfl ?_))))
    have go : ∀ z, z = (mjIu u.1 71 5 x3, u.2) → KWd σ0 B z ws nm (P ++ x :: Q) ∧ SCl scA σ z ∧ PTT z nm (ms.filter (sfT x.2.2.2.2.2.2.2.2.2.2 b)) := by
      intro z ez
      have k71 : (u.2.2.2.1 71).1 = 7 := tu.k (by decide) rfl
      have ng : ¬ g = 71 := fun z => by rw [z] at f2; rw [f2] at k71; exact absurd (show (20 : Nat) = 7 from k71) (by decide)
      have ez2 : z = (mjIu (kUp u.1 g (u.1 g)) 71 5 (nI k), u.2) := by
        rw [ez, e3]; congr 2; funext h; by_cases y : h = g
        · rw [y, kUp_s]
        · rw [kUp_n y]
      obtain ⟨wz, sz⟩ := wu.potS tu f1 f2 ⟨h3, h4⟩ _ hkl ez2
      refine ⟨wz, su.tr sz, g, N, by rw [ez]; exact f1, by rw [ez]; exact f2, h3, h4, ?_, by rw [← q1]; exact hkl, ?_⟩
      · rw [ez]; show mjIu u.1 71 5 x3 71 5 = _; rw [mjIu_at, if_pos ⟨rfl, rfl⟩, e3, q1]
      · intro j q hq
        rw [ez]; show ∃ n, mjIu u.1 71 5 x3 g j = _ ∧ _
        rw [mjIu_n ng]; exact q2 j q hq
    exact ⟨rfl, go _ rfl⟩
  | succ f ih =>
    intro i k x3 x4 u hi e4 e3 tu wu su f1 f2 f5 hg
    have kv := (wu.sz (by rw [hs]; decide)).2.2
    have hil : i < ms.length := by omega
    have hv := List.getElem?_eq_getElem hil
    generalize ms[i] = v at hv
    obtain ⟨q1, q2, q3⟩ := hg
    obtain ⟨n, n1, n2⟩ := q3 i v (Nat.le_refl _) hv
    have hki : k ≤ i := by
      rw [q1]; refine Nat.le_trans (List.length_filter_le _ _) ?_
      rw [List.length_take]; omega
    have c4 : x4.toNatClampNeg = i := by rw [e4]; exact nI_clamp (by omega)
    have c3 : x3.toNatClampNeg = k := by rw [e3]; exact nI_clamp (by omega)
    have v4 : vp_in x4 N := by rw [e4]; exact vp_in_nI (by omega) (by omega)
    have v3 : vp_in x3 N := by rw [e3]; exact vp_in_nI (by omega) (by omega)
    have k71 : (u.2.2.2.1 71).1 = 7 := tu.k (by decide) rfl
    have ng : ¬ g = 71 := fun z => by rw [z] at f2; rw [f2] at k71; exact absurd (show (20 : Nat) = 7 from k71) (by decide)
    have hfs := filt_s (sfT x.2.2.2.2.2.2.2.2.2.2 b) hv
    refine kjZ_y rfl rfl 4 _ _ _ _ tu ?_
    refine (And.intro (tu.k (by decide) rfl) (And.intro (fun c => ?_) (fun c => ?_)))
    · refine absurd (show u.1 71 5 ≤ x4 from c) ?_
      rw [f5, e4, nle (by omega) (by omega)]; omega
    refine kjZ_y rfl rfl 8 _ _ _ _ tu ?_
    refine (And.intro (tu.k (by decide) rfl) (And.intro (tu.k (by decide) rfl) (Exists.intro _ (And.intro f1 (Or.inl (And.intro (kdk f2) (And.intro (kdv f2 v4) (And.intro (Nat.le_of_ble_eq_true rfl) (And.intro (Or.inl ⟨(Nat.le_of_ble_eq_true rfl), (tu.k (by decide) rfl)⟩) (And.intro (Nat.le_of_ble_eq_true rfl) (And.intro (Nat.le_of_ble_eq_true rfl) (kjY_mono tu (fun q_ u2 ty2 xu2 h_ => ?_) (kx_plM tu wu (Or.inr hs) hSP n2 _ (by rw [c4]; exact n1))))))))))))))
    obtain ⟨rfl, rfl⟩ := h_
    intro _ _
    -- it stays
    have yes : sfT x.2.2.2.2.2.2.2.2.2.2 b v = true → kjY kPP (kQQ Y) (d + 3) 227 22 [some (.ref 71), some (.ref x.1), some (.int x2), some (.int x3), some (.int x4)] [] u2 (poP σ0 B σ ws nm (P ++ x :: Q) (ms.filter (sfT x.2.2.2.2.2.2.2.2.2.2 b))) := by
      intro hT
      rw [if_pos hT] at hfs
      refine kjZ_y rfl rfl 8 _ _ _ _ ty2 ?_
      refine (And.intro (ty2.k (by decide) rfl) (Exists.intro _ (And.intro f1 (And.intro (ty2.k (by decide) rfl) (Exists.intro _ (And.intro f1 (Or.inl (And.intro (kdk f2) (And.intro (kdv f2 v4) (And.intro (kdk f2) (And.intro (kdv f2 v3) (fun ty2' => ?_))))))))))))
      have go : ∀ z, kTY z → z = (mjIu u2.1 g x3.toNatClampNeg (u2.1 g x4.toNatClampNeg), u2.2) → kjY kPP (kQQ Y) (d + 3) 227 30 [some (.ref 71), some (.ref x.1), some (.int x2), some (.int x3), some (.int x4)] [] z (poP σ0 B σ ws nm (P ++ x :: Q) (ms.filter (sfT x.2.2.2.2.2.2.2.2.2.2 b))) := by
        intro z tz ez
        rw [c3, c4] at ez
        have ez2 : z = (kUp u2.1 g (upd (u2.1 g) k (u2.1 g i)), u2.2) := by rw [ez, mjIu_up]
        obtain ⟨wz, sz⟩ := wu.potR ty2 f1 f2 ⟨h3, h4⟩ f5 h6 _ ez2
        have hz : ∀ j, z.1 g j = if j = k then u2.1 g i else u2.1 g j := fun j => by
          rw [ez2]; show kUp u2.1 g _ g j = _; rw [kUp_s]
          by_cases y : j = k
          · rw [if_pos y, y, pk_us]
          · rw [if_neg y, pk_un y]
        have kvz := (wz.sz (by rw [hs]; decide)).2.2
        refine kjZ_y rfl rfl 3 _ _ _ _ tz ?_
        refine ih (i + 1) (k + 1) _ _ z (by omega) (by rw [e4]; exact nI_1 i) (by rw [e3]; exact nI_1 k) tz wz (su.tr sz) (by rw [ez]; exact f1) (by rw [ez]; exact f2) ?_ ⟨?_, fun j q hq => ?_, fun j q hj hq => ?_⟩
        · rw [ez]; show mjIu u2.1 g k _ 71 5 = _; rw [mjIu_n (fun y => ng y.symm)]; exact f5
        · rw [hfs, List.length_append, ← q1]; rfl
        · rw [hz]
          rw [hfs] at hq
          by_cases y : j = k
          · rw [if_pos y, n1]
            rw [y, q1, List.getElem?_append_right (Nat.le_refl _), Nat.sub_self] at hq
            cases hq; exact ⟨n, rfl, n2⟩
          · rw [if_neg y]
            refine q2 j q ?_
            by_cases y2 : j < ((ms.take i).filter (sfT x.2.2.2.2.2.2.2.2.2.2 b)).length
            · rw [List.getElem?_append_left y2] at hq; exact hq
            · rw [List.getElem?_append_right (by omega)] at hq
              have := (List.getElem?_eq_some_iff.mp hq).1
              rw [List.length_singleton] at this; omega
        · rw [hz, if_neg (by omega)]; exact q3 j q (by omega) hq
      exact go _ ty2' rfl
    have no : ¬ sfT x.2.2.2.2.2.2.2.2.2.2 b v = true → kjY kPP (kQQ Y) (d + 3) 227 31 [some (.ref 71), some (.ref x.1), some (.int x2), some (.int x3), some (.int x4)] [] u2 (poP σ0 B σ ws nm (P ++ x :: Q) (ms.filter (sfT x.2.2.2.2.2.2.2.2.2.2 b))) := by
      intro hT
      rw [if_neg hT, List.append_nil] at hfs
      refine kjZ_y rfl rfl 2 _ _ _ _ ty2 ?_
      refine ih (i + 1) k _ _ u2 (by omega) (by rw [e4]; exact nI_1 i) e3 ty2 wu su f1 f2 f5 ⟨by rw [hfs]; exact q1, fun j q hq => q2 j q (by rw [← hfs]; exact hq), fun j q hj hq => q3 j q (by omega) hq⟩
    have s20 : ∀ y : Int32, y = (if skT v x.2.2.2.2.2.2.2.2.2.2 = true then 1 else 0) → kjY kPP (kQQ Y) (d + 3) 227 20 [some (.ref 71), some (.ref x.1), some (.int x2), some (.int x3), some (.int x4)] [.int y] u2 (poP σ0 B σ ws nm (P ++ x :: Q) (ms.filter (sfT x.2.2.2.2.2.2.2.2.2.2 b))) := by
      intro y ey
      have hiff : (y = x2) ↔ sfT x.2.2.2.2.2.2.2.2.2.2 b v = true := by
        unfold sfT; rw [ey, e2]
        cases skT v x.2.2.2.2.2.2.2.2.2.2 <;> cases b <;> decide
      refine kjZ_y rfl rfl 2 _ _ _ _ ty2 ?_
      refine And.intro (fun c2 => ?_) (fun c2 => ?_)
      · exact no (fun z => c2 (hiff.mpr z))
      · exact yes (hiff.mp (Decidable.of_not_not (fun z => c2 z)))
    have hsl9 := skR_lt (v := v) (es := x.2.2.2.2.2.2.2.2.2.2) (by have := (wu.sz (by rw [hs]; decide)).2.1; omega)
    refine kjZ_y rfl rfl 1 _ _ _ _ ty2 ?_
    refine And.intro (fun c2 => ?_) (fun c2 => ?_)
    · have hno := hsl9.1.mp c2
      refine kjZ_y rfl rfl 1 _ _ _ _ ty2 ?_
      exact s20 _ (by rw [if_neg hno]; rfl)
    · have hyes : skT v x.2.2.2.2.2.2.2.2.2.2 = true := Decidable.byContradiction fun z => c2 (hsl9.1.mpr z)
      refine kjZ_y rfl rfl 2 _ _ _ _ ty2 ?_
      exact s20 _ (by rw [if_pos hyes]; rfl)
theorem kx_sift0 (ty : kTY σ) (w : KWd σ0 B σ ws nm ks) (b : Bool) (x2 : Int32) (e2 : x2 = if b = true then 1 else 0) {ms : List (List Int32)} (hp : PTT σ nm ms) : kjY kPP (kQQ Y) (d + 3) 227 0 (mjL0 5 [.ref 71, .null, .int x2]) [] σ (poP σ0 B σ ws nm ks (ms.filter (sfT [] b))) := by
  obtain ⟨g, N, h1, h2, h3, h4, h5, h6, h7⟩ := hp
  refine kjZ_y rfl rfl 4 _ _ _ _ ty ?_
  refine (And.intro (Nat.le_of_ble_eq_true rfl) (And.intro (Nat.le_of_ble_eq_true rfl) ?_))
  exact k_sift_l0 b x2 e2 h3 h4 h6 ms.length 0 0 _ _ σ (Nat.zero_add _) rfl rfl ty w SCl.rf h1 h2 h5 ⟨rfl, fun j q hq => (by cases hq), fun j q _ hq => h7 j q hq⟩
theorem kx_sift (ty : kTY σ) {P Q : List KC} {x : KC} (w : KWd σ0 B σ ws nm (P ++ x :: Q)) (hs : x.2.2.2.2.2.2.1 = 3) (hSP : SP x.2.2.2.2.2.2.2.2.2.2) (b : Bool) (x2 : Int32) (e2 : x2 = if b = true then 1 else 0) {ms : List (List Int32)} (hp : PTT σ nm ms) : kjY kPP (kQQ Y) (d + 3) 227 0 (mjL0 5 [.ref 71, .ref x.1, .int x2]) [] σ (poP σ0 B σ ws nm (P ++ x :: Q) (ms.filter (sfT x.2.2.2.2.2.2.2.2.2.2 b))) := by
  obtain ⟨g, N, h1, h2, h3, h4, h5, h6, h7⟩ := hp
  have kv := (w.sz (by rw [hs]; decide)).2.2
  refine kjZ_y rfl rfl 4 _ _ _ _ ty ?_
  refine (And.intro (Nat.le_of_ble_eq_true rfl) (And.intro (Nat.le_of_ble_eq_true rfl) ?_))
  exact k_sift_l hs hSP b x2 e2 h3 h4 h6 ms.length 0 0 _ _ σ (Nat.zero_add _) rfl rfl ty w SCl.rf h1 h2 h5 ⟨rfl, fun j q hq => (by cases hq), fun j q _ hq => h7 j q hq⟩
end KPOT4
