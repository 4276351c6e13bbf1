/-! Whole calls of the reference, as contracts. -/
section USE
variable {l : Launch} {dC : Nat → ClassId} {dI : Nat → Nat → Nat} {dA : Nat → ClassId} {ad : Nat → Nat} {σ : mjS} {bud : Nat}
theorem mj_use {d m : Nat} {ar : List Value} {K : mjK} (har : (mjAr ar).length ≤ (mjQQ mjYN m).2.2.2.1) (ty : mjTY σ) (h : mjY mjPP (mjQQ mjYN) d m 0 (mjL0 (mjQQ mjYN m).2.2.2.1 ar) [] σ K) : mjMet l dC dI dA ad (mjQQ mjYN m) d ar σ K := by
  obtain ⟨f, h⟩ := h
  exact mj_met mj_ok (mj_sound mj_ok f) har ty h
theorem u_feed (h : GI σ (bud + 20)) (ty : mjTY σ) (a b c e f : Int32) : mjMet l dC dI dA ad (mjQQ mjYN 171) 14 [.ref 0, .int a, .int b, .int c, .int e, .int f] σ (fun r u => r = some (.int 1) ∧ GI u bud) := mj_use (Nat.le_of_ble_eq_true rfl) ty (g_feed h ty a b c e f)
theorem u_end (h : GI σ bud) (ty : mjTY σ) (n : Int32) : mjMet l dC dI dA ad (mjQQ mjYN 172) 14 [.ref 0, .int n] σ (gK bud) := mj_use (Nat.le_of_ble_eq_true rfl) ty (g_end h ty n)
theorem u_send (h : GI σ bud) (ty : mjTY σ) (n : Int32) : mjMet l dC dI dA ad (mjQQ mjYN 173) 14 [.ref 0, .int n] σ (gK bud) := mj_use (Nat.le_of_ble_eq_true rfl) ty (c_send (d := 1) h ty n)
theorem u_open (h : GI σ bud) (ty : mjTY σ) (n : Int32) : mjMet l dC dI dA ad (mjQQ mjYN 175) 14 [.ref 0, .int n] σ (gK bud) := mj_use (Nat.le_of_ble_eq_true rfl) ty (g_open (d := 12) h ty n)
theorem u_isOpen (h : GI σ bud) (ty : mjTY σ) (n : Int32) : mjMet l dC dI dA ad (mjQQ mjYN 176) 14 [.ref 0, .int n] σ (gK bud) := mj_use (Nat.le_of_ble_eq_true rfl) ty (g_isOpen (d := 13) h ty n)
theorem u_out (h : GI σ bud) (ty : mjTY σ) (n : Int32) : mjMet l dC dI dA ad (mjQQ mjYN 177) 14 [.ref 0, .int n] σ (gK bud) := mj_use (Nat.le_of_ble_eq_true rfl) ty (g_out (d := 13) h ty n)
theorem u_outAt (h : GI σ bud) (ty : mjTY σ) (n i : Int32) : mjMet l dC dI dA ad (mjQQ mjYN 178) 14 [.ref 0, .int n, .int i] σ (gK bud) := mj_use (Nat.le_of_ble_eq_true rfl) ty (g_outAt (d := 13) h ty n i)
theorem u_take (h : GI σ bud) (ty : mjTY σ) (n i : Int32) : mjMet l dC dI dA ad (mjQQ mjYN 179) 14 [.ref 0, .int n, .int i] σ (gK bud) := mj_use (Nat.le_of_ble_eq_true rfl) ty (g_take (d := 13) h ty n i)
theorem u_pass (h : GI σ bud) (ty : mjTY σ) (x : Int64) : mjMet l dC dI dA ad (mjQQ mjYN 181) 14 [.ref 0, .long x] σ (gK bud) := mj_use (Nat.le_of_ble_eq_true rfl) ty (g_pass (d := 0) h ty x)
theorem u_now (h : GI σ bud) (ty : mjTY σ) : mjMet l dC dI dA ad (mjQQ mjYN 182) 14 [.ref 0] σ (fun r u => (∃ z, r = some (.long z)) ∧ GI u bud) := mj_use (Nat.le_of_ble_eq_true rfl) ty (g_now h ty)
theorem u_fuse (h : GI σ bud) (ty : mjTY σ) (b : Int32) : mjMet l dC dI dA ad (mjQQ mjYN 183) 14 [.ref 0, .int b] σ (fun r u => r = none ∧ GI u bud) := mj_use (Nat.le_of_ble_eq_true rfl) ty (g_fuse h ty b)
theorem u_crash (h : GI σ bud) (ty : mjTY σ) : mjMet l dC dI dA ad (mjQQ mjYN 184) 14 [.ref 0] σ (gK bud) := mj_use (Nat.le_of_ble_eq_true rfl) ty (c_crash (d := 1) h ty)
theorem u_restart (h : GI σ bud) (ty : mjTY σ) : mjMet l dC dI dA ad (mjQQ mjYN 189) 14 [.ref 0] σ (gK bud) := mj_use (Nat.le_of_ble_eq_true rfl) ty (g_restart (d := 0) h ty)
theorem u_rewrite (h : GI σ bud) (ty : mjTY σ) : mjMet l dC dI dA ad (mjQQ mjYN 191) 14 [.ref 0] σ (gK bud) := mj_use (Nat.le_of_ble_eq_true rfl) ty (g_rewrite (d := 1) h ty)
theorem u_log (h : GI σ bud) (ty : mjTY σ) : mjMet l dC dI dA ad (mjQQ mjYN 192) 14 [.ref 0] σ (gK bud) := mj_use (Nat.le_of_ble_eq_true rfl) ty (g_log h ty)
theorem u_logAt (h : GI σ bud) (ty : mjTY σ) (i : Int32) : mjMet l dC dI dA ad (mjQQ mjYN 193) 14 [.ref 0, .int i] σ (gK bud) := mj_use (Nat.le_of_ble_eq_true rfl) ty (g_logAt h ty i)
theorem u_tear (h : GI σ bud) (ty : mjTY σ) (i : Int32) : mjMet l dC dI dA ad (mjQQ mjYN 194) 14 [.ref 0, .int i] σ (gK bud) := mj_use (Nat.le_of_ble_eq_true rfl) ty (g_tear h ty i)
theorem u_isUp (h : GI σ bud) (ty : mjTY σ) : mjMet l dC dI dA ad (mjQQ mjYN 195) 14 [.ref 0] σ (gK bud) := mj_use (Nat.le_of_ble_eq_true rfl) ty (g_isUp h ty)
theorem u_total (h : GI σ bud) (ty : mjTY σ) (i : Int32) : mjMet l dC dI dA ad (mjQQ mjYN 196) 14 [.ref 0, .int i] σ (gK bud) := mj_use (Nat.le_of_ble_eq_true rfl) ty (g_total (d := 13) h ty i)
end USE
