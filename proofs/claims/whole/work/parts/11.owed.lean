section DMK
/-! K: what is owed -/
theorem i_vc0 (k0 : Int32) (k1 : Int32) (k2 : Int32) (k3 : Int32) : wpX_init (fun u => wpY_init (fun v => i_Rel 4 u v) k0 k1 k2 k3) k0 k1 k2 k3 := by
  obtain ⟨F, C, D, f1, f2, c1, c2, d1, d2, a, b⟩ := dm_init k0 k1 k2 k3
  refine a _ (b _ (dm_R ?_))
  exact ⟨⟨f1, f2, c1, c2, d1, d2, Nat.zero_le _, Nat.zero_le _⟩, Or.inr ⟨by decide, rfl⟩, fun f hf => ⟨Nat.zero_le _, fun i hi => absurd hi (Nat.not_lt_zero _)⟩, fun f hf h => absurd rfl h, dm_FK0⟩
theorem i_vc_emit {k : Nat} {u : SX} {v : SY} (I : i_Rel k u v) (hk : k + 4 ≤ 2052) (v1 : Int32) (v2 : Int32) (v3 : Int32) : wpX_emit (fun r u' => wpY_emit (fun r' v' => r' = r ∧ i_Rel (k + 4) u' v') v v1 v2 v3) u v1 v2 v3 := by
  obtain ⟨F, C, D, fl, oc, rs, st, fc, O, xs, H, L, sl, gl, am, ou, FF, FP, PC, lo, pe, rfl, rfl, I⟩ := I
  exact dm_Jv (wX := fun p => wpX_emit p _ v1 v2 v3) (wY := fun p => wpY_emit p _ v1 v2 v3) (dm_emit I v1 v2 v3)
theorem i_vc_seal {k : Nat} {u : SX} {v : SY} (I : i_Rel k u v) (hk : k + 4 ≤ 2052) (v1 : Int32) : wpX_seal (fun r u' => wpY_seal (fun r' v' => r' = r ∧ i_Rel (k + 4) u' v') v v1) u v1 := by
  obtain ⟨F, C, D, fl, oc, rs, st, fc, O, xs, H, L, sl, gl, am, ou, FF, FP, PC, lo, pe, rfl, rfl, I⟩ := I
  exact dm_Jv (wX := fun p => wpX_seal p _ v1) (wY := fun p => wpY_seal p _ v1) (dm_seal I v1)
theorem i_vc_erase {k : Nat} {u : SX} {v : SY} (I : i_Rel k u v) (hk : k + 4 ≤ 2052) (v1 : Int32) : wpX_erase (fun r u' => wpY_erase (fun r' v' => r' = r ∧ i_Rel (k + 4) u' v') v v1) u v1 := by
  obtain ⟨F, C, D, fl, oc, rs, st, fc, O, xs, H, L, sl, gl, am, ou, FF, FP, PC, lo, pe, rfl, rfl, I⟩ := I
  exact dm_Jv (wX := fun p => wpX_erase p _ v1) (wY := fun p => wpY_erase p _ v1) (dm_erase I v1)
theorem i_vc_code {k : Nat} {u : SX} {v : SY} (I : i_Rel k u v) (hk : k + 4 ≤ 2052) (v1 : Int32) (v2 : Int32) (v3 : Int32) : wpX_code (fun r => wpY_code (fun r' => r' = r ∧ i_Rel (k + 4) u v) v v1 v2 v3) u v1 v2 v3 := by
  have R : i_Rel (k + 4) u v := I
  obtain ⟨F, C, D, fl, oc, rs, st, fc, O, xs, H, L, sl, gl, am, ou, FF, FP, PC, lo, pe, rfl, rfl, I⟩ := I
  exact dm_Kv (wX := fun p => wpX_code p _ v1 v2 v3) (wY := fun p => wpY_code p _ v1 v2 v3) (dm_code I v1 v2 v3) R
theorem i_vc_start {k : Nat} {u : SX} {v : SY} (I : i_Rel k u v) (hk : k + 4 ≤ 2052) (v1 : Int32) (v2 : Int32) (v3 : Int32) : wpX_start (fun r u' => wpY_start (fun r' v' => r' = r ∧ i_Rel (k + 4) u' v') v v1 v2 v3) u v1 v2 v3 := by
  obtain ⟨F, C, D, fl, oc, rs, st, fc, O, xs, H, L, sl, gl, am, ou, FF, FP, PC, lo, pe, rfl, rfl, I⟩ := I
  exact dm_Jv (wX := fun p => wpX_start p _ v1 v2 v3) (wY := fun p => wpY_start p _ v1 v2 v3) (dm_start I v1 v2 v3)
theorem i_vc_run {k : Nat} {u : SX} {v : SY} (I : i_Rel k u v) (hk : k + 4 ≤ 2052) (v1 : Int32) : wpX_run (fun r u' => wpY_run (fun r' v' => r' = r ∧ i_Rel (k + 4) u' v') v v1) u v1 := by
  obtain ⟨F, C, D, fl, oc, rs, st, fc, O, xs, H, L, sl, gl, am, ou, FF, FP, PC, lo, pe, rfl, rfl, I⟩ := I
  exact dm_Jv (wX := fun p => wpX_run p _ v1) (wY := fun p => wpY_run p _ v1) (dm_run I v1)
theorem i_vc_abandon {k : Nat} {u : SX} {v : SY} (I : i_Rel k u v) (hk : k + 4 ≤ 2052) : wpX_abandon (fun r u' => wpY_abandon (fun r' v' => r' = r ∧ i_Rel (k + 4) u' v') v) u := by
  obtain ⟨F, C, D, fl, oc, rs, st, fc, O, xs, H, L, sl, gl, am, ou, FF, FP, PC, lo, pe, rfl, rfl, I⟩ := I
  exact dm_Jv (wX := fun p => wpX_abandon p _) (wY := fun p => wpY_abandon p _) (dm_abandon I)
theorem i_vc_setGlobal {k : Nat} {u : SX} {v : SY} (I : i_Rel k u v) (hk : k + 4 ≤ 2052) (v1 : Int32) (v2 : Int32) : wpX_setGlobal (fun r u' => wpY_setGlobal (fun r' v' => r' = r ∧ i_Rel (k + 4) u' v') v v1 v2) u v1 v2 := by
  obtain ⟨F, C, D, fl, oc, rs, st, fc, O, xs, H, L, sl, gl, am, ou, FF, FP, PC, lo, pe, rfl, rfl, I⟩ := I
  exact dm_Jv (wX := fun p => wpX_setGlobal p _ v1 v2) (wY := fun p => wpY_setGlobal p _ v1 v2) (dm_setGlobal I v1 v2)
theorem i_vc_global {k : Nat} {u : SX} {v : SY} (I : i_Rel k u v) (hk : k + 4 ≤ 2052) (v1 : Int32) : wpX_global (fun r => wpY_global (fun r' => r' = r ∧ i_Rel (k + 4) u v) v v1) u v1 := by
  have R : i_Rel (k + 4) u v := I
  obtain ⟨F, C, D, fl, oc, rs, st, fc, O, xs, H, L, sl, gl, am, ou, FF, FP, PC, lo, pe, rfl, rfl, I⟩ := I
  exact dm_Kv (wX := fun p => wpX_global p _ v1) (wY := fun p => wpY_global p _ v1) (dm_global v1) R
theorem i_vc_optimise {k : Nat} {u : SX} {v : SY} (I : i_Rel k u v) (hk : k + 4 ≤ 2052) (v1 : Int32) : wpX_optimise (fun r => wpY_optimise (fun r' => r' = r ∧ i_Rel (k + 4) u v) v v1) u v1 := by
  have R : i_Rel (k + 4) u v := I
  obtain ⟨F, C, D, fl, oc, rs, st, fc, O, xs, H, L, sl, gl, am, ou, FF, FP, PC, lo, pe, rfl, rfl, I⟩ := I
  exact dm_Kv (wX := fun p => wpX_optimise p _ v1) (wY := fun p => wpY_optimise p _ v1) (dm_optimise I v1) R
theorem i_vc_assume {k : Nat} {u : SX} {v : SY} (I : i_Rel k u v) (hk : k + 4 ≤ 2052) (v1 : Int32) : wpX_assume (fun r u' => wpY_assume (fun r' v' => r' = r ∧ i_Rel (k + 4) u' v') v v1) u v1 := by
  obtain ⟨F, C, D, fl, oc, rs, st, fc, O, xs, H, L, sl, gl, am, ou, FF, FP, PC, lo, pe, rfl, rfl, I⟩ := I
  exact dm_Jv (wX := fun p => wpX_assume p _ v1) (wY := fun p => wpY_assume p _ v1) (dm_assume I v1)
theorem i_vc_assumed {k : Nat} {u : SX} {v : SY} (I : i_Rel k u v) (hk : k + 4 ≤ 2052) (v1 : Int32) : wpX_assumed (fun r => wpY_assumed (fun r' => r' = r ∧ i_Rel (k + 4) u v) v v1) u v1 := by
  have R : i_Rel (k + 4) u v := I
  obtain ⟨F, C, D, fl, oc, rs, st, fc, O, xs, H, L, sl, gl, am, ou, FF, FP, PC, lo, pe, rfl, rfl, I⟩ := I
  exact dm_Kv (wX := fun p => wpX_assumed p _ v1) (wY := fun p => wpY_assumed p _ v1) (dm_assumed v1) R
theorem i_vc_status {k : Nat} {u : SX} {v : SY} (I : i_Rel k u v) (hk : k + 4 ≤ 2052) (v1 : Int32) : wpX_status (fun r => wpY_status (fun r' => r' = r ∧ i_Rel (k + 4) u v) v v1) u v1 := by
  have R : i_Rel (k + 4) u v := I
  obtain ⟨F, C, D, fl, oc, rs, st, fc, O, xs, H, L, sl, gl, am, ou, FF, FP, PC, lo, pe, rfl, rfl, I⟩ := I
  exact dm_Kv (wX := fun p => wpX_status p _ v1) (wY := fun p => wpY_status p _ v1) (dm_status v1) R
theorem i_vc_frame {k : Nat} {u : SX} {v : SY} (I : i_Rel k u v) (hk : k + 4 ≤ 2052) (v1 : Int32) (v2 : Int32) : wpX_frame (fun r => wpY_frame (fun r' => r' = r ∧ i_Rel (k + 4) u v) v v1 v2) u v1 v2 := by
  have R : i_Rel (k + 4) u v := I
  obtain ⟨F, C, D, fl, oc, rs, st, fc, O, xs, H, L, sl, gl, am, ou, FF, FP, PC, lo, pe, rfl, rfl, I⟩ := I
  exact dm_Kv (wX := fun p => wpX_frame p _ v1 v2) (wY := fun p => wpY_frame p _ v1 v2) (dm_frame I v1 v2) R
theorem i_vc_output {k : Nat} {u : SX} {v : SY} (I : i_Rel k u v) (hk : k + 4 ≤ 2052) (v1 : Int32) : wpX_output (fun r => wpY_output (fun r' => r' = r ∧ i_Rel (k + 4) u v) v v1) u v1 := by
  have R : i_Rel (k + 4) u v := I
  obtain ⟨F, C, D, fl, oc, rs, st, fc, O, xs, H, L, sl, gl, am, ou, FF, FP, PC, lo, pe, rfl, rfl, I⟩ := I
  exact dm_Kv (wX := fun p => wpX_output p _ v1) (wY := fun p => wpY_output p _ v1) (dm_output I v1) R
theorem i_vc_clearOutput {k : Nat} {u : SX} {v : SY} (I : i_Rel k u v) (hk : k + 4 ≤ 2052) : wpX_clearOutput (fun r u' => wpY_clearOutput (fun r' v' => r' = r ∧ i_Rel (k + 4) u' v') v) u := by
  obtain ⟨F, C, D, fl, oc, rs, st, fc, O, xs, H, L, sl, gl, am, ou, FF, FP, PC, lo, pe, rfl, rfl, I⟩ := I
  exact dm_Jv (wX := fun p => wpX_clearOutput p _) (wY := fun p => wpY_clearOutput p _) (dm_clear I)
end DMK
