section DME
/-! E: emit and seal -/
section
variable {F C D : Nat} {fl : Int32} {oc : Nat} {rs st : Int32} {fc : Nat} {O : Nat → Nat} {xs : Nat → Int32} {H L : Nat → Nat} {sl gl am ou : Nat → Int32} {FF FP PC : Nat → Nat} {lo pe : Nat → Int32}
theorem dm_xhb {post : Int32 → Prop} {f i : Nat} (hf : f < 8) (hi : i ≤ 32) (p : post (nI (dm_hb H f i))) : wpX_heightBefore post (dm_X F C D fl oc rs st fc O xs H L sl gl am ou FF FP PC lo pe) (nI f) (nI i) := by
  cases i with
  | zero => exact br_t rfl p
  | succ j =>
    have e : ((nI f * 32) + nI (j + 1)) - 1 = nI (f * 32 + j) := by
      rw [dm_cell, ← Nat.add_assoc]
      exact nI_pred _
    refine br_f (nI_ne0 (by omega) (by omega)) ⟨?_, ?_⟩
    · rw [e]
      exact vp_in_nI (by omega) (by decide)
    · rw [e, nI_clamp (by omega)]
      exact p
theorem dm_yaf {post : Int32 → Prop} {o h : Nat} (ho : o ≤ 16) (hn : dm_nd o h) (p : post (nI (dm_af o h))) : wpY_after post (dm_Y F C D fl oc rs st fc O xs L sl gl am ou FF FP PC lo pe) (nI o) (nI h) := by
  have hc : o = 0 ∨ o = 1 ∨ o = 2 ∨ o = 3 ∨ o = 4 ∨ o = 5 ∨ o = 6 ∨ o = 7 ∨ o = 8 ∨ o = 9 ∨ o = 10 ∨ o = 11 ∨ o = 12 ∨ o = 13 ∨ o = 14 ∨ o = 15 ∨ o = 16 := by omega
  rcases hc with rfl | rfl | rfl | rfl | rfl | rfl | rfl | rfl | rfl | rfl | rfl | rfl | rfl | rfl | rfl | rfl | rfl
  · rw [show dm_af 0 h = h + 1 from by simp [dm_af]] at p
    repeat (first | refine br_f (by decide) ?_ | refine br_t (by decide) ?_)
    rw [nI_1]
    exact p
  · rw [show dm_af 1 h = h + 1 from by simp [dm_af]] at p
    repeat (first | refine br_f (by decide) ?_ | refine br_t (by decide) ?_)
    rw [nI_1]
    exact p
  · have h1 : 1 ≤ h := by
      simp [dm_nd] at hn
      omega
    obtain ⟨g, rfl⟩ : ∃ g, h = g + 1 := ⟨h - 1, by omega⟩
    rw [show dm_af 2 (g + 1) = g from by simp [dm_af]] at p
    repeat (first | refine br_f (by decide) ?_ | refine br_t (by decide) ?_)
    rw [nI_pred]
    exact p
  · rw [show dm_af 3 h = h + 1 from by simp [dm_af]] at p
    repeat (first | refine br_f (by decide) ?_ | refine br_t (by decide) ?_)
    rw [nI_1]
    exact p
  · have h1 : 1 ≤ h := by
      simp [dm_nd] at hn
      omega
    obtain ⟨g, rfl⟩ : ∃ g, h = g + 1 := ⟨h - 1, by omega⟩
    rw [show dm_af 4 (g + 1) = g from by simp [dm_af]] at p
    repeat (first | refine br_f (by decide) ?_ | refine br_t (by decide) ?_)
    rw [nI_pred]
    exact p
  · have h1 : 1 ≤ h := by
      simp [dm_nd] at hn
      omega
    obtain ⟨g, rfl⟩ : ∃ g, h = g + 1 := ⟨h - 1, by omega⟩
    rw [show dm_af 5 (g + 1) = g from by simp [dm_af]] at p
    repeat (first | refine br_f (by decide) ?_ | refine br_t (by decide) ?_)
    rw [nI_pred]
    exact p
  · have h1 : 1 ≤ h := by
      simp [dm_nd] at hn
      omega
    obtain ⟨g, rfl⟩ : ∃ g, h = g + 1 := ⟨h - 1, by omega⟩
    rw [show dm_af 6 (g + 1) = g from by simp [dm_af]] at p
    repeat (first | refine br_f (by decide) ?_ | refine br_t (by decide) ?_)
    rw [nI_pred]
    exact p
  · have h1 : 1 ≤ h := by
      simp [dm_nd] at hn
      omega
    obtain ⟨g, rfl⟩ : ∃ g, h = g + 1 := ⟨h - 1, by omega⟩
    rw [show dm_af 7 (g + 1) = g from by simp [dm_af]] at p
    repeat (first | refine br_f (by decide) ?_ | refine br_t (by decide) ?_)
    rw [nI_pred]
    exact p
  · have h1 : 1 ≤ h := by
      simp [dm_nd] at hn
      omega
    obtain ⟨g, rfl⟩ : ∃ g, h = g + 1 := ⟨h - 1, by omega⟩
    rw [show dm_af 8 (g + 1) = g from by simp [dm_af]] at p
    repeat (first | refine br_f (by decide) ?_ | refine br_t (by decide) ?_)
    rw [nI_pred]
    exact p
  · have h1 : 1 ≤ h := by
      simp [dm_nd] at hn
      omega
    obtain ⟨g, rfl⟩ : ∃ g, h = g + 1 := ⟨h - 1, by omega⟩
    rw [show dm_af 9 (g + 1) = g from by simp [dm_af]] at p
    repeat (first | refine br_f (by decide) ?_ | refine br_t (by decide) ?_)
    rw [nI_pred]
    exact p
  · rw [show dm_af 10 h = 0 from by simp [dm_af]] at p
    repeat (first | refine br_f (by decide) ?_ | refine br_t (by decide) ?_)
    exact p
  · rw [show dm_af 11 h = 0 from by simp [dm_af]] at p
    repeat (first | refine br_f (by decide) ?_ | refine br_t (by decide) ?_)
    exact p
  · rw [show dm_af 12 h = h + 1 from by simp [dm_af]] at p
    repeat (first | refine br_f (by decide) ?_ | refine br_t (by decide) ?_)
    rw [nI_1]
    exact p
  · rw [show dm_af 13 h = h from by simp [dm_af]] at p
    repeat (first | refine br_f (by decide) ?_ | refine br_t (by decide) ?_)
    exact p
  · have h1 : 1 ≤ h := by
      simp [dm_nd] at hn
      omega
    obtain ⟨g, rfl⟩ : ∃ g, h = g + 1 := ⟨h - 1, by omega⟩
    rw [show dm_af 14 (g + 1) = g from by simp [dm_af]] at p
    repeat (first | refine br_f (by decide) ?_ | refine br_t (by decide) ?_)
    rw [nI_pred]
    exact p
  · have h1 : 1 ≤ h := by
      simp [dm_nd] at hn
      omega
    obtain ⟨g, rfl⟩ : ∃ g, h = g + 1 := ⟨h - 1, by omega⟩
    rw [show dm_af 15 (g + 1) = g from by simp [dm_af]] at p
    repeat (first | refine br_f (by decide) ?_ | refine br_t (by decide) ?_)
    rw [nI_pred]
    exact p
  · rw [show dm_af 16 h = 0 from by simp [dm_af]] at p
    repeat (first | refine br_f (by decide) ?_ | refine br_t (by decide) ?_)
    exact p
theorem dm_xhc {o h : Nat} (ho : o ≤ 16) (hn : dm_nd o h) : ∃ r : Int32, nI h + r = nI (dm_af o h) ∧ ∀ post : Int32 → Prop, post r → wpX_heightChange post (nI o) := by
  have hc : o = 0 ∨ o = 1 ∨ o = 2 ∨ o = 3 ∨ o = 4 ∨ o = 5 ∨ o = 6 ∨ o = 7 ∨ o = 8 ∨ o = 9 ∨ o = 10 ∨ o = 11 ∨ o = 12 ∨ o = 13 ∨ o = 14 ∨ o = 15 ∨ o = 16 := by omega
  rcases hc with rfl | rfl | rfl | rfl | rfl | rfl | rfl | rfl | rfl | rfl | rfl | rfl | rfl | rfl | rfl | rfl | rfl
  · refine ⟨1, ?_, fun post p => ?_⟩
    · rw [show dm_af 0 h = h + 1 from by simp [dm_af], nI_1]
    · repeat (first | refine br_f (by decide) ?_ | refine br_t (by decide) ?_)
      exact p
  · refine ⟨1, ?_, fun post p => ?_⟩
    · rw [show dm_af 1 h = h + 1 from by simp [dm_af], nI_1]
    · repeat (first | refine br_f (by decide) ?_ | refine br_t (by decide) ?_)
      exact p
  · have h1 : 1 ≤ h := by
      simp [dm_nd] at hn
      omega
    obtain ⟨g, rfl⟩ : ∃ g, h = g + 1 := ⟨h - 1, by omega⟩
    refine ⟨-1, ?_, fun post p => ?_⟩
    · rw [show dm_af 2 (g + 1) = g from by simp [dm_af]]
      exact pk_m1 g
    · repeat (first | refine br_f (by decide) ?_ | refine br_t (by decide) ?_)
      exact p
  · refine ⟨1, ?_, fun post p => ?_⟩
    · rw [show dm_af 3 h = h + 1 from by simp [dm_af], nI_1]
    · repeat (first | refine br_f (by decide) ?_ | refine br_t (by decide) ?_)
      exact p
  · have h1 : 1 ≤ h := by
      simp [dm_nd] at hn
      omega
    obtain ⟨g, rfl⟩ : ∃ g, h = g + 1 := ⟨h - 1, by omega⟩
    refine ⟨-1, ?_, fun post p => ?_⟩
    · rw [show dm_af 4 (g + 1) = g from by simp [dm_af]]
      exact pk_m1 g
    · repeat (first | refine br_f (by decide) ?_ | refine br_t (by decide) ?_)
      exact p
  · have h1 : 1 ≤ h := by
      simp [dm_nd] at hn
      omega
    obtain ⟨g, rfl⟩ : ∃ g, h = g + 1 := ⟨h - 1, by omega⟩
    refine ⟨-1, ?_, fun post p => ?_⟩
    · rw [show dm_af 5 (g + 1) = g from by simp [dm_af]]
      exact pk_m1 g
    · repeat (first | refine br_f (by decide) ?_ | refine br_t (by decide) ?_)
      exact p
  · have h1 : 1 ≤ h := by
      simp [dm_nd] at hn
      omega
    obtain ⟨g, rfl⟩ : ∃ g, h = g + 1 := ⟨h - 1, by omega⟩
    refine ⟨-1, ?_, fun post p => ?_⟩
    · rw [show dm_af 6 (g + 1) = g from by simp [dm_af]]
      exact pk_m1 g
    · repeat (first | refine br_f (by decide) ?_ | refine br_t (by decide) ?_)
      exact p
  · have h1 : 1 ≤ h := by
      simp [dm_nd] at hn
      omega
    obtain ⟨g, rfl⟩ : ∃ g, h = g + 1 := ⟨h - 1, by omega⟩
    refine ⟨-1, ?_, fun post p => ?_⟩
    · rw [show dm_af 7 (g + 1) = g from by simp [dm_af]]
      exact pk_m1 g
    · repeat (first | refine br_f (by decide) ?_ | refine br_t (by decide) ?_)
      exact p
  · have h1 : 1 ≤ h := by
      simp [dm_nd] at hn
      omega
    obtain ⟨g, rfl⟩ : ∃ g, h = g + 1 := ⟨h - 1, by omega⟩
    refine ⟨-1, ?_, fun post p => ?_⟩
    · rw [show dm_af 8 (g + 1) = g from by simp [dm_af]]
      exact pk_m1 g
    · repeat (first | refine br_f (by decide) ?_ | refine br_t (by decide) ?_)
      exact p
  · have h1 : 1 ≤ h := by
      simp [dm_nd] at hn
      omega
    obtain ⟨g, rfl⟩ : ∃ g, h = g + 1 := ⟨h - 1, by omega⟩
    refine ⟨-1, ?_, fun post p => ?_⟩
    · rw [show dm_af 9 (g + 1) = g from by simp [dm_af]]
      exact pk_m1 g
    · repeat (first | refine br_f (by decide) ?_ | refine br_t (by decide) ?_)
      exact p
  · obtain rfl : h = 0 := by
      simp [dm_nd] at hn
      exact hn
    refine ⟨0, by decide, fun post p => ?_⟩
    repeat (first | refine br_f (by decide) ?_ | refine br_t (by decide) ?_)
    exact p
  · obtain rfl : h = 1 := by
      simp [dm_nd] at hn
      exact hn
    refine ⟨-1, by decide, fun post p => ?_⟩
    repeat (first | refine br_f (by decide) ?_ | refine br_t (by decide) ?_)
    exact p
  · refine ⟨1, ?_, fun post p => ?_⟩
    · rw [show dm_af 12 h = h + 1 from by simp [dm_af], nI_1]
    · repeat (first | refine br_f (by decide) ?_ | refine br_t (by decide) ?_)
      exact p
  · refine ⟨0, ?_, fun post p => ?_⟩
    · rw [show dm_af 13 h = h from by simp [dm_af], Int32.add_zero]
    · repeat (first | refine br_f (by decide) ?_ | refine br_t (by decide) ?_)
      exact p
  · have h1 : 1 ≤ h := by
      simp [dm_nd] at hn
      omega
    obtain ⟨g, rfl⟩ : ∃ g, h = g + 1 := ⟨h - 1, by omega⟩
    refine ⟨-1, ?_, fun post p => ?_⟩
    · rw [show dm_af 14 (g + 1) = g from by simp [dm_af]]
      exact pk_m1 g
    · repeat (first | refine br_f (by decide) ?_ | refine br_t (by decide) ?_)
      exact p
  · have h1 : 1 ≤ h := by
      simp [dm_nd] at hn
      omega
    obtain ⟨g, rfl⟩ : ∃ g, h = g + 1 := ⟨h - 1, by omega⟩
    refine ⟨-1, ?_, fun post p => ?_⟩
    · rw [show dm_af 15 (g + 1) = g from by simp [dm_af]]
      exact pk_m1 g
    · repeat (first | refine br_f (by decide) ?_ | refine br_t (by decide) ?_)
      exact p
  · obtain rfl : h = 1 := by
      simp [dm_nd] at hn
      exact hn
    refine ⟨-1, by decide, fun post p => ?_⟩
    repeat (first | refine br_f (by decide) ?_ | refine br_t (by decide) ?_)
    exact p
theorem dm_hf {o h : Nat} (ho : o ≤ 16) (hh : h ≤ 6) :
    (dm_nd o h ∧ (∀ post : Int32 → Prop, post 1 → wpX_heightFits post (nI o) (nI h)) ∧ (∀ post : Int32 → Prop, post 1 → wpY_needs post (dm_Y F C D fl oc rs st fc O xs L sl gl am ou FF FP PC lo pe) (nI o) (nI h)))
    ∨ (¬ dm_nd o h ∧ (∀ post : Int32 → Prop, post 0 → wpX_heightFits post (nI o) (nI h)) ∧ (∀ post : Int32 → Prop, post 0 → wpY_needs post (dm_Y F C D fl oc rs st fc O xs L sl gl am ou FF FP PC lo pe) (nI o) (nI h))) := by
  have hc : o = 0 ∨ o = 1 ∨ o = 2 ∨ o = 3 ∨ o = 4 ∨ o = 5 ∨ o = 6 ∨ o = 7 ∨ o = 8 ∨ o = 9 ∨ o = 10 ∨ o = 11 ∨ o = 12 ∨ o = 13 ∨ o = 14 ∨ o = 15 ∨ o = 16 := by omega
  rcases hc with rfl | rfl | rfl | rfl | rfl | rfl | rfl | rfl | rfl | rfl | rfl | rfl | rfl | rfl | rfl | rfl | rfl
  · have en : dm_nd 0 h ↔ h < 6 := by simp [dm_nd]
    by_cases q : h < 6
    · refine Or.inl ⟨en.mpr q, fun post p => ?_, fun post p => ?_⟩
      · repeat (first | refine br_f (by decide) ?_ | refine br_t (by decide) ?_)
        exact br_f (nI_ge (b := 6) q (by decide)) p
      · repeat (first | refine br_f (by decide) ?_ | refine br_t (by decide) ?_)
        exact br_f (nI_ge (b := 6) q (by decide)) p
    · refine Or.inr ⟨fun z => q (en.mp z), fun post p => ?_, fun post p => ?_⟩
      · repeat (first | refine br_f (by decide) ?_ | refine br_t (by decide) ?_)
        exact br_t (nI_le (a := 6) (by omega) (by omega)) p
      · repeat (first | refine br_f (by decide) ?_ | refine br_t (by decide) ?_)
        exact br_t (nI_le (a := 6) (by omega) (by omega)) p
  · have en : dm_nd 1 h ↔ h < 6 := by simp [dm_nd]
    by_cases q : h < 6
    · refine Or.inl ⟨en.mpr q, fun post p => ?_, fun post p => ?_⟩
      · repeat (first | refine br_f (by decide) ?_ | refine br_t (by decide) ?_)
        exact br_f (nI_ge (b := 6) q (by decide)) p
      · repeat (first | refine br_f (by decide) ?_ | refine br_t (by decide) ?_)
        exact br_f (nI_ge (b := 6) q (by decide)) p
    · refine Or.inr ⟨fun z => q (en.mp z), fun post p => ?_, fun post p => ?_⟩
      · repeat (first | refine br_f (by decide) ?_ | refine br_t (by decide) ?_)
        exact br_t (nI_le (a := 6) (by omega) (by omega)) p
      · repeat (first | refine br_f (by decide) ?_ | refine br_t (by decide) ?_)
        exact br_t (nI_le (a := 6) (by omega) (by omega)) p
  · have en : dm_nd 2 h ↔ 1 ≤ h := by simp [dm_nd]
    by_cases q : 1 ≤ h
    · refine Or.inl ⟨en.mpr q, fun post p => ?_, fun post p => ?_⟩
      · repeat (first | refine br_f (by decide) ?_ | refine br_t (by decide) ?_)
        exact br_f (nI_nlt (b := 1) q (by omega)) p
      · repeat (first | refine br_f (by decide) ?_ | refine br_t (by decide) ?_)
        exact br_f (nI_nlt (b := 1) q (by omega)) p
    · refine Or.inr ⟨fun z => q (en.mp z), fun post p => ?_, fun post p => ?_⟩
      · repeat (first | refine br_f (by decide) ?_ | refine br_t (by decide) ?_)
        exact br_t (nI_lt (b := 1) (by omega) (by decide)) p
      · repeat (first | refine br_f (by decide) ?_ | refine br_t (by decide) ?_)
        exact br_t (nI_lt (b := 1) (by omega) (by decide)) p
  · have en : dm_nd 3 h ↔ h < 6 := by simp [dm_nd]
    by_cases q : h < 6
    · refine Or.inl ⟨en.mpr q, fun post p => ?_, fun post p => ?_⟩
      · repeat (first | refine br_f (by decide) ?_ | refine br_t (by decide) ?_)
        exact br_f (nI_ge (b := 6) q (by decide)) p
      · repeat (first | refine br_f (by decide) ?_ | refine br_t (by decide) ?_)
        exact br_f (nI_ge (b := 6) q (by decide)) p
    · refine Or.inr ⟨fun z => q (en.mp z), fun post p => ?_, fun post p => ?_⟩
      · repeat (first | refine br_f (by decide) ?_ | refine br_t (by decide) ?_)
        exact br_t (nI_le (a := 6) (by omega) (by omega)) p
      · repeat (first | refine br_f (by decide) ?_ | refine br_t (by decide) ?_)
        exact br_t (nI_le (a := 6) (by omega) (by omega)) p
  · have en : dm_nd 4 h ↔ 1 ≤ h := by simp [dm_nd]
    by_cases q : 1 ≤ h
    · refine Or.inl ⟨en.mpr q, fun post p => ?_, fun post p => ?_⟩
      · repeat (first | refine br_f (by decide) ?_ | refine br_t (by decide) ?_)
        exact br_f (nI_nlt (b := 1) q (by omega)) p
      · repeat (first | refine br_f (by decide) ?_ | refine br_t (by decide) ?_)
        exact br_f (nI_nlt (b := 1) q (by omega)) p
    · refine Or.inr ⟨fun z => q (en.mp z), fun post p => ?_, fun post p => ?_⟩
      · repeat (first | refine br_f (by decide) ?_ | refine br_t (by decide) ?_)
        exact br_t (nI_lt (b := 1) (by omega) (by decide)) p
      · repeat (first | refine br_f (by decide) ?_ | refine br_t (by decide) ?_)
        exact br_t (nI_lt (b := 1) (by omega) (by decide)) p
  · have en : dm_nd 5 h ↔ 2 ≤ h := by simp [dm_nd]
    by_cases q : 2 ≤ h
    · refine Or.inl ⟨en.mpr q, fun post p => ?_, fun post p => ?_⟩
      · repeat (first | refine br_f (by decide) ?_ | refine br_t (by decide) ?_)
        exact br_f (nI_nlt (b := 2) q (by omega)) p
      · repeat (first | refine br_f (by decide) ?_ | refine br_t (by decide) ?_)
        exact br_f (nI_nlt (b := 2) q (by omega)) p
    · refine Or.inr ⟨fun z => q (en.mp z), fun post p => ?_, fun post p => ?_⟩
      · repeat (first | refine br_f (by decide) ?_ | refine br_t (by decide) ?_)
        exact br_t (nI_lt (b := 2) (by omega) (by decide)) p
      · repeat (first | refine br_f (by decide) ?_ | refine br_t (by decide) ?_)
        exact br_t (nI_lt (b := 2) (by omega) (by decide)) p
  · have en : dm_nd 6 h ↔ 2 ≤ h := by simp [dm_nd]
    by_cases q : 2 ≤ h
    · refine Or.inl ⟨en.mpr q, fun post p => ?_, fun post p => ?_⟩
      · repeat (first | refine br_f (by decide) ?_ | refine br_t (by decide) ?_)
        exact br_f (nI_nlt (b := 2) q (by omega)) p
      · repeat (first | refine br_f (by decide) ?_ | refine br_t (by decide) ?_)
        exact br_f (nI_nlt (b := 2) q (by omega)) p
    · refine Or.inr ⟨fun z => q (en.mp z), fun post p => ?_, fun post p => ?_⟩
      · repeat (first | refine br_f (by decide) ?_ | refine br_t (by decide) ?_)
        exact br_t (nI_lt (b := 2) (by omega) (by decide)) p
      · repeat (first | refine br_f (by decide) ?_ | refine br_t (by decide) ?_)
        exact br_t (nI_lt (b := 2) (by omega) (by decide)) p
  · have en : dm_nd 7 h ↔ 2 ≤ h := by simp [dm_nd]
    by_cases q : 2 ≤ h
    · refine Or.inl ⟨en.mpr q, fun post p => ?_, fun post p => ?_⟩
      · repeat (first | refine br_f (by decide) ?_ | refine br_t (by decide) ?_)
        exact br_f (nI_nlt (b := 2) q (by omega)) p
      · repeat (first | refine br_f (by decide) ?_ | refine br_t (by decide) ?_)
        exact br_f (nI_nlt (b := 2) q (by omega)) p
    · refine Or.inr ⟨fun z => q (en.mp z), fun post p => ?_, fun post p => ?_⟩
      · repeat (first | refine br_f (by decide) ?_ | refine br_t (by decide) ?_)
        exact br_t (nI_lt (b := 2) (by omega) (by decide)) p
      · repeat (first | refine br_f (by decide) ?_ | refine br_t (by decide) ?_)
        exact br_t (nI_lt (b := 2) (by omega) (by decide)) p
  · have en : dm_nd 8 h ↔ 2 ≤ h := by simp [dm_nd]
    by_cases q : 2 ≤ h
    · refine Or.inl ⟨en.mpr q, fun post p => ?_, fun post p => ?_⟩
      · repeat (first | refine br_f (by decide) ?_ | refine br_t (by decide) ?_)
        exact br_f (nI_nlt (b := 2) q (by omega)) p
      · repeat (first | refine br_f (by decide) ?_ | refine br_t (by decide) ?_)
        exact br_f (nI_nlt (b := 2) q (by omega)) p
    · refine Or.inr ⟨fun z => q (en.mp z), fun post p => ?_, fun post p => ?_⟩
      · repeat (first | refine br_f (by decide) ?_ | refine br_t (by decide) ?_)
        exact br_t (nI_lt (b := 2) (by omega) (by decide)) p
      · repeat (first | refine br_f (by decide) ?_ | refine br_t (by decide) ?_)
        exact br_t (nI_lt (b := 2) (by omega) (by decide)) p
  · have en : dm_nd 9 h ↔ 2 ≤ h := by simp [dm_nd]
    by_cases q : 2 ≤ h
    · refine Or.inl ⟨en.mpr q, fun post p => ?_, fun post p => ?_⟩
      · repeat (first | refine br_f (by decide) ?_ | refine br_t (by decide) ?_)
        exact br_f (nI_nlt (b := 2) q (by omega)) p
      · repeat (first | refine br_f (by decide) ?_ | refine br_t (by decide) ?_)
        exact br_f (nI_nlt (b := 2) q (by omega)) p
    · refine Or.inr ⟨fun z => q (en.mp z), fun post p => ?_, fun post p => ?_⟩
      · repeat (first | refine br_f (by decide) ?_ | refine br_t (by decide) ?_)
        exact br_t (nI_lt (b := 2) (by omega) (by decide)) p
      · repeat (first | refine br_f (by decide) ?_ | refine br_t (by decide) ?_)
        exact br_t (nI_lt (b := 2) (by omega) (by decide)) p
  · have en : dm_nd 10 h ↔ h = 0 := by simp [dm_nd]
    by_cases q : h = 0
    · refine Or.inl ⟨en.mpr q, fun post p => ?_, fun post p => ?_⟩
      · repeat (first | refine br_f (by decide) ?_ | refine br_t (by decide) ?_)
        exact br_t (by rw [q]; rfl) p
      · repeat (first | refine br_f (by decide) ?_ | refine br_t (by decide) ?_)
        exact br_t (by rw [q]; rfl) p
    · refine Or.inr ⟨fun z => q (en.mp z), fun post p => ?_, fun post p => ?_⟩
      · repeat (first | refine br_f (by decide) ?_ | refine br_t (by decide) ?_)
        exact br_f (nI_ne0 (by omega) (by omega)) p
      · repeat (first | refine br_f (by decide) ?_ | refine br_t (by decide) ?_)
        exact br_f (nI_ne0 (by omega) (by omega)) p
  · have en : dm_nd 11 h ↔ h = 1 := by simp [dm_nd]
    by_cases q : h = 1
    · refine Or.inl ⟨en.mpr q, fun post p => ?_, fun post p => ?_⟩
      · repeat (first | refine br_f (by decide) ?_ | refine br_t (by decide) ?_)
        exact br_t (by rw [q]; rfl) p
      · repeat (first | refine br_f (by decide) ?_ | refine br_t (by decide) ?_)
        exact br_t (by rw [q]; rfl) p
    · refine Or.inr ⟨fun z => q (en.mp z), fun post p => ?_, fun post p => ?_⟩
      · repeat (first | refine br_f (by decide) ?_ | refine br_t (by decide) ?_)
        exact br_f (fun e => q ((nI_eq (b := 1) (by omega) (by decide)).mp e)) p
      · repeat (first | refine br_f (by decide) ?_ | refine br_t (by decide) ?_)
        exact br_f (fun e => q ((nI_eq (b := 1) (by omega) (by decide)).mp e)) p
  · have en : dm_nd 12 h ↔ h < 6 := by simp [dm_nd]
    by_cases q : h < 6
    · refine Or.inl ⟨en.mpr q, fun post p => ?_, fun post p => ?_⟩
      · repeat (first | refine br_f (by decide) ?_ | refine br_t (by decide) ?_)
        exact br_f (nI_ge (b := 6) q (by decide)) p
      · repeat (first | refine br_f (by decide) ?_ | refine br_t (by decide) ?_)
        exact br_f (nI_ge (b := 6) q (by decide)) p
    · refine Or.inr ⟨fun z => q (en.mp z), fun post p => ?_, fun post p => ?_⟩
      · repeat (first | refine br_f (by decide) ?_ | refine br_t (by decide) ?_)
        exact br_t (nI_le (a := 6) (by omega) (by omega)) p
      · repeat (first | refine br_f (by decide) ?_ | refine br_t (by decide) ?_)
        exact br_t (nI_le (a := 6) (by omega) (by omega)) p
  · have en : dm_nd 13 h ↔ 1 ≤ h := by simp [dm_nd]
    by_cases q : 1 ≤ h
    · refine Or.inl ⟨en.mpr q, fun post p => ?_, fun post p => ?_⟩
      · repeat (first | refine br_f (by decide) ?_ | refine br_t (by decide) ?_)
        exact br_f (nI_nlt (b := 1) q (by omega)) p
      · repeat (first | refine br_f (by decide) ?_ | refine br_t (by decide) ?_)
        exact br_f (nI_nlt (b := 1) q (by omega)) p
    · refine Or.inr ⟨fun z => q (en.mp z), fun post p => ?_, fun post p => ?_⟩
      · repeat (first | refine br_f (by decide) ?_ | refine br_t (by decide) ?_)
        exact br_t (nI_lt (b := 1) (by omega) (by decide)) p
      · repeat (first | refine br_f (by decide) ?_ | refine br_t (by decide) ?_)
        exact br_t (nI_lt (b := 1) (by omega) (by decide)) p
  · have en : dm_nd 14 h ↔ 2 ≤ h := by simp [dm_nd]
    by_cases q : 2 ≤ h
    · refine Or.inl ⟨en.mpr q, fun post p => ?_, fun post p => ?_⟩
      · repeat (first | refine br_f (by decide) ?_ | refine br_t (by decide) ?_)
        exact br_f (nI_nlt (b := 2) q (by omega)) p
      · repeat (first | refine br_f (by decide) ?_ | refine br_t (by decide) ?_)
        exact br_f (nI_nlt (b := 2) q (by omega)) p
    · refine Or.inr ⟨fun z => q (en.mp z), fun post p => ?_, fun post p => ?_⟩
      · repeat (first | refine br_f (by decide) ?_ | refine br_t (by decide) ?_)
        exact br_t (nI_lt (b := 2) (by omega) (by decide)) p
      · repeat (first | refine br_f (by decide) ?_ | refine br_t (by decide) ?_)
        exact br_t (nI_lt (b := 2) (by omega) (by decide)) p
  · have en : dm_nd 15 h ↔ 1 ≤ h := by simp [dm_nd]
    by_cases q : 1 ≤ h
    · refine Or.inl ⟨en.mpr q, fun post p => ?_, fun post p => ?_⟩
      · repeat (first | refine br_f (by decide) ?_ | refine br_t (by decide) ?_)
        exact br_f (nI_nlt (b := 1) q (by omega)) p
      · repeat (first | refine br_f (by decide) ?_ | refine br_t (by decide) ?_)
        exact br_f (nI_nlt (b := 1) q (by omega)) p
    · refine Or.inr ⟨fun z => q (en.mp z), fun post p => ?_, fun post p => ?_⟩
      · repeat (first | refine br_f (by decide) ?_ | refine br_t (by decide) ?_)
        exact br_t (nI_lt (b := 1) (by omega) (by decide)) p
      · repeat (first | refine br_f (by decide) ?_ | refine br_t (by decide) ?_)
        exact br_t (nI_lt (b := 1) (by omega) (by decide)) p
  · have en : dm_nd 16 h ↔ h = 1 := by simp [dm_nd]
    by_cases q : h = 1
    · refine Or.inl ⟨en.mpr q, fun post p => ?_, fun post p => ?_⟩
      · repeat (first | refine br_f (by decide) ?_ | refine br_t (by decide) ?_)
        exact br_t (by rw [q]; rfl) p
      · repeat (first | refine br_f (by decide) ?_ | refine br_t (by decide) ?_)
        exact br_t (by rw [q]; rfl) p
    · refine Or.inr ⟨fun z => q (en.mp z), fun post p => ?_, fun post p => ?_⟩
      · repeat (first | refine br_f (by decide) ?_ | refine br_t (by decide) ?_)
        exact br_f (fun e => q ((nI_eq (b := 1) (by omega) (by decide)).mp e)) p
      · repeat (first | refine br_f (by decide) ?_ | refine br_t (by decide) ?_)
        exact br_f (fun e => q ((nI_eq (b := 1) (by omega) (by decide)).mp e)) p
theorem dm_ig {o : Nat} (hF : 2 ≤ F) (hC : 8 ≤ C) (ho : o ≤ 16) :
    ((o = 0 ∨ 0 < dm_lim F C o) ∧ ∀ post : Int32 → Prop, post 0 → wpX_ignoresOperand post (nI o)) ∨ (¬ o = 0 ∧ dm_lim F C o = 0 ∧ ∀ post : Int32 → Prop, post 1 → wpX_ignoresOperand post (nI o)) := by
  have hc : o = 0 ∨ o = 1 ∨ o = 2 ∨ o = 3 ∨ o = 4 ∨ o = 5 ∨ o = 6 ∨ o = 7 ∨ o = 8 ∨ o = 9 ∨ o = 10 ∨ o = 11 ∨ o = 12 ∨ o = 13 ∨ o = 14 ∨ o = 15 ∨ o = 16 := by omega
  rcases hc with rfl | rfl | rfl | rfl | rfl | rfl | rfl | rfl | rfl | rfl | rfl | rfl | rfl | rfl | rfl | rfl | rfl
  · refine Or.inl ⟨Or.inl rfl, fun post p => ?_⟩
    unfold wpX_ignoresOperand
    repeat (first | refine br_f (by decide) ?_ | refine br_t (by decide) ?_)
    exact p
  · refine Or.inl ⟨Or.inr (by rw [show dm_lim F C 1 = 4 from by simp [dm_lim]]; omega), fun post p => ?_⟩
    unfold wpX_ignoresOperand
    repeat (first | refine br_f (by decide) ?_ | refine br_t (by decide) ?_)
    exact p
  · refine Or.inl ⟨Or.inr (by rw [show dm_lim F C 2 = 4 from by simp [dm_lim]]; omega), fun post p => ?_⟩
    unfold wpX_ignoresOperand
    repeat (first | refine br_f (by decide) ?_ | refine br_t (by decide) ?_)
    exact p
  · refine Or.inl ⟨Or.inr (by rw [show dm_lim F C 3 = 8 from by simp [dm_lim]]; omega), fun post p => ?_⟩
    unfold wpX_ignoresOperand
    repeat (first | refine br_f (by decide) ?_ | refine br_t (by decide) ?_)
    exact p
  · refine Or.inl ⟨Or.inr (by rw [show dm_lim F C 4 = 8 from by simp [dm_lim]]; omega), fun post p => ?_⟩
    unfold wpX_ignoresOperand
    repeat (first | refine br_f (by decide) ?_ | refine br_t (by decide) ?_)
    exact p
  · refine Or.inr ⟨by decide, by simp [dm_lim], fun post p => ?_⟩
    unfold wpX_ignoresOperand
    repeat (first | refine br_f (by decide) ?_ | refine br_t (by decide) ?_)
    exact p
  · refine Or.inr ⟨by decide, by simp [dm_lim], fun post p => ?_⟩
    unfold wpX_ignoresOperand
    repeat (first | refine br_f (by decide) ?_ | refine br_t (by decide) ?_)
    exact p
  · refine Or.inr ⟨by decide, by simp [dm_lim], fun post p => ?_⟩
    unfold wpX_ignoresOperand
    repeat (first | refine br_f (by decide) ?_ | refine br_t (by decide) ?_)
    exact p
  · refine Or.inr ⟨by decide, by simp [dm_lim], fun post p => ?_⟩
    unfold wpX_ignoresOperand
    repeat (first | refine br_f (by decide) ?_ | refine br_t (by decide) ?_)
    exact p
  · refine Or.inr ⟨by decide, by simp [dm_lim], fun post p => ?_⟩
    unfold wpX_ignoresOperand
    repeat (first | refine br_f (by decide) ?_ | refine br_t (by decide) ?_)
    exact p
  · refine Or.inl ⟨Or.inr (by rw [show dm_lim F C 10 = C from by simp [dm_lim]]; omega), fun post p => ?_⟩
    unfold wpX_ignoresOperand
    repeat (first | refine br_f (by decide) ?_ | refine br_t (by decide) ?_)
    exact p
  · refine Or.inl ⟨Or.inr (by rw [show dm_lim F C 11 = C from by simp [dm_lim]]; omega), fun post p => ?_⟩
    unfold wpX_ignoresOperand
    repeat (first | refine br_f (by decide) ?_ | refine br_t (by decide) ?_)
    exact p
  · refine Or.inl ⟨Or.inr (by rw [show dm_lim F C 12 = F from by simp [dm_lim]]; omega), fun post p => ?_⟩
    unfold wpX_ignoresOperand
    repeat (first | refine br_f (by decide) ?_ | refine br_t (by decide) ?_)
    exact p
  · refine Or.inl ⟨Or.inr (by rw [show dm_lim F C 13 = F from by simp [dm_lim]]; omega), fun post p => ?_⟩
    unfold wpX_ignoresOperand
    repeat (first | refine br_f (by decide) ?_ | refine br_t (by decide) ?_)
    exact p
  · refine Or.inl ⟨Or.inr (by rw [show dm_lim F C 14 = F from by simp [dm_lim]]; omega), fun post p => ?_⟩
    unfold wpX_ignoresOperand
    repeat (first | refine br_f (by decide) ?_ | refine br_t (by decide) ?_)
    exact p
  · refine Or.inr ⟨by decide, by simp [dm_lim], fun post p => ?_⟩
    unfold wpX_ignoresOperand
    repeat (first | refine br_f (by decide) ?_ | refine br_t (by decide) ?_)
    exact p
  · refine Or.inr ⟨by decide, by simp [dm_lim], fun post p => ?_⟩
    unfold wpX_ignoresOperand
    repeat (first | refine br_f (by decide) ?_ | refine br_t (by decide) ?_)
    exact p
theorem dm_ylim {o : Nat} {post : Int32 → Prop} (ho : o ≤ 16) (p : post (nI (dm_lim F C o))) : wpY_operandLimit post (dm_Y F C D fl oc rs st fc O xs L sl gl am ou FF FP PC lo pe) (nI o) := by
  have hc : o = 0 ∨ o = 1 ∨ o = 2 ∨ o = 3 ∨ o = 4 ∨ o = 5 ∨ o = 6 ∨ o = 7 ∨ o = 8 ∨ o = 9 ∨ o = 10 ∨ o = 11 ∨ o = 12 ∨ o = 13 ∨ o = 14 ∨ o = 15 ∨ o = 16 := by omega
  rcases hc with rfl | rfl | rfl | rfl | rfl | rfl | rfl | rfl | rfl | rfl | rfl | rfl | rfl | rfl | rfl | rfl | rfl
  · rw [show dm_lim F C 0 = 0 from by simp [dm_lim]] at p
    repeat (first | refine br_f (by decide) ?_ | refine br_t (by decide) ?_)
    exact p
  · rw [show dm_lim F C 1 = 4 from by simp [dm_lim]] at p
    repeat (first | refine br_f (by decide) ?_ | refine br_t (by decide) ?_)
    exact p
  · rw [show dm_lim F C 2 = 4 from by simp [dm_lim]] at p
    repeat (first | refine br_f (by decide) ?_ | refine br_t (by decide) ?_)
    exact p
  · rw [show dm_lim F C 3 = 8 from by simp [dm_lim]] at p
    repeat (first | refine br_f (by decide) ?_ | refine br_t (by decide) ?_)
    exact p
  · rw [show dm_lim F C 4 = 8 from by simp [dm_lim]] at p
    repeat (first | refine br_f (by decide) ?_ | refine br_t (by decide) ?_)
    exact p
  · rw [show dm_lim F C 5 = 0 from by simp [dm_lim]] at p
    repeat (first | refine br_f (by decide) ?_ | refine br_t (by decide) ?_)
    exact p
  · rw [show dm_lim F C 6 = 0 from by simp [dm_lim]] at p
    repeat (first | refine br_f (by decide) ?_ | refine br_t (by decide) ?_)
    exact p
  · rw [show dm_lim F C 7 = 0 from by simp [dm_lim]] at p
    repeat (first | refine br_f (by decide) ?_ | refine br_t (by decide) ?_)
    exact p
  · rw [show dm_lim F C 8 = 0 from by simp [dm_lim]] at p
    repeat (first | refine br_f (by decide) ?_ | refine br_t (by decide) ?_)
    exact p
  · rw [show dm_lim F C 9 = 0 from by simp [dm_lim]] at p
    repeat (first | refine br_f (by decide) ?_ | refine br_t (by decide) ?_)
    exact p
  · rw [show dm_lim F C 10 = C from by simp [dm_lim]] at p
    repeat (first | refine br_f (by decide) ?_ | refine br_t (by decide) ?_)
    exact p
  · rw [show dm_lim F C 11 = C from by simp [dm_lim]] at p
    repeat (first | refine br_f (by decide) ?_ | refine br_t (by decide) ?_)
    exact p
  · rw [show dm_lim F C 12 = F from by simp [dm_lim]] at p
    repeat (first | refine br_f (by decide) ?_ | refine br_t (by decide) ?_)
    exact p
  · rw [show dm_lim F C 13 = F from by simp [dm_lim]] at p
    repeat (first | refine br_f (by decide) ?_ | refine br_t (by decide) ?_)
    exact p
  · rw [show dm_lim F C 14 = F from by simp [dm_lim]] at p
    repeat (first | refine br_f (by decide) ?_ | refine br_t (by decide) ?_)
    exact p
  · rw [show dm_lim F C 15 = 0 from by simp [dm_lim]] at p
    repeat (first | refine br_f (by decide) ?_ | refine br_t (by decide) ?_)
    exact p
  · rw [show dm_lim F C 16 = 0 from by simp [dm_lim]] at p
    repeat (first | refine br_f (by decide) ?_ | refine br_t (by decide) ?_)
    exact p
theorem dm_xfit1 {o : Nat} {x : Int32} {post : Int32 → Prop} (hF : 2 ≤ F) (hF8 : F ≤ 8) (hC : 8 ≤ C) (hC32 : C ≤ 32) (ho : o ≤ 16) (hk : dm_lim F C o = 0 ∨ ∃ m, m < dm_lim F C o ∧ x = nI m) (p : post 1) : wpX_operandFits post (dm_X F C D fl oc rs st fc O xs H L sl gl am ou FF FP PC lo pe) (nI o) x := by
  have hc : o = 0 ∨ o = 1 ∨ o = 2 ∨ o = 3 ∨ o = 4 ∨ o = 5 ∨ o = 6 ∨ o = 7 ∨ o = 8 ∨ o = 9 ∨ o = 10 ∨ o = 11 ∨ o = 12 ∨ o = 13 ∨ o = 14 ∨ o = 15 ∨ o = 16 := by omega
  rcases hc with rfl | rfl | rfl | rfl | rfl | rfl | rfl | rfl | rfl | rfl | rfl | rfl | rfl | rfl | rfl | rfl | rfl
  · repeat (first | refine br_f (by decide) ?_ | refine br_t (by decide) ?_)
    exact p
  · rw [show dm_lim F C 1 = 4 from by simp [dm_lim]] at hk
    rcases hk with hk | ⟨m, hm, rfl⟩
    · omega
    · repeat (first | refine br_f (by decide) ?_ | refine br_t (by decide) ?_)
      refine br_f (nI_pos (by omega)) ?_
      repeat (first | refine br_f (by decide) ?_ | refine br_t (by decide) ?_)
      exact br_f (nI_ge (b := 4) hm (by omega)) p
  · rw [show dm_lim F C 2 = 4 from by simp [dm_lim]] at hk
    rcases hk with hk | ⟨m, hm, rfl⟩
    · omega
    · repeat (first | refine br_f (by decide) ?_ | refine br_t (by decide) ?_)
      refine br_f (nI_pos (by omega)) ?_
      repeat (first | refine br_f (by decide) ?_ | refine br_t (by decide) ?_)
      exact br_f (nI_ge (b := 4) hm (by omega)) p
  · rw [show dm_lim F C 3 = 8 from by simp [dm_lim]] at hk
    rcases hk with hk | ⟨m, hm, rfl⟩
    · omega
    · repeat (first | refine br_f (by decide) ?_ | refine br_t (by decide) ?_)
      refine br_f (nI_pos (by omega)) ?_
      repeat (first | refine br_f (by decide) ?_ | refine br_t (by decide) ?_)
      exact br_f (nI_ge (b := 8) hm (by omega)) p
  · rw [show dm_lim F C 4 = 8 from by simp [dm_lim]] at hk
    rcases hk with hk | ⟨m, hm, rfl⟩
    · omega
    · repeat (first | refine br_f (by decide) ?_ | refine br_t (by decide) ?_)
      refine br_f (nI_pos (by omega)) ?_
      repeat (first | refine br_f (by decide) ?_ | refine br_t (by decide) ?_)
      exact br_f (nI_ge (b := 8) hm (by omega)) p
  · repeat (first | refine br_f (by decide) ?_ | refine br_t (by decide) ?_)
    exact p
  · repeat (first | refine br_f (by decide) ?_ | refine br_t (by decide) ?_)
    exact p
  · repeat (first | refine br_f (by decide) ?_ | refine br_t (by decide) ?_)
    exact p
  · repeat (first | refine br_f (by decide) ?_ | refine br_t (by decide) ?_)
    exact p
  · repeat (first | refine br_f (by decide) ?_ | refine br_t (by decide) ?_)
    exact p
  · rw [show dm_lim F C 10 = C from by simp [dm_lim]] at hk
    rcases hk with hk | ⟨m, hm, rfl⟩
    · omega
    · repeat (first | refine br_f (by decide) ?_ | refine br_t (by decide) ?_)
      refine br_f (nI_pos (by omega)) ?_
      repeat (first | refine br_f (by decide) ?_ | refine br_t (by decide) ?_)
      exact br_f (nI_ge (b := C) hm (by omega)) p
  · rw [show dm_lim F C 11 = C from by simp [dm_lim]] at hk
    rcases hk with hk | ⟨m, hm, rfl⟩
    · omega
    · repeat (first | refine br_f (by decide) ?_ | refine br_t (by decide) ?_)
      refine br_f (nI_pos (by omega)) ?_
      repeat (first | refine br_f (by decide) ?_ | refine br_t (by decide) ?_)
      exact br_f (nI_ge (b := C) hm (by omega)) p
  · rw [show dm_lim F C 12 = F from by simp [dm_lim]] at hk
    rcases hk with hk | ⟨m, hm, rfl⟩
    · omega
    · repeat (first | refine br_f (by decide) ?_ | refine br_t (by decide) ?_)
      refine br_f (nI_pos (by omega)) ?_
      repeat (first | refine br_f (by decide) ?_ | refine br_t (by decide) ?_)
      exact br_f (nI_ge (b := F) hm (by omega)) p
  · rw [show dm_lim F C 13 = F from by simp [dm_lim]] at hk
    rcases hk with hk | ⟨m, hm, rfl⟩
    · omega
    · repeat (first | refine br_f (by decide) ?_ | refine br_t (by decide) ?_)
      refine br_f (nI_pos (by omega)) ?_
      repeat (first | refine br_f (by decide) ?_ | refine br_t (by decide) ?_)
      exact br_f (nI_ge (b := F) hm (by omega)) p
  · rw [show dm_lim F C 14 = F from by simp [dm_lim]] at hk
    rcases hk with hk | ⟨m, hm, rfl⟩
    · omega
    · repeat (first | refine br_f (by decide) ?_ | refine br_t (by decide) ?_)
      refine br_f (nI_pos (by omega)) ?_
      repeat (first | refine br_f (by decide) ?_ | refine br_t (by decide) ?_)
      exact br_f (nI_ge (b := F) hm (by omega)) p
  · repeat (first | refine br_f (by decide) ?_ | refine br_t (by decide) ?_)
    exact p
  · repeat (first | refine br_f (by decide) ?_ | refine br_t (by decide) ?_)
    exact p
theorem dm_xfit0 {o : Nat} {x : Int32} {post : Int32 → Prop} (ho : o ≤ 16) (h0 : 0 < dm_lim F C o) (hk : x < 0 ∨ (¬ x < 0 ∧ nI (dm_lim F C o) ≤ x)) (p : post 0) : wpX_operandFits post (dm_X F C D fl oc rs st fc O xs H L sl gl am ou FF FP PC lo pe) (nI o) x := by
  have hc : o = 0 ∨ o = 1 ∨ o = 2 ∨ o = 3 ∨ o = 4 ∨ o = 5 ∨ o = 6 ∨ o = 7 ∨ o = 8 ∨ o = 9 ∨ o = 10 ∨ o = 11 ∨ o = 12 ∨ o = 13 ∨ o = 14 ∨ o = 15 ∨ o = 16 := by omega
  rcases hc with rfl | rfl | rfl | rfl | rfl | rfl | rfl | rfl | rfl | rfl | rfl | rfl | rfl | rfl | rfl | rfl | rfl
  · rw [show dm_lim F C 0 = 0 from by simp [dm_lim]] at h0
    omega
  · rw [show dm_lim F C 1 = 4 from by simp [dm_lim]] at hk
    repeat (first | refine br_f (by decide) ?_ | refine br_t (by decide) ?_)
    rcases hk with hk | ⟨hk, hk2⟩
    · exact br_t hk p
    · refine br_f hk ?_
      repeat (first | refine br_f (by decide) ?_ | refine br_t (by decide) ?_)
      exact br_t hk2 p
  · rw [show dm_lim F C 2 = 4 from by simp [dm_lim]] at hk
    repeat (first | refine br_f (by decide) ?_ | refine br_t (by decide) ?_)
    rcases hk with hk | ⟨hk, hk2⟩
    · exact br_t hk p
    · refine br_f hk ?_
      repeat (first | refine br_f (by decide) ?_ | refine br_t (by decide) ?_)
      exact br_t hk2 p
  · rw [show dm_lim F C 3 = 8 from by simp [dm_lim]] at hk
    repeat (first | refine br_f (by decide) ?_ | refine br_t (by decide) ?_)
    rcases hk with hk | ⟨hk, hk2⟩
    · exact br_t hk p
    · refine br_f hk ?_
      repeat (first | refine br_f (by decide) ?_ | refine br_t (by decide) ?_)
      exact br_t hk2 p
  · rw [show dm_lim F C 4 = 8 from by simp [dm_lim]] at hk
    repeat (first | refine br_f (by decide) ?_ | refine br_t (by decide) ?_)
    rcases hk with hk | ⟨hk, hk2⟩
    · exact br_t hk p
    · refine br_f hk ?_
      repeat (first | refine br_f (by decide) ?_ | refine br_t (by decide) ?_)
      exact br_t hk2 p
  · rw [show dm_lim F C 5 = 0 from by simp [dm_lim]] at h0
    omega
  · rw [show dm_lim F C 6 = 0 from by simp [dm_lim]] at h0
    omega
  · rw [show dm_lim F C 7 = 0 from by simp [dm_lim]] at h0
    omega
  · rw [show dm_lim F C 8 = 0 from by simp [dm_lim]] at h0
    omega
  · rw [show dm_lim F C 9 = 0 from by simp [dm_lim]] at h0
    omega
  · rw [show dm_lim F C 10 = C from by simp [dm_lim]] at hk
    repeat (first | refine br_f (by decide) ?_ | refine br_t (by decide) ?_)
    rcases hk with hk | ⟨hk, hk2⟩
    · exact br_t hk p
    · refine br_f hk ?_
      repeat (first | refine br_f (by decide) ?_ | refine br_t (by decide) ?_)
      exact br_t hk2 p
  · rw [show dm_lim F C 11 = C from by simp [dm_lim]] at hk
    repeat (first | refine br_f (by decide) ?_ | refine br_t (by decide) ?_)
    rcases hk with hk | ⟨hk, hk2⟩
    · exact br_t hk p
    · refine br_f hk ?_
      repeat (first | refine br_f (by decide) ?_ | refine br_t (by decide) ?_)
      exact br_t hk2 p
  · rw [show dm_lim F C 12 = F from by simp [dm_lim]] at hk
    repeat (first | refine br_f (by decide) ?_ | refine br_t (by decide) ?_)
    rcases hk with hk | ⟨hk, hk2⟩
    · exact br_t hk p
    · refine br_f hk ?_
      repeat (first | refine br_f (by decide) ?_ | refine br_t (by decide) ?_)
      exact br_t hk2 p
  · rw [show dm_lim F C 13 = F from by simp [dm_lim]] at hk
    repeat (first | refine br_f (by decide) ?_ | refine br_t (by decide) ?_)
    rcases hk with hk | ⟨hk, hk2⟩
    · exact br_t hk p
    · refine br_f hk ?_
      repeat (first | refine br_f (by decide) ?_ | refine br_t (by decide) ?_)
      exact br_t hk2 p
  · rw [show dm_lim F C 14 = F from by simp [dm_lim]] at hk
    repeat (first | refine br_f (by decide) ?_ | refine br_t (by decide) ?_)
    rcases hk with hk | ⟨hk, hk2⟩
    · exact br_t hk p
    · refine br_f hk ?_
      repeat (first | refine br_f (by decide) ?_ | refine br_t (by decide) ?_)
      exact br_t hk2 p
  · rw [show dm_lim F C 15 = 0 from by simp [dm_lim]] at h0
    omega
  · rw [show dm_lim F C 16 = 0 from by simp [dm_lim]] at h0
    omega
end
end DME
