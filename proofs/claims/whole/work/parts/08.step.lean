section DMH
/-! H: one step of a run: the rules -/
/-- what one instruction does from a state with t + 1 frames: on both sides it goes on to one next state, or ends the slice in related states -/
def dm_Go (F C D : Nat) (fl : Int32) (oc : Nat) (rs : Int32) (t : Nat) (O : Nat → Nat) (xs : Nat → Int32) (H L : Nat → Nat) (sl gl am ou : Nat → Int32) (FF FP PC : Nat → Nat) (lo pe : Nat → Int32) (o x cl : Int32) : Prop :=
  (∃ (fl' : Int32) (oc' fc' : Nat) (gl' am' ou' : Nat → Int32) (FF' FP' PC' : Nat → Nat) (lo' pe' : Nat → Int32),
    dm_I F C D oc' fc' 1 O xs H L sl FF' FP' PC' ∧
    (∀ (post : Int32 → SX → Prop) (K : (Int32 → Int32 → Int32 → Int32 → Int32 → Int32 → Int32 → Int32 → Int32 → Int32 → (Nat → Int32) → (Nat → Int32) → (Nat → Int32) → (Nat → Int32) → (Nat → Int32) → (Nat → Int32) → (Nat → Int32) → (Nat → Int32) → (Nat → Int32) → (Nat → Int32) → (Nat → Int32) → (Nat → Int32) → (Nat → Int32) → Prop)) (c s : Int32), K c (s + 1) (nI F) (nI C) (nI D) fl' (nI oc') rs 1 (nI fc') (dm_nn O) xs (dm_nn H) (dm_nn L) sl gl' am' ou' (dm_nn FF') (dm_nn FP') (dm_nn PC') lo' pe' → wX_run_109 post K c s o x (nI F) (nI C) (nI D) fl (nI oc) rs 1 (nI (t + 1)) (dm_nn O) xs (dm_nn H) (dm_nn L) sl gl am ou (dm_nn FF) (dm_nn FP) (dm_nn PC) lo pe) ∧
    (∀ (post : Int32 → SY → Prop) (K : (Int32 → Int32 → Int32 → Int32 → Int32 → Int32 → Int32 → Int32 → Int32 → Int32 → (Nat → Int32) → (Nat → Int32) → (Nat → Int32) → (Nat → Int32) → (Nat → Int32) → (Nat → Int32) → (Nat → Int32) → (Nat → Int32) → (Nat → Int32) → (Nat → Int32) → (Nat → Int32) → (Nat → Int32) → Prop)) (c s : Int32), K c (s + 1) (nI F) (nI C) (nI D) fl' (nI oc') rs 1 (nI fc') (dm_nn O) xs (dm_nn L) sl gl' am' ou' (dm_nn FF') (dm_nn FP') (dm_nn PC') lo' pe' → wY_run_170 post K c s (nI t) (nI (FP t)) o x cl (nI F) (nI C) (nI D) fl (nI oc) rs 1 (nI (t + 1)) (dm_nn O) xs (dm_nn L) sl gl am ou (dm_nn FF) (dm_nn FP) (dm_nn PC) lo pe))
  ∨ (∃ (r : Int32) (u : SX) (v : SY), i_Rel 0 u v ∧
    (∀ (post : Int32 → SX → Prop) (K : (Int32 → Int32 → Int32 → Int32 → Int32 → Int32 → Int32 → Int32 → Int32 → Int32 → (Nat → Int32) → (Nat → Int32) → (Nat → Int32) → (Nat → Int32) → (Nat → Int32) → (Nat → Int32) → (Nat → Int32) → (Nat → Int32) → (Nat → Int32) → (Nat → Int32) → (Nat → Int32) → (Nat → Int32) → (Nat → Int32) → Prop)) (c s : Int32), post r u → wX_run_109 post K c s o x (nI F) (nI C) (nI D) fl (nI oc) rs 1 (nI (t + 1)) (dm_nn O) xs (dm_nn H) (dm_nn L) sl gl am ou (dm_nn FF) (dm_nn FP) (dm_nn PC) lo pe) ∧
    (∀ (post : Int32 → SY → Prop) (K : (Int32 → Int32 → Int32 → Int32 → Int32 → Int32 → Int32 → Int32 → Int32 → Int32 → (Nat → Int32) → (Nat → Int32) → (Nat → Int32) → (Nat → Int32) → (Nat → Int32) → (Nat → Int32) → (Nat → Int32) → (Nat → Int32) → (Nat → Int32) → (Nat → Int32) → (Nat → Int32) → (Nat → Int32) → Prop)) (c s : Int32), post r v → wY_run_170 post K c s (nI t) (nI (FP t)) o x cl (nI F) (nI C) (nI D) fl (nI oc) rs 1 (nI (t + 1)) (dm_nn O) xs (dm_nn L) sl gl am ou (dm_nn FF) (dm_nn FP) (dm_nn PC) lo pe))
section
variable {F C D : Nat} {fl : Int32} {oc : Nat} {rs st : Int32} {fc : Nat} {O : Nat → Nat} {xs : Nat → Int32} {H L : Nat → Nat} {sl gl am ou : Nat → Int32} {FF FP PC : Nat → Nat} {lo pe : Nat → Int32} {t o : Nat}
theorem dm_top (I : dm_I F C D oc (t + 1) 1 O xs H L sl FF FP PC) (ho : O (FF t * 32 + FP t) = o) :
    t < 8 ∧ FF t < F ∧ ¬ sl (FF t) = 0 ∧ FP t < L (FF t) ∧ L (FF t) ≤ C ∧ dm_oo F C o (xs (FF t * 32 + FP t)) ∧ PC t ≤ 6 ∧ dm_nd o (PC t) ∧ dm_hb H (FF t) (FP t + 1) = dm_af o (PC t) := by
  obtain ⟨⟨a1, a2, a3, a4, a5, a6, a7, a8⟩, b1, K, S, T⟩ := I
  obtain ⟨a, b, c, e⟩ := T t (Nat.lt_succ_self t)
  rw [if_pos rfl, Nat.add_zero] at e
  obtain ⟨_, oo, h6, hn, eH⟩ := (K (FF t) a).2 (FP t) c
  rw [ho] at oo hn eH
  rw [← e] at h6 hn eH
  exact ⟨by omega, a, b, c, (K (FF t) a).1, oo, h6, hn, eH⟩
/-- on to the next instruction -/
theorem dm_Ig (I : dm_I F C D oc (t + 1) 1 O xs H L sl FF FP PC) (ho : O (FF t * 32 + FP t) = o) (n10 : o ≠ 10) (n16 : o ≠ 16) {oc' : Nat} (hoc : oc' ≤ 16) {PC' : Nat → Nat} (hc : ∀ d, d ≠ t → PC' d = PC d) (h2 : PC' t = dm_af o (PC t)) :
    dm_I F C D oc' (t + 1) 1 O xs H L sl FF (dm_un FP t (FP t + 1)) PC' := by
  obtain ⟨ht, a, b, c, _, _, _, _, eH⟩ := dm_top I ho
  obtain ⟨⟨a1, a2, a3, a4, a5, a6, a7, a8⟩, b1, K, S, T⟩ := I
  refine ⟨⟨a1, a2, a3, a4, a5, a6, hoc, a8⟩, b1, K, S, dm_FKg T (fun d hd => dm_ud hd) hc ?_ ?_⟩
  · rw [dm_us]
    exact dm_nx S a b c (by rw [ho]; exact n10) (by rw [ho]; exact n16)
  · rw [dm_us, eH]
    exact h2
/-- a jump -/
theorem dm_Ij (I : dm_I F C D oc (t + 1) 1 O xs H L sl FF FP PC) {p : Nat} (hp : p < L (FF t)) (hb : dm_hb H (FF t) p = 0) {FP' PC' : Nat → Nat} (hf : ∀ d, d ≠ t → FP' d = FP d) (hc : ∀ d, d ≠ t → PC' d = PC d) (h1 : FP' t = p) (h2 : PC' t = 0) :
    dm_I F C D oc (t + 1) 1 O xs H L sl FF FP' PC' := by
  obtain ⟨⟨a1, a2, a3, a4, a5, a6, a7, a8⟩, b1, K, S, T⟩ := I
  refine ⟨⟨a1, a2, a3, a4, a5, a6, a7, a8⟩, b1, K, S, dm_FKg T hf hc ?_ ?_⟩
  · rw [h1]
    exact hp
  · rw [h1, hb]
    exact h2
/-- a call -/
theorem dm_Ic (I : dm_I F C D oc (t + 1) 1 O xs H L sl FF FP PC) (ho : O (FF t * 32 + FP t) = o) (n10 : o ≠ 10) (n16 : o ≠ 16) (hD : t + 1 < D) {m : Nat} (hm : m < F) (hs : ¬ sl m = 0) {PC' : Nat → Nat} (hc : ∀ d, d ≠ t → PC' d = PC d) (h2 : PC' t + 1 = dm_af o (PC t)) :
    dm_I F C D oc (t + 2) 1 O xs H L sl (dm_un FF (t + 1) m) (dm_un (dm_un FP t (FP t + 1)) (t + 1) 0) (dm_un PC' (t + 1) 0) := by
  obtain ⟨ht, a, b, c, _, _, _, _, eH⟩ := dm_top I ho
  obtain ⟨⟨a1, a2, a3, a4, a5, a6, a7, a8⟩, b1, K, S, T⟩ := I
  have hne : t ≠ t + 1 := by omega
  refine ⟨⟨a1, a2, a3, a4, a5, a6, a7, by omega⟩, Or.inl ⟨rfl, by omega⟩, K, S, dm_FKc T (fun d hd => dm_ud hd) (fun d h h' => ?_) (fun d h h' => ?_) ?_ ?_ ?_ ?_ dm_us dm_us ?_⟩
  · rw [dm_ud h', dm_ud h]
  · rw [dm_ud h', hc d h]
  · rw [dm_ud hne, dm_us]
    exact dm_nx S a b c (by rw [ho]; exact n10) (by rw [ho]; exact n16)
  · rw [dm_ud hne, dm_ud hne, dm_us, eH]
    exact h2
  · rw [dm_us]
    exact hm
  · rw [dm_us]
    exact hs
  · rw [dm_us]
    exact (S m hm hs).1
/-- a return to a caller -/
theorem dm_Ir (I : dm_I F C D oc (t + 1 + 1) 1 O xs H L sl FF FP PC) {FP' PC' : Nat → Nat} (hf : ∀ d, d < t + 1 → FP' d = FP d) (hc : ∀ d, d < t → PC' d = PC d) (h2 : PC' t = PC t + 1) :
    dm_I F C D oc (t + 1) 1 O xs H L sl FF FP' PC' := by
  obtain ⟨⟨a1, a2, a3, a4, a5, a6, a7, a8⟩, b1, K, S, T⟩ := I
  exact ⟨⟨a1, a2, a3, a4, a5, a6, a7, by omega⟩, Or.inl ⟨rfl, by omega⟩, K, S, dm_FKt T hf hc h2⟩
theorem dm_pcr (I : dm_I F C D oc (t + 1 + 1) 1 O xs H L sl FF FP PC) : PC t < 6 := by
  obtain ⟨_, b1, K, S, T⟩ := I
  obtain ⟨a, _, c, e⟩ := T t (by omega)
  rw [if_neg (by omega)] at e
  have := dm_hb6 K a (Nat.le_of_lt c)
  omega
theorem dm_eFP (ht : t < 8) : upd (dm_nn FP) (nI t).toNatClampNeg (nI (FP t) + 1) = dm_nn (dm_un FP t (FP t + 1)) := by
  rw [nI_1]
  exact dm_u0 ht _
end
end DMH
