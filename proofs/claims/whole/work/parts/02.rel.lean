section DMB
/-! B: the relation -/
abbrev dm_X (F C D : Nat) (fl : Int32) (oc : Nat) (rs st : Int32) (fc : Nat) (O : Nat → Nat) (xs : Nat → Int32) (H L : Nat → Nat) (sl gl am ou : Nat → Int32) (FF FP PC : Nat → Nat) (lo pe : Nat → Int32) : SX :=
  ((nI F), (nI C), (nI D), fl, (nI oc), rs, st, (nI fc), (dm_nn O), xs, (dm_nn H), (dm_nn L), sl, gl, am, ou, (dm_nn FF), (dm_nn FP), (dm_nn PC), lo, pe)
abbrev dm_Y (F C D : Nat) (fl : Int32) (oc : Nat) (rs st : Int32) (fc : Nat) (O : Nat → Nat) (xs : Nat → Int32) (L : Nat → Nat) (sl gl am ou : Nat → Int32) (FF FP PC : Nat → Nat) (lo pe : Nat → Int32) : SY :=
  ((nI F), (nI C), (nI D), fl, (nI oc), rs, st, (nI fc), (dm_nn O), xs, (dm_nn L), sl, gl, am, ou, (dm_nn FF), (dm_nn FP), (dm_nn PC), lo, pe)
def dm_I (F C D oc fc : Nat) (st : Int32) (O : Nat → Nat) (xs : Nat → Int32) (H L : Nat → Nat) (sl : Nat → Int32) (FF FP PC : Nat → Nat) : Prop :=
  (2 ≤ F ∧ F ≤ 8 ∧ 8 ≤ C ∧ C ≤ 32 ∧ 2 ≤ D ∧ D ≤ 8 ∧ oc ≤ 16 ∧ fc ≤ D) ∧ (st = 1 ∧ 0 < fc ∨ ¬ st = 1 ∧ fc = 0) ∧ dm_CK F C O xs H L ∧ dm_SK F O xs H L sl ∧ dm_FK F H L sl fc FF FP PC
def i_Rel (_ : Nat) (u : SX) (v : SY) : Prop :=
  ∃ (F C D : Nat) (fl : Int32) (oc : Nat) (rs st : Int32) (fc : Nat) (O : Nat → Nat) (xs : Nat → Int32) (H L : Nat → Nat) (sl gl am ou : Nat → Int32) (FF FP PC : Nat → Nat) (lo pe : Nat → Int32),
    u = (dm_X F C D fl oc rs st fc O xs H L sl gl am ou FF FP PC lo pe) ∧ v = (dm_Y F C D fl oc rs st fc O xs L sl gl am ou FF FP PC lo pe) ∧ dm_I F C D oc fc st O xs H L sl FF FP PC
theorem i_up {k : Nat} {u : SX} {v : SY} (h : i_Rel k u v) : i_Rel (k + 4) u v := h
def dm_J (wX : (Int32 → SX → Prop) → Prop) (wY : (Int32 → SY → Prop) → Prop) : Prop :=
  ∃ (r : Int32) (u : SX) (v : SY), i_Rel 0 u v ∧ (∀ post : Int32 → SX → Prop, post r u → wX post) ∧ (∀ post : Int32 → SY → Prop, post r v → wY post)
def dm_K (wX wY : (Int32 → Prop) → Prop) : Prop :=
  ∃ r : Int32, (∀ post : Int32 → Prop, post r → wX post) ∧ (∀ post : Int32 → Prop, post r → wY post)
theorem dm_Jv {wX : (Int32 → SX → Prop) → Prop} {wY : (Int32 → SY → Prop) → Prop} {k : Nat} (J : dm_J wX wY) : wX (fun r u' => wY (fun r' v' => r' = r ∧ i_Rel (k + 4) u' v')) := by
  obtain ⟨r, u, v, R, a, b⟩ := J
  exact a _ (b _ ⟨rfl, R⟩)
theorem dm_Kv {wX wY : (Int32 → Prop) → Prop} {P : Prop} (J : dm_K wX wY) (R : P) : wX (fun r => wY (fun r' => r' = r ∧ P)) := by
  obtain ⟨r, a, b⟩ := J
  exact a _ (b _ ⟨rfl, R⟩)
section
variable {F C D : Nat} {fl : Int32} {oc : Nat} {rs st : Int32} {fc : Nat} {O : Nat → Nat} {xs : Nat → Int32} {H L : Nat → Nat} {sl gl am ou : Nat → Int32} {FF FP PC : Nat → Nat} {lo pe : Nat → Int32}
theorem dm_R (I : dm_I F C D oc fc st O xs H L sl FF FP PC) : i_Rel 0 (dm_X F C D fl oc rs st fc O xs H L sl gl am ou FF FP PC lo pe) (dm_Y F C D fl oc rs st fc O xs L sl gl am ou FF FP PC lo pe) :=
  ⟨F, C, D, fl, oc, rs, st, fc, O, xs, H, L, sl, gl, am, ou, FF, FP, PC, lo, pe, rfl, rfl, I⟩
/-- the same state again, with an answer -/
theorem dm_same {wX : (Int32 → SX → Prop) → Prop} {wY : (Int32 → SY → Prop) → Prop} (I : dm_I F C D oc fc st O xs H L sl FF FP PC) (r : Int32) (a : ∀ post : Int32 → SX → Prop, post r (dm_X F C D fl oc rs st fc O xs H L sl gl am ou FF FP PC lo pe) → wX post) (b : ∀ post : Int32 → SY → Prop, post r (dm_Y F C D fl oc rs st fc O xs L sl gl am ou FF FP PC lo pe) → wY post) : dm_J wX wY :=
  ⟨r, (dm_X F C D fl oc rs st fc O xs H L sl gl am ou FF FP PC lo pe), (dm_Y F C D fl oc rs st fc O xs L sl gl am ou FF FP PC lo pe), dm_R I, a, b⟩
/-! arguments -/
theorem dm_fn (v : Int32) {n : Nat} (hn : n < 2 ^ 31) : v < 0 ∨ (¬ v < 0 ∧ nI n ≤ v) ∨ ∃ f : Nat, f < n ∧ v = nI f := by
  rcases pk_ix v hn with h | h | h
  · exact Or.inl h
  · exact Or.inr (Or.inl ⟨Int32.not_lt.mpr (Int32.le_trans (nI_pos' hn) h), h⟩)
  · exact Or.inr (Or.inr h)
theorem dm_xF0 {post : Int32 → Prop} {v : Int32} (h : v < 0) (p : post 0) : wpX_isFunction post (dm_X F C D fl oc rs st fc O xs H L sl gl am ou FF FP PC lo pe) v := br_t h p
theorem dm_xF1 {post : Int32 → Prop} {v : Int32} (h : ¬ v < 0) (h2 : nI F ≤ v) (p : post 0) : wpX_isFunction post (dm_X F C D fl oc rs st fc O xs H L sl gl am ou FF FP PC lo pe) v := br_f h (br_t h2 p)
theorem dm_xF2 {post : Int32 → Prop} {f : Nat} (hF : F ≤ 8) (hf : f < F) (p : post 1) : wpX_isFunction post (dm_X F C D fl oc rs st fc O xs H L sl gl am ou FF FP PC lo pe) (nI f) := br_f (nI_pos (by omega)) (br_f (nI_ge hf (by omega)) p)
theorem dm_10 : ¬ (1 : Int32) = 0 := by decide
theorem dm_vb0 : vp_nar .boolean 0 = 0 := by decide
theorem dm_vb1 : vp_nar .boolean 1 = 1 := by decide
/-! the constructors -/
theorem dm_cl (x p1 p2 : Int32) (a b : Nat) (hab : a ≤ b) (hb : b < 2 ^ 31) (e1 : p1 = nI a) (e2 : p2 = nI b) : ∃ n, a ≤ n ∧ n ≤ b ∧ ∀ P : Int32 → Prop, P (nI n) → wpX_clamp P x p1 p2 := by
  subst e1 e2
  by_cases h : nI a ≤ x
  · by_cases h2 : x ≤ nI b
    · have h0 : ¬ x < 0 := Int32.not_lt.mpr (Int32.le_trans (nI_pos' (by omega)) h)
      obtain ⟨j, hj, rfl⟩ := nI_of h0
      exact ⟨j, (nI_leI (by omega) hj).mp h, (nI_leI hj hb).mp h2, fun P p => br_t h (br_t h2 p)⟩
    · exact ⟨b, hab, Nat.le_refl _, fun P p => br_t h (br_f h2 p)⟩
  · exact ⟨a, Nat.le_refl _, hab, fun P p => br_f h p⟩
theorem dm_init (k0 k1 k2 k3 : Int32) : ∃ F C D : Nat, 2 ≤ F ∧ F ≤ 8 ∧ 8 ≤ C ∧ C ≤ 32 ∧ 2 ≤ D ∧ D ≤ 8 ∧
    (∀ post : SX → Prop, post (dm_X F C D 0 0 0 0 0 (fun _ => 0) (fun _ => 0) (fun _ => 0) (fun _ => 0) (fun _ => 0) (fun _ => 0) (fun _ => 0) (fun _ => 0) (fun _ => 0) (fun _ => 0) (fun _ => 0) (fun _ => 0) (fun _ => 0)) → wpX_init post k0 k1 k2 k3) ∧
    (∀ post : SY → Prop, post (dm_Y F C D 0 0 0 0 0 (fun _ => 0) (fun _ => 0) (fun _ => 0) (fun _ => 0) (fun _ => 0) (fun _ => 0) (fun _ => 0) (fun _ => 0) (fun _ => 0) (fun _ => 0) (fun _ => 0) (fun _ => 0)) → wpY_init post k0 k1 k2 k3) := by
  obtain ⟨F, f1, f2, hF⟩ := dm_cl k0 2 8 2 8 (by decide) (by decide) rfl rfl
  obtain ⟨C, c1, c2, hC⟩ := dm_cl k1 8 32 8 32 (by decide) (by decide) rfl rfl
  obtain ⟨D, d1, d2, hD⟩ := dm_cl k2 2 8 2 8 (by decide) (by decide) rfl rfl
  refine ⟨F, C, D, f1, f2, c1, c2, d1, d2, fun post p => ?_, fun post p => ?_⟩
  · unfold wpX_init
    refine hF _ ?_
    refine hC _ ?_
    exact hD _ p
  · refine hF (fun r => wY_init_149 post k1 k2 r 0 0 0 0 0 0 0 0 (fun _ => 0) (fun _ => 0) (fun _ => 0) (fun _ => 0) (fun _ => 0) (fun _ => 0) (fun _ => 0) (fun _ => 0) (fun _ => 0) (fun _ => 0) (fun _ => 0) (fun _ => 0)) ?_
    refine hC (fun r => wY_init_176 post k2 r (nI F) 0 0 0 0 0 0 0 (fun _ => 0) (fun _ => 0) (fun _ => 0) (fun _ => 0) (fun _ => 0) (fun _ => 0) (fun _ => 0) (fun _ => 0) (fun _ => 0) (fun _ => 0) (fun _ => 0) (fun _ => 0)) ?_
    exact hD (fun r => post (nI F, nI C, r, 0, 0, 0, 0, 0, (fun _ => 0), (fun _ => 0), (fun _ => 0), (fun _ => 0), (fun _ => 0), (fun _ => 0), (fun _ => 0), (fun _ => 0), (fun _ => 0), (fun _ => 0), (fun _ => 0), (fun _ => 0))) p
/-! status, abandon, output, clearOutput -/
theorem dm_status (v : Int32) : dm_K (fun p => wpX_status p (dm_X F C D fl oc rs st fc O xs H L sl gl am ou FF FP PC lo pe) v) (fun p => wpY_status p (dm_Y F C D fl oc rs st fc O xs L sl gl am ou FF FP PC lo pe) v) := by
  by_cases h0 : v = 0
  · subst h0
    exact ⟨st, fun _ p => br_f (by decide) (br_f (by decide) (br_t rfl p)), fun _ p => br_t rfl p⟩
  by_cases h1 : v = 1
  · subst h1
    exact ⟨rs, fun _ p => br_f (by decide) (br_f (by decide) (br_f (by decide) (br_t rfl p))), fun _ p => br_f (by decide) (br_t rfl p)⟩
  by_cases h2 : v = 2
  · subst h2
    exact ⟨nI fc, fun _ p => br_f (by decide) (br_f (by decide) (br_f (by decide) (br_f (by decide) (br_t rfl p)))), fun _ p => br_f (by decide) (br_f (by decide) (br_t rfl p))⟩
  by_cases h3 : v = 3
  · subst h3
    exact ⟨nI oc, fun _ p => br_f (by decide) (br_f (by decide) (br_f (by decide) (br_f (by decide) (br_f (by decide) (br_t rfl p))))), fun _ p => br_f (by decide) (br_f (by decide) (br_f (by decide) (br_t rfl p)))⟩
  by_cases h4 : v = 4
  · subst h4
    exact ⟨fl, fun _ p => br_f (by decide) (br_f (by decide) (br_f (by decide) (br_f (by decide) (br_f (by decide) (br_f (by decide) (br_t rfl p)))))), fun _ p => br_f (by decide) (br_f (by decide) (br_f (by decide) (br_f (by decide) (br_t rfl p))))⟩
  exact ⟨0, fun _ p => br_c (fun _ => p) (fun _ => br_c (fun _ => p) (fun _ => br_f h0 (br_f h1 (br_f h2 (br_f h3 (br_f h4 trivial)))))), fun _ p => br_f h0 (br_f h1 (br_f h2 (br_f h3 (br_f h4 p))))⟩
theorem dm_abandon (I : dm_I F C D oc fc st O xs H L sl FF FP PC) : dm_J (fun p => wpX_abandon p (dm_X F C D fl oc rs st fc O xs H L sl gl am ou FF FP PC lo pe)) (fun p => wpY_abandon p (dm_Y F C D fl oc rs st fc O xs L sl gl am ou FF FP PC lo pe)) := by
  by_cases h : st = 1
  · refine ⟨1, (dm_X F C D fl oc rs 0 0 O xs H L sl gl am ou FF FP PC lo pe), (dm_Y F C D fl oc rs 0 0 O xs L sl gl am ou FF FP PC lo pe), dm_R ?_, fun _ p => br_t h p, fun _ p => br_t h p⟩
    obtain ⟨⟨a1, a2, a3, a4, a5, a6, a7, a8⟩, b, c, d, e⟩ := I
    exact ⟨⟨a1, a2, a3, a4, a5, a6, a7, Nat.zero_le _⟩, Or.inr ⟨by decide, rfl⟩, c, d, dm_FK0⟩
  · exact dm_same I 0 (fun _ p => br_f h p) (fun _ p => br_f h p)
theorem dm_output (I : dm_I F C D oc fc st O xs H L sl FF FP PC) (v : Int32) : dm_K (fun p => wpX_output p (dm_X F C D fl oc rs st fc O xs H L sl gl am ou FF FP PC lo pe) v) (fun p => wpY_output p (dm_Y F C D fl oc rs st fc O xs L sl gl am ou FF FP PC lo pe) v) := by
  have ho : oc ≤ 16 := I.1.2.2.2.2.2.2.1
  rcases dm_fn v (n := oc) (by omega) with h | ⟨h, h2⟩ | ⟨j, hj, rfl⟩
  · exact ⟨0, fun _ p => br_t h p, fun _ p => br_t h p⟩
  · exact ⟨0, fun _ p => br_f h (br_t h2 p), fun _ p => br_f h (br_f (Int32.not_lt.mpr h2) p)⟩
  · exact ⟨ou (nI j).toNatClampNeg, fun _ p => br_f (nI_pos (by omega)) (br_f (nI_ge hj (by omega)) ⟨vp_in_nI (by omega) (by omega), p⟩),
      fun _ p => br_f (nI_pos (by omega)) (br_t (nI_lt hj (by omega)) ⟨vp_in_nI (by omega) (by omega), p⟩)⟩
theorem dm_clear (I : dm_I F C D oc fc st O xs H L sl FF FP PC) : dm_J (fun p => wpX_clearOutput p (dm_X F C D fl oc rs st fc O xs H L sl gl am ou FF FP PC lo pe)) (fun p => wpY_clearOutput p (dm_Y F C D fl oc rs st fc O xs L sl gl am ou FF FP PC lo pe)) := by
  refine ⟨nI oc, (dm_X F C D fl 0 rs st fc O xs H L sl gl am ou FF FP PC lo pe), (dm_Y F C D fl 0 rs st fc O xs L sl gl am ou FF FP PC lo pe), dm_R ?_, fun _ p => p, fun _ p => p⟩
  obtain ⟨⟨a1, a2, a3, a4, a5, a6, a7, a8⟩, b⟩ := I
  exact ⟨⟨a1, a2, a3, a4, a5, a6, Nat.zero_le _, a8⟩, b⟩
/-! globals -/
theorem dm_7 {v : Int32} (h : nI 8 ≤ v) : ¬ v ≤ 7 := by
  intro h7
  have h8 : nI 8 ≤ 7 := Int32.le_trans h h7
  exact absurd h8 (by decide)
theorem dm_7' {v : Int32} (h : nI 8 ≤ v) : 7 < v := by
  have := dm_7 h
  exact Int32.not_le.mp this
theorem dm_xG0 {post : Int32 → Prop} {v : Int32} (h : v < 0) (p : post 0) : wpX_isGlobal post v := br_t h p
theorem dm_xG1 {post : Int32 → Prop} {v : Int32} (h : ¬ v < 0) (h2 : nI 8 ≤ v) (p : post 0) : wpX_isGlobal post v := br_f h (br_t h2 p)
theorem dm_xG2 {post : Int32 → Prop} {f : Nat} (hf : f < 8) (p : post 1) : wpX_isGlobal post (nI f) := br_f (nI_pos (by omega)) (br_f (nI_ge (b := 8) hf (by decide)) p)
theorem dm_global (v : Int32) : dm_K (fun p => wpX_global p (dm_X F C D fl oc rs st fc O xs H L sl gl am ou FF FP PC lo pe) v) (fun p => wpY_global p (dm_Y F C D fl oc rs st fc O xs L sl gl am ou FF FP PC lo pe) v) := by
  rcases dm_fn v (n := 8) (by decide) with h | ⟨h, h2⟩ | ⟨j, hj, rfl⟩
  · exact ⟨0, fun _ p => by unfold wpX_global; exact dm_xG0 h (br_t rfl p), fun _ p => br_t h p⟩
  · exact ⟨0, fun _ p => by unfold wpX_global; exact dm_xG1 h h2 (br_t rfl p), fun _ p => br_f h (br_f (dm_7 h2) p)⟩
  · exact ⟨gl (nI j).toNatClampNeg, fun _ p => by unfold wpX_global; exact dm_xG2 hj (br_f dm_10 ⟨vp_in_nI hj (by decide), p⟩),
      fun _ p => br_f (nI_pos (by omega)) (br_t (nI_le (b := 7) (by omega) (by decide)) ⟨vp_in_nI hj (by decide), p⟩)⟩
theorem dm_assumed (v : Int32) : dm_K (fun p => wpX_assumed p (dm_X F C D fl oc rs st fc O xs H L sl gl am ou FF FP PC lo pe) v) (fun p => wpY_assumed p (dm_Y F C D fl oc rs st fc O xs L sl gl am ou FF FP PC lo pe) v) := by
  rcases dm_fn v (n := 8) (by decide) with h | ⟨h, h2⟩ | ⟨j, hj, rfl⟩
  · exact ⟨0, fun _ p => by unfold wpX_assumed; exact dm_xG0 h (br_t rfl p), fun _ p => br_t h p⟩
  · exact ⟨0, fun _ p => by unfold wpX_assumed; exact dm_xG1 h h2 (br_t rfl p), fun _ p => br_f h (br_t (dm_7' h2) p)⟩
  · have h7 : ¬ (7 : Int32) < nI j := nI_nlt (a := 7) (by omega) (by decide)
    by_cases z : am (nI j).toNatClampNeg = 0
    · exact ⟨0, fun _ p => by unfold wpX_assumed; exact dm_xG2 hj (br_f dm_10 ⟨vp_in_nI hj (by decide), br_t z p⟩), fun _ p => br_f (nI_pos (by omega)) (br_f h7 ⟨vp_in_nI hj (by decide), br_t z p⟩)⟩
    · exact ⟨1, fun _ p => by unfold wpX_assumed; exact dm_xG2 hj (br_f dm_10 ⟨vp_in_nI hj (by decide), br_f z p⟩), fun _ p => br_f (nI_pos (by omega)) (br_f h7 ⟨vp_in_nI hj (by decide), br_f z p⟩)⟩
theorem dm_assume (I : dm_I F C D oc fc st O xs H L sl FF FP PC) (v : Int32) : dm_J (fun p => wpX_assume p (dm_X F C D fl oc rs st fc O xs H L sl gl am ou FF FP PC lo pe) v) (fun p => wpY_assume p (dm_Y F C D fl oc rs st fc O xs L sl gl am ou FF FP PC lo pe) v) := by
  rcases dm_fn v (n := 8) (by decide) with h | ⟨h, h2⟩ | ⟨j, hj, rfl⟩
  · exact dm_same I 0 (fun _ p => by unfold wpX_assume; exact dm_xG0 h (br_t rfl p)) (fun _ p => br_t h p)
  · exact dm_same I 0 (fun _ p => by unfold wpX_assume; exact dm_xG1 h h2 (br_t rfl p)) (fun _ p => br_f h (br_f (dm_7 h2) p))
  · exact ⟨1, (dm_X F C D fl oc rs st fc O xs H L sl gl (upd am (nI j).toNatClampNeg (vp_nar .boolean 1)) ou FF FP PC lo pe), (dm_Y F C D fl oc rs st fc O xs L sl gl (upd am (nI j).toNatClampNeg (vp_nar .boolean 1)) ou FF FP PC lo pe), dm_R I,
      fun _ p => by unfold wpX_assume; exact dm_xG2 hj (br_f dm_10 ⟨vp_in_nI hj (by decide), nm_e p⟩),
      fun _ p => br_f (nI_pos (by omega)) (br_t (nI_le (b := 7) (by omega) (by decide)) ⟨vp_in_nI hj (by decide), nm_e p⟩)⟩
/-- a write of a global: one state after it, on both sides -/
theorem dm_write {j : Nat} (hj : j < 8) (w : Int32) : ∃ (fl' : Int32) (gl' am' : Nat → Int32),
    (∀ post : SX → Prop, post (dm_X F C D fl' oc rs st fc O xs H L sl gl' am' ou FF FP PC lo pe) → wpX_writeGlobal post (dm_X F C D fl oc rs st fc O xs H L sl gl am ou FF FP PC lo pe) (nI j) w) ∧
    (∀ post : SY → Prop, post (dm_Y F C D fl' oc rs st fc O xs L sl gl' am' ou FF FP PC lo pe) → wpY_write post (dm_Y F C D fl oc rs st fc O xs L sl gl am ou FF FP PC lo pe) (nI j) w) := by
  have hi : vp_in (nI j) 8 := vp_in_nI hj (by decide)
  by_cases z : am (nI j).toNatClampNeg = 0
  · exact ⟨fl, upd gl (nI j).toNatClampNeg w, am, fun _ p => ⟨hi, br_t z ⟨hi, nm_e p⟩⟩, fun _ p => ⟨hi, br_t z ⟨hi, nm_e p⟩⟩⟩
  · by_cases y : gl (nI j).toNatClampNeg = w
    · exact ⟨fl, upd gl (nI j).toNatClampNeg w, am, fun _ p => ⟨hi, br_f z ⟨hi, br_t y ⟨hi, nm_e p⟩⟩⟩, fun _ p => ⟨hi, br_f z ⟨hi, br_t y ⟨hi, nm_e p⟩⟩⟩⟩
    · exact ⟨fl + 1, upd gl (nI j).toNatClampNeg w, upd am (nI j).toNatClampNeg (vp_nar .boolean 0),
        fun _ p => ⟨hi, br_f z ⟨hi, br_f y ⟨hi, nm_e (nm_e ⟨hi, nm_e p⟩)⟩⟩⟩, fun _ p => ⟨hi, br_f z ⟨hi, br_f y ⟨hi, nm_e (nm_e ⟨hi, nm_e p⟩)⟩⟩⟩⟩
theorem dm_setGlobal (I : dm_I F C D oc fc st O xs H L sl FF FP PC) (v w : Int32) : dm_J (fun p => wpX_setGlobal p (dm_X F C D fl oc rs st fc O xs H L sl gl am ou FF FP PC lo pe) v w) (fun p => wpY_setGlobal p (dm_Y F C D fl oc rs st fc O xs L sl gl am ou FF FP PC lo pe) v w) := by
  rcases dm_fn v (n := 8) (by decide) with h | ⟨h, h2⟩ | ⟨j, hj, rfl⟩
  · exact dm_same I 0 (fun _ p => by unfold wpX_setGlobal; exact dm_xG0 h (br_t rfl p)) (fun _ p => br_t h p)
  · exact dm_same I 0 (fun _ p => by unfold wpX_setGlobal; exact dm_xG1 h h2 (br_t rfl p)) (fun _ p => br_f h (br_f (dm_7 h2) p))
  · obtain ⟨fl', gl', am', a, b⟩ := dm_write (F := F) (C := C) (D := D) (fl := fl) (oc := oc) (rs := rs) (st := st) (fc := fc) (O := O) (xs := xs) (H := H) (L := L) (sl := sl) (gl := gl) (am := am) (ou := ou) (FF := FF) (FP := FP) (PC := PC) (lo := lo) (pe := pe) hj w
    exact ⟨1, (dm_X F C D fl' oc rs st fc O xs H L sl gl' am' ou FF FP PC lo pe), (dm_Y F C D fl' oc rs st fc O xs L sl gl' am' ou FF FP PC lo pe), dm_R I,
      fun _ p => by unfold wpX_setGlobal; exact dm_xG2 hj (br_f dm_10 (a _ p)),
      fun _ p => br_f (nI_pos (by omega)) (br_t (nI_le (b := 7) (by omega) (by decide)) (b _ p))⟩
end
end DMB
