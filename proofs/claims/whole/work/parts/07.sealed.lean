section DMG
/-! G: seal -/
section
variable {F C D : Nat} {fl : Int32} {oc : Nat} {rs st : Int32} {fc : Nat} {O : Nat → Nat} {xs : Nat → Int32} {H L : Nat → Nat} {sl gl am ou : Nat → Int32} {FF FP PC : Nat → Nat} {lo pe : Nat → Int32}
theorem dm_ne {o k : Nat} (ho : o ≤ 16) (hk : k ≤ 16) (h : o ≠ k) : ¬ nI o = nI k := fun e => h ((nI_eq (by omega) (by omega)).mp e)
theorem dm_xj1 {post : Int32 → Prop} {a : Int32} {o : Nat} (e : a = nI o) (h : o = 10 ∨ o = 11) (p : post 1) : wpX_isJump post a := by
  subst e
  rcases h with rfl | rfl
  · exact br_t rfl p
  · exact br_f (by decide) (br_t rfl p)
theorem dm_xj0 {post : Int32 → Prop} {a : Int32} {o : Nat} (e : a = nI o) (ho : o ≤ 16) (h : ¬ (o = 10 ∨ o = 11)) (p : post 0) : wpX_isJump post a := by
  subst e
  exact br_f (dm_ne (k := 10) ho (by decide) (fun z => h (Or.inl z))) (br_f (dm_ne (k := 11) ho (by decide) (fun z => h (Or.inr z))) p)
theorem dm_xt1 {post : Int32 → Prop} {a : Int32} {f m : Nat} (hf : f < 8) (hL : L f ≤ 32) (e : a = nI m) (hm : m < L f) (hb : dm_hb H f m = 0) (p : post 1) : wpX_isTarget post (dm_X F C D fl oc rs st fc O xs H L sl gl am ou FF FP PC lo pe) (nI f) a := by
  subst e
  have eL : dm_nn L (nI f).toNatClampNeg = nI (L f) := by
    rw [nI_clamp (by omega)]
    rfl
  refine ⟨vp_in_nI hf (by decide), br_f (by rw [eL]; exact nI_ge hm (by omega)) ?_⟩
  refine dm_xhb hf (by omega) ?_
  rw [hb]
  exact br_t rfl p
theorem dm_xt0 {post : Int32 → Prop} {a : Int32} {f m : Nat} (hf : f < 8) (hL : L f ≤ 32) (e : a = nI m) (m32 : m < 32) (h6 : m < L f → dm_hb H f m ≤ 6) (hm : m < L f → ¬ dm_hb H f m = 0) (p : post 0) : wpX_isTarget post (dm_X F C D fl oc rs st fc O xs H L sl gl am ou FF FP PC lo pe) (nI f) a := by
  subst e
  have eL : dm_nn L (nI f).toNatClampNeg = nI (L f) := by
    rw [nI_clamp (by omega)]
    rfl
  by_cases q : m < L f
  · refine ⟨vp_in_nI hf (by decide), br_f (by rw [eL]; exact nI_ge q (by omega)) ?_⟩
    refine dm_xhb hf (by omega) ?_
    have := h6 q
    have := hm q
    exact br_f (nI_ne0 (by omega) (by omega)) p
  · exact ⟨vp_in_nI hf (by decide), br_t (by rw [eL]; exact nI_le (by omega) (by omega)) p⟩
theorem dm_sloop (K : dm_CK F C O xs H L) (hF : F ≤ 8) (hC : C ≤ 32) (hC0 : 0 < C) {f : Nat} (hf : f < F) : ∀ m i : Nat, i + m = L f →
    (∀ j, j < i → (O (f * 32 + j) = 10 ∨ O (f * 32 + j) = 11) → ∃ t, t < L f ∧ xs (f * 32 + j) = nI t ∧ dm_hb H f t = 0) →
    ((∀ j, j < L f → (O (f * 32 + j) = 10 ∨ O (f * 32 + j) = 11) → ∃ t, t < L f ∧ xs (f * 32 + j) = nI t ∧ dm_hb H f t = 0) ∧
      (∀ post : Int32 → Prop, post 1 → wX_jumpsAreSound_2 post (nI f) (nI F) (nI C) (nI D) fl (nI oc) rs st (nI fc) (dm_nn O) xs (dm_nn H) (dm_nn L) sl gl am ou (dm_nn FF) (dm_nn FP) (dm_nn PC) lo pe (m + 1) (nI i)) ∧
      (∀ post : Int32 → SY → Prop, post 1 (dm_Y F C D fl oc rs st fc O xs L (upd sl f 1) gl am ou FF FP PC lo pe) → wY_seal_69 post (nI f) (nI F) (nI C) (nI D) fl (nI oc) rs st (nI fc) (dm_nn O) xs (dm_nn L) sl gl am ou (dm_nn FF) (dm_nn FP) (dm_nn PC) lo pe (m + 1) (nI i)))
    ∨ ((∀ post : Int32 → Prop, post 0 → wX_jumpsAreSound_2 post (nI f) (nI F) (nI C) (nI D) fl (nI oc) rs st (nI fc) (dm_nn O) xs (dm_nn H) (dm_nn L) sl gl am ou (dm_nn FF) (dm_nn FP) (dm_nn PC) lo pe (m + 1) (nI i)) ∧ (∀ post : Int32 → SY → Prop, post 4 (dm_Y F C D fl oc rs st fc O xs L sl gl am ou FF FP PC lo pe) → wY_seal_69 post (nI f) (nI F) (nI C) (nI D) fl (nI oc) rs st (nI fc) (dm_nn O) xs (dm_nn L) sl gl am ou (dm_nn FF) (dm_nn FP) (dm_nn PC) lo pe (m + 1) (nI i))) := by
  have hL : L f ≤ C := (K f hf).1
  have hi : vp_in (nI f) 8 := vp_in_nI (by omega) (by decide)
  have eL : dm_nn L (nI f).toNatClampNeg = nI (L f) := by
    rw [nI_clamp (by omega)]
    rfl
  have eS : upd sl (nI f).toNatClampNeg (vp_nar .boolean 1) = upd sl f 1 := by rw [nI_clamp (by omega), dm_vb1]
  intro m
  induction m with
  | zero =>
    intro i hm hj
    have h : dm_nn L (nI f).toNatClampNeg ≤ nI i := by
      rw [eL]
      exact nI_le (by omega) (by omega)
    exact Or.inl ⟨fun j hj' => hj j (by omega), fun _ p => ⟨hi, br_t h p⟩, fun _ p => ⟨hi, br_t h ⟨hi, nm_r eS p⟩⟩⟩
  | succ m ih =>
    intro i hm hj
    obtain ⟨o16, oo, _, hn, e⟩ := (K f hf).2 i (by omega)
    have h : ¬ dm_nn L (nI f).toNatClampNeg ≤ nI i := by
      rw [eL]
      exact nI_ge (by omega) (by omega)
    have h32 : ¬ (32 : Int32) ≤ nI i := nI_ge (b := 32) (by omega) (by decide)
    have hc : vp_in ((nI f * 32) + nI i) 256 := dm_cellIn (by omega) (by omega)
    have hc2 : vp_in (nI (f * 32 + i)) 256 := vp_in_nI (by omega) (by decide)
    have eO : dm_nn O ((nI f * 32) + nI i).toNatClampNeg = nI (O (f * 32 + i)) := dm_oc (by omega) (by omega)
    have eO2 : dm_nn O (nI (f * 32 + i)).toNatClampNeg = nI (O (f * 32 + i)) := by
      rw [nI_clamp (by omega)]
      rfl
    by_cases jp : O (f * 32 + i) = 10 ∨ O (f * 32 + i) = 11
    · have l0 : dm_lim F C (O (f * 32 + i)) = C := by
        rcases jp with jp | jp
        · rw [jp]
          simp [dm_lim]
        · rw [jp]
          simp [dm_lim]
      unfold dm_oo at oo
      rw [l0] at oo
      obtain ⟨t, ht, ex⟩ := oo hC0
      have eX : xs ((nI f * 32) + nI i).toNatClampNeg = nI t := by
        rw [dm_cell, nI_clamp (by omega)]
        exact ex
      have eX2 : xs (nI (f * 32 + i)).toNatClampNeg = nI t := by
        rw [nI_clamp (by omega)]
        exact ex
      have y0 : ∀ post : Int32 → SY → Prop, wY_seal_117 post (wY_seal_69 post (nI f) (nI F) (nI C) (nI D) fl (nI oc) rs st (nI fc) (dm_nn O) xs (dm_nn L) sl gl am ou (dm_nn FF) (dm_nn FP) (dm_nn PC) lo pe (m + 1)) (nI f) (nI i) (nI F) (nI C) (nI D) fl (nI oc) rs st (nI fc) (dm_nn O) xs (dm_nn L) sl gl am ou (dm_nn FF) (dm_nn FP) (dm_nn PC) lo pe → wY_seal_69 post (nI f) (nI F) (nI C) (nI D) fl (nI oc) rs st (nI fc) (dm_nn O) xs (dm_nn L) sl gl am ou (dm_nn FF) (dm_nn FP) (dm_nn PC) lo pe (m + 1 + 1) (nI i) := by
        intro post p
        rcases jp with jp | jp
        · exact ⟨hi, br_f h (br_f h32 ⟨hc, br_t (by rw [eO, jp]; rfl) p⟩)⟩
        · exact ⟨hi, br_f h (br_f h32 ⟨hc, br_f (by rw [eO, jp]; decide) ⟨hc, br_t (by rw [eO, jp]; rfl) p⟩⟩)⟩
      by_cases ok : t < L f ∧ dm_hb H f t = 0
      · have hj' : ∀ j, j < i + 1 → (O (f * 32 + j) = 10 ∨ O (f * 32 + j) = 11) → ∃ t, t < L f ∧ xs (f * 32 + j) = nI t ∧ dm_hb H f t = 0 := fun j hj1 hj2 => by
          by_cases q : j = i
          · rw [q]
            exact ⟨t, ok.1, ex, ok.2⟩
          · exact hj j (by omega) hj2
        have xs1 : ∀ post : Int32 → Prop, wX_jumpsAreSound_2 post (nI f) (nI F) (nI C) (nI D) fl (nI oc) rs st (nI fc) (dm_nn O) xs (dm_nn H) (dm_nn L) sl gl am ou (dm_nn FF) (dm_nn FP) (dm_nn PC) lo pe (m + 1) (nI (i + 1)) → wX_jumpsAreSound_2 post (nI f) (nI F) (nI C) (nI D) fl (nI oc) rs st (nI fc) (dm_nn O) xs (dm_nn H) (dm_nn L) sl gl am ou (dm_nn FF) (dm_nn FP) (dm_nn PC) lo pe (m + 1 + 1) (nI i) := by
          intro post p
          refine ⟨hi, br_f h (nm_r dm_cell ⟨hc2, ?_⟩)⟩
          refine dm_xj1 eO2 jp (br_f dm_10 ⟨hc2, ?_⟩)
          exact dm_xt1 (by omega) (by omega) eX2 ok.1 ok.2 (br_f dm_10 (nm_r (nI_1 i) p))
        have ys1 : ∀ post : Int32 → SY → Prop, wY_seal_69 post (nI f) (nI F) (nI C) (nI D) fl (nI oc) rs st (nI fc) (dm_nn O) xs (dm_nn L) sl gl am ou (dm_nn FF) (dm_nn FP) (dm_nn PC) lo pe (m + 1) (nI (i + 1)) → wY_seal_69 post (nI f) (nI F) (nI C) (nI D) fl (nI oc) rs st (nI fc) (dm_nn O) xs (dm_nn L) sl gl am ou (dm_nn FF) (dm_nn FP) (dm_nn PC) lo pe (m + 1 + 1) (nI i) := by
          intro post p
          refine y0 post ⟨hc, nm_r eX ⟨hi, br_t (by rw [eL]; exact nI_lt ok.1 (by omega)) ?_⟩⟩
          refine dm_yhat K hF hC hf (Nat.le_of_lt ok.1) ?_
          rw [ok.2]
          exact br_t rfl (nm_r (nI_1 i) p)
        rcases ih (i + 1) (by omega) hj' with ⟨z, a, b⟩ | ⟨a, b⟩
        · exact Or.inl ⟨z, fun _ p => xs1 _ (a _ p), fun _ p => ys1 _ (b _ p)⟩
        · exact Or.inr ⟨fun _ p => xs1 _ (a _ p), fun _ p => ys1 _ (b _ p)⟩
      · refine Or.inr ⟨fun post p => ?_, fun post p => ?_⟩
        · refine ⟨hi, br_f h (nm_r dm_cell ⟨hc2, ?_⟩)⟩
          refine dm_xj1 eO2 jp (br_f dm_10 ⟨hc2, ?_⟩)
          exact dm_xt0 (by omega) (by omega) eX2 (by omega) (fun q => dm_hb6 K hf (Nat.le_of_lt q)) (fun q z => ok ⟨q, z⟩) (br_t rfl p)
        · by_cases q : t < L f
          · refine y0 post ⟨hc, nm_r eX ⟨hi, br_t (by rw [eL]; exact nI_lt q (by omega)) ?_⟩⟩
            refine dm_yhat K hF hC hf (Nat.le_of_lt q) ?_
            have h6 := dm_hb6 K hf (Nat.le_of_lt q)
            have h0 : ¬ dm_hb H f t = 0 := fun z => ok ⟨q, z⟩
            exact br_f (nI_ne0 (by omega) (by omega)) p
          · exact y0 post ⟨hc, nm_r eX ⟨hi, br_f (by rw [eL]; exact nI_nlt (by omega) (by omega)) p⟩⟩
    · have hj' : ∀ j, j < i + 1 → (O (f * 32 + j) = 10 ∨ O (f * 32 + j) = 11) → ∃ t, t < L f ∧ xs (f * 32 + j) = nI t ∧ dm_hb H f t = 0 := fun j hj1 hj2 => by
        by_cases q : j = i
        · rw [q] at hj2
          exact absurd hj2 jp
        · exact hj j (by omega) hj2
      have xs1 : ∀ post : Int32 → Prop, wX_jumpsAreSound_2 post (nI f) (nI F) (nI C) (nI D) fl (nI oc) rs st (nI fc) (dm_nn O) xs (dm_nn H) (dm_nn L) sl gl am ou (dm_nn FF) (dm_nn FP) (dm_nn PC) lo pe (m + 1) (nI (i + 1)) → wX_jumpsAreSound_2 post (nI f) (nI F) (nI C) (nI D) fl (nI oc) rs st (nI fc) (dm_nn O) xs (dm_nn H) (dm_nn L) sl gl am ou (dm_nn FF) (dm_nn FP) (dm_nn PC) lo pe (m + 1 + 1) (nI i) := by
        intro post p
        refine ⟨hi, br_f h (nm_r dm_cell ⟨hc2, ?_⟩)⟩
        exact dm_xj0 eO2 o16 jp (br_t rfl (nm_r (nI_1 i) p))
      have ys1 : ∀ post : Int32 → SY → Prop, wY_seal_69 post (nI f) (nI F) (nI C) (nI D) fl (nI oc) rs st (nI fc) (dm_nn O) xs (dm_nn L) sl gl am ou (dm_nn FF) (dm_nn FP) (dm_nn PC) lo pe (m + 1) (nI (i + 1)) → wY_seal_69 post (nI f) (nI F) (nI C) (nI D) fl (nI oc) rs st (nI fc) (dm_nn O) xs (dm_nn L) sl gl am ou (dm_nn FF) (dm_nn FP) (dm_nn PC) lo pe (m + 1 + 1) (nI i) := by
        intro post p
        exact ⟨hi, br_f h (br_f h32 ⟨hc, br_f (by rw [eO]; exact dm_ne (k := 10) o16 (by decide) (fun z => jp (Or.inl z))) ⟨hc, br_f (by rw [eO]; exact dm_ne (k := 11) o16 (by decide) (fun z => jp (Or.inr z))) (nm_r (nI_1 i) p)⟩⟩)⟩
      rcases ih (i + 1) (by omega) hj' with ⟨z, a, b⟩ | ⟨a, b⟩
      · exact Or.inl ⟨z, fun _ p => xs1 _ (a _ p), fun _ p => ys1 _ (b _ p)⟩
      · exact Or.inr ⟨fun _ p => xs1 _ (a _ p), fun _ p => ys1 _ (b _ p)⟩
theorem dm_seal (I : dm_I F C D oc fc st O xs H L sl FF FP PC) (v : Int32) : dm_J (fun p => wpX_seal p (dm_X F C D fl oc rs st fc O xs H L sl gl am ou FF FP PC lo pe) v) (fun p => wpY_seal p (dm_Y F C D fl oc rs st fc O xs L sl gl am ou FF FP PC lo pe) v) := by
  obtain ⟨⟨a1, a2, a3, a4, a5, a6, a7, a8⟩, b1, K, S, T⟩ := id I
  rcases dm_fn v (n := F) (by omega) with h | ⟨h, h2⟩ | ⟨f, hf, rfl⟩
  · exact dm_same I 0 (fun _ p => by unfold wpX_seal; exact dm_xF0 h (br_t rfl p)) (fun _ p => br_t h p)
  · exact dm_same I 0 (fun _ p => by unfold wpX_seal; exact dm_xF1 h h2 (br_t rfl p)) (fun _ p => br_f h (br_t h2 p))
  · have h0 : ¬ nI f < 0 := nI_pos (by omega)
    have h1 : ¬ nI F ≤ nI f := nI_ge hf (by omega)
    have hi : vp_in (nI f) 8 := vp_in_nI (by omega) (by decide)
    by_cases z : sl (nI f).toNatClampNeg = 0
    · have hL : L f ≤ C := (K f hf).1
      have eL : dm_nn L (nI f).toNatClampNeg = nI (L f) := by
        rw [nI_clamp (by omega)]
        rfl
      by_cases l0 : L f = 0
      · have e0 : dm_nn L (nI f).toNatClampNeg = 0 := by
          rw [eL, l0]
          rfl
        refine dm_same (fl := fl) (rs := rs) (gl := gl) (am := am) (ou := ou) (lo := lo) (pe := pe) I 4 (fun _ p => ?_) (fun _ p => br_f h0 (br_f h1 ⟨hi, br_t z ⟨hi, br_t e0 p⟩⟩))
        unfold wpX_seal
        refine dm_xF2 a2 hf (br_f dm_10 ⟨hi, br_t z ?_⟩)
        exact ⟨hi, br_t e0 (br_t rfl p)⟩
      · have e0 : ¬ dm_nn L (nI f).toNatClampNeg = 0 := by
          rw [eL]
          exact nI_ne0 (by omega) (by omega)
        have ec : ((nI f * 32) + dm_nn L (nI f).toNatClampNeg) - 1 = nI (f * 32 + (L f - 1)) := by
          rw [eL, dm_cell, show f * 32 + L f = f * 32 + (L f - 1) + 1 from by omega]
          exact nI_pred _
        have hc : vp_in (((nI f * 32) + dm_nn L (nI f).toNatClampNeg) - 1) 256 := by
          rw [ec]
          exact vp_in_nI (by omega) (by decide)
        have o16 := ((K f hf).2 (L f - 1) (by omega)).1
        have eO : dm_nn O (((nI f * 32) + dm_nn L (nI f).toNatClampNeg) - 1).toNatClampNeg = nI (O (f * 32 + (L f - 1))) := by
          rw [ec, nI_clamp (by omega)]
          rfl
        by_cases lst : O (f * 32 + (L f - 1)) = 10 ∨ O (f * 32 + (L f - 1)) = 16
        · have xgo : ∀ post : Int32 → Prop, post 1 → wpX_endsInJumpOrReturn post (dm_X F C D fl oc rs st fc O xs H L sl gl am ou FF FP PC lo pe) (nI f) := by
            intro post p
            rcases lst with lst | lst
            · rw [lst] at eO
              exact ⟨hi, br_f e0 ⟨hi, hc, nm_r eO (br_t rfl p)⟩⟩
            · rw [lst] at eO
              exact ⟨hi, br_f e0 ⟨hi, hc, nm_r eO (br_f (by decide) (br_t rfl p))⟩⟩
          have ygo : ∀ post : Int32 → SY → Prop, wY_seal_69 post (nI f) (nI F) (nI C) (nI D) fl (nI oc) rs st (nI fc) (dm_nn O) xs (dm_nn L) sl gl am ou (dm_nn FF) (dm_nn FP) (dm_nn PC) lo pe (L f + 1) (nI 0) → wpY_seal post (dm_Y F C D fl oc rs st fc O xs L sl gl am ou FF FP PC lo pe) (nI f) := by
            intro post p
            rcases lst with lst | lst
            · rw [lst] at eO
              exact br_f h0 (br_f h1 ⟨hi, br_t z ⟨hi, br_f e0 ⟨hi, hc, nm_r eO (br_t rfl ⟨_, p⟩)⟩⟩⟩)
            · rw [lst] at eO
              exact br_f h0 (br_f h1 ⟨hi, br_t z ⟨hi, br_f e0 ⟨hi, hc, nm_r eO (br_f (by decide) (br_t rfl ⟨_, p⟩))⟩⟩⟩)
          have eS : upd sl (nI f).toNatClampNeg (vp_nar .boolean 1) = upd sl f 1 := by rw [nI_clamp (by omega), dm_vb1]
          rcases dm_sloop (D := D) (fl := fl) (oc := oc) (rs := rs) (st := st) (fc := fc) (sl := sl) (gl := gl) (am := am) (ou := ou) (FF := FF) (FP := FP) (PC := PC) (lo := lo) (pe := pe) K a2 a4 (by omega) hf (L f) 0 (by omega) (fun j hj => absurd hj (Nat.not_lt_zero j)) with ⟨q, a, b⟩ | ⟨a, b⟩
          · refine ⟨1, (dm_X F C D fl oc rs st fc O xs H L (upd sl f 1) gl am ou FF FP PC lo pe), (dm_Y F C D fl oc rs st fc O xs L (upd sl f 1) gl am ou FF FP PC lo pe), dm_R ?_, fun post p => ?_, fun post p => ygo _ (b _ p)⟩
            · exact ⟨⟨a1, a2, a3, a4, a5, a6, a7, a8⟩, b1, K, dm_SKs S (by omega) lst q, dm_FKs T dm_10⟩
            · unfold wpX_seal
              refine dm_xF2 a2 hf (br_f dm_10 ⟨hi, br_t z ?_⟩)
              refine xgo _ (br_f dm_10 ?_)
              exact ⟨_, a _ (br_f dm_10 ⟨hi, nm_r eS p⟩)⟩
          · refine dm_same (fl := fl) (rs := rs) (gl := gl) (am := am) (ou := ou) (lo := lo) (pe := pe) I 4 (fun _ p => ?_) (fun _ p => ygo _ (b _ p))
            unfold wpX_seal
            refine dm_xF2 a2 hf (br_f dm_10 ⟨hi, br_t z ?_⟩)
            refine xgo _ (br_f dm_10 ?_)
            exact ⟨_, a _ (br_t rfl p)⟩
        · have n10 := dm_ne (k := 10) o16 (by decide) (fun z => lst (Or.inl z))
          have n16 := dm_ne (k := 16) o16 (by decide) (fun z => lst (Or.inr z))
          refine dm_same (fl := fl) (rs := rs) (gl := gl) (am := am) (ou := ou) (lo := lo) (pe := pe) I 4 (fun _ p => ?_) (fun _ p => br_f h0 (br_f h1 ⟨hi, br_t z ⟨hi, br_f e0 ⟨hi, hc, nm_r eO (br_f n10 (br_f n16 p))⟩⟩⟩))
          unfold wpX_seal
          refine dm_xF2 a2 hf (br_f dm_10 ⟨hi, br_t z ?_⟩)
          exact ⟨hi, br_f e0 ⟨hi, hc, nm_r eO (br_f n10 (br_f n16 (br_t rfl p)))⟩⟩
    · exact dm_same I 0 (fun _ p => by unfold wpX_seal; exact dm_xF2 a2 hf (br_f dm_10 ⟨hi, br_f z p⟩)) (fun _ p => br_f h0 (br_f h1 ⟨hi, br_f z p⟩))
end
end DMG
