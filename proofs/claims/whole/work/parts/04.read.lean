section DMD
/-! D: code, frame, erase -/
section
variable {F C D : Nat} {fl : Int32} {oc : Nat} {rs st : Int32} {fc : Nat} {O : Nat → Nat} {xs : Nat → Int32} {H L : Nat → Nat} {sl gl am ou : Nat → Int32} {FF FP PC : Nat → Nat} {lo pe : Nat → Int32}
theorem dm_01 {v : Int32} (h0 : ¬ v < 0) (h1 : ¬ 1 < v) (n0 : ¬ v = 0) (n1 : ¬ v = 1) : False := by
  obtain ⟨j, hj, rfl⟩ := nI_of h0
  have a : ¬ 1 < j := fun h => h1 ((nI_ltI (a := 1) (by decide) hj).mpr h)
  have b : j = 0 ∨ j = 1 := by omega
  rcases b with rfl | rfl
  · exact n0 rfl
  · exact n1 rfl
theorem dm_cell {f i : Nat} : (nI f * 32) + nI i = nI (f * 32 + i) := by
  show nI f * nI 32 + nI i = _
  rw [pk_mul, nI_add]
theorem dm_cellIn {f i : Nat} (hf : f < 8) (hi : i < 32) : vp_in ((nI f * 32) + nI i) 256 := by
  rw [dm_cell]
  exact vp_in_nI (by omega) (by decide)
theorem dm_code (I : dm_I F C D oc fc st O xs H L sl FF FP PC) (v w x : Int32) : dm_K (fun p => wpX_code p (dm_X F C D fl oc rs st fc O xs H L sl gl am ou FF FP PC lo pe) v w x) (fun p => wpY_code p (dm_Y F C D fl oc rs st fc O xs L sl gl am ou FF FP PC lo pe) v w x) := by
  have hF : F ≤ 8 := I.1.2.1
  have hC : C ≤ 32 := I.1.2.2.2.1
  rcases dm_fn v (n := F) (by omega) with h | ⟨h, h2⟩ | ⟨f, hf, rfl⟩
  · exact ⟨-1, fun _ p => by unfold wpX_code; exact dm_xF0 h (br_t rfl p), fun _ p => br_t h p⟩
  · exact ⟨-1, fun _ p => by unfold wpX_code; exact dm_xF1 h h2 (br_t rfl p), fun _ p => br_f h (br_f (Int32.not_lt.mpr h2) p)⟩
  · have h0 : ¬ nI f < 0 := nI_pos (by omega)
    have h1 : nI f < nI F := nI_lt hf (by omega)
    have hi : vp_in (nI f) 8 := vp_in_nI (by omega) (by decide)
    have hL : L f ≤ C := (I.2.2.1 f hf).1
    have eL : dm_nn L (nI f).toNatClampNeg = nI (L f) := by
      rw [nI_clamp (by omega)]
      rfl
    by_cases w2 : w = 2
    · subst w2
      exact ⟨dm_nn L (nI f).toNatClampNeg, fun _ p => by unfold wpX_code; exact dm_xF2 hF hf (br_f dm_10 (br_t rfl ⟨hi, p⟩)), fun _ p => br_f h0 (br_t h1 (br_t rfl ⟨hi, p⟩))⟩
    by_cases w3 : w = 3
    · subst w3
      by_cases z : sl (nI f).toNatClampNeg = 0
      · exact ⟨0, fun _ p => by unfold wpX_code; exact dm_xF2 hF hf (br_f dm_10 (br_f w2 (br_t rfl ⟨hi, br_t z p⟩))), fun _ p => br_f h0 (br_t h1 (br_f w2 (br_t rfl ⟨hi, br_t z p⟩)))⟩
      · exact ⟨1, fun _ p => by unfold wpX_code; exact dm_xF2 hF hf (br_f dm_10 (br_f w2 (br_t rfl ⟨hi, br_f z p⟩))), fun _ p => br_f h0 (br_t h1 (br_f w2 (br_t rfl ⟨hi, br_f z p⟩)))⟩
    by_cases w0 : w = 0
    · subst w0
      rcases dm_fn x (n := L f) (by omega) with g | ⟨g, g2⟩ | ⟨i, gi, rfl⟩
      · exact ⟨-1, fun _ p => by unfold wpX_code; exact dm_xF2 hF hf (br_f dm_10 (br_f w2 (br_f w3 (br_t g p)))), fun _ p => br_f h0 (br_t h1 (br_f w2 (br_f w3 (br_f (by decide) (br_f (by decide) (br_t g p))))))⟩
      · have g3 : ¬ x < dm_nn L (nI f).toNatClampNeg := by
          rw [eL]
          exact Int32.not_lt.mpr g2
        exact ⟨-1, fun _ p => by unfold wpX_code; exact dm_xF2 hF hf (br_f dm_10 (br_f w2 (br_f w3 (br_f g ⟨hi, br_f g3 p⟩)))), fun _ p => br_f h0 (br_t h1 (br_f w2 (br_f w3 (br_f (by decide) (br_f (by decide) (br_f g ⟨hi, br_f g3 p⟩))))))⟩
      · have g3 : nI i < dm_nn L (nI f).toNatClampNeg := by
          rw [eL]
          exact nI_lt gi (by omega)
        have g : ¬ nI i < 0 := nI_pos (by omega)
        have hc : vp_in ((nI f * 32) + nI i) 256 := dm_cellIn (by omega) (by omega)
        exact ⟨dm_nn O ((nI f * 32) + nI i).toNatClampNeg, fun _ p => by unfold wpX_code; exact dm_xF2 hF hf (br_f dm_10 (br_f w2 (br_f w3 (br_f g ⟨hi, br_t g3 (br_t rfl ⟨hc, p⟩)⟩)))), fun _ p => br_f h0 (br_t h1 (br_f w2 (br_f w3 (br_f (by decide) (br_f (by decide) (br_f g ⟨hi, br_t g3 (br_t rfl ⟨hc, p⟩)⟩))))))⟩
    by_cases w1 : w = 1
    · subst w1
      rcases dm_fn x (n := L f) (by omega) with g | ⟨g, g2⟩ | ⟨i, gi, rfl⟩
      · exact ⟨-1, fun _ p => by unfold wpX_code; exact dm_xF2 hF hf (br_f dm_10 (br_f w2 (br_f w3 (br_t g p)))), fun _ p => br_f h0 (br_t h1 (br_f w2 (br_f w3 (br_f (by decide) (br_f (by decide) (br_t g p))))))⟩
      · have g3 : ¬ x < dm_nn L (nI f).toNatClampNeg := by
          rw [eL]
          exact Int32.not_lt.mpr g2
        exact ⟨-1, fun _ p => by unfold wpX_code; exact dm_xF2 hF hf (br_f dm_10 (br_f w2 (br_f w3 (br_f g ⟨hi, br_f g3 p⟩)))), fun _ p => br_f h0 (br_t h1 (br_f w2 (br_f w3 (br_f (by decide) (br_f (by decide) (br_f g ⟨hi, br_f g3 p⟩))))))⟩
      · have g3 : nI i < dm_nn L (nI f).toNatClampNeg := by
          rw [eL]
          exact nI_lt gi (by omega)
        have g : ¬ nI i < 0 := nI_pos (by omega)
        have hc : vp_in ((nI f * 32) + nI i) 256 := dm_cellIn (by omega) (by omega)
        exact ⟨xs ((nI f * 32) + nI i).toNatClampNeg, fun _ p => by unfold wpX_code; exact dm_xF2 hF hf (br_f dm_10 (br_f w2 (br_f w3 (br_f g ⟨hi, br_t g3 (br_f w0 (br_t rfl ⟨hc, p⟩))⟩)))), fun _ p => br_f h0 (br_t h1 (br_f w2 (br_f w3 (br_f (by decide) (br_f (by decide) (br_f g ⟨hi, br_t g3 (br_f w0 ⟨hc, p⟩)⟩))))))⟩
    exact ⟨-1, fun _ p => by unfold wpX_code; exact dm_xF2 hF hf (br_f dm_10 (br_f w2 (br_f w3 (br_c (fun _ => p) (fun _ => ⟨hi, br_c (fun _ => br_f w0 (br_f w1 p)) (fun _ => p)⟩))))),
      fun _ p => br_f h0 (br_t h1 (br_f w2 (br_f w3 (br_c (fun _ => p) (fun n0 => br_c (fun _ => p) (fun n1 => (dm_01 n0 n1 w0 w1).elim))))))⟩
/-- the pending count of a frame is at most six -/
theorem dm_pc6 (I : dm_I F C D oc fc st O xs H L sl FF FP PC) {d : Nat} (hd : d < fc) : PC d ≤ 6 := by
  obtain ⟨_, _, K, _, T⟩ := I
  obtain ⟨a, _, c, e⟩ := T d hd
  have := dm_hb6 K a (Nat.le_of_lt c)
  omega
theorem dm_frame (I : dm_I F C D oc fc st O xs H L sl FF FP PC) (v w : Int32) : dm_K (fun p => wpX_frame p (dm_X F C D fl oc rs st fc O xs H L sl gl am ou FF FP PC lo pe) v w) (fun p => wpY_frame p (dm_Y F C D fl oc rs st fc O xs L sl gl am ou FF FP PC lo pe) v w) := by
  have hfc : fc ≤ 8 := by
    have h1 := I.1.2.2.2.2.2.1
    have h2 := I.1.2.2.2.2.2.2.2
    omega
  rcases dm_fn v (n := fc) (by omega) with h | ⟨h, h2⟩ | ⟨d, hd, rfl⟩
  · exact ⟨0, fun _ p => br_t h p, fun _ p => br_t h p⟩
  · exact ⟨0, fun _ p => br_f h (br_f (Int32.not_lt.mpr h2) p), fun _ p => br_f h (br_f (Int32.not_lt.mpr h2) p)⟩
  · have h0 : ¬ nI d < 0 := nI_pos (by omega)
    have h1 : nI d < nI fc := nI_lt hd (by omega)
    have hi : vp_in (nI d) 8 := vp_in_nI (by omega) (by decide)
    have hp : PC d ≤ 6 := dm_pc6 I hd
    have eP : dm_nn PC (nI d).toNatClampNeg = nI (PC d) := by
      rw [nI_clamp (by omega)]
      rfl
    by_cases w0 : w = 0
    · subst w0
      exact ⟨dm_nn FF (nI d).toNatClampNeg, fun _ p => br_f h0 (br_t h1 (br_t rfl ⟨hi, p⟩)), fun _ p => br_f h0 (br_t h1 (br_t rfl ⟨hi, p⟩))⟩
    by_cases w1 : w = 1
    · subst w1
      exact ⟨dm_nn FP (nI d).toNatClampNeg, fun _ p => br_f h0 (br_t h1 (br_f w0 (br_t rfl ⟨hi, p⟩))), fun _ p => br_f h0 (br_t h1 (br_f w0 (br_t rfl ⟨hi, p⟩)))⟩
    by_cases w2 : w = 2
    · subst w2
      exact ⟨dm_nn PC (nI d).toNatClampNeg, fun _ p => br_f h0 (br_t h1 (br_f w0 (br_f w1 (br_t rfl ⟨hi, p⟩)))), fun _ p => br_f h0 (br_t h1 (br_f w0 (br_f w1 (br_t rfl ⟨hi, p⟩))))⟩
    by_cases w3 : w < 3
    · have w7 : w < 7 := Int32.lt_trans w3 (by decide)
      exact ⟨0, fun _ p => br_f h0 (br_t h1 (br_f w0 (br_f w1 (br_f w2 (br_t w3 (br_t w7 p)))))), fun _ p => br_f h0 (br_t h1 (br_f w0 (br_f w1 (br_f w2 (br_t w3 (br_t w7 p))))))⟩
    · have wn : ¬ w < 0 := fun h => w3 (Int32.lt_trans h (by decide))
      obtain ⟨k, hk, rfl⟩ := nI_of wn
      have k3 : 3 ≤ k := by
        have a : ¬ k < 3 := fun h => w3 ((nI_ltI (b := 3) hk (by decide)).mpr h)
        omega
      by_cases k7 : k < 7
      · have x7 : ¬ (7 : Int32) ≤ nI k := nI_ge (b := 7) k7 (by decide)
        have y6 : ¬ (6 : Int32) < nI k := nI_nlt (a := 6) (by omega) (by decide)
        have hc : vp_in (((nI d * 4) + nI k) - 3) 32 := by
          show vp_in ((nI d * nI 4 + nI k) - nI 3) 32
          rw [pk_mul, nI_add, pk_sub (by omega)]
          exact vp_in_nI (by omega) (by decide)
        exact ⟨lo (((nI d * 4) + nI k) - 3).toNatClampNeg, fun _ p => br_f h0 (br_t h1 (br_f w0 (br_f w1 (br_f w2 (br_f w3 (br_f x7 ⟨hc, p⟩)))))), fun _ p => br_f h0 (br_t h1 (br_f w0 (br_f w1 (br_f w2 (br_f w3 (br_f y6 ⟨hc, p⟩))))))⟩
      · have x7 : (7 : Int32) ≤ nI k := nI_le (a := 7) (by omega) hk
        have y6 : (6 : Int32) < nI k := nI_lt (a := 6) (by omega) hk
        have z7 : ¬ nI k < 7 := nI_nlt (b := 7) (by omega) hk
        have e7 : nI k - 7 = nI (k - 7) := pk_sub (b := 7) (by omega)
        by_cases q : PC d ≤ k - 7
        · have q' : dm_nn PC (nI d).toNatClampNeg ≤ nI k - 7 := by
            rw [eP, e7]
            exact nI_le q (by omega)
          exact ⟨0, fun _ p => br_f h0 (br_t h1 (br_f w0 (br_f w1 (br_f w2 (br_f w3 (br_t x7 (br_f z7 ⟨hi, br_t q' p⟩))))))),
            fun _ p => br_f h0 (br_t h1 (br_f w0 (br_f w1 (br_f w2 (br_f w3 (br_t y6 (br_f z7 (br_c (fun _ => p) (fun _ => ⟨hi, br_t q' p⟩)))))))))⟩
        · have q' : ¬ dm_nn PC (nI d).toNatClampNeg ≤ nI k - 7 := by
            rw [eP, e7]
            exact nI_ge (by omega) (by omega)
          have y12 : ¬ (12 : Int32) < nI k := nI_nlt (a := 12) (by omega) (by decide)
          have hc : vp_in (((nI d * 6) + nI k) - 7) 48 := by
            show vp_in ((nI d * nI 6 + nI k) - nI 7) 48
            rw [pk_mul, nI_add, pk_sub (by omega)]
            exact vp_in_nI (by omega) (by decide)
          exact ⟨pe (((nI d * 6) + nI k) - 7).toNatClampNeg, fun _ p => br_f h0 (br_t h1 (br_f w0 (br_f w1 (br_f w2 (br_f w3 (br_t x7 (br_f z7 ⟨hi, br_f q' ⟨hc, p⟩⟩))))))),
            fun _ p => br_f h0 (br_t h1 (br_f w0 (br_f w1 (br_f w2 (br_f w3 (br_t y6 (br_f z7 (br_f y12 ⟨hi, br_f q' ⟨hc, p⟩⟩))))))))⟩
/-! erase -/
theorem dm_scan (hfc : fc ≤ 8) {f : Nat} (hf : f < 8) (hFF : ∀ d, d < fc → FF d < 8) : ∀ m i : Nat, i + m = fc → (∀ d, d < i → FF d ≠ f) →
    ((∀ post : Int32 → Prop, post 1 → wX_hasFrame_2 post (nI f) (nI F) (nI C) (nI D) fl (nI oc) rs st (nI fc) (dm_nn O) xs (dm_nn H) (dm_nn L) sl gl am ou (dm_nn FF) (dm_nn FP) (dm_nn PC) lo pe (m + 1) (nI i)) ∧ (∀ post : Int32 → SY → Prop, post 0 (dm_Y F C D fl oc rs st fc O xs L sl gl am ou FF FP PC lo pe) → wY_erase_16 post (nI f) (nI F) (nI C) (nI D) fl (nI oc) rs st (nI fc) (dm_nn O) xs (dm_nn L) sl gl am ou (dm_nn FF) (dm_nn FP) (dm_nn PC) lo pe (m + 1) (nI i)))
    ∨ ((∀ d, d < fc → FF d ≠ f) ∧ (∀ post : Int32 → Prop, post 0 → wX_hasFrame_2 post (nI f) (nI F) (nI C) (nI D) fl (nI oc) rs st (nI fc) (dm_nn O) xs (dm_nn H) (dm_nn L) sl gl am ou (dm_nn FF) (dm_nn FP) (dm_nn PC) lo pe (m + 1) (nI i)) ∧ (∀ post : Int32 → SY → Prop, wY_erase_48 post (nI f) (nI F) (nI C) (nI D) fl (nI oc) rs st (nI fc) (dm_nn O) xs (dm_nn L) sl gl am ou (dm_nn FF) (dm_nn FP) (dm_nn PC) lo pe → wY_erase_16 post (nI f) (nI F) (nI C) (nI D) fl (nI oc) rs st (nI fc) (dm_nn O) xs (dm_nn L) sl gl am ou (dm_nn FF) (dm_nn FP) (dm_nn PC) lo pe (m + 1) (nI i))) := by
  intro m
  induction m with
  | zero =>
    intro i hi hn
    have h : nI fc ≤ nI i := nI_le (by omega) (by omega)
    refine Or.inr ⟨fun d hd => hn d (by omega), fun _ p => br_t h p, fun _ p => br_t h p⟩
  | succ m ih =>
    intro i hi hn
    have h : ¬ nI fc ≤ nI i := nI_ge (by omega) (by omega)
    have h8 : ¬ (8 : Int32) ≤ nI i := nI_ge (b := 8) (by omega) (by decide)
    have hv : vp_in (nI i) 8 := vp_in_nI (by omega) (by decide)
    have e : dm_nn FF (nI i).toNatClampNeg = nI (FF i) := by
      rw [nI_clamp (by omega)]
      rfl
    by_cases c : FF i = f
    · have c' : dm_nn FF (nI i).toNatClampNeg = nI f := by rw [e, c]
      exact Or.inl ⟨fun _ p => br_f h ⟨hv, br_t c' p⟩, fun _ p => br_f h (br_f h8 ⟨hv, br_t c' p⟩)⟩
    · have c' : ¬ dm_nn FF (nI i).toNatClampNeg = nI f := by
        rw [e, nI_eq (by have := hFF i (by omega); omega) (by omega)]
        exact c
      have hn' : ∀ d, d < i + 1 → FF d ≠ f := fun d hd => by
        by_cases q : d = i
        · rw [q]
          exact c
        · exact hn d (by omega)
      rcases ih (i + 1) (by omega) hn' with ⟨a, b⟩ | ⟨z, a, b⟩
      · exact Or.inl ⟨fun _ p => br_f h ⟨hv, br_f c' (nm_r (nI_1 i) (a _ p))⟩, fun _ p => br_f h (br_f h8 ⟨hv, br_f c' (nm_r (nI_1 i) (b _ p))⟩)⟩
      · exact Or.inr ⟨z, fun _ p => br_f h ⟨hv, br_f c' (nm_r (nI_1 i) (a _ p))⟩, fun _ p => br_f h (br_f h8 ⟨hv, br_f c' (nm_r (nI_1 i) (b _ p))⟩)⟩
theorem dm_erase (I : dm_I F C D oc fc st O xs H L sl FF FP PC) (v : Int32) : dm_J (fun p => wpX_erase p (dm_X F C D fl oc rs st fc O xs H L sl gl am ou FF FP PC lo pe) v) (fun p => wpY_erase p (dm_Y F C D fl oc rs st fc O xs L sl gl am ou FF FP PC lo pe) v) := by
  have hF : F ≤ 8 := I.1.2.1
  have hfc : fc ≤ 8 := by
    have h1 := I.1.2.2.2.2.2.1
    have h2 := I.1.2.2.2.2.2.2.2
    omega
  rcases dm_fn v (n := F) (by omega) with h | ⟨h, h2⟩ | ⟨f, hf, rfl⟩
  · exact dm_same I 0 (fun _ p => by unfold wpX_erase; exact dm_xF0 h (br_t rfl p)) (fun _ p => br_t h p)
  · exact dm_same I 0 (fun _ p => by unfold wpX_erase; exact dm_xF1 h h2 (br_t rfl p)) (fun _ p => br_f h (br_f (Int32.not_lt.mpr h2) p))
  · have h0 : ¬ nI f < 0 := nI_pos (by omega)
    have h1 : nI f < nI F := nI_lt hf (by omega)
    have hi : vp_in (nI f) 8 := vp_in_nI (by omega) (by decide)
    have hFF : ∀ d, d < fc → FF d < 8 := fun d hd => by
      have := (I.2.2.2.2 d hd).1
      omega
    rcases dm_scan (F := F) (C := C) (D := D) (fl := fl) (oc := oc) (rs := rs) (st := st) (fc := fc) (O := O) (xs := xs) (H := H) (L := L) (sl := sl) (gl := gl) (am := am) (ou := ou) (FF := FF) (FP := FP) (PC := PC) (lo := lo) (pe := pe) hfc (f := f) (by omega) hFF fc 0 (by omega) (fun d hd => absurd hd (Nat.not_lt_zero d)) with ⟨a, b⟩ | ⟨z, a, b⟩
    · refine dm_same I 0 (fun _ p => ?_) (fun _ p => br_f h0 (br_t h1 ⟨fc + 1, b _ p⟩))
      unfold wpX_erase
      refine dm_xF2 hF hf (br_f dm_10 ?_)
      exact ⟨fc + 1, a _ (br_f dm_10 p)⟩
    · have eL : upd (dm_nn L) (nI f).toNatClampNeg 0 = dm_nn (dm_un L f 0) := dm_u0 (t := f) (by omega) 0
      have eS : upd sl (nI f).toNatClampNeg (vp_nar .boolean 0) = upd sl f 0 := by rw [nI_clamp (by omega), dm_vb0]
      refine ⟨1, (dm_X F C D fl oc rs st fc O xs H (dm_un L f 0) (upd sl f 0) gl am ou FF FP PC lo pe), (dm_Y F C D fl oc rs st fc O xs (dm_un L f 0) (upd sl f 0) gl am ou FF FP PC lo pe), dm_R ?_, fun _ p => ?_, fun _ p => ?_⟩
      · obtain ⟨q, b1, c, d, e⟩ := I
        exact ⟨q, b1, dm_CKr c f, dm_SKr d f, dm_FKr e f z⟩
      · unfold wpX_erase
        refine dm_xF2 hF hf (br_f dm_10 ?_)
        exact ⟨fc + 1, a _ (br_t rfl ⟨hi, nm_r eL ⟨hi, nm_r eS p⟩⟩)⟩
      · exact br_f h0 (br_t h1 ⟨fc + 1, b _ ⟨hi, nm_r eL ⟨hi, nm_r eS p⟩⟩⟩)
end
end DMD
