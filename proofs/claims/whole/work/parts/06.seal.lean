section DMF
/-! F: emit and seal -/
section
variable {F C D : Nat} {fl : Int32} {oc : Nat} {rs st : Int32} {fc : Nat} {O : Nat → Nat} {xs : Nat → Int32} {H L : Nat → Nat} {sl gl am ou : Nat → Int32} {FF FP PC : Nat → Nat} {lo pe : Nat → Int32}
theorem dm_oc {f i : Nat} (hf : f < 8) (hi : i < 32) : dm_nn O ((nI f * 32) + nI i).toNatClampNeg = nI (O (f * 32 + i)) := by
  rw [dm_cell, nI_clamp (by omega)]
  rfl
theorem dm_yh {post : Int32 → Prop} (K : dm_CK F C O xs H L) (hF : F ≤ 8) (hC : C ≤ 32) {f p : Nat} (hf : f < F) (hp : p ≤ L f) (hq : post (nI (dm_hb H f p))) :
    ∀ m i : Nat, i + m = p → wY_heightAt_5 post (nI f) (nI p) (nI F) (nI C) (nI D) fl (nI oc) rs st (nI fc) (dm_nn O) xs (dm_nn L) sl gl am ou (dm_nn FF) (dm_nn FP) (dm_nn PC) lo pe (m + 1) (nI (dm_hb H f i)) (nI i) := by
  have hL := (K f hf).1
  intro m
  induction m with
  | zero =>
    intro i hi
    obtain rfl : i = p := by omega
    exact br_t (nI_le (Nat.le_refl _) (by omega)) hq
  | succ m ih =>
    intro i hi
    obtain ⟨o16, _, h6, hn, e⟩ := (K f hf).2 i (by omega)
    refine br_f (nI_ge (by omega) (by omega)) (br_f (nI_ge (b := 32) (by omega) (by decide)) ⟨dm_cellIn (by omega) (by omega), ?_⟩)
    rw [dm_oc (O := O) (f := f) (i := i) (by omega) (by omega)]
    refine dm_yaf o16 hn ?_
    refine nm_r (nI_1 i) ?_
    have := ih (i + 1) (by omega)
    rw [dm_hbs, e] at this
    exact this
theorem dm_yhat {post : Int32 → Prop} (K : dm_CK F C O xs H L) (hF : F ≤ 8) (hC : C ≤ 32) {f p : Nat} (hf : f < F) (hp : p ≤ L f) (hq : post (nI (dm_hb H f p))) : wpY_heightAt post (dm_Y F C D fl oc rs st fc O xs L sl gl am ou FF FP PC lo pe) (nI f) (nI p) :=
  ⟨p + 1, dm_yh K hF hC hf hp hq p 0 (Nat.zero_add p)⟩
/-- the operands that fit -/
theorem dm_emit2 (I : dm_I F C D oc fc st O xs H L sl FF FP PC) {f o : Nat} (hf : f < F) (z : sl f = 0) (ho : o ≤ 16) (x : Int32) (hk : dm_lim F C o = 0 ∨ ∃ m, m < dm_lim F C o ∧ x = nI m) :
    dm_J (fun p => wpX_emit p (dm_X F C D fl oc rs st fc O xs H L sl gl am ou FF FP PC lo pe) (nI f) (nI o) x) (fun p => wpY_emit p (dm_Y F C D fl oc rs st fc O xs L sl gl am ou FF FP PC lo pe) (nI f) (nI o) x) := by
  obtain ⟨⟨a1, a2, a3, a4, a5, a6, a7, a8⟩, b1, K, S, T⟩ := id I
  have h0 : ¬ nI f < 0 := nI_pos (by omega)
  have h1 : ¬ nI F ≤ nI f := nI_ge hf (by omega)
  have hi : vp_in (nI f) 8 := vp_in_nI (by omega) (by decide)
  have z' : sl (nI f).toNatClampNeg = 0 := by
    rw [nI_clamp (by omega)]
    exact z
  have o0 : ¬ nI o < 0 := nI_pos (by omega)
  have o1 : ¬ (16 : Int32) < nI o := nI_nlt (a := 16) ho (by decide)
  have o2 : nI o ≤ 16 := nI_le (b := 16) ho (by decide)
  have hL : L f ≤ C := (K f hf).1
  have eL : dm_nn L (nI f).toNatClampNeg = nI (L f) := by
    rw [nI_clamp (by omega)]
    rfl
  have l32 : dm_lim F C o < 2 ^ 31 := by
    unfold dm_lim
    split
    · decide
    · split
      · decide
      · split
        · omega
        · split
          · omega
          · decide
  have ygo : ∀ post : Int32 → SY → Prop, wY_emit_57 post (nI f) (nI o) x (nI (dm_lim F C o)) (nI F) (nI C) (nI D) fl (nI oc) rs st (nI fc) (dm_nn O) xs (dm_nn L) sl gl am ou (dm_nn FF) (dm_nn FP) (dm_nn PC) lo pe → wpY_emit post (dm_Y F C D fl oc rs st fc O xs L sl gl am ou FF FP PC lo pe) (nI f) (nI o) x := by
    intro post p
    refine br_f h0 (br_f h1 ⟨hi, br_t z' (br_f o0 (br_t o2 ?_))⟩)
    refine dm_ylim ho ?_
    rcases hk with hk | ⟨m, hm, rfl⟩
    · refine br_t ?_ p
      rw [hk]
      exact nI_le (a := 0) (Nat.le_refl _) (by decide)
    · exact br_f (nI_nle (by omega) l32) (br_f (nI_pos (by omega)) (br_t (nI_lt hm l32) p))
  by_cases hl : L f < C
  · have hl' : nI (L f) < nI C := nI_lt hl (by omega)
    have h6 : dm_hb H f (L f) ≤ 6 := dm_hb6 K hf (Nat.le_refl _)
    rcases dm_hf (F := F) (C := C) (D := D) (fl := fl) (oc := oc) (rs := rs) (st := st) (fc := fc) (O := O) (xs := xs) (L := L) (sl := sl) (gl := gl) (am := am) (ou := ou) (FF := FF) (FP := FP) (PC := PC) (lo := lo) (pe := pe) (o := o) (h := dm_hb H f (L f)) ho h6 with ⟨hn, xf, yf⟩ | ⟨hn, xf, yf⟩
    · obtain ⟨r, er, xr⟩ := dm_xhc ho hn
      have hcell : vp_in ((nI f * 32) + nI (L f)) 256 := dm_cellIn (by omega) (by omega)
      have hcel2 : vp_in (nI (f * 32 + L f)) 256 := vp_in_nI (by omega) (by decide)
      have eO : upd (dm_nn O) (nI (f * 32 + L f)).toNatClampNeg (nI o) = dm_nn (dm_un O (f * 32 + L f) o) := by
        rw [nI_clamp (by omega), dm_upd]
      have eO' : upd (dm_nn O) ((nI f * 32) + nI (L f)).toNatClampNeg (nI o) = dm_nn (dm_un O (f * 32 + L f) o) := by
        rw [dm_cell]
        exact eO
      have eX : ∀ y, upd xs (nI (f * 32 + L f)).toNatClampNeg y = upd xs (f * 32 + L f) y := fun y => by
        rw [nI_clamp (by omega)]
      have eX' : ∀ y, upd xs ((nI f * 32) + nI (L f)).toNatClampNeg y = upd xs (f * 32 + L f) y := fun y => by
        rw [dm_cell]
        exact eX y
      have eH : upd (dm_nn H) (nI (f * 32 + L f)).toNatClampNeg (nI (dm_hb H f (L f)) + r) = dm_nn (dm_un H (f * 32 + L f) (dm_af o (dm_hb H f (L f)))) := by
        rw [nI_clamp (by omega), er, dm_upd]
      have eN : upd (dm_nn L) (nI f).toNatClampNeg (nI (L f) + 1) = dm_nn (dm_un L f (L f + 1)) := by
        rw [nI_1]
        exact dm_u0 (t := f) (by omega) _
      have eN' : upd (dm_nn L) (nI f).toNatClampNeg (dm_nn L (nI f).toNatClampNeg + 1) = dm_nn (dm_un L f (L f + 1)) := dm_uP (t := f) (by omega) rfl
      have fin : ∀ y, dm_oo F C o y → dm_I F C D oc fc st (dm_un O (f * 32 + L f) o) (upd xs (f * 32 + L f) y) (dm_un H (f * 32 + L f) (dm_af o (dm_hb H f (L f)))) (dm_un L f (L f + 1)) sl FF FP PC := fun y hy =>
        ⟨⟨a1, a2, a3, a4, a5, a6, a7, a8⟩, b1, dm_CKe K a4 hl ho hy hn, dm_SKe K S a4 hl z, dm_FKe K T a4 hl z⟩
      rcases dm_ig a1 a3 ho with ⟨q, xi⟩ | ⟨q0, q1, xi⟩
      · refine ⟨1, _, _, dm_R (fl := fl) (rs := rs) (gl := gl) (am := am) (ou := ou) (lo := lo) (pe := pe) (fin x ?_), fun post p => ?_, fun post p => ?_⟩
        · intro h
          rcases hk with hk | hk
          · omega
          · exact hk
        · unfold wpX_emit
          refine dm_xF2 a2 hf (br_f dm_10 ⟨hi, br_t z' (br_f o0 (br_f o1 ?_))⟩)
          refine dm_xfit1 a1 a2 a3 a4 ho hk ?_
          refine br_f dm_10 ⟨hi, nm_r eL ?_⟩
          refine br_t hl' ?_
          refine dm_xhb (by omega) (by omega) ?_
          refine xf _ (br_f dm_10 (nm_r dm_cell ⟨hcel2, nm_r eO ?_⟩))
          refine xi _ (br_t rfl ⟨hcel2, nm_r (eX x) ?_⟩)
          exact xr _ ⟨hcel2, nm_r eH ⟨hi, nm_r eN p⟩⟩
        · refine ygo post ⟨hi, br_t (by rw [eL]; exact hl') ⟨hi, ?_⟩⟩
          rw [eL]
          refine dm_yhat K a2 a4 hf (Nat.le_refl _) ?_
          refine yf _ (br_f dm_10 ⟨hi, hcell, nm_r eO' ⟨hi, ?_⟩⟩)
          by_cases q0 : o = 0
          · exact br_t (by rw [q0]; rfl) ⟨hcell, nm_r (eX' x) ⟨hi, hi, nm_r eN' p⟩⟩
          · exact br_f (nI_ne0 (by omega) (by omega)) (br_f (nI_nle (by omega) l32) ⟨hcell, nm_r (eX' x) ⟨hi, hi, nm_r eN' p⟩⟩)
      · refine ⟨1, _, _, dm_R (fl := fl) (rs := rs) (gl := gl) (am := am) (ou := ou) (lo := lo) (pe := pe) (fin 0 (fun h => absurd q1 (by omega))), fun post p => ?_, fun post p => ?_⟩
        · unfold wpX_emit
          refine dm_xF2 a2 hf (br_f dm_10 ⟨hi, br_t z' (br_f o0 (br_f o1 ?_))⟩)
          refine dm_xfit1 a1 a2 a3 a4 ho hk ?_
          refine br_f dm_10 ⟨hi, nm_r eL ?_⟩
          refine br_t hl' ?_
          refine dm_xhb (by omega) (by omega) ?_
          refine xf _ (br_f dm_10 (nm_r dm_cell ⟨hcel2, nm_r eO ?_⟩))
          refine xi _ (br_f dm_10 ⟨hcel2, nm_r (eX 0) ?_⟩)
          exact xr _ ⟨hcel2, nm_r eH ⟨hi, nm_r eN p⟩⟩
        · refine ygo post ⟨hi, br_t (by rw [eL]; exact hl') ⟨hi, ?_⟩⟩
          rw [eL]
          refine dm_yhat K a2 a4 hf (Nat.le_refl _) ?_
          refine yf _ (br_f dm_10 ⟨hi, hcell, nm_r eO' ⟨hi, ?_⟩⟩)
          refine br_f (nI_ne0 (by omega) (by omega)) (br_t ?_ ⟨hcell, nm_r (eX' 0) ⟨hi, hi, nm_r eN' p⟩⟩)
          rw [q1]
          exact nI_le (a := 0) (Nat.le_refl _) (by decide)
    · refine dm_same (fl := fl) (rs := rs) (gl := gl) (am := am) (ou := ou) (lo := lo) (pe := pe) I 3 (fun post p => ?_) (fun post p => ?_)
      · unfold wpX_emit
        refine dm_xF2 a2 hf (br_f dm_10 ⟨hi, br_t z' (br_f o0 (br_f o1 ?_))⟩)
        refine dm_xfit1 a1 a2 a3 a4 ho hk ?_
        refine br_f dm_10 ⟨hi, nm_r eL ?_⟩
        refine br_t hl' ?_
        refine dm_xhb (by omega) (by omega) ?_
        exact xf _ (br_t rfl p)
      · refine ygo post ⟨hi, br_t (by rw [eL]; exact hl') ⟨hi, ?_⟩⟩
        rw [eL]
        refine dm_yhat K a2 a4 hf (Nat.le_refl _) ?_
        exact yf _ (br_t rfl p)
  · have hl' : ¬ nI (L f) < nI C := nI_nlt (by omega) (by omega)
    refine dm_same (fl := fl) (rs := rs) (gl := gl) (am := am) (ou := ou) (lo := lo) (pe := pe) I 2 (fun post p => ?_) (fun post p => ?_)
    · unfold wpX_emit
      refine dm_xF2 a2 hf (br_f dm_10 ⟨hi, br_t z' (br_f o0 (br_f o1 ?_))⟩)
      refine dm_xfit1 a1 a2 a3 a4 ho hk ?_
      refine br_f dm_10 ⟨hi, nm_r eL ?_⟩
      exact br_f hl' p
    · exact ygo post ⟨hi, br_f (by rw [eL]; exact hl') p⟩
theorem dm_emit (I : dm_I F C D oc fc st O xs H L sl FF FP PC) (v w x : Int32) : dm_J (fun p => wpX_emit p (dm_X F C D fl oc rs st fc O xs H L sl gl am ou FF FP PC lo pe) v w x) (fun p => wpY_emit p (dm_Y F C D fl oc rs st fc O xs L sl gl am ou FF FP PC lo pe) v w x) := by
  have hF : F ≤ 8 := I.1.2.1
  rcases dm_fn v (n := F) (by omega) with h | ⟨h, h2⟩ | ⟨f, hf, rfl⟩
  · exact dm_same I 0 (fun _ p => by unfold wpX_emit; exact dm_xF0 h (br_t rfl p)) (fun _ p => br_t h p)
  · exact dm_same I 0 (fun _ p => by unfold wpX_emit; exact dm_xF1 h h2 (br_t rfl p)) (fun _ p => br_f h (br_t h2 p))
  · have h0 : ¬ nI f < 0 := nI_pos (by omega)
    have h1 : ¬ nI F ≤ nI f := nI_ge hf (by omega)
    have hi : vp_in (nI f) 8 := vp_in_nI (by omega) (by decide)
    by_cases z : sl (nI f).toNatClampNeg = 0
    · rcases dm_fn w (n := 17) (by decide) with g | ⟨g, g2⟩ | ⟨o, ho, rfl⟩
      · exact dm_same I 0 (fun _ p => by unfold wpX_emit; exact dm_xF2 hF hf (br_f dm_10 ⟨hi, br_t z (br_t g p)⟩)) (fun _ p => br_f h0 (br_f h1 ⟨hi, br_t z (br_t g p)⟩))
      · have g3 : (16 : Int32) < w := Int32.lt_of_lt_of_le (by decide : (16 : Int32) < nI 17) g2
        exact dm_same I 0 (fun _ p => by unfold wpX_emit; exact dm_xF2 hF hf (br_f dm_10 ⟨hi, br_t z (br_f g (br_t g3 p))⟩)) (fun _ p => br_f h0 (br_f h1 ⟨hi, br_t z (br_f g (br_f (Int32.not_le.mpr g3) p))⟩))
      · have z0 : sl f = 0 := by
          rw [nI_clamp (by omega)] at z
          exact z
        by_cases hl : dm_lim F C o = 0
        · exact dm_emit2 I hf z0 (by omega) x (Or.inl hl)
        · have l32 : dm_lim F C o < 2 ^ 31 := by
            have c32 := I.1.2.2.2.1
            unfold dm_lim
            split
            · decide
            · split
              · decide
              · split
                · omega
                · split
                  · omega
                  · decide
          have o0 : ¬ nI o < 0 := nI_pos (by omega)
          have o1 : ¬ (16 : Int32) < nI o := nI_nlt (a := 16) (by omega) (by decide)
          have o2 : nI o ≤ 16 := nI_le (b := 16) (by omega) (by decide)
          rcases dm_fn x (n := dm_lim F C o) l32 with g | ⟨g, g2⟩ | g
          · refine dm_same (fl := fl) (rs := rs) (gl := gl) (am := am) (ou := ou) (lo := lo) (pe := pe) I 0 (fun _ p => ?_) (fun _ p => ?_)
            · unfold wpX_emit
              refine dm_xF2 hF hf (br_f dm_10 ⟨hi, br_t z (br_f o0 (br_f o1 ?_))⟩)
              exact dm_xfit0 (by omega) (by omega) (Or.inl g) (br_t rfl p)
            · refine br_f h0 (br_f h1 ⟨hi, br_t z (br_f o0 (br_t o2 ?_))⟩)
              refine dm_ylim (by omega) ?_
              exact br_f (nI_nle (by omega) l32) (br_t g p)
          · refine dm_same (fl := fl) (rs := rs) (gl := gl) (am := am) (ou := ou) (lo := lo) (pe := pe) I 0 (fun _ p => ?_) (fun _ p => ?_)
            · unfold wpX_emit
              refine dm_xF2 hF hf (br_f dm_10 ⟨hi, br_t z (br_f o0 (br_f o1 ?_))⟩)
              exact dm_xfit0 (by omega) (by omega) (Or.inr ⟨g, g2⟩) (br_t rfl p)
            · refine br_f h0 (br_f h1 ⟨hi, br_t z (br_f o0 (br_t o2 ?_))⟩)
              refine dm_ylim (by omega) ?_
              exact br_f (nI_nle (by omega) l32) (br_f g (br_f (Int32.not_lt.mpr g2) p))
          · exact dm_emit2 I hf z0 (by omega) x (Or.inr g)
    · exact dm_same I 0 (fun _ p => by unfold wpX_emit; exact dm_xF2 hF hf (br_f dm_10 ⟨hi, br_f z p⟩)) (fun _ p => br_f h0 (br_f h1 ⟨hi, br_f z p⟩))
end
end DMF
