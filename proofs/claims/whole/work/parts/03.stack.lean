section DMC
/-! C: the pending values and the frames, on both sides -/
section
variable {F C D : Nat} {fl : Int32} {oc : Nat} {rs st : Int32} {fc : Nat} {O : Nat → Nat} {xs : Nat → Int32} {H L : Nat → Nat} {sl gl am ou : Nat → Int32} {FF FP PC : Nat → Nat} {lo pe : Nat → Int32} {t h : Nat}
theorem dm_c6 (ht : t < 8) : ((nI t * 6) + dm_nn PC (nI t).toNatClampNeg) = nI (t * 6 + PC t) := by
  rw [nI_clamp (by omega)]
  show nI t * nI 6 + nI (PC t) = _
  rw [pk_mul, nI_add]
theorem dm_c61 (ht : t < 8) (hh : PC t = h + 1) : ((nI t * 6) + dm_nn PC (nI t).toNatClampNeg) - 1 = nI (t * 6 + h) := by
  rw [dm_c6 ht, hh, ← Nat.add_assoc]
  exact nI_pred _
theorem dm_uP (ht : t < 8) (hh : PC t = h) : upd (dm_nn PC) (nI t).toNatClampNeg (dm_nn PC (nI t).toNatClampNeg + 1) = dm_nn (dm_un PC t (h + 1)) := by
  rw [nI_clamp (by omega)]
  show upd (dm_nn PC) t (nI (PC t) + 1) = _
  rw [hh, nI_1, dm_upd]
theorem dm_uM (ht : t < 8) (hh : PC t = h + 1) : upd (dm_nn PC) (nI t).toNatClampNeg (dm_nn PC (nI t).toNatClampNeg - 1) = dm_nn (dm_un PC t h) := by
  rw [nI_clamp (by omega)]
  show upd (dm_nn PC) t (nI (PC t) - 1) = _
  rw [hh, nI_pred, dm_upd]
theorem dm_xtop {post : Int32 → Prop} (ht : t < 8) (hh : PC t = h + 1) (h6 : h < 6) (p : post (pe (t * 6 + h))) : wpX_topPending post (dm_X F C D fl oc rs st (t + 1) O xs H L sl gl am ou FF FP PC lo pe) := by
  refine nm_r (nI_pred t) ⟨vp_in_nI ht (by decide), ?_, ?_⟩
  · rw [dm_c61 ht hh]
    exact vp_in_nI (by omega) (by decide)
  · rw [dm_c61 ht hh, nI_clamp (by omega)]
    exact p
theorem dm_xpush {post : SX → Prop} {v : Int32} (ht : t < 8) (hh : PC t = h) (h6 : h < 6) (p : post (dm_X F C D fl oc rs st (t + 1) O xs H L sl gl am ou FF FP (dm_un PC t (h + 1)) lo (upd pe (t * 6 + h) v))) : wpX_push post (dm_X F C D fl oc rs st (t + 1) O xs H L sl gl am ou FF FP PC lo pe) v := by
  have hi : vp_in (nI t) 8 := vp_in_nI ht (by decide)
  refine nm_r (nI_pred t) ⟨hi, ?_, nm_r (e' := upd pe (t * 6 + h) v) ?_ ⟨hi, hi, nm_r (dm_uP ht hh) p⟩⟩
  · rw [dm_c6 ht]
    exact vp_in_nI (by omega) (by decide)
  · rw [dm_c6 ht, nI_clamp (by omega), hh]
theorem dm_xpop {post : Int32 → SX → Prop} (ht : t < 8) (hh : PC t = h + 1) (h6 : h < 6) (p : post (pe (t * 6 + h)) (dm_X F C D fl oc rs st (t + 1) O xs H L sl gl am ou FF FP (dm_un PC t h) lo pe)) : wpX_pop post (dm_X F C D fl oc rs st (t + 1) O xs H L sl gl am ou FF FP PC lo pe) := by
  unfold wpX_pop
  refine dm_xtop ht hh h6 ?_
  refine ⟨?_, ?_, nm_r ?_ p⟩
  · rw [nI_pred]
    exact vp_in_nI ht (by decide)
  · rw [nI_pred]
    exact vp_in_nI ht (by decide)
  · rw [nI_pred]
    exact dm_uM ht hh
theorem dm_ypush {post : SY → Prop} {v : Int32} (ht : t < 8) (hh : PC t = h) (h6 : h < 6) (p : post (dm_Y F C D fl oc rs st (t + 1) O xs L sl gl am ou FF FP (dm_un PC t (h + 1)) lo (upd pe (t * 6 + h) v))) : wpY_push post (dm_Y F C D fl oc rs st (t + 1) O xs L sl gl am ou FF FP PC lo pe) v := by
  have hi : vp_in (nI t) 8 := vp_in_nI ht (by decide)
  have e : dm_nn PC (nI t).toNatClampNeg = nI h := by
    rw [nI_clamp (by omega), ← hh]
    rfl
  refine nm_r (nI_pred t) (br_f (nI_pos (by omega)) ⟨hi, br_t ?_ ⟨hi, ?_, nm_r (e' := upd pe (t * 6 + h) v) ?_ ⟨hi, hi, nm_r (dm_uP ht hh) p⟩⟩⟩)
  · rw [e]
    exact nI_lt (b := 6) h6 (by decide)
  · rw [dm_c6 ht]
    exact vp_in_nI (by omega) (by decide)
  · rw [dm_c6 ht, nI_clamp (by omega), hh]
theorem dm_ypop {post : Int32 → SY → Prop} (ht : t < 8) (hh : PC t = h + 1) (h6 : h < 6) (p : post (pe (t * 6 + h)) (dm_Y F C D fl oc rs st (t + 1) O xs L sl gl am ou FF FP (dm_un PC t h) lo pe)) : wpY_pop post (dm_Y F C D fl oc rs st (t + 1) O xs L sl gl am ou FF FP PC lo pe) := by
  have hi : vp_in (nI t) 8 := vp_in_nI ht (by decide)
  have e : dm_nn PC (nI t).toNatClampNeg = nI (h + 1) := by
    rw [nI_clamp (by omega), ← hh]
    rfl
  have e2 : (nI t * 6) + dm_nn (dm_un PC t h) (nI t).toNatClampNeg = nI (t * 6 + h) := by
    rw [dm_c6 ht, dm_us]
  refine nm_r (nI_pred t) (br_f (nI_pos (by omega)) ⟨hi, br_t ?_ ⟨hi, hi, nm_r (dm_uM ht hh) ⟨hi, ?_, ?_⟩⟩⟩)
  · rw [e]
    exact nI_le (a := 1) (by omega) (by omega)
  · rw [e2]
    exact vp_in_nI (by omega) (by decide)
  · rw [e2, nI_clamp (by omega)]
    exact p
def dm_nl (lo : Nat → Int32) (t : Nat) (a b : Int32) : Nat → Int32 :=
  upd (upd (upd (upd lo (nI t * 4).toNatClampNeg a) ((nI t * 4) + 1).toNatClampNeg b) ((nI t * 4) + 2).toNatClampNeg 0) ((nI t * 4) + 3).toNatClampNeg 0
theorem dm_4 (ht : t < 8) (j : Nat) (hj : j < 4) : vp_in ((nI t * 4) + nI j) 32 := by
  show vp_in (nI t * nI 4 + nI j) 32
  rw [pk_mul, nI_add]
  exact vp_in_nI (by omega) (by decide)
theorem dm_40 (ht : t < 8) : vp_in (nI t * 4) 32 := by
  show vp_in (nI t * nI 4) 32
  rw [pk_mul]
  exact vp_in_nI (by omega) (by decide)
theorem dm_u0 (ht : t < 8) (m : Nat) : upd (dm_nn PC) (nI t).toNatClampNeg (nI m) = dm_nn (dm_un PC t m) := by
  rw [nI_clamp (by omega), dm_upd]
theorem dm_xadd {post : SX → Prop} {f : Nat} {a b : Int32} (ht : t < 8) (p : post (dm_X F C D fl oc rs st (t + 1) O xs H L sl gl am ou (dm_un FF t f) (dm_un FP t 0) (dm_un PC t 0) (dm_nl lo t a b) pe)) : wpX_addFrame post (dm_X F C D fl oc rs st t O xs H L sl gl am ou FF FP PC lo pe) (nI f) a b := by
  have hi : vp_in (nI t) 8 := vp_in_nI ht (by decide)
  exact ⟨hi, nm_r (dm_u0 ht f) ⟨hi, nm_r (dm_u0 ht 0) ⟨hi, nm_r (dm_u0 ht 0) ⟨dm_40 ht, nm_e ⟨dm_4 ht 1 (by decide), nm_e ⟨dm_4 ht 2 (by decide), nm_e ⟨dm_4 ht 3 (by decide), nm_e (nm_r (nI_1 t) p)⟩⟩⟩⟩⟩⟩⟩
theorem dm_yadd {post : SY → Prop} {f : Nat} {a b : Int32} (ht : t < 8) (p : post (dm_Y F C D fl oc rs st (t + 1) O xs L sl gl am ou (dm_un FF t f) (dm_un FP t 0) (dm_un PC t 0) (dm_nl lo t a b) pe)) : wpY_newFrame post (dm_Y F C D fl oc rs st t O xs L sl gl am ou FF FP PC lo pe) (nI f) a b := by
  have hi : vp_in (nI t) 8 := vp_in_nI ht (by decide)
  exact br_f (nI_pos (by omega)) (br_t (nI_lt (b := 8) ht (by decide)) ⟨hi, nm_r (dm_u0 ht f) ⟨hi, nm_r (dm_u0 ht 0) ⟨hi, nm_r (dm_u0 ht 0) ⟨dm_40 ht, nm_e ⟨dm_4 ht 1 (by decide), nm_e ⟨dm_4 ht 2 (by decide), nm_e ⟨dm_4 ht 3 (by decide), nm_e (nm_r (nI_1 t) p)⟩⟩⟩⟩⟩⟩⟩)
end
section
variable {F C D : Nat} {fl : Int32} {oc : Nat} {rs st : Int32} {fc : Nat} {O : Nat → Nat} {xs : Nat → Int32} {H L : Nat → Nat} {sl gl am ou : Nat → Int32} {FF FP PC : Nat → Nat} {lo pe : Nat → Int32}
/-! start, optimise -/
theorem dm_start (I : dm_I F C D oc fc st O xs H L sl FF FP PC) (v a b : Int32) : dm_J (fun p => wpX_start p (dm_X F C D fl oc rs st fc O xs H L sl gl am ou FF FP PC lo pe) v a b) (fun p => wpY_start p (dm_Y F C D fl oc rs st fc O xs L sl gl am ou FF FP PC lo pe) v a b) := by
  have hF : F ≤ 8 := I.1.2.1
  rcases dm_fn v (n := F) (by omega) with h | ⟨h, h2⟩ | ⟨f, hf, rfl⟩
  · exact dm_same I 0 (fun _ p => by unfold wpX_start; exact dm_xF0 h (br_t rfl p)) (fun _ p => br_t h p)
  · exact dm_same I 0 (fun _ p => by unfold wpX_start; exact dm_xF1 h h2 (br_t rfl p)) (fun _ p => br_f h (br_t h2 p))
  · have h0 : ¬ nI f < 0 := nI_pos (by omega)
    have h1 : ¬ nI F ≤ nI f := nI_ge hf (by omega)
    have hi : vp_in (nI f) 8 := vp_in_nI (by omega) (by decide)
    by_cases hs : st = 1
    · exact dm_same I 0 (fun _ p => by unfold wpX_start; exact dm_xF2 hF hf (br_f dm_10 (br_t hs p))) (fun _ p => br_f h0 (br_f h1 (br_t hs p)))
    · by_cases z : sl (nI f).toNatClampNeg = 0
      · exact dm_same I 5 (fun _ p => by unfold wpX_start; exact dm_xF2 hF hf (br_f dm_10 (br_f hs ⟨hi, br_t z p⟩))) (fun _ p => br_f h0 (br_f h1 (br_f hs ⟨hi, br_t z p⟩)))
      · obtain ⟨⟨a1, a2, a3, a4, a5, a6, a7, a8⟩, b1, c, d, e⟩ := I
        obtain rfl : fc = 0 := by
          rcases b1 with ⟨b1, _⟩ | ⟨_, b1⟩
          · exact absurd b1 hs
          · exact b1
        refine ⟨1, (dm_X F C D fl oc rs 1 1 O xs H L sl gl am ou (dm_un FF 0 f) (dm_un FP 0 0) (dm_un PC 0 0) (dm_nl lo 0 a b) pe), (dm_Y F C D fl oc rs 1 1 O xs L sl gl am ou (dm_un FF 0 f) (dm_un FP 0 0) (dm_un PC 0 0) (dm_nl lo 0 a b) pe), dm_R ?_, fun _ p => ?_, fun _ p => ?_⟩
        · rw [nI_clamp (by omega)] at z
          exact ⟨⟨a1, a2, a3, a4, a5, a6, a7, by omega⟩, Or.inl ⟨rfl, by decide⟩, c, d, dm_FK1 (by rw [dm_us]; exact hf) (by rw [dm_us]; exact z) dm_us dm_us (by rw [dm_us]; exact (d f hf z).1)⟩
        · unfold wpX_start
          exact dm_xF2 hF hf (br_f dm_10 (br_f hs ⟨hi, br_f z (dm_xadd (t := 0) (by decide) p)⟩))
        · exact br_f h0 (br_f h1 (br_f hs ⟨hi, br_f z (dm_yadd (t := 0) (by decide) p)⟩))
theorem dm_optimise (I : dm_I F C D oc fc st O xs H L sl FF FP PC) (v : Int32) : dm_K (fun p => wpX_optimise p (dm_X F C D fl oc rs st fc O xs H L sl gl am ou FF FP PC lo pe) v) (fun p => wpY_optimise p (dm_Y F C D fl oc rs st fc O xs L sl gl am ou FF FP PC lo pe) v) := by
  have hF : F ≤ 8 := I.1.2.1
  rcases dm_fn v (n := F) (by omega) with h | ⟨h, h2⟩ | ⟨f, hf, rfl⟩
  · exact ⟨0, fun _ p => by unfold wpX_optimise; exact dm_xF0 h (br_t rfl p), fun _ p => br_t h p⟩
  · exact ⟨0, fun _ p => by unfold wpX_optimise; exact dm_xF1 h h2 (br_t rfl p), fun _ p => br_f h (br_f (Int32.not_lt.mpr h2) p)⟩
  · have h0 : ¬ nI f < 0 := nI_pos (by omega)
    have h1 : nI f < nI F := nI_lt hf (by omega)
    have hi : vp_in (nI f) 8 := vp_in_nI (by omega) (by decide)
    by_cases z : sl (nI f).toNatClampNeg = 0
    · exact ⟨5, fun _ p => by unfold wpX_optimise; exact dm_xF2 hF hf (br_f dm_10 ⟨hi, br_t z p⟩), fun _ p => br_f h0 (br_t h1 ⟨hi, br_t z p⟩)⟩
    · exact ⟨1, fun _ p => by unfold wpX_optimise; exact dm_xF2 hF hf (br_f dm_10 ⟨hi, br_f z p⟩), fun _ p => br_f h0 (br_t h1 ⟨hi, br_f z p⟩)⟩
end
end DMC
