section DMI
/-! I: one step of a run: the seventeen instructions -/
section
variable {F C D : Nat} {fl : Int32} {oc : Nat} {rs st : Int32} {fc : Nat} {O : Nat → Nat} {xs : Nat → Int32} {H L : Nat → Nat} {sl gl am ou : Nat → Int32} {FF FP PC : Nat → Nat} {lo pe : Nat → Int32} {t : Nat}
theorem dm_go0 (I : dm_I F C D oc (t + 1) 1 O xs H L sl FF FP PC) (ho : O (FF t * 32 + FP t) = 0) (x : Int32) : dm_Go F C D fl oc rs t O xs H L sl gl am ou FF FP PC lo pe 0 x 0 := by
  obtain ⟨ht, a, b, cc, hL, oo, h6, hn, eH⟩ := dm_top I ho
  have hi : vp_in (nI t) 8 := vp_in_nI ht (by decide)
  have h5 : PC t < 6 := by
    simp [dm_nd] at hn
    omega
  refine Or.inl ⟨fl, oc, t + 1, gl, am, ou, FF, dm_un FP t (FP t + 1), dm_un PC t (PC t + 1), lo, upd pe (t * 6 + PC t) x, ?_, fun post K c s k => ?_, fun post K c s k => ?_⟩
  · refine dm_Ig I ho (by decide) (by decide) I.1.2.2.2.2.2.2.1 (fun d hd => ?_) ?_
    · simp only [dm_ud hd]
    · rw [dm_us]
      simp [dm_af]
  · unfold wX_run_109 wpX_stopBefore
    repeat (first | refine br_f (by decide) ?_ | refine br_t (by decide) ?_)
    refine nm_r (nI_pred t) ⟨hi, hi, nm_r (dm_uP ht rfl) ?_⟩
    repeat (first | refine br_f (by decide) ?_ | refine br_t (by decide) ?_)
    refine dm_xpush ht rfl h5 ?_
    repeat (first | refine br_f (by decide) ?_ | refine br_t (by decide) ?_)
    exact nm_e k
  · repeat (first | refine br_f (by decide) ?_ | refine br_t (by decide) ?_)
    refine ⟨hi, nm_r (dm_eFP ht) ?_⟩
    repeat (first | refine br_f (by decide) ?_ | refine br_t (by decide) ?_)
    refine dm_ypush ht rfl h5 ?_
    repeat (first | refine br_f (by decide) ?_ | refine br_t (by decide) ?_)
    exact nm_e k
theorem dm_go1 (I : dm_I F C D oc (t + 1) 1 O xs H L sl FF FP PC) (ho : O (FF t * 32 + FP t) = 1) {m : Nat} (hm : m < 4) : dm_Go F C D fl oc rs t O xs H L sl gl am ou FF FP PC lo pe 1 (nI m) 0 := by
  obtain ⟨ht, a, b, cc, hL, oo, h6, hn, eH⟩ := dm_top I ho
  have hi : vp_in (nI t) 8 := vp_in_nI ht (by decide)
  have h5 : PC t < 6 := by
    simp [dm_nd] at hn
    omega
  refine Or.inl ⟨fl, oc, t + 1, gl, am, ou, FF, dm_un FP t (FP t + 1), dm_un PC t (PC t + 1), lo, upd pe (t * 6 + PC t) (lo ((nI t * 4) + nI m).toNatClampNeg), ?_, fun post K c s k => ?_, fun post K c s k => ?_⟩
  · refine dm_Ig I ho (by decide) (by decide) I.1.2.2.2.2.2.2.1 (fun d hd => ?_) ?_
    · simp only [dm_ud hd]
    · rw [dm_us]
      simp [dm_af]
  · unfold wX_run_109 wpX_stopBefore
    repeat (first | refine br_f (by decide) ?_ | refine br_t (by decide) ?_)
    refine nm_r (nI_pred t) ⟨hi, hi, nm_r (dm_uP ht rfl) ?_⟩
    repeat (first | refine br_f (by decide) ?_ | refine br_t (by decide) ?_)
    refine nm_r (nI_pred t) ⟨dm_4 ht m hm, ?_⟩
    refine dm_xpush ht rfl h5 ?_
    repeat (first | refine br_f (by decide) ?_ | refine br_t (by decide) ?_)
    exact nm_e k
  · repeat (first | refine br_f (by decide) ?_ | refine br_t (by decide) ?_)
    refine ⟨hi, nm_r (dm_eFP ht) ?_⟩
    repeat (first | refine br_f (by decide) ?_ | refine br_t (by decide) ?_)
    refine ⟨dm_4 ht m hm, ?_⟩
    refine dm_ypush ht rfl h5 ?_
    repeat (first | refine br_f (by decide) ?_ | refine br_t (by decide) ?_)
    exact nm_e k
theorem dm_go2 (I : dm_I F C D oc (t + 1) 1 O xs H L sl FF FP PC) (ho : O (FF t * 32 + FP t) = 2) {m : Nat} (hm : m < 4) : dm_Go F C D fl oc rs t O xs H L sl gl am ou FF FP PC lo pe 2 (nI m) 0 := by
  obtain ⟨ht, a, b, cc, hL, oo, h6, hn, eH⟩ := dm_top I ho
  have hi : vp_in (nI t) 8 := vp_in_nI ht (by decide)
  obtain ⟨h, hh⟩ : ∃ h, PC t = h + 1 := ⟨PC t - 1, by simp [dm_nd] at hn; omega⟩
  refine Or.inl ⟨fl, oc, t + 1, gl, am, ou, FF, dm_un FP t (FP t + 1), dm_un PC t h, upd lo ((nI t * 4) + nI m).toNatClampNeg (pe (t * 6 + h)), pe, ?_, fun post K c s k => ?_, fun post K c s k => ?_⟩
  · refine dm_Ig I ho (by decide) (by decide) I.1.2.2.2.2.2.2.1 (fun d hd => ?_) ?_
    · simp only [dm_ud hd]
    · rw [dm_us, hh]
      simp [dm_af]
  · unfold wX_run_109 wpX_stopBefore
    repeat (first | refine br_f (by decide) ?_ | refine br_t (by decide) ?_)
    refine nm_r (nI_pred t) ⟨hi, hi, nm_r (dm_uP ht rfl) ?_⟩
    repeat (first | refine br_f (by decide) ?_ | refine br_t (by decide) ?_)
    unfold wX_execute_109 wpX_deliver
    refine dm_xpop ht hh (by omega) ?_
    repeat (first | refine br_f (by decide) ?_ | refine br_t (by decide) ?_)
    refine nm_r (nI_pred t) ⟨dm_4 ht m hm, nm_e ?_⟩
    repeat (first | refine br_f (by decide) ?_ | refine br_t (by decide) ?_)
    exact nm_e k
  · repeat (first | refine br_f (by decide) ?_ | refine br_t (by decide) ?_)
    refine ⟨hi, nm_r (dm_eFP ht) ?_⟩
    repeat (first | refine br_f (by decide) ?_ | refine br_t (by decide) ?_)
    unfold wY_run_350
    refine dm_ypop ht hh (by omega) ?_
    repeat (first | refine br_f (by decide) ?_ | refine br_t (by decide) ?_)
    refine ⟨dm_4 ht m hm, nm_e ?_⟩
    repeat (first | refine br_f (by decide) ?_ | refine br_t (by decide) ?_)
    exact nm_e k
theorem dm_go3 (I : dm_I F C D oc (t + 1) 1 O xs H L sl FF FP PC) (ho : O (FF t * 32 + FP t) = 3) {m : Nat} (hm : m < 8) : dm_Go F C D fl oc rs t O xs H L sl gl am ou FF FP PC lo pe 3 (nI m) 0 := by
  obtain ⟨ht, a, b, cc, hL, oo, h6, hn, eH⟩ := dm_top I ho
  have hi : vp_in (nI t) 8 := vp_in_nI ht (by decide)
  have h5 : PC t < 6 := by
    simp [dm_nd] at hn
    omega
  refine Or.inl ⟨fl, oc, t + 1, gl, am, ou, FF, dm_un FP t (FP t + 1), dm_un PC t (PC t + 1), lo, upd pe (t * 6 + PC t) (gl (nI m).toNatClampNeg), ?_, fun post K c s k => ?_, fun post K c s k => ?_⟩
  · refine dm_Ig I ho (by decide) (by decide) I.1.2.2.2.2.2.2.1 (fun d hd => ?_) ?_
    · simp only [dm_ud hd]
    · rw [dm_us]
      simp [dm_af]
  · unfold wX_run_109 wpX_stopBefore
    repeat (first | refine br_f (by decide) ?_ | refine br_t (by decide) ?_)
    refine nm_r (nI_pred t) ⟨hi, hi, nm_r (dm_uP ht rfl) ?_⟩
    repeat (first | refine br_f (by decide) ?_ | refine br_t (by decide) ?_)
    refine ⟨vp_in_nI hm (by decide), ?_⟩
    refine dm_xpush ht rfl h5 ?_
    repeat (first | refine br_f (by decide) ?_ | refine br_t (by decide) ?_)
    exact nm_e k
  · repeat (first | refine br_f (by decide) ?_ | refine br_t (by decide) ?_)
    refine ⟨hi, nm_r (dm_eFP ht) ?_⟩
    repeat (first | refine br_f (by decide) ?_ | refine br_t (by decide) ?_)
    refine ⟨vp_in_nI hm (by decide), ?_⟩
    refine dm_ypush ht rfl h5 ?_
    repeat (first | refine br_f (by decide) ?_ | refine br_t (by decide) ?_)
    exact nm_e k
theorem dm_go4 (I : dm_I F C D oc (t + 1) 1 O xs H L sl FF FP PC) (ho : O (FF t * 32 + FP t) = 4) {m : Nat} (hm : m < 8) : dm_Go F C D fl oc rs t O xs H L sl gl am ou FF FP PC lo pe 4 (nI m) 0 := by
  obtain ⟨ht, a, b, cc, hL, oo, h6, hn, eH⟩ := dm_top I ho
  have hi : vp_in (nI t) 8 := vp_in_nI ht (by decide)
  obtain ⟨h, hh⟩ : ∃ h, PC t = h + 1 := ⟨PC t - 1, by simp [dm_nd] at hn; omega⟩
  obtain ⟨fl', gl', am', wx, wy⟩ := dm_write (F := F) (C := C) (D := D) (fl := fl) (oc := oc) (rs := rs) (st := 1) (fc := t + 1) (O := O) (xs := xs) (H := H) (L := L) (sl := sl) (gl := gl) (am := am) (ou := ou) (FF := FF) (FP := dm_un FP t (FP t + 1)) (PC := dm_un PC t h) (lo := lo) (pe := pe) hm (pe (t * 6 + h))
  refine Or.inl ⟨fl', oc, t + 1, gl', am', ou, FF, dm_un FP t (FP t + 1), dm_un PC t h, lo, pe, ?_, fun post K c s k => ?_, fun post K c s k => ?_⟩
  · refine dm_Ig I ho (by decide) (by decide) I.1.2.2.2.2.2.2.1 (fun d hd => ?_) ?_
    · simp only [dm_ud hd]
    · rw [dm_us, hh]
      simp [dm_af]
  · unfold wX_run_109 wpX_stopBefore
    repeat (first | refine br_f (by decide) ?_ | refine br_t (by decide) ?_)
    refine nm_r (nI_pred t) ⟨hi, hi, nm_r (dm_uP ht rfl) ?_⟩
    repeat (first | refine br_f (by decide) ?_ | refine br_t (by decide) ?_)
    unfold wX_execute_109 wpX_deliver
    refine dm_xpop ht hh (by omega) ?_
    repeat (first | refine br_f (by decide) ?_ | refine br_t (by decide) ?_)
    refine wx _ ?_
    repeat (first | refine br_f (by decide) ?_ | refine br_t (by decide) ?_)
    exact nm_e k
  · repeat (first | refine br_f (by decide) ?_ | refine br_t (by decide) ?_)
    refine ⟨hi, nm_r (dm_eFP ht) ?_⟩
    repeat (first | refine br_f (by decide) ?_ | refine br_t (by decide) ?_)
    unfold wY_run_350
    refine dm_ypop ht hh (by omega) ?_
    repeat (first | refine br_f (by decide) ?_ | refine br_t (by decide) ?_)
    refine wy _ ?_
    repeat (first | refine br_f (by decide) ?_ | refine br_t (by decide) ?_)
    exact nm_e k
theorem dm_go5 (I : dm_I F C D oc (t + 1) 1 O xs H L sl FF FP PC) (ho : O (FF t * 32 + FP t) = 5) (x : Int32) : dm_Go F C D fl oc rs t O xs H L sl gl am ou FF FP PC lo pe 5 x 0 := by
  obtain ⟨ht, a, b, cc, hL, oo, h6, hn, eH⟩ := dm_top I ho
  have hi : vp_in (nI t) 8 := vp_in_nI ht (by decide)
  obtain ⟨h, hh⟩ : ∃ h, PC t = h + 1 + 1 := ⟨PC t - 2, by simp [dm_nd] at hn; omega⟩
  refine Or.inl ⟨fl, oc, t + 1, gl, am, ou, FF, dm_un FP t (FP t + 1), dm_un (dm_un (dm_un PC t (h + 1)) t h) t (h + 1), lo, upd pe (t * 6 + h) (pe (t * 6 + h) + pe (t * 6 + (h + 1))), ?_, fun post K c s k => ?_, fun post K c s k => ?_⟩
  · refine dm_Ig I ho (by decide) (by decide) I.1.2.2.2.2.2.2.1 (fun d hd => ?_) ?_
    · simp only [dm_ud hd]
    · rw [dm_us, hh]
      simp [dm_af]
  · unfold wX_run_109 wpX_stopBefore
    repeat (first | refine br_f (by decide) ?_ | refine br_t (by decide) ?_)
    refine nm_r (nI_pred t) ⟨hi, hi, nm_r (dm_uP ht rfl) ?_⟩
    repeat (first | refine br_f (by decide) ?_ | refine br_t (by decide) ?_)
    unfold wX_execute_157 wpX_calculate
    refine dm_xpop ht hh (by omega) ?_
    refine dm_xpop ht dm_us (by omega) ?_
    repeat (first | refine br_f (by decide) ?_ | refine br_t (by decide) ?_)
    refine dm_xpush ht dm_us (by omega) ?_
    repeat (first | refine br_f (by decide) ?_ | refine br_t (by decide) ?_)
    exact nm_e k
  · repeat (first | refine br_f (by decide) ?_ | refine br_t (by decide) ?_)
    refine ⟨hi, nm_r (dm_eFP ht) ?_⟩
    repeat (first | refine br_f (by decide) ?_ | refine br_t (by decide) ?_)
    unfold wY_run_350
    refine dm_ypop ht hh (by omega) ?_
    repeat (first | refine br_f (by decide) ?_ | refine br_t (by decide) ?_)
    unfold wY_run_368
    refine dm_ypop ht dm_us (by omega) ?_
    repeat (first | refine br_f (by decide) ?_ | refine br_t (by decide) ?_)
    refine dm_ypush ht dm_us (by omega) ?_
    repeat (first | refine br_f (by decide) ?_ | refine br_t (by decide) ?_)
    exact nm_e k
theorem dm_go6 (I : dm_I F C D oc (t + 1) 1 O xs H L sl FF FP PC) (ho : O (FF t * 32 + FP t) = 6) (x : Int32) : dm_Go F C D fl oc rs t O xs H L sl gl am ou FF FP PC lo pe 6 x 0 := by
  obtain ⟨ht, a, b, cc, hL, oo, h6, hn, eH⟩ := dm_top I ho
  have hi : vp_in (nI t) 8 := vp_in_nI ht (by decide)
  obtain ⟨h, hh⟩ : ∃ h, PC t = h + 1 + 1 := ⟨PC t - 2, by simp [dm_nd] at hn; omega⟩
  refine Or.inl ⟨fl, oc, t + 1, gl, am, ou, FF, dm_un FP t (FP t + 1), dm_un (dm_un (dm_un PC t (h + 1)) t h) t (h + 1), lo, upd pe (t * 6 + h) (pe (t * 6 + h) - pe (t * 6 + (h + 1))), ?_, fun post K c s k => ?_, fun post K c s k => ?_⟩
  · refine dm_Ig I ho (by decide) (by decide) I.1.2.2.2.2.2.2.1 (fun d hd => ?_) ?_
    · simp only [dm_ud hd]
    · rw [dm_us, hh]
      simp [dm_af]
  · unfold wX_run_109 wpX_stopBefore
    repeat (first | refine br_f (by decide) ?_ | refine br_t (by decide) ?_)
    refine nm_r (nI_pred t) ⟨hi, hi, nm_r (dm_uP ht rfl) ?_⟩
    repeat (first | refine br_f (by decide) ?_ | refine br_t (by decide) ?_)
    unfold wX_execute_157 wpX_calculate
    refine dm_xpop ht hh (by omega) ?_
    refine dm_xpop ht dm_us (by omega) ?_
    repeat (first | refine br_f (by decide) ?_ | refine br_t (by decide) ?_)
    refine dm_xpush ht dm_us (by omega) ?_
    repeat (first | refine br_f (by decide) ?_ | refine br_t (by decide) ?_)
    exact nm_e k
  · repeat (first | refine br_f (by decide) ?_ | refine br_t (by decide) ?_)
    refine ⟨hi, nm_r (dm_eFP ht) ?_⟩
    repeat (first | refine br_f (by decide) ?_ | refine br_t (by decide) ?_)
    unfold wY_run_350
    refine dm_ypop ht hh (by omega) ?_
    repeat (first | refine br_f (by decide) ?_ | refine br_t (by decide) ?_)
    unfold wY_run_368
    refine dm_ypop ht dm_us (by omega) ?_
    repeat (first | refine br_f (by decide) ?_ | refine br_t (by decide) ?_)
    refine dm_ypush ht dm_us (by omega) ?_
    repeat (first | refine br_f (by decide) ?_ | refine br_t (by decide) ?_)
    exact nm_e k
theorem dm_go7 (I : dm_I F C D oc (t + 1) 1 O xs H L sl FF FP PC) (ho : O (FF t * 32 + FP t) = 7) (x : Int32) : dm_Go F C D fl oc rs t O xs H L sl gl am ou FF FP PC lo pe 7 x 0 := by
  obtain ⟨ht, a, b, cc, hL, oo, h6, hn, eH⟩ := dm_top I ho
  have hi : vp_in (nI t) 8 := vp_in_nI ht (by decide)
  obtain ⟨h, hh⟩ : ∃ h, PC t = h + 1 + 1 := ⟨PC t - 2, by simp [dm_nd] at hn; omega⟩
  refine Or.inl ⟨fl, oc, t + 1, gl, am, ou, FF, dm_un FP t (FP t + 1), dm_un (dm_un (dm_un PC t (h + 1)) t h) t (h + 1), lo, upd pe (t * 6 + h) (pe (t * 6 + h) * pe (t * 6 + (h + 1))), ?_, fun post K c s k => ?_, fun post K c s k => ?_⟩
  · refine dm_Ig I ho (by decide) (by decide) I.1.2.2.2.2.2.2.1 (fun d hd => ?_) ?_
    · simp only [dm_ud hd]
    · rw [dm_us, hh]
      simp [dm_af]
  · unfold wX_run_109 wpX_stopBefore
    repeat (first | refine br_f (by decide) ?_ | refine br_t (by decide) ?_)
    refine nm_r (nI_pred t) ⟨hi, hi, nm_r (dm_uP ht rfl) ?_⟩
    repeat (first | refine br_f (by decide) ?_ | refine br_t (by decide) ?_)
    unfold wX_execute_157 wpX_calculate
    refine dm_xpop ht hh (by omega) ?_
    refine dm_xpop ht dm_us (by omega) ?_
    repeat (first | refine br_f (by decide) ?_ | refine br_t (by decide) ?_)
    refine dm_xpush ht dm_us (by omega) ?_
    repeat (first | refine br_f (by decide) ?_ | refine br_t (by decide) ?_)
    exact nm_e k
  · repeat (first | refine br_f (by decide) ?_ | refine br_t (by decide) ?_)
    refine ⟨hi, nm_r (dm_eFP ht) ?_⟩
    repeat (first | refine br_f (by decide) ?_ | refine br_t (by decide) ?_)
    unfold wY_run_350
    refine dm_ypop ht hh (by omega) ?_
    repeat (first | refine br_f (by decide) ?_ | refine br_t (by decide) ?_)
    unfold wY_run_368
    refine dm_ypop ht dm_us (by omega) ?_
    repeat (first | refine br_f (by decide) ?_ | refine br_t (by decide) ?_)
    refine dm_ypush ht dm_us (by omega) ?_
    repeat (first | refine br_f (by decide) ?_ | refine br_t (by decide) ?_)
    exact nm_e k
theorem dm_go8 (I : dm_I F C D oc (t + 1) 1 O xs H L sl FF FP PC) (ho : O (FF t * 32 + FP t) = 8) (x : Int32) : dm_Go F C D fl oc rs t O xs H L sl gl am ou FF FP PC lo pe 8 x 0 := by
  obtain ⟨ht, a, b, cc, hL, oo, h6, hn, eH⟩ := dm_top I ho
  have hi : vp_in (nI t) 8 := vp_in_nI ht (by decide)
  obtain ⟨h, hh⟩ : ∃ h, PC t = h + 1 + 1 := ⟨PC t - 2, by simp [dm_nd] at hn; omega⟩
  have e61 : ((nI t * 6) + dm_nn PC (nI t).toNatClampNeg) - 1 = nI (t * 6 + (h + 1)) := dm_c61 ht hh
  have p0 : ¬ dm_nn PC (nI t).toNatClampNeg ≤ 0 := by
    rw [nI_clamp (by omega)]
    exact nI_nle (n := PC t) (by omega) (by omega)
  have v6 : vp_in (((nI t * 6) + dm_nn PC (nI t).toNatClampNeg) - 1) 48 := by
    rw [e61]
    exact vp_in_nI (by omega) (by decide)
  by_cases z : pe (t * 6 + (h + 1)) = 0
  · have z' : pe (((nI t * 6) + dm_nn PC (nI t).toNatClampNeg) - 1).toNatClampNeg = 0 := by
      rw [e61, nI_clamp (by omega)]
      exact z
    refine Or.inr ⟨8, (dm_X F C D fl oc rs 1 (t + 1) O xs H L sl gl am ou FF FP PC lo pe), (dm_Y F C D fl oc rs 1 (t + 1) O xs L sl gl am ou FF FP PC lo pe), dm_R I, fun post K c s k => ?_, fun post K c s k => ?_⟩
    · unfold wX_run_109 wpX_stopBefore
      repeat (first | refine br_f (by decide) ?_ | refine br_t (by decide) ?_)
      refine dm_xtop ht hh (by omega) ?_
      refine br_t z ?_
      repeat (first | refine br_f (by decide) ?_ | refine br_t (by decide) ?_)
      exact k
    · repeat (first | refine br_f (by decide) ?_ | refine br_t (by decide) ?_)
      exact ⟨hi, br_f p0 ⟨hi, v6, br_t z' k⟩⟩
  · have z' : ¬ pe (((nI t * 6) + dm_nn PC (nI t).toNatClampNeg) - 1).toNatClampNeg = 0 := by
      rw [e61, nI_clamp (by omega)]
      exact z
    refine Or.inl ⟨fl, oc, t + 1, gl, am, ou, FF, dm_un FP t (FP t + 1), dm_un (dm_un (dm_un PC t (h + 1)) t h) t (h + 1), lo, upd pe (t * 6 + h) (pe (t * 6 + h) / pe (t * 6 + (h + 1))), ?_, fun post K c s k => ?_, fun post K c s k => ?_⟩
    · refine dm_Ig I ho (by decide) (by decide) I.1.2.2.2.2.2.2.1 (fun d hd => ?_) ?_
      · simp only [dm_ud hd]
      · rw [dm_us, hh]
        simp [dm_af]
    · unfold wX_run_109 wpX_stopBefore
      repeat (first | refine br_f (by decide) ?_ | refine br_t (by decide) ?_)
      refine dm_xtop ht hh (by omega) ?_
      refine br_f z ?_
      repeat (first | refine br_f (by decide) ?_ | refine br_t (by decide) ?_)
      refine nm_r (nI_pred t) ⟨hi, hi, nm_r (dm_uP ht rfl) ?_⟩
      repeat (first | refine br_f (by decide) ?_ | refine br_t (by decide) ?_)
      unfold wX_execute_157 wpX_calculate
      refine dm_xpop ht hh (by omega) ?_
      refine dm_xpop ht dm_us (by omega) ?_
      repeat (first | refine br_f (by decide) ?_ | refine br_t (by decide) ?_)
      refine br_f z ⟨z, ?_⟩
      refine dm_xpush ht dm_us (by omega) ?_
      repeat (first | refine br_f (by decide) ?_ | refine br_t (by decide) ?_)
      exact nm_e k
    · repeat (first | refine br_f (by decide) ?_ | refine br_t (by decide) ?_)
      refine ⟨hi, br_f p0 ⟨hi, v6, br_f z' ?_⟩⟩
      repeat (first | refine br_f (by decide) ?_ | refine br_t (by decide) ?_)
      refine ⟨hi, nm_r (dm_eFP ht) ?_⟩
      repeat (first | refine br_f (by decide) ?_ | refine br_t (by decide) ?_)
      unfold wY_run_350
      refine dm_ypop ht hh (by omega) ?_
      repeat (first | refine br_f (by decide) ?_ | refine br_t (by decide) ?_)
      unfold wY_run_368
      refine dm_ypop ht dm_us (by omega) ?_
      repeat (first | refine br_f (by decide) ?_ | refine br_t (by decide) ?_)
      refine br_f z ⟨z, ?_⟩
      refine dm_ypush ht dm_us (by omega) ?_
      repeat (first | refine br_f (by decide) ?_ | refine br_t (by decide) ?_)
      exact nm_e k
theorem dm_go9 (I : dm_I F C D oc (t + 1) 1 O xs H L sl FF FP PC) (ho : O (FF t * 32 + FP t) = 9) (x : Int32) : dm_Go F C D fl oc rs t O xs H L sl gl am ou FF FP PC lo pe 9 x 0 := by
  obtain ⟨ht, a, b, cc, hL, oo, h6, hn, eH⟩ := dm_top I ho
  have hi : vp_in (nI t) 8 := vp_in_nI ht (by decide)
  obtain ⟨h, hh⟩ : ∃ h, PC t = h + 1 + 1 := ⟨PC t - 2, by simp [dm_nd] at hn; omega⟩
  by_cases q : pe (t * 6 + (h + 1)) ≤ pe (t * 6 + h)
  · refine Or.inl ⟨fl, oc, t + 1, gl, am, ou, FF, dm_un FP t (FP t + 1), dm_un (dm_un (dm_un PC t (h + 1)) t h) t (h + 1), lo, upd pe (t * 6 + h) 0, ?_, fun post K c s k => ?_, fun post K c s k => ?_⟩
    · refine dm_Ig I ho (by decide) (by decide) I.1.2.2.2.2.2.2.1 (fun d hd => ?_) ?_
      · simp only [dm_ud hd]
      · rw [dm_us, hh]
        simp [dm_af]
    · unfold wX_run_109 wpX_stopBefore
      repeat (first | refine br_f (by decide) ?_ | refine br_t (by decide) ?_)
      refine nm_r (nI_pred t) ⟨hi, hi, nm_r (dm_uP ht rfl) ?_⟩
      repeat (first | refine br_f (by decide) ?_ | refine br_t (by decide) ?_)
      unfold wX_execute_157 wpX_calculate
      refine dm_xpop ht hh (by omega) ?_
      refine dm_xpop ht dm_us (by omega) ?_
      repeat (first | refine br_f (by decide) ?_ | refine br_t (by decide) ?_)
      refine br_t q ?_
      unfold wX_calculate_74
      refine dm_xpush ht dm_us (by omega) ?_
      repeat (first | refine br_f (by decide) ?_ | refine br_t (by decide) ?_)
      exact nm_e k
    · repeat (first | refine br_f (by decide) ?_ | refine br_t (by decide) ?_)
      refine ⟨hi, nm_r (dm_eFP ht) ?_⟩
      repeat (first | refine br_f (by decide) ?_ | refine br_t (by decide) ?_)
      unfold wY_run_350
      refine dm_ypop ht hh (by omega) ?_
      repeat (first | refine br_f (by decide) ?_ | refine br_t (by decide) ?_)
      unfold wY_run_368
      refine dm_ypop ht dm_us (by omega) ?_
      repeat (first | refine br_f (by decide) ?_ | refine br_t (by decide) ?_)
      refine br_t q ?_
      unfold wY_run_546
      refine dm_ypush ht dm_us (by omega) ?_
      repeat (first | refine br_f (by decide) ?_ | refine br_t (by decide) ?_)
      exact nm_e k
  · refine Or.inl ⟨fl, oc, t + 1, gl, am, ou, FF, dm_un FP t (FP t + 1), dm_un (dm_un (dm_un PC t (h + 1)) t h) t (h + 1), lo, upd pe (t * 6 + h) 1, ?_, fun post K c s k => ?_, fun post K c s k => ?_⟩
    · refine dm_Ig I ho (by decide) (by decide) I.1.2.2.2.2.2.2.1 (fun d hd => ?_) ?_
      · simp only [dm_ud hd]
      · rw [dm_us, hh]
        simp [dm_af]
    · unfold wX_run_109 wpX_stopBefore
      repeat (first | refine br_f (by decide) ?_ | refine br_t (by decide) ?_)
      refine nm_r (nI_pred t) ⟨hi, hi, nm_r (dm_uP ht rfl) ?_⟩
      repeat (first | refine br_f (by decide) ?_ | refine br_t (by decide) ?_)
      unfold wX_execute_157 wpX_calculate
      refine dm_xpop ht hh (by omega) ?_
      refine dm_xpop ht dm_us (by omega) ?_
      repeat (first | refine br_f (by decide) ?_ | refine br_t (by decide) ?_)
      refine br_f q ?_
      unfold wX_calculate_74
      refine dm_xpush ht dm_us (by omega) ?_
      repeat (first | refine br_f (by decide) ?_ | refine br_t (by decide) ?_)
      exact nm_e k
    · repeat (first | refine br_f (by decide) ?_ | refine br_t (by decide) ?_)
      refine ⟨hi, nm_r (dm_eFP ht) ?_⟩
      repeat (first | refine br_f (by decide) ?_ | refine br_t (by decide) ?_)
      unfold wY_run_350
      refine dm_ypop ht hh (by omega) ?_
      repeat (first | refine br_f (by decide) ?_ | refine br_t (by decide) ?_)
      unfold wY_run_368
      refine dm_ypop ht dm_us (by omega) ?_
      repeat (first | refine br_f (by decide) ?_ | refine br_t (by decide) ?_)
      refine br_f q ?_
      unfold wY_run_546
      refine dm_ypush ht dm_us (by omega) ?_
      repeat (first | refine br_f (by decide) ?_ | refine br_t (by decide) ?_)
      exact nm_e k
theorem dm_go10 (I : dm_I F C D oc (t + 1) 1 O xs H L sl FF FP PC) (ho : O (FF t * 32 + FP t) = 10) {m : Nat} (hm : m < L (FF t)) (hb : dm_hb H (FF t) m = 0) : dm_Go F C D fl oc rs t O xs H L sl gl am ou FF FP PC lo pe 10 (nI m) 0 := by
  obtain ⟨ht, a, b, cc, hL, oo, h6, hn, eH⟩ := dm_top I ho
  have hi : vp_in (nI t) 8 := vp_in_nI ht (by decide)
  have h0 : PC t = 0 := by
    simp [dm_nd] at hn
    exact hn
  refine Or.inl ⟨fl, oc, t + 1, gl, am, ou, FF, dm_un (dm_un FP t (FP t + 1)) t m, PC, lo, pe, ?_, fun post K c s k => ?_, fun post K c s k => ?_⟩
  · refine dm_Ij I hm hb (fun d hd => ?_) (fun d hd => rfl) dm_us h0
    simp only [dm_ud hd]
  · unfold wX_run_109 wpX_stopBefore
    repeat (first | refine br_f (by decide) ?_ | refine br_t (by decide) ?_)
    refine nm_r (nI_pred t) ⟨hi, hi, nm_r (dm_uP ht rfl) ?_⟩
    repeat (first | refine br_f (by decide) ?_ | refine br_t (by decide) ?_)
    refine ⟨hi, nm_r (dm_u0 ht m) ?_⟩
    repeat (first | refine br_f (by decide) ?_ | refine br_t (by decide) ?_)
    exact nm_e k
  · repeat (first | refine br_f (by decide) ?_ | refine br_t (by decide) ?_)
    refine ⟨hi, nm_r (dm_eFP ht) ?_⟩
    repeat (first | refine br_f (by decide) ?_ | refine br_t (by decide) ?_)
    refine ⟨hi, nm_r (dm_u0 ht m) ?_⟩
    repeat (first | refine br_f (by decide) ?_ | refine br_t (by decide) ?_)
    exact nm_e k
theorem dm_go11 (I : dm_I F C D oc (t + 1) 1 O xs H L sl FF FP PC) (ho : O (FF t * 32 + FP t) = 11) {m : Nat} (hm : m < L (FF t)) (hb : dm_hb H (FF t) m = 0) : dm_Go F C D fl oc rs t O xs H L sl gl am ou FF FP PC lo pe 11 (nI m) 0 := by
  obtain ⟨ht, a, b, cc, hL, oo, h6, hn, eH⟩ := dm_top I ho
  have hi : vp_in (nI t) 8 := vp_in_nI ht (by decide)
  have hh : PC t = 0 + 1 := by
    simp [dm_nd] at hn
    exact hn
  by_cases z : pe (t * 6 + 0) = 0
  · refine Or.inl ⟨fl, oc, t + 1, gl, am, ou, FF, dm_un FP t (FP t + 1), dm_un PC t 0, lo, pe, ?_, fun post K c s k => ?_, fun post K c s k => ?_⟩
    · refine dm_Ig I ho (by decide) (by decide) I.1.2.2.2.2.2.2.1 (fun d hd => ?_) ?_
      · simp only [dm_ud hd]
      · rw [dm_us, hh]
        simp [dm_af]
    · unfold wX_run_109 wpX_stopBefore
      repeat (first | refine br_f (by decide) ?_ | refine br_t (by decide) ?_)
      refine nm_r (nI_pred t) ⟨hi, hi, nm_r (dm_uP ht rfl) ?_⟩
      repeat (first | refine br_f (by decide) ?_ | refine br_t (by decide) ?_)
      refine dm_xpop ht hh (by omega) ?_
      refine br_t z ?_
      repeat (first | refine br_f (by decide) ?_ | refine br_t (by decide) ?_)
      exact nm_e k
    · repeat (first | refine br_f (by decide) ?_ | refine br_t (by decide) ?_)
      refine ⟨hi, nm_r (dm_eFP ht) ?_⟩
      repeat (first | refine br_f (by decide) ?_ | refine br_t (by decide) ?_)
      unfold wY_run_350
      refine dm_ypop ht hh (by omega) ?_
      repeat (first | refine br_f (by decide) ?_ | refine br_t (by decide) ?_)
      refine br_t z ?_
      repeat (first | refine br_f (by decide) ?_ | refine br_t (by decide) ?_)
      exact nm_e k
  · refine Or.inl ⟨fl, oc, t + 1, gl, am, ou, FF, dm_un (dm_un FP t (FP t + 1)) t m, dm_un PC t 0, lo, pe, ?_, fun post K c s k => ?_, fun post K c s k => ?_⟩
    · refine dm_Ij I hm hb (fun d hd => ?_) (fun d hd => ?_) dm_us dm_us
      · simp only [dm_ud hd]
      · simp only [dm_ud hd]
    · unfold wX_run_109 wpX_stopBefore
      repeat (first | refine br_f (by decide) ?_ | refine br_t (by decide) ?_)
      refine nm_r (nI_pred t) ⟨hi, hi, nm_r (dm_uP ht rfl) ?_⟩
      repeat (first | refine br_f (by decide) ?_ | refine br_t (by decide) ?_)
      refine dm_xpop ht hh (by omega) ?_
      refine br_f z ⟨hi, nm_r (dm_u0 ht m) ?_⟩
      repeat (first | refine br_f (by decide) ?_ | refine br_t (by decide) ?_)
      exact nm_e k
    · repeat (first | refine br_f (by decide) ?_ | refine br_t (by decide) ?_)
      refine ⟨hi, nm_r (dm_eFP ht) ?_⟩
      repeat (first | refine br_f (by decide) ?_ | refine br_t (by decide) ?_)
      unfold wY_run_350
      refine dm_ypop ht hh (by omega) ?_
      repeat (first | refine br_f (by decide) ?_ | refine br_t (by decide) ?_)
      refine br_f z ?_
      refine ⟨hi, nm_r (dm_u0 ht m) ?_⟩
      repeat (first | refine br_f (by decide) ?_ | refine br_t (by decide) ?_)
      exact nm_e k
theorem dm_go12 (I : dm_I F C D oc (t + 1) 1 O xs H L sl FF FP PC) (ho : O (FF t * 32 + FP t) = 12) {m : Nat} (hm : m < F) : dm_Go F C D fl oc rs t O xs H L sl gl am ou FF FP PC lo pe 12 (nI m) 1 := by
  obtain ⟨ht, a, b, cc, hL, oo, h6, hn, eH⟩ := dm_top I ho
  have hi : vp_in (nI t) 8 := vp_in_nI ht (by decide)
  have hF : F ≤ 8 := I.1.2.1
  have hD : D ≤ 8 := I.1.2.2.2.2.2.1
  have hv : vp_in (nI m) 8 := vp_in_nI (by omega) (by decide)
  have h5 : PC t < 6 := by
    simp [dm_nd] at hn
    omega
  by_cases z : sl (nI m).toNatClampNeg = 0
  · refine Or.inr ⟨5, (dm_X F C D fl oc rs 1 (t + 1) O xs H L sl gl am ou FF FP PC lo pe), (dm_Y F C D fl oc rs 1 (t + 1) O xs L sl gl am ou FF FP PC lo pe), dm_R I, fun post K c s k => ?_, fun post K c s k => ?_⟩
    · unfold wX_run_109 wpX_stopBefore
      repeat (first | refine br_f (by decide) ?_ | refine br_t (by decide) ?_)
      refine ⟨hv, br_t z ?_⟩
      repeat (first | refine br_f (by decide) ?_ | refine br_t (by decide) ?_)
      exact k
    · repeat (first | refine br_f (by decide) ?_ | refine br_t (by decide) ?_)
      exact ⟨hv, br_t z k⟩
  by_cases q : t + 1 < D
  · have q' : nI (t + 1) < nI D := nI_lt q (by omega)
    have z2 : ¬ sl m = 0 := by
      rw [nI_clamp (by omega)] at z
      exact z
    refine Or.inl ⟨fl, oc, t + 2, gl, am, ou, dm_un FF (t + 1) m, dm_un (dm_un FP t (FP t + 1)) (t + 1) 0, dm_un (PC) (t + 1) 0, dm_nl lo (t + 1) (0) (0), pe, ?_, fun post K c s k => ?_, fun post K c s k => ?_⟩
    · refine dm_Ic I ho (by decide) (by decide) q hm z2 (fun d hd => rfl) ?_
      simp [dm_af]
    · unfold wX_run_109 wpX_stopBefore
      repeat (first | refine br_f (by decide) ?_ | refine br_t (by decide) ?_)
      refine ⟨hv, br_f z ?_⟩
      repeat (first | refine br_f (by decide) ?_ | refine br_t (by decide) ?_)
      refine br_t q' ?_
      repeat (first | refine br_f (by decide) ?_ | refine br_t (by decide) ?_)
      refine nm_r (nI_pred t) ⟨hi, hi, nm_r (dm_uP ht rfl) ?_⟩
      repeat (first | refine br_f (by decide) ?_ | refine br_t (by decide) ?_)
      repeat (first | refine br_f (by decide) ?_ | refine br_t (by decide) ?_)
      unfold wX_enterFunction_29
      refine dm_xadd (t := t + 1) (by omega) ?_
      repeat (first | refine br_f (by decide) ?_ | refine br_t (by decide) ?_)
      exact nm_e k
    · repeat (first | refine br_f (by decide) ?_ | refine br_t (by decide) ?_)
      refine ⟨hv, br_f z ?_⟩
      repeat (first | refine br_f (by decide) ?_ | refine br_t (by decide) ?_)
      refine br_t q' ?_
      repeat (first | refine br_f (by decide) ?_ | refine br_t (by decide) ?_)
      refine ⟨hi, nm_r (dm_eFP ht) ?_⟩
      repeat (first | refine br_f (by decide) ?_ | refine br_t (by decide) ?_)
      refine dm_yadd (t := t + 1) (by omega) ?_
      repeat (first | refine br_f (by decide) ?_ | refine br_t (by decide) ?_)
      exact nm_e k
  · have q' : ¬ nI (t + 1) < nI D := nI_nlt (by omega) (by omega)
    refine Or.inr ⟨9, (dm_X F C D fl oc rs 1 (t + 1) O xs H L sl gl am ou FF FP PC lo pe), (dm_Y F C D fl oc rs 1 (t + 1) O xs L sl gl am ou FF FP PC lo pe), dm_R I, fun post K c s k => ?_, fun post K c s k => ?_⟩
    · unfold wX_run_109 wpX_stopBefore
      repeat (first | refine br_f (by decide) ?_ | refine br_t (by decide) ?_)
      refine ⟨hv, br_f z ?_⟩
      repeat (first | refine br_f (by decide) ?_ | refine br_t (by decide) ?_)
      refine br_f q' ?_
      repeat (first | refine br_f (by decide) ?_ | refine br_t (by decide) ?_)
      exact k
    · repeat (first | refine br_f (by decide) ?_ | refine br_t (by decide) ?_)
      refine ⟨hv, br_f z ?_⟩
      repeat (first | refine br_f (by decide) ?_ | refine br_t (by decide) ?_)
      exact br_f q' k
theorem dm_go13 (I : dm_I F C D oc (t + 1) 1 O xs H L sl FF FP PC) (ho : O (FF t * 32 + FP t) = 13) {m : Nat} (hm : m < F) : dm_Go F C D fl oc rs t O xs H L sl gl am ou FF FP PC lo pe 13 (nI m) 1 := by
  obtain ⟨ht, a, b, cc, hL, oo, h6, hn, eH⟩ := dm_top I ho
  have hi : vp_in (nI t) 8 := vp_in_nI ht (by decide)
  have hF : F ≤ 8 := I.1.2.1
  have hD : D ≤ 8 := I.1.2.2.2.2.2.1
  have hv : vp_in (nI m) 8 := vp_in_nI (by omega) (by decide)
  obtain ⟨h, hh⟩ : ∃ h, PC t = h + 1 := ⟨PC t - 1, by simp [dm_nd] at hn; omega⟩
  by_cases z : sl (nI m).toNatClampNeg = 0
  · refine Or.inr ⟨5, (dm_X F C D fl oc rs 1 (t + 1) O xs H L sl gl am ou FF FP PC lo pe), (dm_Y F C D fl oc rs 1 (t + 1) O xs L sl gl am ou FF FP PC lo pe), dm_R I, fun post K c s k => ?_, fun post K c s k => ?_⟩
    · unfold wX_run_109 wpX_stopBefore
      repeat (first | refine br_f (by decide) ?_ | refine br_t (by decide) ?_)
      refine ⟨hv, br_t z ?_⟩
      repeat (first | refine br_f (by decide) ?_ | refine br_t (by decide) ?_)
      exact k
    · repeat (first | refine br_f (by decide) ?_ | refine br_t (by decide) ?_)
      exact ⟨hv, br_t z k⟩
  by_cases q : t + 1 < D
  · have q' : nI (t + 1) < nI D := nI_lt q (by omega)
    have z2 : ¬ sl m = 0 := by
      rw [nI_clamp (by omega)] at z
      exact z
    refine Or.inl ⟨fl, oc, t + 2, gl, am, ou, dm_un FF (t + 1) m, dm_un (dm_un FP t (FP t + 1)) (t + 1) 0, dm_un (dm_un PC t h) (t + 1) 0, dm_nl lo (t + 1) (pe (t * 6 + h)) (0), pe, ?_, fun post K c s k => ?_, fun post K c s k => ?_⟩
    · refine dm_Ic I ho (by decide) (by decide) q hm z2 (fun d hd => dm_ud hd) ?_
      rw [dm_us, hh]
      simp [dm_af]
    · unfold wX_run_109 wpX_stopBefore
      repeat (first | refine br_f (by decide) ?_ | refine br_t (by decide) ?_)
      refine ⟨hv, br_f z ?_⟩
      repeat (first | refine br_f (by decide) ?_ | refine br_t (by decide) ?_)
      refine br_t q' ?_
      repeat (first | refine br_f (by decide) ?_ | refine br_t (by decide) ?_)
      refine nm_r (nI_pred t) ⟨hi, hi, nm_r (dm_uP ht rfl) ?_⟩
      repeat (first | refine br_f (by decide) ?_ | refine br_t (by decide) ?_)
      repeat (first | refine br_f (by decide) ?_ | refine br_t (by decide) ?_)
      refine dm_xpop ht hh (by omega) ?_
      unfold wX_enterFunction_29
      refine dm_xadd (t := t + 1) (by omega) ?_
      repeat (first | refine br_f (by decide) ?_ | refine br_t (by decide) ?_)
      exact nm_e k
    · repeat (first | refine br_f (by decide) ?_ | refine br_t (by decide) ?_)
      refine ⟨hv, br_f z ?_⟩
      repeat (first | refine br_f (by decide) ?_ | refine br_t (by decide) ?_)
      refine br_t q' ?_
      repeat (first | refine br_f (by decide) ?_ | refine br_t (by decide) ?_)
      refine ⟨hi, nm_r (dm_eFP ht) ?_⟩
      repeat (first | refine br_f (by decide) ?_ | refine br_t (by decide) ?_)
      unfold wY_run_368
      refine dm_ypop ht hh (by omega) ?_
      repeat (first | refine br_f (by decide) ?_ | refine br_t (by decide) ?_)
      refine dm_yadd (t := t + 1) (by omega) ?_
      repeat (first | refine br_f (by decide) ?_ | refine br_t (by decide) ?_)
      exact nm_e k
  · have q' : ¬ nI (t + 1) < nI D := nI_nlt (by omega) (by omega)
    refine Or.inr ⟨9, (dm_X F C D fl oc rs 1 (t + 1) O xs H L sl gl am ou FF FP PC lo pe), (dm_Y F C D fl oc rs 1 (t + 1) O xs L sl gl am ou FF FP PC lo pe), dm_R I, fun post K c s k => ?_, fun post K c s k => ?_⟩
    · unfold wX_run_109 wpX_stopBefore
      repeat (first | refine br_f (by decide) ?_ | refine br_t (by decide) ?_)
      refine ⟨hv, br_f z ?_⟩
      repeat (first | refine br_f (by decide) ?_ | refine br_t (by decide) ?_)
      refine br_f q' ?_
      repeat (first | refine br_f (by decide) ?_ | refine br_t (by decide) ?_)
      exact k
    · repeat (first | refine br_f (by decide) ?_ | refine br_t (by decide) ?_)
      refine ⟨hv, br_f z ?_⟩
      repeat (first | refine br_f (by decide) ?_ | refine br_t (by decide) ?_)
      exact br_f q' k
theorem dm_go14 (I : dm_I F C D oc (t + 1) 1 O xs H L sl FF FP PC) (ho : O (FF t * 32 + FP t) = 14) {m : Nat} (hm : m < F) : dm_Go F C D fl oc rs t O xs H L sl gl am ou FF FP PC lo pe 14 (nI m) 1 := by
  obtain ⟨ht, a, b, cc, hL, oo, h6, hn, eH⟩ := dm_top I ho
  have hi : vp_in (nI t) 8 := vp_in_nI ht (by decide)
  have hF : F ≤ 8 := I.1.2.1
  have hD : D ≤ 8 := I.1.2.2.2.2.2.1
  have hv : vp_in (nI m) 8 := vp_in_nI (by omega) (by decide)
  obtain ⟨h, hh⟩ : ∃ h, PC t = h + 1 + 1 := ⟨PC t - 2, by simp [dm_nd] at hn; omega⟩
  by_cases z : sl (nI m).toNatClampNeg = 0
  · refine Or.inr ⟨5, (dm_X F C D fl oc rs 1 (t + 1) O xs H L sl gl am ou FF FP PC lo pe), (dm_Y F C D fl oc rs 1 (t + 1) O xs L sl gl am ou FF FP PC lo pe), dm_R I, fun post K c s k => ?_, fun post K c s k => ?_⟩
    · unfold wX_run_109 wpX_stopBefore
      repeat (first | refine br_f (by decide) ?_ | refine br_t (by decide) ?_)
      refine ⟨hv, br_t z ?_⟩
      repeat (first | refine br_f (by decide) ?_ | refine br_t (by decide) ?_)
      exact k
    · repeat (first | refine br_f (by decide) ?_ | refine br_t (by decide) ?_)
      exact ⟨hv, br_t z k⟩
  by_cases q : t + 1 < D
  · have q' : nI (t + 1) < nI D := nI_lt q (by omega)
    have z2 : ¬ sl m = 0 := by
      rw [nI_clamp (by omega)] at z
      exact z
    refine Or.inl ⟨fl, oc, t + 2, gl, am, ou, dm_un FF (t + 1) m, dm_un (dm_un FP t (FP t + 1)) (t + 1) 0, dm_un (dm_un (dm_un PC t (h + 1)) t h) (t + 1) 0, dm_nl lo (t + 1) (pe (t * 6 + h)) (pe (t * 6 + (h + 1))), pe, ?_, fun post K c s k => ?_, fun post K c s k => ?_⟩
    · refine dm_Ic I ho (by decide) (by decide) q hm z2 (fun d hd => by rw [dm_ud hd, dm_ud hd]) ?_
      rw [dm_us, hh]
      simp [dm_af]
    · unfold wX_run_109 wpX_stopBefore
      repeat (first | refine br_f (by decide) ?_ | refine br_t (by decide) ?_)
      refine ⟨hv, br_f z ?_⟩
      repeat (first | refine br_f (by decide) ?_ | refine br_t (by decide) ?_)
      refine br_t q' ?_
      repeat (first | refine br_f (by decide) ?_ | refine br_t (by decide) ?_)
      refine nm_r (nI_pred t) ⟨hi, hi, nm_r (dm_uP ht rfl) ?_⟩
      repeat (first | refine br_f (by decide) ?_ | refine br_t (by decide) ?_)
      repeat (first | refine br_f (by decide) ?_ | refine br_t (by decide) ?_)
      refine dm_xpop ht hh (by omega) ?_
      repeat (first | refine br_f (by decide) ?_ | refine br_t (by decide) ?_)
      refine dm_xpop ht dm_us (by omega) ?_
      unfold wX_enterFunction_29
      refine dm_xadd (t := t + 1) (by omega) ?_
      repeat (first | refine br_f (by decide) ?_ | refine br_t (by decide) ?_)
      exact nm_e k
    · repeat (first | refine br_f (by decide) ?_ | refine br_t (by decide) ?_)
      refine ⟨hv, br_f z ?_⟩
      repeat (first | refine br_f (by decide) ?_ | refine br_t (by decide) ?_)
      refine br_t q' ?_
      repeat (first | refine br_f (by decide) ?_ | refine br_t (by decide) ?_)
      refine ⟨hi, nm_r (dm_eFP ht) ?_⟩
      repeat (first | refine br_f (by decide) ?_ | refine br_t (by decide) ?_)
      unfold wY_run_350
      refine dm_ypop ht hh (by omega) ?_
      repeat (first | refine br_f (by decide) ?_ | refine br_t (by decide) ?_)
      unfold wY_run_368
      refine dm_ypop ht dm_us (by omega) ?_
      repeat (first | refine br_f (by decide) ?_ | refine br_t (by decide) ?_)
      refine dm_yadd (t := t + 1) (by omega) ?_
      repeat (first | refine br_f (by decide) ?_ | refine br_t (by decide) ?_)
      exact nm_e k
  · have q' : ¬ nI (t + 1) < nI D := nI_nlt (by omega) (by omega)
    refine Or.inr ⟨9, (dm_X F C D fl oc rs 1 (t + 1) O xs H L sl gl am ou FF FP PC lo pe), (dm_Y F C D fl oc rs 1 (t + 1) O xs L sl gl am ou FF FP PC lo pe), dm_R I, fun post K c s k => ?_, fun post K c s k => ?_⟩
    · unfold wX_run_109 wpX_stopBefore
      repeat (first | refine br_f (by decide) ?_ | refine br_t (by decide) ?_)
      refine ⟨hv, br_f z ?_⟩
      repeat (first | refine br_f (by decide) ?_ | refine br_t (by decide) ?_)
      refine br_f q' ?_
      repeat (first | refine br_f (by decide) ?_ | refine br_t (by decide) ?_)
      exact k
    · repeat (first | refine br_f (by decide) ?_ | refine br_t (by decide) ?_)
      refine ⟨hv, br_f z ?_⟩
      repeat (first | refine br_f (by decide) ?_ | refine br_t (by decide) ?_)
      exact br_f q' k
theorem dm_go15 (I : dm_I F C D oc (t + 1) 1 O xs H L sl FF FP PC) (ho : O (FF t * 32 + FP t) = 15) (x : Int32) : dm_Go F C D fl oc rs t O xs H L sl gl am ou FF FP PC lo pe 15 x 0 := by
  obtain ⟨ht, a, b, cc, hL, oo, h6, hn, eH⟩ := dm_top I ho
  have hi : vp_in (nI t) 8 := vp_in_nI ht (by decide)
  obtain ⟨h, hh⟩ : ∃ h, PC t = h + 1 := ⟨PC t - 1, by simp [dm_nd] at hn; omega⟩
  have ho16 : oc ≤ 16 := I.1.2.2.2.2.2.2.1
  by_cases q : oc < 16
  · have q' : nI oc < 16 := nI_lt (b := 16) q (by decide)
    refine Or.inl ⟨fl, oc + 1, t + 1, gl, am, upd ou (nI oc).toNatClampNeg (pe (t * 6 + h)), FF, dm_un FP t (FP t + 1), dm_un PC t h, lo, pe, ?_, fun post K c s k => ?_, fun post K c s k => ?_⟩
    · refine dm_Ig I ho (by decide) (by decide) (by omega) (fun d hd => ?_) ?_
      · simp only [dm_ud hd]
      · rw [dm_us, hh]
        simp [dm_af]
    · unfold wX_run_109 wpX_stopBefore
      repeat (first | refine br_f (by decide) ?_ | refine br_t (by decide) ?_)
      refine br_t q' ?_
      repeat (first | refine br_f (by decide) ?_ | refine br_t (by decide) ?_)
      refine nm_r (nI_pred t) ⟨hi, hi, nm_r (dm_uP ht rfl) ?_⟩
      repeat (first | refine br_f (by decide) ?_ | refine br_t (by decide) ?_)
      unfold wX_execute_109 wpX_deliver
      refine dm_xpop ht hh (by omega) ?_
      repeat (first | refine br_f (by decide) ?_ | refine br_t (by decide) ?_)
      refine ⟨vp_in_nI q (by decide), nm_e (nm_r (nI_1 oc) ?_)⟩
      repeat (first | refine br_f (by decide) ?_ | refine br_t (by decide) ?_)
      exact nm_e k
    · repeat (first | refine br_f (by decide) ?_ | refine br_t (by decide) ?_)
      refine br_t q' ?_
      repeat (first | refine br_f (by decide) ?_ | refine br_t (by decide) ?_)
      refine ⟨hi, nm_r (dm_eFP ht) ?_⟩
      repeat (first | refine br_f (by decide) ?_ | refine br_t (by decide) ?_)
      unfold wY_run_350
      refine dm_ypop ht hh (by omega) ?_
      repeat (first | refine br_f (by decide) ?_ | refine br_t (by decide) ?_)
      refine nm_r (nI_1 oc) ⟨vp_in_nI q (by decide), nm_e ?_⟩
      repeat (first | refine br_f (by decide) ?_ | refine br_t (by decide) ?_)
      exact nm_e k
  · have q' : ¬ nI oc < 16 := nI_nlt (b := 16) (by omega) (by omega)
    refine Or.inr ⟨7, (dm_X F C D fl oc rs 1 (t + 1) O xs H L sl gl am ou FF FP PC lo pe), (dm_Y F C D fl oc rs 1 (t + 1) O xs L sl gl am ou FF FP PC lo pe), dm_R I, fun post K c s k => ?_, fun post K c s k => ?_⟩
    · unfold wX_run_109 wpX_stopBefore
      repeat (first | refine br_f (by decide) ?_ | refine br_t (by decide) ?_)
      refine br_f q' ?_
      repeat (first | refine br_f (by decide) ?_ | refine br_t (by decide) ?_)
      exact k
    · repeat (first | refine br_f (by decide) ?_ | refine br_t (by decide) ?_)
      exact br_f q' k
theorem dm_go16 (I : dm_I F C D oc (t + 1) 1 O xs H L sl FF FP PC) (ho : O (FF t * 32 + FP t) = 16) (x : Int32) : dm_Go F C D fl oc rs t O xs H L sl gl am ou FF FP PC lo pe 16 x 0 := by
  obtain ⟨ht, a, b, cc, hL, oo, h6, hn, eH⟩ := dm_top I ho
  have hi : vp_in (nI t) 8 := vp_in_nI ht (by decide)
  have hh : PC t = 0 + 1 := by
    simp [dm_nd] at hn
    exact hn
  cases t with
  | zero =>
    refine Or.inr ⟨10, (dm_X F C D fl oc (pe (0 * 6 + 0)) 2 0 O xs H L sl gl am ou FF (dm_un FP 0 (FP 0 + 1)) (dm_un PC 0 0) lo pe), (dm_Y F C D fl oc (pe (0 * 6 + 0)) 2 0 O xs L sl gl am ou FF (dm_un FP 0 (FP 0 + 1)) (dm_un PC 0 0) lo pe), dm_R ?_, fun post K c s k => ?_, fun post K c s k => ?_⟩
    · obtain ⟨⟨a1, a2, a3, a4, a5, a6, a7, a8⟩, b1, KK, S, TT⟩ := I
      exact ⟨⟨a1, a2, a3, a4, a5, a6, a7, Nat.zero_le _⟩, Or.inr ⟨by decide, rfl⟩, KK, S, dm_FK0⟩
    · unfold wX_run_109 wpX_stopBefore
      repeat (first | refine br_f (by decide) ?_ | refine br_t (by decide) ?_)
      refine nm_r (nI_pred 0) ⟨hi, hi, nm_r (dm_uP ht rfl) ?_⟩
      repeat (first | refine br_f (by decide) ?_ | refine br_t (by decide) ?_)
      unfold wpX_leaveFunction
      refine dm_xpop ht hh (by omega) ?_
      refine nm_r (nI_pred 0) (br_t (by decide) ?_)
      repeat (first | refine br_f (by decide) ?_ | refine br_t (by decide) ?_)
      exact k
    · repeat (first | refine br_f (by decide) ?_ | refine br_t (by decide) ?_)
      refine ⟨hi, nm_r (dm_eFP ht) ?_⟩
      repeat (first | refine br_f (by decide) ?_ | refine br_t (by decide) ?_)
      unfold wY_run_350
      refine dm_ypop ht hh (by omega) ?_
      repeat (first | refine br_f (by decide) ?_ | refine br_t (by decide) ?_)
      refine nm_r (nI_pred 0) (br_t (by decide) ?_)
      exact k
  | succ q =>
    have p5 : PC q < 6 := dm_pcr I
    have e5 : dm_un PC (q + 1) 0 q = PC q := dm_ud (by omega)
    refine Or.inl ⟨fl, oc, q + 1, gl, am, ou, FF, dm_un FP (q + 1) (FP (q + 1) + 1), dm_un (dm_un PC (q + 1) 0) q (PC q + 1), lo, upd pe (q * 6 + PC q) (pe ((q + 1) * 6 + 0)), ?_, fun post K c s k => ?_, fun post K c s k => ?_⟩
    · refine dm_Ir I (fun d hd => dm_ud (by omega)) (fun d hd => ?_) dm_us
      rw [dm_ud (by omega), dm_ud (by omega)]
    · unfold wX_run_109 wpX_stopBefore
      repeat (first | refine br_f (by decide) ?_ | refine br_t (by decide) ?_)
      refine nm_r (nI_pred (q + 1)) ⟨hi, hi, nm_r (dm_uP ht rfl) ?_⟩
      repeat (first | refine br_f (by decide) ?_ | refine br_t (by decide) ?_)
      unfold wpX_leaveFunction
      refine dm_xpop ht hh (by omega) ?_
      refine nm_r (nI_pred (q + 1)) (br_f (nI_nle (by omega) (by omega)) ?_)
      refine dm_xpush (t := q) (by omega) e5 p5 ?_
      repeat (first | refine br_f (by decide) ?_ | refine br_t (by decide) ?_)
      exact nm_e k
    · repeat (first | refine br_f (by decide) ?_ | refine br_t (by decide) ?_)
      refine ⟨hi, nm_r (dm_eFP ht) ?_⟩
      repeat (first | refine br_f (by decide) ?_ | refine br_t (by decide) ?_)
      unfold wY_run_350
      refine dm_ypop ht hh (by omega) ?_
      repeat (first | refine br_f (by decide) ?_ | refine br_t (by decide) ?_)
      refine nm_r (nI_pred (q + 1)) (br_f (nI_ne0 (by omega) (by omega)) ?_)
      refine dm_ypush (t := q) (by omega) e5 p5 ?_
      exact nm_e k
end
end DMI
