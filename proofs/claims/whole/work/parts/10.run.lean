section DMJ
/-! J: the loop of a run -/
def dm_cost (o : Nat) (x p : Int32) : Prop := (12 ≤ o ∧ o ≤ 14) ∨ ((o = 10 ∨ o = 11) ∧ ¬ p < x)
def dm_fg (o : Nat) : Int32 := if 12 ≤ o ∧ o ≤ 14 then 1 else 0
section
variable {F C D : Nat} {fl : Int32} {oc : Nat} {rs st : Int32} {fc : Nat} {O : Nat → Nat} {xs : Nat → Int32} {H L : Nat → Nat} {sl gl am ou : Nat → Int32} {FF FP PC : Nat → Nat} {lo pe : Nat → Int32} {t o : Nat}
theorem dm_goAll (I : dm_I F C D oc (t + 1) 1 O xs H L sl FF FP PC) : ∃ o, o ≤ 16 ∧ O (FF t * 32 + FP t) = o ∧ dm_Go F C D fl oc rs t O xs H L sl gl am ou FF FP PC lo pe (nI o) (xs (FF t * 32 + FP t)) (dm_fg o) := by
  obtain ⟨o, ho⟩ : ∃ o, O (FF t * 32 + FP t) = o := ⟨_, rfl⟩
  obtain ⟨ht, a, b, cc, hL, oo, h6, hn, eH⟩ := dm_top I ho
  have o16 : o ≤ 16 := by
    have := ((I.2.2.1 (FF t) a).2 (FP t) cc).1
    omega
  have hC : 8 ≤ C := I.1.2.2.1
  have hF : 2 ≤ F := I.1.1
  have sj := (I.2.2.2.1 (FF t) a b).2.2 (FP t) cc
  refine ⟨o, o16, ho, ?_⟩
  have hc : o = 0 ∨ o = 1 ∨ o = 2 ∨ o = 3 ∨ o = 4 ∨ o = 5 ∨ o = 6 ∨ o = 7 ∨ o = 8 ∨ o = 9 ∨ o = 10 ∨ o = 11 ∨ o = 12 ∨ o = 13 ∨ o = 14 ∨ o = 15 ∨ o = 16 := by omega
  rcases hc with rfl | rfl | rfl | rfl | rfl | rfl | rfl | rfl | rfl | rfl | rfl | rfl | rfl | rfl | rfl | rfl | rfl
  · exact dm_go0 I ho _
  · unfold dm_oo at oo
    rw [show dm_lim F C 1 = 4 from by simp [dm_lim]] at oo
    obtain ⟨m, hm, ex⟩ := oo (by omega)
    rw [ex]
    exact dm_go1 I ho hm
  · unfold dm_oo at oo
    rw [show dm_lim F C 2 = 4 from by simp [dm_lim]] at oo
    obtain ⟨m, hm, ex⟩ := oo (by omega)
    rw [ex]
    exact dm_go2 I ho hm
  · unfold dm_oo at oo
    rw [show dm_lim F C 3 = 8 from by simp [dm_lim]] at oo
    obtain ⟨m, hm, ex⟩ := oo (by omega)
    rw [ex]
    exact dm_go3 I ho hm
  · unfold dm_oo at oo
    rw [show dm_lim F C 4 = 8 from by simp [dm_lim]] at oo
    obtain ⟨m, hm, ex⟩ := oo (by omega)
    rw [ex]
    exact dm_go4 I ho hm
  · exact dm_go5 I ho _
  · exact dm_go6 I ho _
  · exact dm_go7 I ho _
  · exact dm_go8 I ho _
  · exact dm_go9 I ho _
  · obtain ⟨m, hm, ex, hb⟩ := sj (Or.inl ho)
    rw [ex]
    exact dm_go10 I ho hm hb
  · obtain ⟨m, hm, ex, hb⟩ := sj (Or.inr ho)
    rw [ex]
    exact dm_go11 I ho hm hb
  · unfold dm_oo at oo
    rw [show dm_lim F C 12 = F from by simp [dm_lim]] at oo
    obtain ⟨m, hm, ex⟩ := oo (by omega)
    rw [ex]
    exact dm_go12 I ho hm
  · unfold dm_oo at oo
    rw [show dm_lim F C 13 = F from by simp [dm_lim]] at oo
    obtain ⟨m, hm, ex⟩ := oo (by omega)
    rw [ex]
    exact dm_go13 I ho hm
  · unfold dm_oo at oo
    rw [show dm_lim F C 14 = F from by simp [dm_lim]] at oo
    obtain ⟨m, hm, ex⟩ := oo (by omega)
    rw [ex]
    exact dm_go14 I ho hm
  · exact dm_go15 I ho _
  · exact dm_go16 I ho _
theorem dm_xc1 {post : Int32 → Prop} {x p : Int32} (ho : o ≤ 16) (h : dm_cost o x p) (q : post 1) : wpX_costsCredit post (nI o) x p := by
  have hc : o = 0 ∨ o = 1 ∨ o = 2 ∨ o = 3 ∨ o = 4 ∨ o = 5 ∨ o = 6 ∨ o = 7 ∨ o = 8 ∨ o = 9 ∨ o = 10 ∨ o = 11 ∨ o = 12 ∨ o = 13 ∨ o = 14 ∨ o = 15 ∨ o = 16 := by omega
  unfold dm_cost at h
  unfold wpX_costsCredit
  rcases hc with rfl | rfl | rfl | rfl | rfl | rfl | rfl | rfl | rfl | rfl | rfl | rfl | rfl | rfl | rfl | rfl | rfl
  · omega
  · omega
  · omega
  · omega
  · omega
  · omega
  · omega
  · omega
  · omega
  · omega
  · have h' : ¬ p < x := by
      rcases h with h | h
      · omega
      · exact h.2
    repeat (first | refine br_f (by decide) ?_ | refine br_t (by decide) ?_)
    exact br_f h' q
  · have h' : ¬ p < x := by
      rcases h with h | h
      · omega
      · exact h.2
    repeat (first | refine br_f (by decide) ?_ | refine br_t (by decide) ?_)
    exact br_f h' q
  · repeat (first | refine br_f (by decide) ?_ | refine br_t (by decide) ?_)
    exact q
  · repeat (first | refine br_f (by decide) ?_ | refine br_t (by decide) ?_)
    exact q
  · repeat (first | refine br_f (by decide) ?_ | refine br_t (by decide) ?_)
    exact q
  · omega
  · omega
theorem dm_xc0 {post : Int32 → Prop} {x p : Int32} (ho : o ≤ 16) (h : ¬ dm_cost o x p) (q : post 0) : wpX_costsCredit post (nI o) x p := by
  have hc : o = 0 ∨ o = 1 ∨ o = 2 ∨ o = 3 ∨ o = 4 ∨ o = 5 ∨ o = 6 ∨ o = 7 ∨ o = 8 ∨ o = 9 ∨ o = 10 ∨ o = 11 ∨ o = 12 ∨ o = 13 ∨ o = 14 ∨ o = 15 ∨ o = 16 := by omega
  unfold dm_cost at h
  unfold wpX_costsCredit
  rcases hc with rfl | rfl | rfl | rfl | rfl | rfl | rfl | rfl | rfl | rfl | rfl | rfl | rfl | rfl | rfl | rfl | rfl
  · repeat (first | refine br_f (by decide) ?_ | refine br_t (by decide) ?_)
    exact q
  · repeat (first | refine br_f (by decide) ?_ | refine br_t (by decide) ?_)
    exact q
  · repeat (first | refine br_f (by decide) ?_ | refine br_t (by decide) ?_)
    exact q
  · repeat (first | refine br_f (by decide) ?_ | refine br_t (by decide) ?_)
    exact q
  · repeat (first | refine br_f (by decide) ?_ | refine br_t (by decide) ?_)
    exact q
  · repeat (first | refine br_f (by decide) ?_ | refine br_t (by decide) ?_)
    exact q
  · repeat (first | refine br_f (by decide) ?_ | refine br_t (by decide) ?_)
    exact q
  · repeat (first | refine br_f (by decide) ?_ | refine br_t (by decide) ?_)
    exact q
  · repeat (first | refine br_f (by decide) ?_ | refine br_t (by decide) ?_)
    exact q
  · repeat (first | refine br_f (by decide) ?_ | refine br_t (by decide) ?_)
    exact q
  · have h' : p < x := by
      by_cases z : p < x
      · exact z
      · exact absurd (Or.inr ⟨by decide, z⟩) h
    repeat (first | refine br_f (by decide) ?_ | refine br_t (by decide) ?_)
    exact br_t h' q
  · have h' : p < x := by
      by_cases z : p < x
      · exact z
      · exact absurd (Or.inr ⟨by decide, z⟩) h
    repeat (first | refine br_f (by decide) ?_ | refine br_t (by decide) ?_)
    exact br_t h' q
  · exact absurd (Or.inl ⟨by decide, by decide⟩) h
  · exact absurd (Or.inl ⟨by decide, by decide⟩) h
  · exact absurd (Or.inl ⟨by decide, by decide⟩) h
  · repeat (first | refine br_f (by decide) ?_ | refine br_t (by decide) ?_)
    exact q
  · repeat (first | refine br_f (by decide) ?_ | refine br_t (by decide) ?_)
    exact q
/-- X's way to the instruction -/
theorem dm_xrun {post : Int32 → SX → Prop} {n s : Nat} {c x : Int32} (I : dm_I F C D oc (t + 1) 1 O xs H L sl FF FP PC) (hs : s < 20000) (o16 : o ≤ 16) (ho : O (FF t * 32 + FP t) = o) (hx : xs (FF t * 32 + FP t) = x)
    (g0 : ¬ dm_cost o x (nI (FP t)) → wX_run_109 post (wX_run_30 post n) c (nI s) (nI o) x (nI F) (nI C) (nI D) fl (nI oc) rs 1 (nI (t + 1)) (dm_nn O) xs (dm_nn H) (dm_nn L) sl gl am ou (dm_nn FF) (dm_nn FP) (dm_nn PC) lo pe)
    (g1 : dm_cost o x (nI (FP t)) → c = 0 → post 6 (dm_X F C D fl oc rs 1 (t + 1) O xs H L sl gl am ou FF FP PC lo pe))
    (g2 : dm_cost o x (nI (FP t)) → ¬ c = 0 → wX_run_109 post (wX_run_30 post n) (c + (-1)) (nI s) (nI o) x (nI F) (nI C) (nI D) fl (nI oc) rs 1 (nI (t + 1)) (dm_nn O) xs (dm_nn H) (dm_nn L) sl gl am ou (dm_nn FF) (dm_nn FP) (dm_nn PC) lo pe) :
    wX_run_30 post (n + 1) c (nI s) (nI F) (nI C) (nI D) fl (nI oc) rs 1 (nI (t + 1)) (dm_nn O) xs (dm_nn H) (dm_nn L) sl gl am ou (dm_nn FF) (dm_nn FP) (dm_nn PC) lo pe := by
  obtain ⟨ht, a, b, cc, hL, oo, h6, hn, eH⟩ := dm_top I ho
  have hF := I.1.2.1
  have hC := I.1.2.2.2.1
  have hi : vp_in (nI t) 8 := vp_in_nI ht (by decide)
  have hc : vp_in (nI (FF t * 32 + FP t)) 256 := vp_in_nI (by omega) (by decide)
  have e1 : dm_nn FP (nI t).toNatClampNeg = nI (FP t) := by
    rw [nI_clamp (by omega)]
    rfl
  have e2 : dm_nn FF (nI t).toNatClampNeg * 32 + nI (FP t) = nI (FF t * 32 + FP t) := by
    rw [nI_clamp (by omega)]
    exact dm_cell
  have e3 : dm_nn O (nI (FF t * 32 + FP t)).toNatClampNeg = nI o := by
    rw [nI_clamp (by omega), ← ho]
    rfl
  have e4 : xs (nI (FF t * 32 + FP t)).toNatClampNeg = x := by
    rw [nI_clamp (by omega)]
    exact hx
  refine br_f (nI_ge (b := 20000) hs (by decide)) (nm_r (nI_pred t) ⟨hi, nm_r e1 ⟨hi, nm_r e2 ⟨hc, nm_r e3 ⟨hc, nm_r e4 ?_⟩⟩⟩⟩)
  by_cases q : dm_cost o x (nI (FP t))
  · refine dm_xc1 o16 q (br_f dm_10 ?_)
    by_cases z : c = 0
    · exact br_t z (g1 q z)
    · exact br_f z (nm_e (g2 q z))
  · exact dm_xc0 o16 q (br_t rfl (g0 q))
/-- Y's way to the instruction -/
theorem dm_yrun {post : Int32 → SY → Prop} {n s : Nat} {c x : Int32} (I : dm_I F C D oc (t + 1) 1 O xs H L sl FF FP PC) (hs : s < 20000) (o16 : o ≤ 16) (ho : O (FF t * 32 + FP t) = o) (hx : xs (FF t * 32 + FP t) = x)
    (g0 : ¬ dm_cost o x (nI (FP t)) → wY_run_170 post (wY_run_30 post n) c (nI s) (nI t) (nI (FP t)) (nI o) x (dm_fg o) (nI F) (nI C) (nI D) fl (nI oc) rs 1 (nI (t + 1)) (dm_nn O) xs (dm_nn L) sl gl am ou (dm_nn FF) (dm_nn FP) (dm_nn PC) lo pe)
    (g1 : dm_cost o x (nI (FP t)) → wY_run_160 post (wY_run_30 post n) c (nI s) (nI t) (nI (FP t)) (nI o) x (dm_fg o) (nI F) (nI C) (nI D) fl (nI oc) rs 1 (nI (t + 1)) (dm_nn O) xs (dm_nn L) sl gl am ou (dm_nn FF) (dm_nn FP) (dm_nn PC) lo pe) :
    wY_run_30 post (n + 1) c (nI s) (nI F) (nI C) (nI D) fl (nI oc) rs 1 (nI (t + 1)) (dm_nn O) xs (dm_nn L) sl gl am ou (dm_nn FF) (dm_nn FP) (dm_nn PC) lo pe := by
  obtain ⟨ht, a, b, cc, hL, oo, h6, hn, eH⟩ := dm_top I ho
  have hF := I.1.2.1
  have hC := I.1.2.2.2.1
  have hi : vp_in (nI t) 8 := vp_in_nI ht (by decide)
  have e1 : dm_nn FP (nI t).toNatClampNeg = nI (FP t) := by
    rw [nI_clamp (by omega)]
    rfl
  have e2 : dm_nn FF (nI t).toNatClampNeg * 32 + nI (FP t) = nI (FF t * 32 + FP t) := by
    rw [nI_clamp (by omega)]
    exact dm_cell
  have hc : vp_in (dm_nn FF (nI t).toNatClampNeg * 32 + nI (FP t)) 256 := by
    rw [e2]
    exact vp_in_nI (by omega) (by decide)
  have e3 : dm_nn O (dm_nn FF (nI t).toNatClampNeg * 32 + nI (FP t)).toNatClampNeg = nI o := by
    rw [e2, nI_clamp (by omega), ← ho]
    rfl
  have e4 : xs (dm_nn FF (nI t).toNatClampNeg * 32 + nI (FP t)).toNatClampNeg = x := by
    rw [e2, nI_clamp (by omega)]
    exact hx
  have h32 : dm_nn FP (nI t).toNatClampNeg < 32 := by
    rw [e1]
    exact nI_lt (b := 32) (by omega) (by decide)
  refine br_f (nI_ge (b := 20000) hs (by decide)) (nm_r (nI_pred t) (br_f (nI_pos (by omega)) ⟨hi, br_t h32 ⟨hi, nm_r e1 ⟨hi, hc, nm_r e3 ⟨hi, hc, nm_r e4 ?_⟩⟩⟩⟩))
  have hcs : o = 0 ∨ o = 1 ∨ o = 2 ∨ o = 3 ∨ o = 4 ∨ o = 5 ∨ o = 6 ∨ o = 7 ∨ o = 8 ∨ o = 9 ∨ o = 10 ∨ o = 11 ∨ o = 12 ∨ o = 13 ∨ o = 14 ∨ o = 15 ∨ o = 16 := by omega
  unfold dm_cost at g0 g1
  clear e1 e2 e3 e4 hc h32 hi eH hn oo
  rcases hcs with rfl | rfl | rfl | rfl | rfl | rfl | rfl | rfl | rfl | rfl | rfl | rfl | rfl | rfl | rfl | rfl | rfl
  · exact br_t (by decide) (br_t rfl (br_f (by decide) (br_f (by decide) (g0 (by omega)))))
  · exact br_t (by decide) (br_t rfl (br_f (by decide) (br_f (by decide) (g0 (by omega)))))
  · exact br_t (by decide) (br_t rfl (br_f (by decide) (br_f (by decide) (g0 (by omega)))))
  · exact br_t (by decide) (br_t rfl (br_f (by decide) (br_f (by decide) (g0 (by omega)))))
  · exact br_t (by decide) (br_t rfl (br_f (by decide) (br_f (by decide) (g0 (by omega)))))
  · exact br_t (by decide) (br_t rfl (br_f (by decide) (br_f (by decide) (g0 (by omega)))))
  · exact br_t (by decide) (br_t rfl (br_f (by decide) (br_f (by decide) (g0 (by omega)))))
  · exact br_t (by decide) (br_t rfl (br_f (by decide) (br_f (by decide) (g0 (by omega)))))
  · exact br_t (by decide) (br_t rfl (br_f (by decide) (br_f (by decide) (g0 (by omega)))))
  · exact br_t (by decide) (br_t rfl (br_f (by decide) (br_f (by decide) (g0 (by omega)))))
  · repeat (first | refine br_f (by decide) ?_ | refine br_t (by decide) ?_)
    refine br_c (fun z => g0 ?_) (fun z => g1 (Or.inr ⟨by decide, z⟩))
    intro h
    rcases h with h | h
    · omega
    · exact h.2 z
  · repeat (first | refine br_f (by decide) ?_ | refine br_t (by decide) ?_)
    refine br_c (fun z => g0 ?_) (fun z => g1 (Or.inr ⟨by decide, z⟩))
    intro h
    rcases h with h | h
    · omega
    · exact h.2 z
  · repeat (first | refine br_f (by decide) ?_ | refine br_t (by decide) ?_)
    exact g1 (Or.inl ⟨by decide, by decide⟩)
  · repeat (first | refine br_f (by decide) ?_ | refine br_t (by decide) ?_)
    exact g1 (Or.inl ⟨by decide, by decide⟩)
  · repeat (first | refine br_f (by decide) ?_ | refine br_t (by decide) ?_)
    exact g1 (Or.inl ⟨by decide, by decide⟩)
  · exact br_f (by decide) (br_t (by decide) (br_t rfl (br_f (by decide) (br_f (by decide) (g0 (by omega))))))
  · exact br_f (by decide) (br_t (by decide) (br_t rfl (br_f (by decide) (br_f (by decide) (g0 (by omega))))))
/-- one step of both loops -/
theorem dm_step (I : dm_I F C D oc (t + 1) 1 O xs H L sl FF FP PC) (c : Int32) {s : Nat} (hs : s < 20000) :
    (∃ (c' fl' : Int32) (oc' fc' : Nat) (gl' am' ou' : Nat → Int32) (FF' FP' PC' : Nat → Nat) (lo' pe' : Nat → Int32),
      dm_I F C D oc' fc' 1 O xs H L sl FF' FP' PC' ∧
      (∀ (post : Int32 → SX → Prop) (n : Nat), wX_run_30 post n c' (nI (s + 1)) (nI F) (nI C) (nI D) fl' (nI oc') rs 1 (nI fc') (dm_nn O) xs (dm_nn H) (dm_nn L) sl gl' am' ou' (dm_nn FF') (dm_nn FP') (dm_nn PC') lo' pe' → wX_run_30 post (n + 1) c (nI s) (nI F) (nI C) (nI D) fl (nI oc) rs 1 (nI (t + 1)) (dm_nn O) xs (dm_nn H) (dm_nn L) sl gl am ou (dm_nn FF) (dm_nn FP) (dm_nn PC) lo pe) ∧
      (∀ (post : Int32 → SY → Prop) (n : Nat), wY_run_30 post n c' (nI (s + 1)) (nI F) (nI C) (nI D) fl' (nI oc') rs 1 (nI fc') (dm_nn O) xs (dm_nn L) sl gl' am' ou' (dm_nn FF') (dm_nn FP') (dm_nn PC') lo' pe' → wY_run_30 post (n + 1) c (nI s) (nI F) (nI C) (nI D) fl (nI oc) rs 1 (nI (t + 1)) (dm_nn O) xs (dm_nn L) sl gl am ou (dm_nn FF) (dm_nn FP) (dm_nn PC) lo pe))
    ∨ (∃ (r : Int32) (u : SX) (v : SY), i_Rel 0 u v ∧
      (∀ (post : Int32 → SX → Prop) (n : Nat), post r u → wX_run_30 post (n + 1) c (nI s) (nI F) (nI C) (nI D) fl (nI oc) rs 1 (nI (t + 1)) (dm_nn O) xs (dm_nn H) (dm_nn L) sl gl am ou (dm_nn FF) (dm_nn FP) (dm_nn PC) lo pe) ∧
      (∀ (post : Int32 → SY → Prop) (n : Nat), post r v → wY_run_30 post (n + 1) c (nI s) (nI F) (nI C) (nI D) fl (nI oc) rs 1 (nI (t + 1)) (dm_nn O) xs (dm_nn L) sl gl am ou (dm_nn FF) (dm_nn FP) (dm_nn PC) lo pe)) := by
  obtain ⟨o, o16, ho, G⟩ := dm_goAll (fl := fl) (rs := rs) (gl := gl) (am := am) (ou := ou) (lo := lo) (pe := pe) I
  by_cases q : dm_cost o (xs (FF t * 32 + FP t)) (nI (FP t))
  · by_cases z : c = 0
    · exact Or.inr ⟨6, (dm_X F C D fl oc rs 1 (t + 1) O xs H L sl gl am ou FF FP PC lo pe), (dm_Y F C D fl oc rs 1 (t + 1) O xs L sl gl am ou FF FP PC lo pe), dm_R I,
        fun post n p => dm_xrun I hs o16 ho rfl (fun h => absurd q h) (fun _ _ => p) (fun _ h => absurd z h),
        fun post n p => dm_yrun I hs o16 ho rfl (fun h => absurd q h) (fun _ => br_t z p)⟩
    · rcases G with ⟨fl', oc', fc', gl', am', ou', FF', FP', PC', lo', pe', I', gx, gy⟩ | ⟨r, u, v, R, gx, gy⟩
      · refine Or.inl ⟨c + (-1), fl', oc', fc', gl', am', ou', FF', FP', PC', lo', pe', I', fun post n p => ?_, fun post n p => ?_⟩
        · refine dm_xrun I hs o16 ho rfl (fun h => absurd q h) (fun _ h => absurd h z) (fun _ _ => gx post (wX_run_30 post n) (c + (-1)) (nI s) ?_)
          rw [nI_1]
          exact p
        · refine dm_yrun I hs o16 ho rfl (fun h => absurd q h) (fun _ => br_f z (nm_e (gy post (wY_run_30 post n) (c + (-1)) (nI s) ?_)))
          rw [nI_1]
          exact p
      · exact Or.inr ⟨r, u, v, R,
          fun post n p => dm_xrun I hs o16 ho rfl (fun h => absurd q h) (fun _ h => absurd h z) (fun _ _ => gx post (wX_run_30 post n) (c + (-1)) (nI s) p),
          fun post n p => dm_yrun I hs o16 ho rfl (fun h => absurd q h) (fun _ => br_f z (nm_e (gy post (wY_run_30 post n) (c + (-1)) (nI s) p)))⟩
  · rcases G with ⟨fl', oc', fc', gl', am', ou', FF', FP', PC', lo', pe', I', gx, gy⟩ | ⟨r, u, v, R, gx, gy⟩
    · refine Or.inl ⟨c, fl', oc', fc', gl', am', ou', FF', FP', PC', lo', pe', I', fun post n p => ?_, fun post n p => ?_⟩
      · refine dm_xrun I hs o16 ho rfl (fun _ => gx post (wX_run_30 post n) c (nI s) ?_) (fun h => absurd h q) (fun h => absurd h q)
        rw [nI_1]
        exact p
      · refine dm_yrun I hs o16 ho rfl (fun _ => gy post (wY_run_30 post n) c (nI s) ?_) (fun h => absurd h q)
        rw [nI_1]
        exact p
    · exact Or.inr ⟨r, u, v, R,
        fun post n p => dm_xrun I hs o16 ho rfl (fun _ => gx post (wX_run_30 post n) c (nI s) p) (fun h => absurd h q) (fun h => absurd h q),
        fun post n p => dm_yrun I hs o16 ho rfl (fun _ => gy post (wY_run_30 post n) c (nI s) p) (fun h => absurd h q)⟩
end
theorem dm_loop {F C D : Nat} {rs : Int32} {O : Nat → Nat} {xs : Nat → Int32} {H L : Nat → Nat} {sl : Nat → Int32} : ∀ (m s : Nat), s + m = 20000 →
    ∀ (c fl : Int32) (oc t : Nat) (gl am ou : Nat → Int32) (FF FP PC : Nat → Nat) (lo pe : Nat → Int32), dm_I F C D oc (t + 1) 1 O xs H L sl FF FP PC →
    ∃ (r : Int32) (u : SX) (v : SY), i_Rel 0 u v ∧
      (∀ post : Int32 → SX → Prop, post r u → wX_run_30 post (m + 1) c (nI s) (nI F) (nI C) (nI D) fl (nI oc) rs 1 (nI (t + 1)) (dm_nn O) xs (dm_nn H) (dm_nn L) sl gl am ou (dm_nn FF) (dm_nn FP) (dm_nn PC) lo pe) ∧
      (∀ post : Int32 → SY → Prop, post r v → wY_run_30 post (m + 1) c (nI s) (nI F) (nI C) (nI D) fl (nI oc) rs 1 (nI (t + 1)) (dm_nn O) xs (dm_nn L) sl gl am ou (dm_nn FF) (dm_nn FP) (dm_nn PC) lo pe) := by
  intro m
  induction m with
  | zero =>
    intro s hs c fl oc t gl am ou FF FP PC lo pe I
    have h : (20000 : Int32) ≤ nI s := nI_le (a := 20000) (by omega) (by omega)
    exact ⟨6, (dm_X F C D fl oc rs 1 (t + 1) O xs H L sl gl am ou FF FP PC lo pe), (dm_Y F C D fl oc rs 1 (t + 1) O xs L sl gl am ou FF FP PC lo pe), dm_R I, fun post p => br_t h p, fun post p => br_t h p⟩
  | succ m ih =>
    intro s hs c fl oc t gl am ou FF FP PC lo pe I
    rcases dm_step (fl := fl) (rs := rs) (gl := gl) (am := am) (ou := ou) (lo := lo) (pe := pe) I c (s := s) (by omega) with ⟨c', fl', oc', fc', gl', am', ou', FF', FP', PC', lo', pe', I', gx, gy⟩ | ⟨r, u, v, R, gx, gy⟩
    · obtain ⟨t', rfl⟩ : ∃ t', fc' = t' + 1 := ⟨fc' - 1, by
        rcases I'.2.1 with ⟨_, h⟩ | ⟨h, _⟩
        · omega
        · exact absurd rfl h⟩
      obtain ⟨r, u, v, R, a, b⟩ := ih (s + 1) (by omega) c' fl' oc' t' gl' am' ou' FF' FP' PC' lo' pe' I'
      exact ⟨r, u, v, R, fun post p => gx post (m + 1) (a post p), fun post p => gy post (m + 1) (b post p)⟩
    · exact ⟨r, u, v, R, fun post p => gx post (m + 1) p, fun post p => gy post (m + 1) p⟩
section
variable {F C D : Nat} {fl : Int32} {oc : Nat} {rs st : Int32} {fc : Nat} {O : Nat → Nat} {xs : Nat → Int32} {H L : Nat → Nat} {sl gl am ou : Nat → Int32} {FF FP PC : Nat → Nat} {lo pe : Nat → Int32}
theorem dm_run (I : dm_I F C D oc fc st O xs H L sl FF FP PC) (v : Int32) : dm_J (fun p => wpX_run p (dm_X F C D fl oc rs st fc O xs H L sl gl am ou FF FP PC lo pe) v) (fun p => wpY_run p (dm_Y F C D fl oc rs st fc O xs L sl gl am ou FF FP PC lo pe) v) := by
  by_cases h1 : v < 1
  · exact dm_same I 0 (fun _ p => br_t h1 p) (fun _ p => br_t h1 p)
  · by_cases hs : st = 1
    · obtain ⟨t, rfl⟩ : ∃ t, fc = t + 1 := ⟨fc - 1, by
        rcases I.2.1 with ⟨_, h⟩ | ⟨h, _⟩
        · omega
        · exact absurd hs h⟩
      subst hs
      by_cases h64 : v ≤ 64
      · obtain ⟨r, u, w, R, a, b⟩ := dm_loop (rs := rs) 20000 0 (by decide) v fl oc t gl am ou FF FP PC lo pe I
        exact ⟨r, u, w, R, fun post p => br_f h1 (br_t rfl (br_t h64 ⟨_, a post p⟩)), fun post p => br_f h1 (br_t rfl (br_t h64 ⟨_, b post p⟩))⟩
      · obtain ⟨r, u, w, R, a, b⟩ := dm_loop (rs := rs) 20000 0 (by decide) 64 fl oc t gl am ou FF FP PC lo pe I
        exact ⟨r, u, w, R, fun post p => br_f h1 (br_t rfl (br_f h64 ⟨_, a post p⟩)), fun post p => br_f h1 (br_t rfl (br_f h64 ⟨_, b post p⟩))⟩
    · exact dm_same I 0 (fun _ p => br_f h1 (br_f hs p)) (fun _ p => br_f h1 (br_f hs p))
end
end DMJ
