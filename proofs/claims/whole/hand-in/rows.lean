section
section DMA
/-! A: numbers, stores -/
theorem pk_us {f : Nat → Int32} {k : Nat} {x : Int32} : upd f k x k = x := if_pos rfl
theorem pk_un {f : Nat → Int32} {k j : Nat} {x : Int32} (h : j ≠ k) : upd f k x j = f j := if_neg h
theorem pk_sub {a b : Nat} (h : b ≤ a) : nI a - nI b = nI (a - b) := by
  obtain ⟨c, rfl⟩ : ∃ c, a = c + b := ⟨a - b, by omega⟩
  rw [← nI_add, Int32.add_sub_cancel, Nat.add_sub_cancel]
theorem pk_m1 (n : Nat) : nI (n + 1) + (-1) = nI n := by
  rw [← nI_1, Int32.add_assoc, show (1 : Int32) + (-1) = 0 from rfl, Int32.add_zero]
theorem pk_mul (a b : Nat) : nI a * nI b = nI (a * b) := (Int32.ofNat_mul a b).symm
theorem pk_ix (x : Int32) {n : Nat} (hn : n < 2 ^ 31) : x < 0 ∨ nI n ≤ x ∨ ∃ j : Nat, j < n ∧ x = nI j := by
  by_cases h : x < 0
  · exact Or.inl h
  · obtain ⟨j, hj, rfl⟩ := nI_of h
    by_cases h2 : j < n
    · exact Or.inr (Or.inr ⟨j, h2, rfl⟩)
    · exact Or.inr (Or.inl (nI_le (by omega) hj))
theorem pk_le {x y : Int32} {A B : Prop} (a b : Nat) (f : a ≤ b → A) (g : b < a → B) (hx : x = nI a := by rfl) (hy : y = nI b := by rfl) (ha : a < 2 ^ 31 := by omega) (hb : b < 2 ^ 31 := by omega) : (x ≤ y → A) ∧ (¬ x ≤ y → B) := by
  subst hx hy
  rw [nI_leI ha hb]
  exact ⟨f, fun z => g (by omega)⟩
theorem pk_lt {x y : Int32} {A B : Prop} (a b : Nat) (f : a < b → A) (g : b ≤ a → B) (hx : x = nI a := by rfl) (hy : y = nI b := by rfl) (ha : a < 2 ^ 31 := by omega) (hb : b < 2 ^ 31 := by omega) : (x < y → A) ∧ (¬ x < y → B) := by
  subst hx hy
  rw [nI_ltI ha hb]
  exact ⟨f, fun z => g (by omega)⟩
theorem pk_eq {x y : Int32} {A B : Prop} (a b : Nat) (f : a = b → A) (g : a ≠ b → B) (hx : x = nI a := by rfl) (hy : y = nI b := by rfl) (ha : a < 2 ^ 31 := by omega) (hb : b < 2 ^ 31 := by omega) : (x = y → A) ∧ (¬ x = y → B) := by
  subst hx hy
  rw [nI_eq ha hb]
  exact ⟨f, g⟩
theorem pk_in {x : Int32} (n N : Nat) (h : n < N) (hx : x = nI n := by rfl) (hN : N < 2 ^ 31 := by omega) : vp_in x N := by
  subst hx
  exact vp_in_nI h hN
theorem pk_cl {x : Int32} (n : Nat) (hx : x = nI n := by rfl) (h : n < 2 ^ 31 := by omega) : x.toNatClampNeg = n := by
  subst hx
  exact nI_clamp h
/-! an array whose cells are naturals -/
def dm_nn (L : Nat → Nat) : Nat → Int32 := fun j => nI (L j)
def dm_un (L : Nat → Nat) (k m : Nat) : Nat → Nat := fun j => if j = k then m else L j
theorem dm_upd (L : Nat → Nat) (k m : Nat) : upd (dm_nn L) k (nI m) = dm_nn (dm_un L k m) := by
  funext j
  unfold upd dm_nn dm_un
  split <;> rfl
theorem dm_us {L : Nat → Nat} {k m : Nat} : dm_un L k m k = m := if_pos rfl
theorem dm_ud {L : Nat → Nat} {k m j : Nat} (h : j ≠ k) : dm_un L k m j = L j := if_neg h
theorem dm_uu (L : Nat → Nat) (k m q : Nat) : dm_un (dm_un L k m) k q = dm_un L k q := by
  funext j
  unfold dm_un
  split <;> rfl
/-! the code -/
def dm_hb (H : Nat → Nat) (f : Nat) : Nat → Nat
  | 0 => 0
  | i + 1 => H (f * 32 + i)
def dm_af (o h : Nat) : Nat :=
  if o = 0 ∨ o = 1 ∨ o = 3 ∨ o = 12 then h + 1 else if o = 10 ∨ o = 11 ∨ o = 16 then 0 else if o = 13 then h else h - 1
def dm_nd (o h : Nat) : Prop :=
  if o = 0 ∨ o = 1 ∨ o = 3 ∨ o = 12 then h < 6 else if o = 2 ∨ o = 4 ∨ o = 13 ∨ o = 15 then 1 ≤ h else if o = 10 then h = 0 else if o = 11 ∨ o = 16 then h = 1 else 2 ≤ h
def dm_lim (F C o : Nat) : Nat :=
  if o = 1 ∨ o = 2 then 4 else if o = 3 ∨ o = 4 then 8 else if o = 10 ∨ o = 11 then C else if o = 12 ∨ o = 13 ∨ o = 14 then F else 0
def dm_oo (F C o : Nat) (x : Int32) : Prop := 0 < dm_lim F C o → ∃ m, m < dm_lim F C o ∧ x = nI m
def dm_CK (F C : Nat) (O : Nat → Nat) (xs : Nat → Int32) (H L : Nat → Nat) : Prop :=
  ∀ f, f < F → L f ≤ C ∧ ∀ i, i < L f → O (f * 32 + i) ≤ 16 ∧ dm_oo F C (O (f * 32 + i)) (xs (f * 32 + i)) ∧ dm_hb H f i ≤ 6 ∧ dm_nd (O (f * 32 + i)) (dm_hb H f i) ∧ H (f * 32 + i) = dm_af (O (f * 32 + i)) (dm_hb H f i)
def dm_SK (F : Nat) (O : Nat → Nat) (xs : Nat → Int32) (H L : Nat → Nat) (sl : Nat → Int32) : Prop :=
  ∀ f, f < F → ¬ sl f = 0 → 0 < L f ∧ (O (f * 32 + (L f - 1)) = 10 ∨ O (f * 32 + (L f - 1)) = 16) ∧ ∀ i, i < L f → (O (f * 32 + i) = 10 ∨ O (f * 32 + i) = 11) → ∃ t, t < L f ∧ xs (f * 32 + i) = nI t ∧ dm_hb H f t = 0
def dm_FK (F : Nat) (H L : Nat → Nat) (sl : Nat → Int32) (fc : Nat) (FF FP PC : Nat → Nat) : Prop :=
  ∀ d, d < fc → FF d < F ∧ ¬ sl (FF d) = 0 ∧ FP d < L (FF d) ∧ PC d + (if d + 1 = fc then 0 else 1) = dm_hb H (FF d) (FP d)
section
variable {F C : Nat} {O : Nat → Nat} {xs : Nat → Int32} {H L : Nat → Nat} {sl : Nat → Int32} {fc t : Nat} {FF FP PC : Nat → Nat}
theorem dm_hbs (H : Nat → Nat) (f i : Nat) : dm_hb H f (i + 1) = H (f * 32 + i) := rfl
theorem dm_af6 {o h : Nat} (hn : dm_nd o h) (h6 : h ≤ 6) : dm_af o h ≤ 6 := by
  unfold dm_nd at hn
  unfold dm_af
  by_cases a : o = 0 ∨ o = 1 ∨ o = 3 ∨ o = 12
  · rw [if_pos a] at hn ⊢
    omega
  · rw [if_neg a]
    split
    · omega
    · split <;> omega
theorem dm_hbc {H' : Nat → Nat} {f i : Nat} (h : ∀ j, j < i → H' (f * 32 + j) = H (f * 32 + j)) : dm_hb H' f i = dm_hb H f i := by
  cases i with
  | zero => rfl
  | succ j => exact h j (Nat.lt_succ_self j)
theorem dm_hb6 (K : dm_CK F C O xs H L) {f i : Nat} (hf : f < F) (hi : i ≤ L f) : dm_hb H f i ≤ 6 := by
  cases i with
  | zero => exact Nat.zero_le _
  | succ j =>
    obtain ⟨_, _, h6, hn, e⟩ := (K f hf).2 j hi
    rw [dm_hbs, e]
    exact dm_af6 hn h6
/-! emit -/
theorem dm_CKe (K : dm_CK F C O xs H L) (hC : C ≤ 32) {f o : Nat} {x : Int32} (hl : L f < C) (ho : o ≤ 16) (hx : dm_oo F C o x) (hn : dm_nd o (dm_hb H f (L f))) :
    dm_CK F C (dm_un O (f * 32 + L f) o) (upd xs (f * 32 + L f) x) (dm_un H (f * 32 + L f) (dm_af o (dm_hb H f (L f)))) (dm_un L f (L f + 1)) := by
  intro g hg
  by_cases e : g = f
  · cases e
    rw [dm_us (L := L) (k := f) (m := L f + 1)]
    refine ⟨hl, fun i hi => ?_⟩
    have hb : dm_hb (dm_un H (f * 32 + L f) (dm_af o (dm_hb H f (L f)))) f i = dm_hb H f i := dm_hbc fun j hj => dm_ud (by omega)
    rw [hb]
    by_cases ei : i = L f
    · rw [ei, dm_us, dm_us, pk_us]
      exact ⟨ho, hx, dm_hb6 K hg (Nat.le_refl _), hn, rfl⟩
    · have hne : f * 32 + i ≠ f * 32 + L f := by omega
      rw [dm_ud hne, dm_ud hne, pk_un hne]
      exact (K f hg).2 i (by omega)
  · rw [dm_ud (L := L) e]
    refine ⟨(K g hg).1, fun i hi => ?_⟩
    have h1 := (K g hg).1
    have hne : ∀ j, j < 32 → g * 32 + j ≠ f * 32 + L f := fun j hj => by omega
    have hb : dm_hb (dm_un H (f * 32 + L f) (dm_af o (dm_hb H f (L f)))) g i = dm_hb H g i := dm_hbc fun j hj => dm_ud (hne j (by omega))
    rw [hb, dm_ud (hne i (by omega)), dm_ud (hne i (by omega)), pk_un (hne i (by omega))]
    exact (K g hg).2 i hi
theorem dm_SKe (K : dm_CK F C O xs H L) (S : dm_SK F O xs H L sl) (hC : C ≤ 32) {f o m : Nat} {x : Int32} (hl : L f < C) (h0 : sl f = 0) :
    dm_SK F (dm_un O (f * 32 + L f) o) (upd xs (f * 32 + L f) x) (dm_un H (f * 32 + L f) m) (dm_un L f (L f + 1)) sl := by
  intro g hg hs
  have e : g ≠ f := fun e => hs (by rw [e]; exact h0)
  have h1 := (K g hg).1
  have hne : ∀ j, j < 32 → g * 32 + j ≠ f * 32 + L f := fun j hj => by omega
  obtain ⟨a, b, c⟩ := S g hg hs
  rw [dm_ud (L := L) e]
  refine ⟨a, ?_, fun i hi ho => ?_⟩
  · rw [dm_ud (hne _ (by omega))]
    exact b
  · rw [dm_ud (hne i (by omega))] at ho
    obtain ⟨t, ht, ex, eh⟩ := c i hi ho
    refine ⟨t, ht, ?_, ?_⟩
    · rw [pk_un (hne i (by omega))]
      exact ex
    · rw [dm_hbc (H := H) fun j hj => dm_ud (hne j (by omega))]
      exact eh
theorem dm_FKe (K : dm_CK F C O xs H L) (T : dm_FK F H L sl fc FF FP PC) (hC : C ≤ 32) {f m : Nat} (hl : L f < C) (h0 : sl f = 0) :
    dm_FK F (dm_un H (f * 32 + L f) m) (dm_un L f (L f + 1)) sl fc FF FP PC := by
  intro d hd
  obtain ⟨a, b, c, e4⟩ := T d hd
  have e : FF d ≠ f := fun e => b (by rw [e]; exact h0)
  have h1 := (K (FF d) a).1
  have hne : ∀ j, j < 32 → FF d * 32 + j ≠ f * 32 + L f := fun j hj => by omega
  rw [dm_ud (L := L) e]
  refine ⟨a, b, c, ?_⟩
  rw [dm_hbc (H := H) fun j hj => dm_ud (hne j (by omega))]
  exact e4
/-! erase -/
theorem dm_CKr (K : dm_CK F C O xs H L) (f : Nat) : dm_CK F C O xs H (dm_un L f 0) := by
  intro g hg
  by_cases e : g = f
  · rw [e, dm_us]
    exact ⟨Nat.zero_le _, fun i hi => absurd hi (Nat.not_lt_zero _)⟩
  · rw [dm_ud e]
    exact K g hg
theorem dm_SKr (S : dm_SK F O xs H L sl) (f : Nat) : dm_SK F O xs H (dm_un L f 0) (upd sl f 0) := by
  intro g hg hs
  by_cases e : g = f
  · exact absurd (by rw [e]; exact pk_us) hs
  · rw [pk_un e] at hs
    rw [dm_ud e]
    exact S g hg hs
theorem dm_FKr (T : dm_FK F H L sl fc FF FP PC) (f : Nat) (hno : ∀ d, d < fc → FF d ≠ f) : dm_FK F H (dm_un L f 0) (upd sl f 0) fc FF FP PC := by
  intro d hd
  rw [dm_ud (hno d hd), pk_un (hno d hd)]
  exact T d hd
/-! seal -/
theorem dm_SKs (S : dm_SK F O xs H L sl) {f : Nat} {x : Int32} (h0 : 0 < L f) (hl : O (f * 32 + (L f - 1)) = 10 ∨ O (f * 32 + (L f - 1)) = 16)
    (hj : ∀ i, i < L f → (O (f * 32 + i) = 10 ∨ O (f * 32 + i) = 11) → ∃ t, t < L f ∧ xs (f * 32 + i) = nI t ∧ dm_hb H f t = 0) : dm_SK F O xs H L (upd sl f x) := by
  intro g hg hs
  by_cases e : g = f
  · rw [e]
    exact ⟨h0, hl, hj⟩
  · rw [pk_un e] at hs
    exact S g hg hs
theorem dm_FKs (T : dm_FK F H L sl fc FF FP PC) {f : Nat} {x : Int32} (hx : ¬ x = 0) : dm_FK F H L (upd sl f x) fc FF FP PC := by
  intro d hd
  obtain ⟨a, b, c⟩ := T d hd
  refine ⟨a, ?_, c⟩
  by_cases e : FF d = f
  · rw [e, pk_us]
    exact hx
  · rw [pk_un e]
    exact b
/-! frames -/
theorem dm_FKg (T : dm_FK F H L sl (t + 1) FF FP PC) {FP' PC' : Nat → Nat} (hp : ∀ d, d ≠ t → FP' d = FP d) (hc : ∀ d, d ≠ t → PC' d = PC d)
    (h1 : FP' t < L (FF t)) (h2 : PC' t = dm_hb H (FF t) (FP' t)) : dm_FK F H L sl (t + 1) FF FP' PC' := by
  intro d hd
  obtain ⟨a, b, c, e⟩ := T d hd
  by_cases h : d = t
  · cases h
    refine ⟨a, b, h1, ?_⟩
    rw [if_pos rfl]
    exact h2
  · rw [hp d h, hc d h]
    exact ⟨a, b, c, e⟩
theorem dm_FKc (T : dm_FK F H L sl (t + 1) FF FP PC) {FF' FP' PC' : Nat → Nat} (hf : ∀ d, d ≠ t + 1 → FF' d = FF d) (hp : ∀ d, d ≠ t → d ≠ t + 1 → FP' d = FP d)
    (hc : ∀ d, d ≠ t → d ≠ t + 1 → PC' d = PC d) (h1 : FP' t < L (FF t)) (h2 : PC' t + 1 = dm_hb H (FF t) (FP' t))
    (g1 : FF' (t + 1) < F) (g2 : ¬ sl (FF' (t + 1)) = 0) (g3 : FP' (t + 1) = 0) (g4 : PC' (t + 1) = 0) (g5 : 0 < L (FF' (t + 1))) : dm_FK F H L sl (t + 2) FF' FP' PC' := by
  intro d hd
  by_cases h : d = t + 1
  · cases h
    refine ⟨g1, g2, ?_, ?_⟩
    · rw [g3]
      exact g5
    · rw [if_pos rfl, g3, g4]
      rfl
  · rw [hf d h]
    obtain ⟨a, b, c, e⟩ := T d (by omega)
    by_cases h' : d = t
    · cases h'
      refine ⟨a, b, h1, ?_⟩
      rw [if_neg (by omega)]
      exact h2
    · rw [hp d h' h, hc d h' h, if_neg (by omega)]
      rw [if_neg (by omega)] at e
      exact ⟨a, b, c, e⟩
theorem dm_FKt (T : dm_FK F H L sl (t + 1 + 1) FF FP PC) {FP' PC' : Nat → Nat} (hp : ∀ d, d < t + 1 → FP' d = FP d) (hc : ∀ d, d < t → PC' d = PC d) (h2 : PC' t = PC t + 1) : dm_FK F H L sl (t + 1) FF FP' PC' := by
  intro d hd
  obtain ⟨a, b, c, e⟩ := T d (by omega)
  rw [hp d hd]
  rw [if_neg (by omega)] at e
  by_cases h : d = t
  · cases h
    refine ⟨a, b, c, ?_⟩
    rw [if_pos rfl, h2]
    exact e
  · rw [hc d (by omega), if_neg (by omega)]
    exact ⟨a, b, c, e⟩
theorem dm_FK0 : dm_FK F H L sl 0 FF FP PC := fun d hd => absurd hd (Nat.not_lt_zero d)
theorem dm_FK1 (g1 : FF 0 < F) (g2 : ¬ sl (FF 0) = 0) (g3 : FP 0 = 0) (g4 : PC 0 = 0) (g5 : 0 < L (FF 0)) : dm_FK F H L sl 1 FF FP PC := by
  intro d hd
  obtain rfl : d = 0 := by omega
  refine ⟨g1, g2, ?_, ?_⟩
  · rw [g3]
    exact g5
  · rw [g3, g4]
    rfl
theorem dm_nx (S : dm_SK F O xs H L sl) {f p : Nat} (hf : f < F) (hs : ¬ sl f = 0) (hp : p < L f) (h10 : O (f * 32 + p) ≠ 10) (h16 : O (f * 32 + p) ≠ 16) : p + 1 < L f := by
  obtain ⟨a, b, _⟩ := S f hf hs
  by_cases e : p = L f - 1
  · rw [← e] at b
    omega
  · omega
end
end DMA
end
section
section DMB
/-! B: the relation -/
abbrev dm_X (F C D : Nat) (fl : Int32) (oc : Nat) (rs st : Int32) (fc : Nat) (O : Nat → Nat) (xs : Nat → Int32) (H L : Nat → Nat) (sl gl am ou : Nat → Int32) (FF FP PC : Nat → Nat) (lo pe : Nat → Int32) : SX :=
  ((nI F), (nI C), (nI D), fl, (nI oc), rs, st, (nI fc), (dm_nn O), xs, (dm_nn H), (dm_nn L), sl, gl, am, ou, (dm_nn FF), (dm_nn FP), (dm_nn PC), lo, pe)
abbrev dm_Y (F C D : Nat) (fl : Int32) (oc : Nat) (rs st : Int32) (fc : Nat) (O : Nat → Nat) (xs : Nat → Int32) (L : Nat → Nat) (sl gl am ou : Nat → Int32) (FF FP PC : Nat → Nat) (lo pe : Nat → Int32) : SY :=
  ((nI F), (nI C), (nI D), fl, (nI oc), rs, st, (nI fc), (dm_nn O), xs, (dm_nn L), sl, gl, am, ou, (dm_nn FF), (dm_nn FP), (dm_nn PC), lo, pe)
def dm_I (F C D oc fc : Nat) (st : Int32) (O : Nat → Nat) (xs : Nat → Int32) (H L : Nat → Nat) (sl : Nat → Int32) (FF FP PC : Nat → Nat) : Prop :=
  (2 ≤ F ∧ F ≤ 8 ∧ 8 ≤ C ∧ C ≤ 32 ∧ 2 ≤ D ∧ D ≤ 8 ∧ oc ≤ 16 ∧ fc ≤ D) ∧ (st = 1 ∧ 0 < fc ∨ ¬ st = 1 ∧ fc = 0) ∧ dm_CK F C O xs H L ∧ dm_SK F O xs H L sl ∧ dm_FK F H L sl fc FF FP PC
def i_Rel (_ : Nat) (u : SX) (v : SY) : Prop :=
  ∃ (F C D : Nat) (fl : Int32) (oc : Nat) (rs st : Int32) (fc : Nat) (O : Nat → Nat) (xs : Nat → Int32) (H L : Nat → Nat) (sl gl am ou : Nat → Int32) (FF FP PC : Nat → Nat) (lo pe : Nat → Int32),
    u = (dm_X F C D fl oc rs st fc O xs H L sl gl am ou FF FP PC lo pe) ∧ v = (dm_Y F C D fl oc rs st fc O xs L sl gl am ou FF FP PC lo pe) ∧ dm_I F C D oc fc st O xs H L sl FF FP PC
theorem i_up {k : Nat} {u : SX} {v : SY} (h : i_Rel k u v) : i_Rel (k + 4) u v := h
def dm_J (wX : (Int32 → SX → Prop) → Prop) (wY : (Int32 → SY → Prop) → Prop) : Prop :=
  ∃ (r : Int32) (u : SX) (v : SY), i_Rel 0 u v ∧ (∀ post : Int32 → SX → Prop, post r u → wX post) ∧ (∀ post : Int32 → SY → Prop, post r v → wY post)
def dm_K (wX wY : (Int32 → Prop) → Prop) : Prop :=
  ∃ r : Int32, (∀ post : Int32 → Prop, post r → wX post) ∧ (∀ post : Int32 → Prop, post r → wY post)
theorem dm_Jv {wX : (Int32 → SX → Prop) → Prop} {wY : (Int32 → SY → Prop) → Prop} {k : Nat} (J : dm_J wX wY) : wX (fun r u' => wY (fun r' v' => r' = r ∧ i_Rel (k + 4) u' v')) := by
  obtain ⟨r, u, v, R, a, b⟩ := J
  exact a _ (b _ ⟨rfl, R⟩)
theorem dm_Kv {wX wY : (Int32 → Prop) → Prop} {P : Prop} (J : dm_K wX wY) (R : P) : wX (fun r => wY (fun r' => r' = r ∧ P)) := by
  obtain ⟨r, a, b⟩ := J
  exact a _ (b _ ⟨rfl, R⟩)
section
variable {F C D : Nat} {fl : Int32} {oc : Nat} {rs st : Int32} {fc : Nat} {O : Nat → Nat} {xs : Nat → Int32} {H L : Nat → Nat} {sl gl am ou : Nat → Int32} {FF FP PC : Nat → Nat} {lo pe : Nat → Int32}
theorem dm_R (I : dm_I F C D oc fc st O xs H L sl FF FP PC) : i_Rel 0 (dm_X F C D fl oc rs st fc O xs H L sl gl am ou FF FP PC lo pe) (dm_Y F C D fl oc rs st fc O xs L sl gl am ou FF FP PC lo pe) :=
  ⟨F, C, D, fl, oc, rs, st, fc, O, xs, H, L, sl, gl, am, ou, FF, FP, PC, lo, pe, rfl, rfl, I⟩
/-- the same state again, with an answer -/
theorem dm_same {wX : (Int32 → SX → Prop) → Prop} {wY : (Int32 → SY → Prop) → Prop} (I : dm_I F C D oc fc st O xs H L sl FF FP PC) (r : Int32) (a : ∀ post : Int32 → SX → Prop, post r (dm_X F C D fl oc rs st fc O xs H L sl gl am ou FF FP PC lo pe) → wX post) (b : ∀ post : Int32 → SY → Prop, post r (dm_Y F C D fl oc rs st fc O xs L sl gl am ou FF FP PC lo pe) → wY post) : dm_J wX wY :=
  ⟨r, (dm_X F C D fl oc rs st fc O xs H L sl gl am ou FF FP PC lo pe), (dm_Y F C D fl oc rs st fc O xs L sl gl am ou FF FP PC lo pe), dm_R I, a, b⟩
/-! arguments -/
theorem dm_fn (v : Int32) {n : Nat} (hn : n < 2 ^ 31) : v < 0 ∨ (¬ v < 0 ∧ nI n ≤ v) ∨ ∃ f : Nat, f < n ∧ v = nI f := by
  rcases pk_ix v hn with h | h | h
  · exact Or.inl h
  · exact Or.inr (Or.inl ⟨Int32.not_lt.mpr (Int32.le_trans (nI_pos' hn) h), h⟩)
  · exact Or.inr (Or.inr h)
theorem dm_xF0 {post : Int32 → Prop} {v : Int32} (h : v < 0) (p : post 0) : wpX_isFunction post (dm_X F C D fl oc rs st fc O xs H L sl gl am ou FF FP PC lo pe) v := br_t h p
theorem dm_xF1 {post : Int32 → Prop} {v : Int32} (h : ¬ v < 0) (h2 : nI F ≤ v) (p : post 0) : wpX_isFunction post (dm_X F C D fl oc rs st fc O xs H L sl gl am ou FF FP PC lo pe) v := br_f h (br_t h2 p)
theorem dm_xF2 {post : Int32 → Prop} {f : Nat} (hF : F ≤ 8) (hf : f < F) (p : post 1) : wpX_isFunction post (dm_X F C D fl oc rs st fc O xs H L sl gl am ou FF FP PC lo pe) (nI f) := br_f (nI_pos (by omega)) (br_f (nI_ge hf (by omega)) p)
theorem dm_10 : ¬ (1 : Int32) = 0 := by decide
theorem dm_vb0 : vp_nar .boolean 0 = 0 := by decide
theorem dm_vb1 : vp_nar .boolean 1 = 1 := by decide
/-! the constructors -/
theorem dm_cl (x p1 p2 : Int32) (a b : Nat) (hab : a ≤ b) (hb : b < 2 ^ 31) (e1 : p1 = nI a) (e2 : p2 = nI b) : ∃ n, a ≤ n ∧ n ≤ b ∧ ∀ P : Int32 → Prop, P (nI n) → wpX_clamp P x p1 p2 := by
  subst e1 e2
  by_cases h : nI a ≤ x
  · by_cases h2 : x ≤ nI b
    · have h0 : ¬ x < 0 := Int32.not_lt.mpr (Int32.le_trans (nI_pos' (by omega)) h)
      obtain ⟨j, hj, rfl⟩ := nI_of h0
      exact ⟨j, (nI_leI (by omega) hj).mp h, (nI_leI hj hb).mp h2, fun P p => br_t h (br_t h2 p)⟩
    · exact ⟨b, hab, Nat.le_refl _, fun P p => br_t h (br_f h2 p)⟩
  · exact ⟨a, Nat.le_refl _, hab, fun P p => br_f h p⟩
theorem dm_init (k0 k1 k2 k3 : Int32) : ∃ F C D : Nat, 2 ≤ F ∧ F ≤ 8 ∧ 8 ≤ C ∧ C ≤ 32 ∧ 2 ≤ D ∧ D ≤ 8 ∧
    (∀ post : SX → Prop, post (dm_X F C D 0 0 0 0 0 (fun _ => 0) (fun _ => 0) (fun _ => 0) (fun _ => 0) (fun _ => 0) (fun _ => 0) (fun _ => 0) (fun _ => 0) (fun _ => 0) (fun _ => 0) (fun _ => 0) (fun _ => 0) (fun _ => 0)) → wpX_init post k0 k1 k2 k3) ∧
    (∀ post : SY → Prop, post (dm_Y F C D 0 0 0 0 0 (fun _ => 0) (fun _ => 0) (fun _ => 0) (fun _ => 0) (fun _ => 0) (fun _ => 0) (fun _ => 0) (fun _ => 0) (fun _ => 0) (fun _ => 0) (fun _ => 0) (fun _ => 0)) → wpY_init post k0 k1 k2 k3) := by
  obtain ⟨F, f1, f2, hF⟩ := dm_cl k0 2 8 2 8 (by decide) (by decide) rfl rfl
  obtain ⟨C, c1, c2, hC⟩ := dm_cl k1 8 32 8 32 (by decide) (by decide) rfl rfl
  obtain ⟨D, d1, d2, hD⟩ := dm_cl k2 2 8 2 8 (by decide) (by decide) rfl rfl
  refine ⟨F, C, D, f1, f2, c1, c2, d1, d2, fun post p => ?_, fun post p => ?_⟩
  · unfold wpX_init
    refine hF _ ?_
    refine hC _ ?_
    exact hD _ p
  · refine hF (fun r => wY_init_149 post k1 k2 r 0 0 0 0 0 0 0 0 (fun _ => 0) (fun _ => 0) (fun _ => 0) (fun _ => 0) (fun _ => 0) (fun _ => 0) (fun _ => 0) (fun _ => 0) (fun _ => 0) (fun _ => 0) (fun _ => 0) (fun _ => 0)) ?_
    refine hC (fun r => wY_init_176 post k2 r (nI F) 0 0 0 0 0 0 0 (fun _ => 0) (fun _ => 0) (fun _ => 0) (fun _ => 0) (fun _ => 0) (fun _ => 0) (fun _ => 0) (fun _ => 0) (fun _ => 0) (fun _ => 0) (fun _ => 0) (fun _ => 0)) ?_
    exact hD (fun r => post (nI F, nI C, r, 0, 0, 0, 0, 0, (fun _ => 0), (fun _ => 0), (fun _ => 0), (fun _ => 0), (fun _ => 0), (fun _ => 0), (fun _ => 0), (fun _ => 0), (fun _ => 0), (fun _ => 0), (fun _ => 0), (fun _ => 0))) p
/-! status, abandon, output, clearOutput -/
theorem dm_status (v : Int32) : dm_K (fun p => wpX_status p (dm_X F C D fl oc rs st fc O xs H L sl gl am ou FF FP PC lo pe) v) (fun p => wpY_status p (dm_Y F C D fl oc rs st fc O xs L sl gl am ou FF FP PC lo pe) v) := by
  by_cases h0 : v = 0
  · subst h0
    exact ⟨st, fun _ p => br_f (by decide) (br_f (by decide) (br_t rfl p)), fun _ p => br_t rfl p⟩
  by_cases h1 : v = 1
  · subst h1
    exact ⟨rs, fun _ p => br_f (by decide) (br_f (by decide) (br_f (by decide) (br_t rfl p))), fun _ p => br_f (by decide) (br_t rfl p)⟩
  by_cases h2 : v = 2
  · subst h2
    exact ⟨nI fc, fun _ p => br_f (by decide) (br_f (by decide) (br_f (by decide) (br_f (by decide) (br_t rfl p)))), fun _ p => br_f (by decide) (br_f (by decide) (br_t rfl p))⟩
  by_cases h3 : v = 3
  · subst h3
    exact ⟨nI oc, fun _ p => br_f (by decide) (br_f (by decide) (br_f (by decide) (br_f (by decide) (br_f (by decide) (br_t rfl p))))), fun _ p => br_f (by decide) (br_f (by decide) (br_f (by decide) (br_t rfl p)))⟩
  by_cases h4 : v = 4
  · subst h4
    exact ⟨fl, fun _ p => br_f (by decide) (br_f (by decide) (br_f (by decide) (br_f (by decide) (br_f (by decide) (br_f (by decide) (br_t rfl p)))))), fun _ p => br_f (by decide) (br_f (by decide) (br_f (by decide) (br_f (by decide) (br_t rfl p))))⟩
  exact ⟨0, fun _ p => br_c (fun _ => p) (fun _ => br_c (fun _ => p) (fun _ => br_f h0 (br_f h1 (br_f h2 (br_f h3 (br_f h4 trivial)))))), fun _ p => br_f h0 (br_f h1 (br_f h2 (br_f h3 (br_f h4 p))))⟩
theorem dm_abandon (I : dm_I F C D oc fc st O xs H L sl FF FP PC) : dm_J (fun p => wpX_abandon p (dm_X F C D fl oc rs st fc O xs H L sl gl am ou FF FP PC lo pe)) (fun p => wpY_abandon p (dm_Y F C D fl oc rs st fc O xs L sl gl am ou FF FP PC lo pe)) := by
  by_cases h : st = 1
  · refine ⟨1, (dm_X F C D fl oc rs 0 0 O xs H L sl gl am ou FF FP PC lo pe), (dm_Y F C D fl oc rs 0 0 O xs L sl gl am ou FF FP PC lo pe), dm_R ?_, fun _ p => br_t h p, fun _ p => br_t h p⟩
    obtain ⟨⟨a1, a2, a3, a4, a5, a6, a7, a8⟩, b, c, d, e⟩ := I
    exact ⟨⟨a1, a2, a3, a4, a5, a6, a7, Nat.zero_le _⟩, Or.inr ⟨by decide, rfl⟩, c, d, dm_FK0⟩
  · exact dm_same I 0 (fun _ p => br_f h p) (fun _ p => br_f h p)
theorem dm_output (I : dm_I F C D oc fc st O xs H L sl FF FP PC) (v : Int32) : dm_K (fun p => wpX_output p (dm_X F C D fl oc rs st fc O xs H L sl gl am ou FF FP PC lo pe) v) (fun p => wpY_output p (dm_Y F C D fl oc rs st fc O xs L sl gl am ou FF FP PC lo pe) v) := by
  have ho : oc ≤ 16 := I.1.2.2.2.2.2.2.1
  rcases dm_fn v (n := oc) (by omega) with h | ⟨h, h2⟩ | ⟨j, hj, rfl⟩
  · exact ⟨0, fun _ p => br_t h p, fun _ p => br_t h p⟩
  · exact ⟨0, fun _ p => br_f h (br_t h2 p), fun _ p => br_f h (br_f (Int32.not_lt.mpr h2) p)⟩
  · exact ⟨ou (nI j).toNatClampNeg, fun _ p => br_f (nI_pos (by omega)) (br_f (nI_ge hj (by omega)) ⟨vp_in_nI (by omega) (by omega), p⟩),
      fun _ p => br_f (nI_pos (by omega)) (br_t (nI_lt hj (by omega)) ⟨vp_in_nI (by omega) (by omega), p⟩)⟩
theorem dm_clear (I : dm_I F C D oc fc st O xs H L sl FF FP PC) : dm_J (fun p => wpX_clearOutput p (dm_X F C D fl oc rs st fc O xs H L sl gl am ou FF FP PC lo pe)) (fun p => wpY_clearOutput p (dm_Y F C D fl oc rs st fc O xs L sl gl am ou FF FP PC lo pe)) := by
  refine ⟨nI oc, (dm_X F C D fl 0 rs st fc O xs H L sl gl am ou FF FP PC lo pe), (dm_Y F C D fl 0 rs st fc O xs L sl gl am ou FF FP PC lo pe), dm_R ?_, fun _ p => p, fun _ p => p⟩
  obtain ⟨⟨a1, a2, a3, a4, a5, a6, a7, a8⟩, b⟩ := I
  exact ⟨⟨a1, a2, a3, a4, a5, a6, Nat.zero_le _, a8⟩, b⟩
/-! globals -/
theorem dm_7 {v : Int32} (h : nI 8 ≤ v) : ¬ v ≤ 7 := by
  intro h7
  have h8 : nI 8 ≤ 7 := Int32.le_trans h h7
  exact absurd h8 (by decide)
theorem dm_7' {v : Int32} (h : nI 8 ≤ v) : 7 < v := by
  have := dm_7 h
  exact Int32.not_le.mp this
theorem dm_xG0 {post : Int32 → Prop} {v : Int32} (h : v < 0) (p : post 0) : wpX_isGlobal post v := br_t h p
theorem dm_xG1 {post : Int32 → Prop} {v : Int32} (h : ¬ v < 0) (h2 : nI 8 ≤ v) (p : post 0) : wpX_isGlobal post v := br_f h (br_t h2 p)
theorem dm_xG2 {post : Int32 → Prop} {f : Nat} (hf : f < 8) (p : post 1) : wpX_isGlobal post (nI f) := br_f (nI_pos (by omega)) (br_f (nI_ge (b := 8) hf (by decide)) p)
theorem dm_global (v : Int32) : dm_K (fun p => wpX_global p (dm_X F C D fl oc rs st fc O xs H L sl gl am ou FF FP PC lo pe) v) (fun p => wpY_global p (dm_Y F C D fl oc rs st fc O xs L sl gl am ou FF FP PC lo pe) v) := by
  rcases dm_fn v (n := 8) (by decide) with h | ⟨h, h2⟩ | ⟨j, hj, rfl⟩
  · exact ⟨0, fun _ p => by unfold wpX_global; exact dm_xG0 h (br_t rfl p), fun _ p => br_t h p⟩
  · exact ⟨0, fun _ p => by unfold wpX_global; exact dm_xG1 h h2 (br_t rfl p), fun _ p => br_f h (br_f (dm_7 h2) p)⟩
  · exact ⟨gl (nI j).toNatClampNeg, fun _ p => by unfold wpX_global; exact dm_xG2 hj (br_f dm_10 ⟨vp_in_nI hj (by decide), p⟩),
      fun _ p => br_f (nI_pos (by omega)) (br_t (nI_le (b := 7) (by omega) (by decide)) ⟨vp_in_nI hj (by decide), p⟩)⟩
theorem dm_assumed (v : Int32) : dm_K (fun p => wpX_assumed p (dm_X F C D fl oc rs st fc O xs H L sl gl am ou FF FP PC lo pe) v) (fun p => wpY_assumed p (dm_Y F C D fl oc rs st fc O xs L sl gl am ou FF FP PC lo pe) v) := by
  rcases dm_fn v (n := 8) (by decide) with h | ⟨h, h2⟩ | ⟨j, hj, rfl⟩
  · exact ⟨0, fun _ p => by unfold wpX_assumed; exact dm_xG0 h (br_t rfl p), fun _ p => br_t h p⟩
  · exact ⟨0, fun _ p => by unfold wpX_assumed; exact dm_xG1 h h2 (br_t rfl p), fun _ p => br_f h (br_t (dm_7' h2) p)⟩
  · have h7 : ¬ (7 : Int32) < nI j := nI_nlt (a := 7) (by omega) (by decide)
    by_cases z : am (nI j).toNatClampNeg = 0
    · exact ⟨0, fun _ p => by unfold wpX_assumed; exact dm_xG2 hj (br_f dm_10 ⟨vp_in_nI hj (by decide), br_t z p⟩), fun _ p => br_f (nI_pos (by omega)) (br_f h7 ⟨vp_in_nI hj (by decide), br_t z p⟩)⟩
    · exact ⟨1, fun _ p => by unfold wpX_assumed; exact dm_xG2 hj (br_f dm_10 ⟨vp_in_nI hj (by decide), br_f z p⟩), fun _ p => br_f (nI_pos (by omega)) (br_f h7 ⟨vp_in_nI hj (by decide), br_f z p⟩)⟩
theorem dm_assume (I : dm_I F C D oc fc st O xs H L sl FF FP PC) (v : Int32) : dm_J (fun p => wpX_assume p (dm_X F C D fl oc rs st fc O xs H L sl gl am ou FF FP PC lo pe) v) (fun p => wpY_assume p (dm_Y F C D fl oc rs st fc O xs L sl gl am ou FF FP PC lo pe) v) := by
  rcases dm_fn v (n := 8) (by decide) with h | ⟨h, h2⟩ | ⟨j, hj, rfl⟩
  · exact dm_same I 0 (fun _ p => by unfold wpX_assume; exact dm_xG0 h (br_t rfl p)) (fun _ p => br_t h p)
  · exact dm_same I 0 (fun _ p => by unfold wpX_assume; exact dm_xG1 h h2 (br_t rfl p)) (fun _ p => br_f h (br_f (dm_7 h2) p))
  · exact ⟨1, (dm_X F C D fl oc rs st fc O xs H L sl gl (upd am (nI j).toNatClampNeg (vp_nar .boolean 1)) ou FF FP PC lo pe), (dm_Y F C D fl oc rs st fc O xs L sl gl (upd am (nI j).toNatClampNeg (vp_nar .boolean 1)) ou FF FP PC lo pe), dm_R I,
      fun _ p => by unfold wpX_assume; exact dm_xG2 hj (br_f dm_10 ⟨vp_in_nI hj (by decide), nm_e p⟩),
      fun _ p => br_f (nI_pos (by omega)) (br_t (nI_le (b := 7) (by omega) (by decide)) ⟨vp_in_nI hj (by decide), nm_e p⟩)⟩
/-- a write of a global: one state after it, on both sides -/
theorem dm_write {j : Nat} (hj : j < 8) (w : Int32) : ∃ (fl' : Int32) (gl' am' : Nat → Int32),
    (∀ post : SX → Prop, post (dm_X F C D fl' oc rs st fc O xs H L sl gl' am' ou FF FP PC lo pe) → wpX_writeGlobal post (dm_X F C D fl oc rs st fc O xs H L sl gl am ou FF FP PC lo pe) (nI j) w) ∧
    (∀ post : SY → Prop, post (dm_Y F C D fl' oc rs st fc O xs L sl gl' am' ou FF FP PC lo pe) → wpY_write post (dm_Y F C D fl oc rs st fc O xs L sl gl am ou FF FP PC lo pe) (nI j) w) := by
  have hi : vp_in (nI j) 8 := vp_in_nI hj (by decide)
  by_cases z : am (nI j).toNatClampNeg = 0
  · exact ⟨fl, upd gl (nI j).toNatClampNeg w, am, fun _ p => ⟨hi, br_t z ⟨hi, nm_e p⟩⟩, fun _ p => ⟨hi, br_t z ⟨hi, nm_e p⟩⟩⟩
  · by_cases y : gl (nI j).toNatClampNeg = w
    · exact ⟨fl, upd gl (nI j).toNatClampNeg w, am, fun _ p => ⟨hi, br_f z ⟨hi, br_t y ⟨hi, nm_e p⟩⟩⟩, fun _ p => ⟨hi, br_f z ⟨hi, br_t y ⟨hi, nm_e p⟩⟩⟩⟩
    · exact ⟨fl + 1, upd gl (nI j).toNatClampNeg w, upd am (nI j).toNatClampNeg (vp_nar .boolean 0),
        fun _ p => ⟨hi, br_f z ⟨hi, br_f y ⟨hi, nm_e (nm_e ⟨hi, nm_e p⟩)⟩⟩⟩, fun _ p => ⟨hi, br_f z ⟨hi, br_f y ⟨hi, nm_e (nm_e ⟨hi, nm_e p⟩)⟩⟩⟩⟩
theorem dm_setGlobal (I : dm_I F C D oc fc st O xs H L sl FF FP PC) (v w : Int32) : dm_J (fun p => wpX_setGlobal p (dm_X F C D fl oc rs st fc O xs H L sl gl am ou FF FP PC lo pe) v w) (fun p => wpY_setGlobal p (dm_Y F C D fl oc rs st fc O xs L sl gl am ou FF FP PC lo pe) v w) := by
  rcases dm_fn v (n := 8) (by decide) with h | ⟨h, h2⟩ | ⟨j, hj, rfl⟩
  · exact dm_same I 0 (fun _ p => by unfold wpX_setGlobal; exact dm_xG0 h (br_t rfl p)) (fun _ p => br_t h p)
  · exact dm_same I 0 (fun _ p => by unfold wpX_setGlobal; exact dm_xG1 h h2 (br_t rfl p)) (fun _ p => br_f h (br_f (dm_7 h2) p))
  · obtain ⟨fl', gl', am', a, b⟩ := dm_write (F := F) (C := C) (D := D) (fl := fl) (oc := oc) (rs := rs) (st := st) (fc := fc) (O := O) (xs := xs) (H := H) (L := L) (sl := sl) (gl := gl) (am := am) (ou := ou) (FF := FF) (FP := FP) (PC := PC) (lo := lo) (pe := pe) hj w
    exact ⟨1, (dm_X F C D fl' oc rs st fc O xs H L sl gl' am' ou FF FP PC lo pe), (dm_Y F C D fl' oc rs st fc O xs L sl gl' am' ou FF FP PC lo pe), dm_R I,
      fun _ p => by unfold wpX_setGlobal; exact dm_xG2 hj (br_f dm_10 (a _ p)),
      fun _ p => br_f (nI_pos (by omega)) (br_t (nI_le (b := 7) (by omega) (by decide)) (b _ p))⟩
end
end DMB
end
section
section DMC
/-! C: the pending values and the frames, on both sides -/
section
variable {F C D : Nat} {fl : Int32} {oc : Nat} {rs st : Int32} {fc : Nat} {O : Nat → Nat} {xs : Nat → Int32} {H L : Nat → Nat} {sl gl am ou : Nat → Int32} {FF FP PC : Nat → Nat} {lo pe : Nat → Int32} {t h : Nat}
theorem dm_c6 (ht : t < 8) : ((nI t * 6) + dm_nn PC (nI t).toNatClampNeg) = nI (t * 6 + PC t) := by
  rw [nI_clamp (by omega)]
  show nI t * nI 6 + nI (PC t) = _
  rw [pk_mul, nI_add]
theorem dm_c61 (ht : t < 8) (hh : PC t = h + 1) : ((nI t * 6) + dm_nn PC (nI t).toNatClampNeg) - 1 = nI (t * 6 + h) := by
  rw [dm_c6 ht, hh, ← Nat.add_assoc]
  exact nI_pred _
theorem dm_uP (ht : t < 8) (hh : PC t = h) : upd (dm_nn PC) (nI t).toNatClampNeg (dm_nn PC (nI t).toNatClampNeg + 1) = dm_nn (dm_un PC t (h + 1)) := by
  rw [nI_clamp (by omega)]
  show upd (dm_nn PC) t (nI (PC t) + 1) = _
  rw [hh, nI_1, dm_upd]
theorem dm_uM (ht : t < 8) (hh : PC t = h + 1) : upd (dm_nn PC) (nI t).toNatClampNeg (dm_nn PC (nI t).toNatClampNeg - 1) = dm_nn (dm_un PC t h) := by
  rw [nI_clamp (by omega)]
  show upd (dm_nn PC) t (nI (PC t) - 1) = _
  rw [hh, nI_pred, dm_upd]
theorem dm_xtop {post : Int32 → Prop} (ht : t < 8) (hh : PC t = h + 1) (h6 : h < 6) (p : post (pe (t * 6 + h))) : wpX_topPending post (dm_X F C D fl oc rs st (t + 1) O xs H L sl gl am ou FF FP PC lo pe) := by
  refine nm_r (nI_pred t) ⟨vp_in_nI ht (by decide), ?_, ?_⟩
  · rw [dm_c61 ht hh]
    exact vp_in_nI (by omega) (by decide)
  · rw [dm_c61 ht hh, nI_clamp (by omega)]
    exact p
theorem dm_xpush {post : SX → Prop} {v : Int32} (ht : t < 8) (hh : PC t = h) (h6 : h < 6) (p : post (dm_X F C D fl oc rs st (t + 1) O xs H L sl gl am ou FF FP (dm_un PC t (h + 1)) lo (upd pe (t * 6 + h) v))) : wpX_push post (dm_X F C D fl oc rs st (t + 1) O xs H L sl gl am ou FF FP PC lo pe) v := by
  have hi : vp_in (nI t) 8 := vp_in_nI ht (by decide)
  refine nm_r (nI_pred t) ⟨hi, ?_, nm_r (e' := upd pe (t * 6 + h) v) ?_ ⟨hi, hi, nm_r (dm_uP ht hh) p⟩⟩
  · rw [dm_c6 ht]
    exact vp_in_nI (by omega) (by decide)
  · rw [dm_c6 ht, nI_clamp (by omega), hh]
theorem dm_xpop {post : Int32 → SX → Prop} (ht : t < 8) (hh : PC t = h + 1) (h6 : h < 6) (p : post (pe (t * 6 + h)) (dm_X F C D fl oc rs st (t + 1) O xs H L sl gl am ou FF FP (dm_un PC t h) lo pe)) : wpX_pop post (dm_X F C D fl oc rs st (t + 1) O xs H L sl gl am ou FF FP PC lo pe) := by
  unfold wpX_pop
  refine dm_xtop ht hh h6 ?_
  refine ⟨?_, ?_, nm_r ?_ p⟩
  · rw [nI_pred]
    exact vp_in_nI ht (by decide)
  · rw [nI_pred]
    exact vp_in_nI ht (by decide)
  · rw [nI_pred]
    exact dm_uM ht hh
theorem dm_ypush {post : SY → Prop} {v : Int32} (ht : t < 8) (hh : PC t = h) (h6 : h < 6) (p : post (dm_Y F C D fl oc rs st (t + 1) O xs L sl gl am ou FF FP (dm_un PC t (h + 1)) lo (upd pe (t * 6 + h) v))) : wpY_push post (dm_Y F C D fl oc rs st (t + 1) O xs L sl gl am ou FF FP PC lo pe) v := by
  have hi : vp_in (nI t) 8 := vp_in_nI ht (by decide)
  have e : dm_nn PC (nI t).toNatClampNeg = nI h := by
    rw [nI_clamp (by omega), ← hh]
    rfl
  refine nm_r (nI_pred t) (br_f (nI_pos (by omega)) ⟨hi, br_t ?_ ⟨hi, ?_, nm_r (e' := upd pe (t * 6 + h) v) ?_ ⟨hi, hi, nm_r (dm_uP ht hh) p⟩⟩⟩)
  · rw [e]
    exact nI_lt (b := 6) h6 (by decide)
  · rw [dm_c6 ht]
    exact vp_in_nI (by omega) (by decide)
  · rw [dm_c6 ht, nI_clamp (by omega), hh]
theorem dm_ypop {post : Int32 → SY → Prop} (ht : t < 8) (hh : PC t = h + 1) (h6 : h < 6) (p : post (pe (t * 6 + h)) (dm_Y F C D fl oc rs st (t + 1) O xs L sl gl am ou FF FP (dm_un PC t h) lo pe)) : wpY_pop post (dm_Y F C D fl oc rs st (t + 1) O xs L sl gl am ou FF FP PC lo pe) := by
  have hi : vp_in (nI t) 8 := vp_in_nI ht (by decide)
  have e : dm_nn PC (nI t).toNatClampNeg = nI (h + 1) := by
    rw [nI_clamp (by omega), ← hh]
    rfl
  have e2 : (nI t * 6) + dm_nn (dm_un PC t h) (nI t).toNatClampNeg = nI (t * 6 + h) := by
    rw [dm_c6 ht, dm_us]
  refine nm_r (nI_pred t) (br_f (nI_pos (by omega)) ⟨hi, br_t ?_ ⟨hi, hi, nm_r (dm_uM ht hh) ⟨hi, ?_, ?_⟩⟩⟩)
  · rw [e]
    exact nI_le (a := 1) (by omega) (by omega)
  · rw [e2]
    exact vp_in_nI (by omega) (by decide)
  · rw [e2, nI_clamp (by omega)]
    exact p
def dm_nl (lo : Nat → Int32) (t : Nat) (a b : Int32) : Nat → Int32 :=
  upd (upd (upd (upd lo (nI t * 4).toNatClampNeg a) ((nI t * 4) + 1).toNatClampNeg b) ((nI t * 4) + 2).toNatClampNeg 0) ((nI t * 4) + 3).toNatClampNeg 0
theorem dm_4 (ht : t < 8) (j : Nat) (hj : j < 4) : vp_in ((nI t * 4) + nI j) 32 := by
  show vp_in (nI t * nI 4 + nI j) 32
  rw [pk_mul, nI_add]
  exact vp_in_nI (by omega) (by decide)
theorem dm_40 (ht : t < 8) : vp_in (nI t * 4) 32 := by
  show vp_in (nI t * nI 4) 32
  rw [pk_mul]
  exact vp_in_nI (by omega) (by decide)
theorem dm_u0 (ht : t < 8) (m : Nat) : upd (dm_nn PC) (nI t).toNatClampNeg (nI m) = dm_nn (dm_un PC t m) := by
  rw [nI_clamp (by omega), dm_upd]
theorem dm_xadd {post : SX → Prop} {f : Nat} {a b : Int32} (ht : t < 8) (p : post (dm_X F C D fl oc rs st (t + 1) O xs H L sl gl am ou (dm_un FF t f) (dm_un FP t 0) (dm_un PC t 0) (dm_nl lo t a b) pe)) : wpX_addFrame post (dm_X F C D fl oc rs st t O xs H L sl gl am ou FF FP PC lo pe) (nI f) a b := by
  have hi : vp_in (nI t) 8 := vp_in_nI ht (by decide)
  exact ⟨hi, nm_r (dm_u0 ht f) ⟨hi, nm_r (dm_u0 ht 0) ⟨hi, nm_r (dm_u0 ht 0) ⟨dm_40 ht, nm_e ⟨dm_4 ht 1 (by decide), nm_e ⟨dm_4 ht 2 (by decide), nm_e ⟨dm_4 ht 3 (by decide), nm_e (nm_r (nI_1 t) p)⟩⟩⟩⟩⟩⟩⟩
theorem dm_yadd {post : SY → Prop} {f : Nat} {a b : Int32} (ht : t < 8) (p : post (dm_Y F C D fl oc rs st (t + 1) O xs L sl gl am ou (dm_un FF t f) (dm_un FP t 0) (dm_un PC t 0) (dm_nl lo t a b) pe)) : wpY_newFrame post (dm_Y F C D fl oc rs st t O xs L sl gl am ou FF FP PC lo pe) (nI f) a b := by
  have hi : vp_in (nI t) 8 := vp_in_nI ht (by decide)
  exact br_f (nI_pos (by omega)) (br_t (nI_lt (b := 8) ht (by decide)) ⟨hi, nm_r (dm_u0 ht f) ⟨hi, nm_r (dm_u0 ht 0) ⟨hi, nm_r (dm_u0 ht 0) ⟨dm_40 ht, nm_e ⟨dm_4 ht 1 (by decide), nm_e ⟨dm_4 ht 2 (by decide), nm_e ⟨dm_4 ht 3 (by decide), nm_e (nm_r (nI_1 t) p)⟩⟩⟩⟩⟩⟩⟩)
end
section
variable {F C D : Nat} {fl : Int32} {oc : Nat} {rs st : Int32} {fc : Nat} {O : Nat → Nat} {xs : Nat → Int32} {H L : Nat → Nat} {sl gl am ou : Nat → Int32} {FF FP PC : Nat → Nat} {lo pe : Nat → Int32}
/-! start, optimise -/
theorem dm_start (I : dm_I F C D oc fc st O xs H L sl FF FP PC) (v a b : Int32) : dm_J (fun p => wpX_start p (dm_X F C D fl oc rs st fc O xs H L sl gl am ou FF FP PC lo pe) v a b) (fun p => wpY_start p (dm_Y F C D fl oc rs st fc O xs L sl gl am ou FF FP PC lo pe) v a b) := by
  have hF : F ≤ 8 := I.1.2.1
  rcases dm_fn v (n := F) (by omega) with h | ⟨h, h2⟩ | ⟨f, hf, rfl⟩
  · exact dm_same I 0 (fun _ p => by unfold wpX_start; exact dm_xF0 h (br_t rfl p)) (fun _ p => br_t h p)
  · exact dm_same I 0 (fun _ p => by unfold wpX_start; exact dm_xF1 h h2 (br_t rfl p)) (fun _ p => br_f h (br_t h2 p))
  · have h0 : ¬ nI f < 0 := nI_pos (by omega)
    have h1 : ¬ nI F ≤ nI f := nI_ge hf (by omega)
    have hi : vp_in (nI f) 8 := vp_in_nI (by omega) (by decide)
    by_cases hs : st = 1
    · exact dm_same I 0 (fun _ p => by unfold wpX_start; exact dm_xF2 hF hf (br_f dm_10 (br_t hs p))) (fun _ p => br_f h0 (br_f h1 (br_t hs p)))
    · by_cases z : sl (nI f).toNatClampNeg = 0
      · exact dm_same I 5 (fun _ p => by unfold wpX_start; exact dm_xF2 hF hf (br_f dm_10 (br_f hs ⟨hi, br_t z p⟩))) (fun _ p => br_f h0 (br_f h1 (br_f hs ⟨hi, br_t z p⟩)))
      · obtain ⟨⟨a1, a2, a3, a4, a5, a6, a7, a8⟩, b1, c, d, e⟩ := I
        obtain rfl : fc = 0 := by
          rcases b1 with ⟨b1, _⟩ | ⟨_, b1⟩
          · exact absurd b1 hs
          · exact b1
        refine ⟨1, (dm_X F C D fl oc rs 1 1 O xs H L sl gl am ou (dm_un FF 0 f) (dm_un FP 0 0) (dm_un PC 0 0) (dm_nl lo 0 a b) pe), (dm_Y F C D fl oc rs 1 1 O xs L sl gl am ou (dm_un FF 0 f) (dm_un FP 0 0) (dm_un PC 0 0) (dm_nl lo 0 a b) pe), dm_R ?_, fun _ p => ?_, fun _ p => ?_⟩
        · rw [nI_clamp (by omega)] at z
          exact ⟨⟨a1, a2, a3, a4, a5, a6, a7, by omega⟩, Or.inl ⟨rfl, by decide⟩, c, d, dm_FK1 (by rw [dm_us]; exact hf) (by rw [dm_us]; exact z) dm_us dm_us (by rw [dm_us]; exact (d f hf z).1)⟩
        · unfold wpX_start
          exact dm_xF2 hF hf (br_f dm_10 (br_f hs ⟨hi, br_f z (dm_xadd (t := 0) (by decide) p)⟩))
        · exact br_f h0 (br_f h1 (br_f hs ⟨hi, br_f z (dm_yadd (t := 0) (by decide) p)⟩))
theorem dm_optimise (I : dm_I F C D oc fc st O xs H L sl FF FP PC) (v : Int32) : dm_K (fun p => wpX_optimise p (dm_X F C D fl oc rs st fc O xs H L sl gl am ou FF FP PC lo pe) v) (fun p => wpY_optimise p (dm_Y F C D fl oc rs st fc O xs L sl gl am ou FF FP PC lo pe) v) := by
  have hF : F ≤ 8 := I.1.2.1
  rcases dm_fn v (n := F) (by omega) with h | ⟨h, h2⟩ | ⟨f, hf, rfl⟩
  · exact ⟨0, fun _ p => by unfold wpX_optimise; exact dm_xF0 h (br_t rfl p), fun _ p => br_t h p⟩
  · exact ⟨0, fun _ p => by unfold wpX_optimise; exact dm_xF1 h h2 (br_t rfl p), fun _ p => br_f h (br_f (Int32.not_lt.mpr h2) p)⟩
  · have h0 : ¬ nI f < 0 := nI_pos (by omega)
    have h1 : nI f < nI F := nI_lt hf (by omega)
    have hi : vp_in (nI f) 8 := vp_in_nI (by omega) (by decide)
    by_cases z : sl (nI f).toNatClampNeg = 0
    · exact ⟨5, fun _ p => by unfold wpX_optimise; exact dm_xF2 hF hf (br_f dm_10 ⟨hi, br_t z p⟩), fun _ p => br_f h0 (br_t h1 ⟨hi, br_t z p⟩)⟩
    · exact ⟨1, fun _ p => by unfold wpX_optimise; exact dm_xF2 hF hf (br_f dm_10 ⟨hi, br_f z p⟩), fun _ p => br_f h0 (br_t h1 ⟨hi, br_f z p⟩)⟩
end
end DMC
end
section
section DMD
/-! D: code, frame, erase -/
section
variable {F C D : Nat} {fl : Int32} {oc : Nat} {rs st : Int32} {fc : Nat} {O : Nat → Nat} {xs : Nat → Int32} {H L : Nat → Nat} {sl gl am ou : Nat → Int32} {FF FP PC : Nat → Nat} {lo pe : Nat → Int32}
theorem dm_01 {v : Int32} (h0 : ¬ v < 0) (h1 : ¬ 1 < v) (n0 : ¬ v = 0) (n1 : ¬ v = 1) : False := by
  obtain ⟨j, hj, rfl⟩ := nI_of h0
  have a : ¬ 1 < j := fun h => h1 ((nI_ltI (a := 1) (by decide) hj).mpr h)
  have b : j = 0 ∨ j = 1 := by omega
  rcases b with rfl | rfl
  · exact n0 rfl
  · exact n1 rfl
theorem dm_cell {f i : Nat} : (nI f * 32) + nI i = nI (f * 32 + i) := by
  show nI f * nI 32 + nI i = _
  rw [pk_mul, nI_add]
theorem dm_cellIn {f i : Nat} (hf : f < 8) (hi : i < 32) : vp_in ((nI f * 32) + nI i) 256 := by
  rw [dm_cell]
  exact vp_in_nI (by omega) (by decide)
theorem dm_code (I : dm_I F C D oc fc st O xs H L sl FF FP PC) (v w x : Int32) : dm_K (fun p => wpX_code p (dm_X F C D fl oc rs st fc O xs H L sl gl am ou FF FP PC lo pe) v w x) (fun p => wpY_code p (dm_Y F C D fl oc rs st fc O xs L sl gl am ou FF FP PC lo pe) v w x) := by
  have hF : F ≤ 8 := I.1.2.1
  have hC : C ≤ 32 := I.1.2.2.2.1
  rcases dm_fn v (n := F) (by omega) with h | ⟨h, h2⟩ | ⟨f, hf, rfl⟩
  · exact ⟨-1, fun _ p => by unfold wpX_code; exact dm_xF0 h (br_t rfl p), fun _ p => br_t h p⟩
  · exact ⟨-1, fun _ p => by unfold wpX_code; exact dm_xF1 h h2 (br_t rfl p), fun _ p => br_f h (br_f (Int32.not_lt.mpr h2) p)⟩
  · have h0 : ¬ nI f < 0 := nI_pos (by omega)
    have h1 : nI f < nI F := nI_lt hf (by omega)
    have hi : vp_in (nI f) 8 := vp_in_nI (by omega) (by decide)
    have hL : L f ≤ C := (I.2.2.1 f hf).1
    have eL : dm_nn L (nI f).toNatClampNeg = nI (L f) := by
      rw [nI_clamp (by omega)]
      rfl
    by_cases w2 : w = 2
    · subst w2
      exact ⟨dm_nn L (nI f).toNatClampNeg, fun _ p => by unfold wpX_code; exact dm_xF2 hF hf (br_f dm_10 (br_t rfl ⟨hi, p⟩)), fun _ p => br_f h0 (br_t h1 (br_t rfl ⟨hi, p⟩))⟩
    by_cases w3 : w = 3
    · subst w3
      by_cases z : sl (nI f).toNatClampNeg = 0
      · exact ⟨0, fun _ p => by unfold wpX_code; exact dm_xF2 hF hf (br_f dm_10 (br_f w2 (br_t rfl ⟨hi, br_t z p⟩))), fun _ p => br_f h0 (br_t h1 (br_f w2 (br_t rfl ⟨hi, br_t z p⟩)))⟩
      · exact ⟨1, fun _ p => by unfold wpX_code; exact dm_xF2 hF hf (br_f dm_10 (br_f w2 (br_t rfl ⟨hi, br_f z p⟩))), fun _ p => br_f h0 (br_t h1 (br_f w2 (br_t rfl ⟨hi, br_f z p⟩)))⟩
    by_cases w0 : w = 0
    · subst w0
      rcases dm_fn x (n := L f) (by omega) with g | ⟨g, g2⟩ | ⟨i, gi, rfl⟩
      · exact ⟨-1, fun _ p => by unfold wpX_code; exact dm_xF2 hF hf (br_f dm_10 (br_f w2 (br_f w3 (br_t g p)))), fun _ p => br_f h0 (br_t h1 (br_f w2 (br_f w3 (br_f (by decide) (br_f (by decide) (br_t g p))))))⟩
      · have g3 : ¬ x < dm_nn L (nI f).toNatClampNeg := by
          rw [eL]
          exact Int32.not_lt.mpr g2
        exact ⟨-1, fun _ p => by unfold wpX_code; exact dm_xF2 hF hf (br_f dm_10 (br_f w2 (br_f w3 (br_f g ⟨hi, br_f g3 p⟩)))), fun _ p => br_f h0 (br_t h1 (br_f w2 (br_f w3 (br_f (by decide) (br_f (by decide) (br_f g ⟨hi, br_f g3 p⟩))))))⟩
      · have g3 : nI i < dm_nn L (nI f).toNatClampNeg := by
          rw [eL]
          exact nI_lt gi (by omega)
        have g : ¬ nI i < 0 := nI_pos (by omega)
        have hc : vp_in ((nI f * 32) + nI i) 256 := dm_cellIn (by omega) (by omega)
        exact ⟨dm_nn O ((nI f * 32) + nI i).toNatClampNeg, fun _ p => by unfold wpX_code; exact dm_xF2 hF hf (br_f dm_10 (br_f w2 (br_f w3 (br_f g ⟨hi, br_t g3 (br_t rfl ⟨hc, p⟩)⟩)))), fun _ p => br_f h0 (br_t h1 (br_f w2 (br_f w3 (br_f (by decide) (br_f (by decide) (br_f g ⟨hi, br_t g3 (br_t rfl ⟨hc, p⟩)⟩))))))⟩
    by_cases w1 : w = 1
    · subst w1
      rcases dm_fn x (n := L f) (by omega) with g | ⟨g, g2⟩ | ⟨i, gi, rfl⟩
      · exact ⟨-1, fun _ p => by unfold wpX_code; exact dm_xF2 hF hf (br_f dm_10 (br_f w2 (br_f w3 (br_t g p)))), fun _ p => br_f h0 (br_t h1 (br_f w2 (br_f w3 (br_f (by decide) (br_f (by decide) (br_t g p))))))⟩
      · have g3 : ¬ x < dm_nn L (nI f).toNatClampNeg := by
          rw [eL]
          exact Int32.not_lt.mpr g2
        exact ⟨-1, fun _ p => by unfold wpX_code; exact dm_xF2 hF hf (br_f dm_10 (br_f w2 (br_f w3 (br_f g ⟨hi, br_f g3 p⟩)))), fun _ p => br_f h0 (br_t h1 (br_f w2 (br_f w3 (br_f (by decide) (br_f (by decide) (br_f g ⟨hi, br_f g3 p⟩))))))⟩
      · have g3 : nI i < dm_nn L (nI f).toNatClampNeg := by
          rw [eL]
          exact nI_lt gi (by omega)
        have g : ¬ nI i < 0 := nI_pos (by omega)
        have hc : vp_in ((nI f * 32) + nI i) 256 := dm_cellIn (by omega) (by omega)
        exact ⟨xs ((nI f * 32) + nI i).toNatClampNeg, fun _ p => by unfold wpX_code; exact dm_xF2 hF hf (br_f dm_10 (br_f w2 (br_f w3 (br_f g ⟨hi, br_t g3 (br_f w0 (br_t rfl ⟨hc, p⟩))⟩)))), fun _ p => br_f h0 (br_t h1 (br_f w2 (br_f w3 (br_f (by decide) (br_f (by decide) (br_f g ⟨hi, br_t g3 (br_f w0 ⟨hc, p⟩)⟩))))))⟩
    exact ⟨-1, fun _ p => by unfold wpX_code; exact dm_xF2 hF hf (br_f dm_10 (br_f w2 (br_f w3 (br_c (fun _ => p) (fun _ => ⟨hi, br_c (fun _ => br_f w0 (br_f w1 p)) (fun _ => p)⟩))))),
      fun _ p => br_f h0 (br_t h1 (br_f w2 (br_f w3 (br_c (fun _ => p) (fun n0 => br_c (fun _ => p) (fun n1 => (dm_01 n0 n1 w0 w1).elim))))))⟩
/-- the pending count of a frame is at most six -/
theorem dm_pc6 (I : dm_I F C D oc fc st O xs H L sl FF FP PC) {d : Nat} (hd : d < fc) : PC d ≤ 6 := by
  obtain ⟨_, _, K, _, T⟩ := I
  obtain ⟨a, _, c, e⟩ := T d hd
  have := dm_hb6 K a (Nat.le_of_lt c)
  omega
theorem dm_frame (I : dm_I F C D oc fc st O xs H L sl FF FP PC) (v w : Int32) : dm_K (fun p => wpX_frame p (dm_X F C D fl oc rs st fc O xs H L sl gl am ou FF FP PC lo pe) v w) (fun p => wpY_frame p (dm_Y F C D fl oc rs st fc O xs L sl gl am ou FF FP PC lo pe) v w) := by
  have hfc : fc ≤ 8 := by
    have h1 := I.1.2.2.2.2.2.1
    have h2 := I.1.2.2.2.2.2.2.2
    omega
  rcases dm_fn v (n := fc) (by omega) with h | ⟨h, h2⟩ | ⟨d, hd, rfl⟩
  · exact ⟨0, fun _ p => br_t h p, fun _ p => br_t h p⟩
  · exact ⟨0, fun _ p => br_f h (br_f (Int32.not_lt.mpr h2) p), fun _ p => br_f h (br_f (Int32.not_lt.mpr h2) p)⟩
  · have h0 : ¬ nI d < 0 := nI_pos (by omega)
    have h1 : nI d < nI fc := nI_lt hd (by omega)
    have hi : vp_in (nI d) 8 := vp_in_nI (by omega) (by decide)
    have hp : PC d ≤ 6 := dm_pc6 I hd
    have eP : dm_nn PC (nI d).toNatClampNeg = nI (PC d) := by
      rw [nI_clamp (by omega)]
      rfl
    by_cases w0 : w = 0
    · subst w0
      exact ⟨dm_nn FF (nI d).toNatClampNeg, fun _ p => br_f h0 (br_t h1 (br_t rfl ⟨hi, p⟩)), fun _ p => br_f h0 (br_t h1 (br_t rfl ⟨hi, p⟩))⟩
    by_cases w1 : w = 1
    · subst w1
      exact ⟨dm_nn FP (nI d).toNatClampNeg, fun _ p => br_f h0 (br_t h1 (br_f w0 (br_t rfl ⟨hi, p⟩))), fun _ p => br_f h0 (br_t h1 (br_f w0 (br_t rfl ⟨hi, p⟩)))⟩
    by_cases w2 : w = 2
    · subst w2
      exact ⟨dm_nn PC (nI d).toNatClampNeg, fun _ p => br_f h0 (br_t h1 (br_f w0 (br_f w1 (br_t rfl ⟨hi, p⟩)))), fun _ p => br_f h0 (br_t h1 (br_f w0 (br_f w1 (br_t rfl ⟨hi, p⟩))))⟩
    by_cases w3 : w < 3
    · have w7 : w < 7 := Int32.lt_trans w3 (by decide)
      exact ⟨0, fun _ p => br_f h0 (br_t h1 (br_f w0 (br_f w1 (br_f w2 (br_t w3 (br_t w7 p)))))), fun _ p => br_f h0 (br_t h1 (br_f w0 (br_f w1 (br_f w2 (br_t w3 (br_t w7 p))))))⟩
    · have wn : ¬ w < 0 := fun h => w3 (Int32.lt_trans h (by decide))
      obtain ⟨k, hk, rfl⟩ := nI_of wn
      have k3 : 3 ≤ k := by
        have a : ¬ k < 3 := fun h => w3 ((nI_ltI (b := 3) hk (by decide)).mpr h)
        omega
      by_cases k7 : k < 7
      · have x7 : ¬ (7 : Int32) ≤ nI k := nI_ge (b := 7) k7 (by decide)
        have y6 : ¬ (6 : Int32) < nI k := nI_nlt (a := 6) (by omega) (by decide)
        have hc : vp_in (((nI d * 4) + nI k) - 3) 32 := by
          show vp_in ((nI d * nI 4 + nI k) - nI 3) 32
          rw [pk_mul, nI_add, pk_sub (by omega)]
          exact vp_in_nI (by omega) (by decide)
        exact ⟨lo (((nI d * 4) + nI k) - 3).toNatClampNeg, fun _ p => br_f h0 (br_t h1 (br_f w0 (br_f w1 (br_f w2 (br_f w3 (br_f x7 ⟨hc, p⟩)))))), fun _ p => br_f h0 (br_t h1 (br_f w0 (br_f w1 (br_f w2 (br_f w3 (br_f y6 ⟨hc, p⟩))))))⟩
      · have x7 : (7 : Int32) ≤ nI k := nI_le (a := 7) (by omega) hk
        have y6 : (6 : Int32) < nI k := nI_lt (a := 6) (by omega) hk
        have z7 : ¬ nI k < 7 := nI_nlt (b := 7) (by omega) hk
        have e7 : nI k - 7 = nI (k - 7) := pk_sub (b := 7) (by omega)
        by_cases q : PC d ≤ k - 7
        · have q' : dm_nn PC (nI d).toNatClampNeg ≤ nI k - 7 := by
            rw [eP, e7]
            exact nI_le q (by omega)
          exact ⟨0, fun _ p => br_f h0 (br_t h1 (br_f w0 (br_f w1 (br_f w2 (br_f w3 (br_t x7 (br_f z7 ⟨hi, br_t q' p⟩))))))),
            fun _ p => br_f h0 (br_t h1 (br_f w0 (br_f w1 (br_f w2 (br_f w3 (br_t y6 (br_f z7 (br_c (fun _ => p) (fun _ => ⟨hi, br_t q' p⟩)))))))))⟩
        · have q' : ¬ dm_nn PC (nI d).toNatClampNeg ≤ nI k - 7 := by
            rw [eP, e7]
            exact nI_ge (by omega) (by omega)
          have y12 : ¬ (12 : Int32) < nI k := nI_nlt (a := 12) (by omega) (by decide)
          have hc : vp_in (((nI d * 6) + nI k) - 7) 48 := by
            show vp_in ((nI d * nI 6 + nI k) - nI 7) 48
            rw [pk_mul, nI_add, pk_sub (by omega)]
            exact vp_in_nI (by omega) (by decide)
          exact ⟨pe (((nI d * 6) + nI k) - 7).toNatClampNeg, fun _ p => br_f h0 (br_t h1 (br_f w0 (br_f w1 (br_f w2 (br_f w3 (br_t x7 (br_f z7 ⟨hi, br_f q' ⟨hc, p⟩⟩))))))),
            fun _ p => br_f h0 (br_t h1 (br_f w0 (br_f w1 (br_f w2 (br_f w3 (br_t y6 (br_f z7 (br_f y12 ⟨hi, br_f q' ⟨hc, p⟩⟩))))))))⟩
/-! erase -/
theorem dm_scan (hfc : fc ≤ 8) {f : Nat} (hf : f < 8) (hFF : ∀ d, d < fc → FF d < 8) : ∀ m i : Nat, i + m = fc → (∀ d, d < i → FF d ≠ f) →
    ((∀ post : Int32 → Prop, post 1 → wX_hasFrame_2 post (nI f) (nI F) (nI C) (nI D) fl (nI oc) rs st (nI fc) (dm_nn O) xs (dm_nn H) (dm_nn L) sl gl am ou (dm_nn FF) (dm_nn FP) (dm_nn PC) lo pe (m + 1) (nI i)) ∧ (∀ post : Int32 → SY → Prop, post 0 (dm_Y F C D fl oc rs st fc O xs L sl gl am ou FF FP PC lo pe) → wY_erase_16 post (nI f) (nI F) (nI C) (nI D) fl (nI oc) rs st (nI fc) (dm_nn O) xs (dm_nn L) sl gl am ou (dm_nn FF) (dm_nn FP) (dm_nn PC) lo pe (m + 1) (nI i)))
    ∨ ((∀ d, d < fc → FF d ≠ f) ∧ (∀ post : Int32 → Prop, post 0 → wX_hasFrame_2 post (nI f) (nI F) (nI C) (nI D) fl (nI oc) rs st (nI fc) (dm_nn O) xs (dm_nn H) (dm_nn L) sl gl am ou (dm_nn FF) (dm_nn FP) (dm_nn PC) lo pe (m + 1) (nI i)) ∧ (∀ post : Int32 → SY → Prop, wY_erase_48 post (nI f) (nI F) (nI C) (nI D) fl (nI oc) rs st (nI fc) (dm_nn O) xs (dm_nn L) sl gl am ou (dm_nn FF) (dm_nn FP) (dm_nn PC) lo pe → wY_erase_16 post (nI f) (nI F) (nI C) (nI D) fl (nI oc) rs st (nI fc) (dm_nn O) xs (dm_nn L) sl gl am ou (dm_nn FF) (dm_nn FP) (dm_nn PC) lo pe (m + 1) (nI i))) := by
  intro m
  induction m with
  | zero =>
    intro i hi hn
    have h : nI fc ≤ nI i := nI_le (by omega) (by omega)
    refine Or.inr ⟨fun d hd => hn d (by omega), fun _ p => br_t h p, fun _ p => br_t h p⟩
  | succ m ih =>
    intro i hi hn
    have h : ¬ nI fc ≤ nI i := nI_ge (by omega) (by omega)
    have h8 : ¬ (8 : Int32) ≤ nI i := nI_ge (b := 8) (by omega) (by decide)
    have hv : vp_in (nI i) 8 := vp_in_nI (by omega) (by decide)
    have e : dm_nn FF (nI i).toNatClampNeg = nI (FF i) := by
      rw [nI_clamp (by omega)]
      rfl
    by_cases c : FF i = f
    · have c' : dm_nn FF (nI i).toNatClampNeg = nI f := by rw [e, c]
      exact Or.inl ⟨fun _ p => br_f h ⟨hv, br_t c' p⟩, fun _ p => br_f h (br_f h8 ⟨hv, br_t c' p⟩)⟩
    · have c' : ¬ dm_nn FF (nI i).toNatClampNeg = nI f := by
        rw [e, nI_eq (by have := hFF i (by omega); omega) (by omega)]
        exact c
      have hn' : ∀ d, d < i + 1 → FF d ≠ f := fun d hd => by
        by_cases q : d = i
        · rw [q]
          exact c
        · exact hn d (by omega)
      rcases ih (i + 1) (by omega) hn' with ⟨a, b⟩ | ⟨z, a, b⟩
      · exact Or.inl ⟨fun _ p => br_f h ⟨hv, br_f c' (nm_r (nI_1 i) (a _ p))⟩, fun _ p => br_f h (br_f h8 ⟨hv, br_f c' (nm_r (nI_1 i) (b _ p))⟩)⟩
      · exact Or.inr ⟨z, fun _ p => br_f h ⟨hv, br_f c' (nm_r (nI_1 i) (a _ p))⟩, fun _ p => br_f h (br_f h8 ⟨hv, br_f c' (nm_r (nI_1 i) (b _ p))⟩)⟩
theorem dm_erase (I : dm_I F C D oc fc st O xs H L sl FF FP PC) (v : Int32) : dm_J (fun p => wpX_erase p (dm_X F C D fl oc rs st fc O xs H L sl gl am ou FF FP PC lo pe) v) (fun p => wpY_erase p (dm_Y F C D fl oc rs st fc O xs L sl gl am ou FF FP PC lo pe) v) := by
  have hF : F ≤ 8 := I.1.2.1
  have hfc : fc ≤ 8 := by
    have h1 := I.1.2.2.2.2.2.1
    have h2 := I.1.2.2.2.2.2.2.2
    omega
  rcases dm_fn v (n := F) (by omega) with h | ⟨h, h2⟩ | ⟨f, hf, rfl⟩
  · exact dm_same I 0 (fun _ p => by unfold wpX_erase; exact dm_xF0 h (br_t rfl p)) (fun _ p => br_t h p)
  · exact dm_same I 0 (fun _ p => by unfold wpX_erase; exact dm_xF1 h h2 (br_t rfl p)) (fun _ p => br_f h (br_f (Int32.not_lt.mpr h2) p))
  · have h0 : ¬ nI f < 0 := nI_pos (by omega)
    have h1 : nI f < nI F := nI_lt hf (by omega)
    have hi : vp_in (nI f) 8 := vp_in_nI (by omega) (by decide)
    have hFF : ∀ d, d < fc → FF d < 8 := fun d hd => by
      have := (I.2.2.2.2 d hd).1
      omega
    rcases dm_scan (F := F) (C := C) (D := D) (fl := fl) (oc := oc) (rs := rs) (st := st) (fc := fc) (O := O) (xs := xs) (H := H) (L := L) (sl := sl) (gl := gl) (am := am) (ou := ou) (FF := FF) (FP := FP) (PC := PC) (lo := lo) (pe := pe) hfc (f := f) (by omega) hFF fc 0 (by omega) (fun d hd => absurd hd (Nat.not_lt_zero d)) with ⟨a, b⟩ | ⟨z, a, b⟩
    · refine dm_same I 0 (fun _ p => ?_) (fun _ p => br_f h0 (br_t h1 ⟨fc + 1, b _ p⟩))
      unfold wpX_erase
      refine dm_xF2 hF hf (br_f dm_10 ?_)
      exact ⟨fc + 1, a _ (br_f dm_10 p)⟩
    · have eL : upd (dm_nn L) (nI f).toNatClampNeg 0 = dm_nn (dm_un L f 0) := dm_u0 (t := f) (by omega) 0
      have eS : upd sl (nI f).toNatClampNeg (vp_nar .boolean 0) = upd sl f 0 := by rw [nI_clamp (by omega), dm_vb0]
      refine ⟨1, (dm_X F C D fl oc rs st fc O xs H (dm_un L f 0) (upd sl f 0) gl am ou FF FP PC lo pe), (dm_Y F C D fl oc rs st fc O xs (dm_un L f 0) (upd sl f 0) gl am ou FF FP PC lo pe), dm_R ?_, fun _ p => ?_, fun _ p => ?_⟩
      · obtain ⟨q, b1, c, d, e⟩ := I
        exact ⟨q, b1, dm_CKr c f, dm_SKr d f, dm_FKr e f z⟩
      · unfold wpX_erase
        refine dm_xF2 hF hf (br_f dm_10 ?_)
        exact ⟨fc + 1, a _ (br_t rfl ⟨hi, nm_r eL ⟨hi, nm_r eS p⟩⟩)⟩
      · exact br_f h0 (br_t h1 ⟨fc + 1, b _ ⟨hi, nm_r eL ⟨hi, nm_r eS p⟩⟩⟩)
end
end DMD
end
section
section DME
/-! E: emit and seal -/
section
variable {F C D : Nat} {fl : Int32} {oc : Nat} {rs st : Int32} {fc : Nat} {O : Nat → Nat} {xs : Nat → Int32} {H L : Nat → Nat} {sl gl am ou : Nat → Int32} {FF FP PC : Nat → Nat} {lo pe : Nat → Int32}
theorem dm_xhb {post : Int32 → Prop} {f i : Nat} (hf : f < 8) (hi : i ≤ 32) (p : post (nI (dm_hb H f i))) : wpX_heightBefore post (dm_X F C D fl oc rs st fc O xs H L sl gl am ou FF FP PC lo pe) (nI f) (nI i) := by
  cases i with
  | zero => exact br_t rfl p
  | succ j =>
    have e : ((nI f * 32) + nI (j + 1)) - 1 = nI (f * 32 + j) := by
      rw [dm_cell, ← Nat.add_assoc]
      exact nI_pred _
    refine br_f (nI_ne0 (by omega) (by omega)) ⟨?_, ?_⟩
    · rw [e]
      exact vp_in_nI (by omega) (by decide)
    · rw [e, nI_clamp (by omega)]
      exact p
theorem dm_yaf {post : Int32 → Prop} {o h : Nat} (ho : o ≤ 16) (hn : dm_nd o h) (p : post (nI (dm_af o h))) : wpY_after post (dm_Y F C D fl oc rs st fc O xs L sl gl am ou FF FP PC lo pe) (nI o) (nI h) := by
  have hc : o = 0 ∨ o = 1 ∨ o = 2 ∨ o = 3 ∨ o = 4 ∨ o = 5 ∨ o = 6 ∨ o = 7 ∨ o = 8 ∨ o = 9 ∨ o = 10 ∨ o = 11 ∨ o = 12 ∨ o = 13 ∨ o = 14 ∨ o = 15 ∨ o = 16 := by omega
  rcases hc with rfl | rfl | rfl | rfl | rfl | rfl | rfl | rfl | rfl | rfl | rfl | rfl | rfl | rfl | rfl | rfl | rfl
  · rw [show dm_af 0 h = h + 1 from by simp [dm_af]] at p
    repeat (first | refine br_f (by decide) ?_ | refine br_t (by decide) ?_)
    rw [nI_1]
    exact p
  · rw [show dm_af 1 h = h + 1 from by simp [dm_af]] at p
    repeat (first | refine br_f (by decide) ?_ | refine br_t (by decide) ?_)
    rw [nI_1]
    exact p
  · have h1 : 1 ≤ h := by
      simp [dm_nd] at hn
      omega
    obtain ⟨g, rfl⟩ : ∃ g, h = g + 1 := ⟨h - 1, by omega⟩
    rw [show dm_af 2 (g + 1) = g from by simp [dm_af]] at p
    repeat (first | refine br_f (by decide) ?_ | refine br_t (by decide) ?_)
    rw [nI_pred]
    exact p
  · rw [show dm_af 3 h = h + 1 from by simp [dm_af]] at p
    repeat (first | refine br_f (by decide) ?_ | refine br_t (by decide) ?_)
    rw [nI_1]
    exact p
  · have h1 : 1 ≤ h := by
      simp [dm_nd] at hn
      omega
    obtain ⟨g, rfl⟩ : ∃ g, h = g + 1 := ⟨h - 1, by omega⟩
    rw [show dm_af 4 (g + 1) = g from by simp [dm_af]] at p
    repeat (first | refine br_f (by decide) ?_ | refine br_t (by decide) ?_)
    rw [nI_pred]
    exact p
  · have h1 : 1 ≤ h := by
      simp [dm_nd] at hn
      omega
    obtain ⟨g, rfl⟩ : ∃ g, h = g + 1 := ⟨h - 1, by omega⟩
    rw [show dm_af 5 (g + 1) = g from by simp [dm_af]] at p
    repeat (first | refine br_f (by decide) ?_ | refine br_t (by decide) ?_)
    rw [nI_pred]
    exact p
  · have h1 : 1 ≤ h := by
      simp [dm_nd] at hn
      omega
    obtain ⟨g, rfl⟩ : ∃ g, h = g + 1 := ⟨h - 1, by omega⟩
    rw [show dm_af 6 (g + 1) = g from by simp [dm_af]] at p
    repeat (first | refine br_f (by decide) ?_ | refine br_t (by decide) ?_)
    rw [nI_pred]
    exact p
  · have h1 : 1 ≤ h := by
      simp [dm_nd] at hn
      omega
    obtain ⟨g, rfl⟩ : ∃ g, h = g + 1 := ⟨h - 1, by omega⟩
    rw [show dm_af 7 (g + 1) = g from by simp [dm_af]] at p
    repeat (first | refine br_f (by decide) ?_ | refine br_t (by decide) ?_)
    rw [nI_pred]
    exact p
  · have h1 : 1 ≤ h := by
      simp [dm_nd] at hn
      omega
    obtain ⟨g, rfl⟩ : ∃ g, h = g + 1 := ⟨h - 1, by omega⟩
    rw [show dm_af 8 (g + 1) = g from by simp [dm_af]] at p
    repeat (first | refine br_f (by decide) ?_ | refine br_t (by decide) ?_)
    rw [nI_pred]
    exact p
  · have h1 : 1 ≤ h := by
      simp [dm_nd] at hn
      omega
    obtain ⟨g, rfl⟩ : ∃ g, h = g + 1 := ⟨h - 1, by omega⟩
    rw [show dm_af 9 (g + 1) = g from by simp [dm_af]] at p
    repeat (first | refine br_f (by decide) ?_ | refine br_t (by decide) ?_)
    rw [nI_pred]
    exact p
  · rw [show dm_af 10 h = 0 from by simp [dm_af]] at p
    repeat (first | refine br_f (by decide) ?_ | refine br_t (by decide) ?_)
    exact p
  · rw [show dm_af 11 h = 0 from by simp [dm_af]] at p
    repeat (first | refine br_f (by decide) ?_ | refine br_t (by decide) ?_)
    exact p
  · rw [show dm_af 12 h = h + 1 from by simp [dm_af]] at p
    repeat (first | refine br_f (by decide) ?_ | refine br_t (by decide) ?_)
    rw [nI_1]
    exact p
  · rw [show dm_af 13 h = h from by simp [dm_af]] at p
    repeat (first | refine br_f (by decide) ?_ | refine br_t (by decide) ?_)
    exact p
  · have h1 : 1 ≤ h := by
      simp [dm_nd] at hn
      omega
    obtain ⟨g, rfl⟩ : ∃ g, h = g + 1 := ⟨h - 1, by omega⟩
    rw [show dm_af 14 (g + 1) = g from by simp [dm_af]] at p
    repeat (first | refine br_f (by decide) ?_ | refine br_t (by decide) ?_)
    rw [nI_pred]
    exact p
  · have h1 : 1 ≤ h := by
      simp [dm_nd] at hn
      omega
    obtain ⟨g, rfl⟩ : ∃ g, h = g + 1 := ⟨h - 1, by omega⟩
    rw [show dm_af 15 (g + 1) = g from by simp [dm_af]] at p
    repeat (first | refine br_f (by decide) ?_ | refine br_t (by decide) ?_)
    rw [nI_pred]
    exact p
  · rw [show dm_af 16 h = 0 from by simp [dm_af]] at p
    repeat (first | refine br_f (by decide) ?_ | refine br_t (by decide) ?_)
    exact p
theorem dm_xhc {o h : Nat} (ho : o ≤ 16) (hn : dm_nd o h) : ∃ r : Int32, nI h + r = nI (dm_af o h) ∧ ∀ post : Int32 → Prop, post r → wpX_heightChange post (nI o) := by
  have hc : o = 0 ∨ o = 1 ∨ o = 2 ∨ o = 3 ∨ o = 4 ∨ o = 5 ∨ o = 6 ∨ o = 7 ∨ o = 8 ∨ o = 9 ∨ o = 10 ∨ o = 11 ∨ o = 12 ∨ o = 13 ∨ o = 14 ∨ o = 15 ∨ o = 16 := by omega
  rcases hc with rfl | rfl | rfl | rfl | rfl | rfl | rfl | rfl | rfl | rfl | rfl | rfl | rfl | rfl | rfl | rfl | rfl
  · refine ⟨1, ?_, fun post p => ?_⟩
    · rw [show dm_af 0 h = h + 1 from by simp [dm_af], nI_1]
    · repeat (first | refine br_f (by decide) ?_ | refine br_t (by decide) ?_)
      exact p
  · refine ⟨1, ?_, fun post p => ?_⟩
    · rw [show dm_af 1 h = h + 1 from by simp [dm_af], nI_1]
    · repeat (first | refine br_f (by decide) ?_ | refine br_t (by decide) ?_)
      exact p
  · have h1 : 1 ≤ h := by
      simp [dm_nd] at hn
      omega
    obtain ⟨g, rfl⟩ : ∃ g, h = g + 1 := ⟨h - 1, by omega⟩
    refine ⟨-1, ?_, fun post p => ?_⟩
    · rw [show dm_af 2 (g + 1) = g from by simp [dm_af]]
      exact pk_m1 g
    · repeat (first | refine br_f (by decide) ?_ | refine br_t (by decide) ?_)
      exact p
  · refine ⟨1, ?_, fun post p => ?_⟩
    · rw [show dm_af 3 h = h + 1 from by simp [dm_af], nI_1]
    · repeat (first | refine br_f (by decide) ?_ | refine br_t (by decide) ?_)
      exact p
  · have h1 : 1 ≤ h := by
      simp [dm_nd] at hn
      omega
    obtain ⟨g, rfl⟩ : ∃ g, h = g + 1 := ⟨h - 1, by omega⟩
    refine ⟨-1, ?_, fun post p => ?_⟩
    · rw [show dm_af 4 (g + 1) = g from by simp [dm_af]]
      exact pk_m1 g
    · repeat (first | refine br_f (by decide) ?_ | refine br_t (by decide) ?_)
      exact p
  · have h1 : 1 ≤ h := by
      simp [dm_nd] at hn
      omega
    obtain ⟨g, rfl⟩ : ∃ g, h = g + 1 := ⟨h - 1, by omega⟩
    refine ⟨-1, ?_, fun post p => ?_⟩
    · rw [show dm_af 5 (g + 1) = g from by simp [dm_af]]
      exact pk_m1 g
    · repeat (first | refine br_f (by decide) ?_ | refine br_t (by decide) ?_)
      exact p
  · have h1 : 1 ≤ h := by
      simp [dm_nd] at hn
      omega
    obtain ⟨g, rfl⟩ : ∃ g, h = g + 1 := ⟨h - 1, by omega⟩
    refine ⟨-1, ?_, fun post p => ?_⟩
    · rw [show dm_af 6 (g + 1) = g from by simp [dm_af]]
      exact pk_m1 g
    · repeat (first | refine br_f (by decide) ?_ | refine br_t (by decide) ?_)
      exact p
  · have h1 : 1 ≤ h := by
      simp [dm_nd] at hn
      omega
    obtain ⟨g, rfl⟩ : ∃ g, h = g + 1 := ⟨h - 1, by omega⟩
    refine ⟨-1, ?_, fun post p => ?_⟩
    · rw [show dm_af 7 (g + 1) = g from by simp [dm_af]]
      exact pk_m1 g
    · repeat (first | refine br_f (by decide) ?_ | refine br_t (by decide) ?_)
      exact p
  · have h1 : 1 ≤ h := by
      simp [dm_nd] at hn
      omega
    obtain ⟨g, rfl⟩ : ∃ g, h = g + 1 := ⟨h - 1, by omega⟩
    refine ⟨-1, ?_, fun post p => ?_⟩
    · rw [show dm_af 8 (g + 1) = g from by simp [dm_af]]
      exact pk_m1 g
    · repeat (first | refine br_f (by decide) ?_ | refine br_t (by decide) ?_)
      exact p
  · have h1 : 1 ≤ h := by
      simp [dm_nd] at hn
      omega
    obtain ⟨g, rfl⟩ : ∃ g, h = g + 1 := ⟨h - 1, by omega⟩
    refine ⟨-1, ?_, fun post p => ?_⟩
    · rw [show dm_af 9 (g + 1) = g from by simp [dm_af]]
      exact pk_m1 g
    · repeat (first | refine br_f (by decide) ?_ | refine br_t (by decide) ?_)
      exact p
  · obtain rfl : h = 0 := by
      simp [dm_nd] at hn
      exact hn
    refine ⟨0, by decide, fun post p => ?_⟩
    repeat (first | refine br_f (by decide) ?_ | refine br_t (by decide) ?_)
    exact p
  · obtain rfl : h = 1 := by
      simp [dm_nd] at hn
      exact hn
    refine ⟨-1, by decide, fun post p => ?_⟩
    repeat (first | refine br_f (by decide) ?_ | refine br_t (by decide) ?_)
    exact p
  · refine ⟨1, ?_, fun post p => ?_⟩
    · rw [show dm_af 12 h = h + 1 from by simp [dm_af], nI_1]
    · repeat (first | refine br_f (by decide) ?_ | refine br_t (by decide) ?_)
      exact p
  · refine ⟨0, ?_, fun post p => ?_⟩
    · rw [show dm_af 13 h = h from by simp [dm_af], Int32.add_zero]
    · repeat (first | refine br_f (by decide) ?_ | refine br_t (by decide) ?_)
      exact p
  · have h1 : 1 ≤ h := by
      simp [dm_nd] at hn
      omega
    obtain ⟨g, rfl⟩ : ∃ g, h = g + 1 := ⟨h - 1, by omega⟩
    refine ⟨-1, ?_, fun post p => ?_⟩
    · rw [show dm_af 14 (g + 1) = g from by simp [dm_af]]
      exact pk_m1 g
    · repeat (first | refine br_f (by decide) ?_ | refine br_t (by decide) ?_)
      exact p
  · have h1 : 1 ≤ h := by
      simp [dm_nd] at hn
      omega
    obtain ⟨g, rfl⟩ : ∃ g, h = g + 1 := ⟨h - 1, by omega⟩
    refine ⟨-1, ?_, fun post p => ?_⟩
    · rw [show dm_af 15 (g + 1) = g from by simp [dm_af]]
      exact pk_m1 g
    · repeat (first | refine br_f (by decide) ?_ | refine br_t (by decide) ?_)
      exact p
  · obtain rfl : h = 1 := by
      simp [dm_nd] at hn
      exact hn
    refine ⟨-1, by decide, fun post p => ?_⟩
    repeat (first | refine br_f (by decide) ?_ | refine br_t (by decide) ?_)
    exact p
theorem dm_hf {o h : Nat} (ho : o ≤ 16) (hh : h ≤ 6) :
    (dm_nd o h ∧ (∀ post : Int32 → Prop, post 1 → wpX_heightFits post (nI o) (nI h)) ∧ (∀ post : Int32 → Prop, post 1 → wpY_needs post (dm_Y F C D fl oc rs st fc O xs L sl gl am ou FF FP PC lo pe) (nI o) (nI h)))
    ∨ (¬ dm_nd o h ∧ (∀ post : Int32 → Prop, post 0 → wpX_heightFits post (nI o) (nI h)) ∧ (∀ post : Int32 → Prop, post 0 → wpY_needs post (dm_Y F C D fl oc rs st fc O xs L sl gl am ou FF FP PC lo pe) (nI o) (nI h))) := by
  have hc : o = 0 ∨ o = 1 ∨ o = 2 ∨ o = 3 ∨ o = 4 ∨ o = 5 ∨ o = 6 ∨ o = 7 ∨ o = 8 ∨ o = 9 ∨ o = 10 ∨ o = 11 ∨ o = 12 ∨ o = 13 ∨ o = 14 ∨ o = 15 ∨ o = 16 := by omega
  rcases hc with rfl | rfl | rfl | rfl | rfl | rfl | rfl | rfl | rfl | rfl | rfl | rfl | rfl | rfl | rfl | rfl | rfl
  · have en : dm_nd 0 h ↔ h < 6 := by simp [dm_nd]
    by_cases q : h < 6
    · refine Or.inl ⟨en.mpr q, fun post p => ?_, fun post p => ?_⟩
      · repeat (first | refine br_f (by decide) ?_ | refine br_t (by decide) ?_)
        exact br_f (nI_ge (b := 6) q (by decide)) p
      · repeat (first | refine br_f (by decide) ?_ | refine br_t (by decide) ?_)
        exact br_f (nI_ge (b := 6) q (by decide)) p
    · refine Or.inr ⟨fun z => q (en.mp z), fun post p => ?_, fun post p => ?_⟩
      · repeat (first | refine br_f (by decide) ?_ | refine br_t (by decide) ?_)
        exact br_t (nI_le (a := 6) (by omega) (by omega)) p
      · repeat (first | refine br_f (by decide) ?_ | refine br_t (by decide) ?_)
        exact br_t (nI_le (a := 6) (by omega) (by omega)) p
  · have en : dm_nd 1 h ↔ h < 6 := by simp [dm_nd]
    by_cases q : h < 6
    · refine Or.inl ⟨en.mpr q, fun post p => ?_, fun post p => ?_⟩
      · repeat (first | refine br_f (by decide) ?_ | refine br_t (by decide) ?_)
        exact br_f (nI_ge (b := 6) q (by decide)) p
      · repeat (first | refine br_f (by decide) ?_ | refine br_t (by decide) ?_)
        exact br_f (nI_ge (b := 6) q (by decide)) p
    · refine Or.inr ⟨fun z => q (en.mp z), fun post p => ?_, fun post p => ?_⟩
      · repeat (first | refine br_f (by decide) ?_ | refine br_t (by decide) ?_)
        exact br_t (nI_le (a := 6) (by omega) (by omega)) p
      · repeat (first | refine br_f (by decide) ?_ | refine br_t (by decide) ?_)
        exact br_t (nI_le (a := 6) (by omega) (by omega)) p
  · have en : dm_nd 2 h ↔ 1 ≤ h := by simp [dm_nd]
    by_cases q : 1 ≤ h
    · refine Or.inl ⟨en.mpr q, fun post p => ?_, fun post p => ?_⟩
      · repeat (first | refine br_f (by decide) ?_ | refine br_t (by decide) ?_)
        exact br_f (nI_nlt (b := 1) q (by omega)) p
      · repeat (first | refine br_f (by decide) ?_ | refine br_t (by decide) ?_)
        exact br_f (nI_nlt (b := 1) q (by omega)) p
    · refine Or.inr ⟨fun z => q (en.mp z), fun post p => ?_, fun post p => ?_⟩
      · repeat (first | refine br_f (by decide) ?_ | refine br_t (by decide) ?_)
        exact br_t (nI_lt (b := 1) (by omega) (by decide)) p
      · repeat (first | refine br_f (by decide) ?_ | refine br_t (by decide) ?_)
        exact br_t (nI_lt (b := 1) (by omega) (by decide)) p
  · have en : dm_nd 3 h ↔ h < 6 := by simp [dm_nd]
    by_cases q : h < 6
    · refine Or.inl ⟨en.mpr q, fun post p => ?_, fun post p => ?_⟩
      · repeat (first | refine br_f (by decide) ?_ | refine br_t (by decide) ?_)
        exact br_f (nI_ge (b := 6) q (by decide)) p
      · repeat (first | refine br_f (by decide) ?_ | refine br_t (by decide) ?_)
        exact br_f (nI_ge (b := 6) q (by decide)) p
    · refine Or.inr ⟨fun z => q (en.mp z), fun post p => ?_, fun post p => ?_⟩
      · repeat (first | refine br_f (by decide) ?_ | refine br_t (by decide) ?_)
        exact br_t (nI_le (a := 6) (by omega) (by omega)) p
      · repeat (first | refine br_f (by decide) ?_ | refine br_t (by decide) ?_)
        exact br_t (nI_le (a := 6) (by omega) (by omega)) p
  · have en : dm_nd 4 h ↔ 1 ≤ h := by simp [dm_nd]
    by_cases q : 1 ≤ h
    · refine Or.inl ⟨en.mpr q, fun post p => ?_, fun post p => ?_⟩
      · repeat (first | refine br_f (by decide) ?_ | refine br_t (by decide) ?_)
        exact br_f (nI_nlt (b := 1) q (by omega)) p
      · repeat (first | refine br_f (by decide) ?_ | refine br_t (by decide) ?_)
        exact br_f (nI_nlt (b := 1) q (by omega)) p
    · refine Or.inr ⟨fun z => q (en.mp z), fun post p => ?_, fun post p => ?_⟩
      · repeat (first | refine br_f (by decide) ?_ | refine br_t (by decide) ?_)
        exact br_t (nI_lt (b := 1) (by omega) (by decide)) p
      · repeat (first | refine br_f (by decide) ?_ | refine br_t (by decide) ?_)
        exact br_t (nI_lt (b := 1) (by omega) (by decide)) p
  · have en : dm_nd 5 h ↔ 2 ≤ h := by simp [dm_nd]
    by_cases q : 2 ≤ h
    · refine Or.inl ⟨en.mpr q, fun post p => ?_, fun post p => ?_⟩
      · repeat (first | refine br_f (by decide) ?_ | refine br_t (by decide) ?_)
        exact br_f (nI_nlt (b := 2) q (by omega)) p
      · repeat (first | refine br_f (by decide) ?_ | refine br_t (by decide) ?_)
        exact br_f (nI_nlt (b := 2) q (by omega)) p
    · refine Or.inr ⟨fun z => q (en.mp z), fun post p => ?_, fun post p => ?_⟩
      · repeat (first | refine br_f (by decide) ?_ | refine br_t (by decide) ?_)
        exact br_t (nI_lt (b := 2) (by omega) (by decide)) p
      · repeat (first | refine br_f (by decide) ?_ | refine br_t (by decide) ?_)
        exact br_t (nI_lt (b := 2) (by omega) (by decide)) p
  · have en : dm_nd 6 h ↔ 2 ≤ h := by simp [dm_nd]
    by_cases q : 2 ≤ h
    · refine Or.inl ⟨en.mpr q, fun post p => ?_, fun post p => ?_⟩
      · repeat (first | refine br_f (by decide) ?_ | refine br_t (by decide) ?_)
        exact br_f (nI_nlt (b := 2) q (by omega)) p
      · repeat (first | refine br_f (by decide) ?_ | refine br_t (by decide) ?_)
        exact br_f (nI_nlt (b := 2) q (by omega)) p
    · refine Or.inr ⟨fun z => q (en.mp z), fun post p => ?_, fun post p => ?_⟩
      · repeat (first | refine br_f (by decide) ?_ | refine br_t (by decide) ?_)
        exact br_t (nI_lt (b := 2) (by omega) (by decide)) p
      · repeat (first | refine br_f (by decide) ?_ | refine br_t (by decide) ?_)
        exact br_t (nI_lt (b := 2) (by omega) (by decide)) p
  · have en : dm_nd 7 h ↔ 2 ≤ h := by simp [dm_nd]
    by_cases q : 2 ≤ h
    · refine Or.inl ⟨en.mpr q, fun post p => ?_, fun post p => ?_⟩
      · repeat (first | refine br_f (by decide) ?_ | refine br_t (by decide) ?_)
        exact br_f (nI_nlt (b := 2) q (by omega)) p
      · repeat (first | refine br_f (by decide) ?_ | refine br_t (by decide) ?_)
        exact br_f (nI_nlt (b := 2) q (by omega)) p
    · refine Or.inr ⟨fun z => q (en.mp z), fun post p => ?_, fun post p => ?_⟩
      · repeat (first | refine br_f (by decide) ?_ | refine br_t (by decide) ?_)
        exact br_t (nI_lt (b := 2) (by omega) (by decide)) p
      · repeat (first | refine br_f (by decide) ?_ | refine br_t (by decide) ?_)
        exact br_t (nI_lt (b := 2) (by omega) (by decide)) p
  · have en : dm_nd 8 h ↔ 2 ≤ h := by simp [dm_nd]
    by_cases q : 2 ≤ h
    · refine Or.inl ⟨en.mpr q, fun post p => ?_, fun post p => ?_⟩
      · repeat (first | refine br_f (by decide) ?_ | refine br_t (by decide) ?_)
        exact br_f (nI_nlt (b := 2) q (by omega)) p
      · repeat (first | refine br_f (by decide) ?_ | refine br_t (by decide) ?_)
        exact br_f (nI_nlt (b := 2) q (by omega)) p
    · refine Or.inr ⟨fun z => q (en.mp z), fun post p => ?_, fun post p => ?_⟩
      · repeat (first | refine br_f (by decide) ?_ | refine br_t (by decide) ?_)
        exact br_t (nI_lt (b := 2) (by omega) (by decide)) p
      · repeat (first | refine br_f (by decide) ?_ | refine br_t (by decide) ?_)
        exact br_t (nI_lt (b := 2) (by omega) (by decide)) p
  · have en : dm_nd 9 h ↔ 2 ≤ h := by simp [dm_nd]
    by_cases q : 2 ≤ h
    · refine Or.inl ⟨en.mpr q, fun post p => ?_, fun post p => ?_⟩
      · repeat (first | refine br_f (by decide) ?_ | refine br_t (by decide) ?_)
        exact br_f (nI_nlt (b := 2) q (by omega)) p
      · repeat (first | refine br_f (by decide) ?_ | refine br_t (by decide) ?_)
        exact br_f (nI_nlt (b := 2) q (by omega)) p
    · refine Or.inr ⟨fun z => q (en.mp z), fun post p => ?_, fun post p => ?_⟩
      · repeat (first | refine br_f (by decide) ?_ | refine br_t (by decide) ?_)
        exact br_t (nI_lt (b := 2) (by omega) (by decide)) p
      · repeat (first | refine br_f (by decide) ?_ | refine br_t (by decide) ?_)
        exact br_t (nI_lt (b := 2) (by omega) (by decide)) p
  · have en : dm_nd 10 h ↔ h = 0 := by simp [dm_nd]
    by_cases q : h = 0
    · refine Or.inl ⟨en.mpr q, fun post p => ?_, fun post p => ?_⟩
      · repeat (first | refine br_f (by decide) ?_ | refine br_t (by decide) ?_)
        exact br_t (by rw [q]; rfl) p
      · repeat (first | refine br_f (by decide) ?_ | refine br_t (by decide) ?_)
        exact br_t (by rw [q]; rfl) p
    · refine Or.inr ⟨fun z => q (en.mp z), fun post p => ?_, fun post p => ?_⟩
      · repeat (first | refine br_f (by decide) ?_ | refine br_t (by decide) ?_)
        exact br_f (nI_ne0 (by omega) (by omega)) p
      · repeat (first | refine br_f (by decide) ?_ | refine br_t (by decide) ?_)
        exact br_f (nI_ne0 (by omega) (by omega)) p
  · have en : dm_nd 11 h ↔ h = 1 := by simp [dm_nd]
    by_cases q : h = 1
    · refine Or.inl ⟨en.mpr q, fun post p => ?_, fun post p => ?_⟩
      · repeat (first | refine br_f (by decide) ?_ | refine br_t (by decide) ?_)
        exact br_t (by rw [q]; rfl) p
      · repeat (first | refine br_f (by decide) ?_ | refine br_t (by decide) ?_)
        exact br_t (by rw [q]; rfl) p
    · refine Or.inr ⟨fun z => q (en.mp z), fun post p => ?_, fun post p => ?_⟩
      · repeat (first | refine br_f (by decide) ?_ | refine br_t (by decide) ?_)
        exact br_f (fun e => q ((nI_eq (b := 1) (by omega) (by decide)).mp e)) p
      · repeat (first | refine br_f (by decide) ?_ | refine br_t (by decide) ?_)
        exact br_f (fun e => q ((nI_eq (b := 1) (by omega) (by decide)).mp e)) p
  · have en : dm_nd 12 h ↔ h < 6 := by simp [dm_nd]
    by_cases q : h < 6
    · refine Or.inl ⟨en.mpr q, fun post p => ?_, fun post p => ?_⟩
      · repeat (first | refine br_f (by decide) ?_ | refine br_t (by decide) ?_)
        exact br_f (nI_ge (b := 6) q (by decide)) p
      · repeat (first | refine br_f (by decide) ?_ | refine br_t (by decide) ?_)
        exact br_f (nI_ge (b := 6) q (by decide)) p
    · refine Or.inr ⟨fun z => q (en.mp z), fun post p => ?_, fun post p => ?_⟩
      · repeat (first | refine br_f (by decide) ?_ | refine br_t (by decide) ?_)
        exact br_t (nI_le (a := 6) (by omega) (by omega)) p
      · repeat (first | refine br_f (by decide) ?_ | refine br_t (by decide) ?_)
        exact br_t (nI_le (a := 6) (by omega) (by omega)) p
  · have en : dm_nd 13 h ↔ 1 ≤ h := by simp [dm_nd]
    by_cases q : 1 ≤ h
    · refine Or.inl ⟨en.mpr q, fun post p => ?_, fun post p => ?_⟩
      · repeat (first | refine br_f (by decide) ?_ | refine br_t (by decide) ?_)
        exact br_f (nI_nlt (b := 1) q (by omega)) p
      · repeat (first | refine br_f (by decide) ?_ | refine br_t (by decide) ?_)
        exact br_f (nI_nlt (b := 1) q (by omega)) p
    · refine Or.inr ⟨fun z => q (en.mp z), fun post p => ?_, fun post p => ?_⟩
      · repeat (first | refine br_f (by decide) ?_ | refine br_t (by decide) ?_)
        exact br_t (nI_lt (b := 1) (by omega) (by decide)) p
      · repeat (first | refine br_f (by decide) ?_ | refine br_t (by decide) ?_)
        exact br_t (nI_lt (b := 1) (by omega) (by decide)) p
  · have en : dm_nd 14 h ↔ 2 ≤ h := by simp [dm_nd]
    by_cases q : 2 ≤ h
    · refine Or.inl ⟨en.mpr q, fun post p => ?_, fun post p => ?_⟩
      · repeat (first | refine br_f (by decide) ?_ | refine br_t (by decide) ?_)
        exact br_f (nI_nlt (b := 2) q (by omega)) p
      · repeat (first | refine br_f (by decide) ?_ | refine br_t (by decide) ?_)
        exact br_f (nI_nlt (b := 2) q (by omega)) p
    · refine Or.inr ⟨fun z => q (en.mp z), fun post p => ?_, fun post p => ?_⟩
      · repeat (first | refine br_f (by decide) ?_ | refine br_t (by decide) ?_)
        exact br_t (nI_lt (b := 2) (by omega) (by decide)) p
      · repeat (first | refine br_f (by decide) ?_ | refine br_t (by decide) ?_)
        exact br_t (nI_lt (b := 2) (by omega) (by decide)) p
  · have en : dm_nd 15 h ↔ 1 ≤ h := by simp [dm_nd]
    by_cases q : 1 ≤ h
    · refine Or.inl ⟨en.mpr q, fun post p => ?_, fun post p => ?_⟩
      · repeat (first | refine br_f (by decide) ?_ | refine br_t (by decide) ?_)
        exact br_f (nI_nlt (b := 1) q (by omega)) p
      · repeat (first | refine br_f (by decide) ?_ | refine br_t (by decide) ?_)
        exact br_f (nI_nlt (b := 1) q (by omega)) p
    · refine Or.inr ⟨fun z => q (en.mp z), fun post p => ?_, fun post p => ?_⟩
      · repeat (first | refine br_f (by decide) ?_ | refine br_t (by decide) ?_)
        exact br_t (nI_lt (b := 1) (by omega) (by decide)) p
      · repeat (first | refine br_f (by decide) ?_ | refine br_t (by decide) ?_)
        exact br_t (nI_lt (b := 1) (by omega) (by decide)) p
  · have en : dm_nd 16 h ↔ h = 1 := by simp [dm_nd]
    by_cases q : h = 1
    · refine Or.inl ⟨en.mpr q, fun post p => ?_, fun post p => ?_⟩
      · repeat (first | refine br_f (by decide) ?_ | refine br_t (by decide) ?_)
        exact br_t (by rw [q]; rfl) p
      · repeat (first | refine br_f (by decide) ?_ | refine br_t (by decide) ?_)
        exact br_t (by rw [q]; rfl) p
    · refine Or.inr ⟨fun z => q (en.mp z), fun post p => ?_, fun post p => ?_⟩
      · repeat (first | refine br_f (by decide) ?_ | refine br_t (by decide) ?_)
        exact br_f (fun e => q ((nI_eq (b := 1) (by omega) (by decide)).mp e)) p
      · repeat (first | refine br_f (by decide) ?_ | refine br_t (by decide) ?_)
        exact br_f (fun e => q ((nI_eq (b := 1) (by omega) (by decide)).mp e)) p
theorem dm_ig {o : Nat} (hF : 2 ≤ F) (hC : 8 ≤ C) (ho : o ≤ 16) :
    ((o = 0 ∨ 0 < dm_lim F C o) ∧ ∀ post : Int32 → Prop, post 0 → wpX_ignoresOperand post (nI o)) ∨ (¬ o = 0 ∧ dm_lim F C o = 0 ∧ ∀ post : Int32 → Prop, post 1 → wpX_ignoresOperand post (nI o)) := by
  have hc : o = 0 ∨ o = 1 ∨ o = 2 ∨ o = 3 ∨ o = 4 ∨ o = 5 ∨ o = 6 ∨ o = 7 ∨ o = 8 ∨ o = 9 ∨ o = 10 ∨ o = 11 ∨ o = 12 ∨ o = 13 ∨ o = 14 ∨ o = 15 ∨ o = 16 := by omega
  rcases hc with rfl | rfl | rfl | rfl | rfl | rfl | rfl | rfl | rfl | rfl | rfl | rfl | rfl | rfl | rfl | rfl | rfl
  · refine Or.inl ⟨Or.inl rfl, fun post p => ?_⟩
    unfold wpX_ignoresOperand
    repeat (first | refine br_f (by decide) ?_ | refine br_t (by decide) ?_)
    exact p
  · refine Or.inl ⟨Or.inr (by rw [show dm_lim F C 1 = 4 from by simp [dm_lim]]; omega), fun post p => ?_⟩
    unfold wpX_ignoresOperand
    repeat (first | refine br_f (by decide) ?_ | refine br_t (by decide) ?_)
    exact p
  · refine Or.inl ⟨Or.inr (by rw [show dm_lim F C 2 = 4 from by simp [dm_lim]]; omega), fun post p => ?_⟩
    unfold wpX_ignoresOperand
    repeat (first | refine br_f (by decide) ?_ | refine br_t (by decide) ?_)
    exact p
  · refine Or.inl ⟨Or.inr (by rw [show dm_lim F C 3 = 8 from by simp [dm_lim]]; omega), fun post p => ?_⟩
    unfold wpX_ignoresOperand
    repeat (first | refine br_f (by decide) ?_ | refine br_t (by decide) ?_)
    exact p
  · refine Or.inl ⟨Or.inr (by rw [show dm_lim F C 4 = 8 from by simp [dm_lim]]; omega), fun post p => ?_⟩
    unfold wpX_ignoresOperand
    repeat (first | refine br_f (by decide) ?_ | refine br_t (by decide) ?_)
    exact p
  · refine Or.inr ⟨by decide, by simp [dm_lim], fun post p => ?_⟩
    unfold wpX_ignoresOperand
    repeat (first | refine br_f (by decide) ?_ | refine br_t (by decide) ?_)
    exact p
  · refine Or.inr ⟨by decide, by simp [dm_lim], fun post p => ?_⟩
    unfold wpX_ignoresOperand
    repeat (first | refine br_f (by decide) ?_ | refine br_t (by decide) ?_)
    exact p
  · refine Or.inr ⟨by decide, by simp [dm_lim], fun post p => ?_⟩
    unfold wpX_ignoresOperand
    repeat (first | refine br_f (by decide) ?_ | refine br_t (by decide) ?_)
    exact p
  · refine Or.inr ⟨by decide, by simp [dm_lim], fun post p => ?_⟩
    unfold wpX_ignoresOperand
    repeat (first | refine br_f (by decide) ?_ | refine br_t (by decide) ?_)
    exact p
  · refine Or.inr ⟨by decide, by simp [dm_lim], fun post p => ?_⟩
    unfold wpX_ignoresOperand
    repeat (first | refine br_f (by decide) ?_ | refine br_t (by decide) ?_)
    exact p
  · refine Or.inl ⟨Or.inr (by rw [show dm_lim F C 10 = C from by simp [dm_lim]]; omega), fun post p => ?_⟩
    unfold wpX_ignoresOperand
    repeat (first | refine br_f (by decide) ?_ | refine br_t (by decide) ?_)
    exact p
  · refine Or.inl ⟨Or.inr (by rw [show dm_lim F C 11 = C from by simp [dm_lim]]; omega), fun post p => ?_⟩
    unfold wpX_ignoresOperand
    repeat (first | refine br_f (by decide) ?_ | refine br_t (by decide) ?_)
    exact p
  · refine Or.inl ⟨Or.inr (by rw [show dm_lim F C 12 = F from by simp [dm_lim]]; omega), fun post p => ?_⟩
    unfold wpX_ignoresOperand
    repeat (first | refine br_f (by decide) ?_ | refine br_t (by decide) ?_)
    exact p
  · refine Or.inl ⟨Or.inr (by rw [show dm_lim F C 13 = F from by simp [dm_lim]]; omega), fun post p => ?_⟩
    unfold wpX_ignoresOperand
    repeat (first | refine br_f (by decide) ?_ | refine br_t (by decide) ?_)
    exact p
  · refine Or.inl ⟨Or.inr (by rw [show dm_lim F C 14 = F from by simp [dm_lim]]; omega), fun post p => ?_⟩
    unfold wpX_ignoresOperand
    repeat (first | refine br_f (by decide) ?_ | refine br_t (by decide) ?_)
    exact p
  · refine Or.inr ⟨by decide, by simp [dm_lim], fun post p => ?_⟩
    unfold wpX_ignoresOperand
    repeat (first | refine br_f (by decide) ?_ | refine br_t (by decide) ?_)
    exact p
  · refine Or.inr ⟨by decide, by simp [dm_lim], fun post p => ?_⟩
    unfold wpX_ignoresOperand
    repeat (first | refine br_f (by decide) ?_ | refine br_t (by decide) ?_)
    exact p
theorem dm_ylim {o : Nat} {post : Int32 → Prop} (ho : o ≤ 16) (p : post (nI (dm_lim F C o))) : wpY_operandLimit post (dm_Y F C D fl oc rs st fc O xs L sl gl am ou FF FP PC lo pe) (nI o) := by
  have hc : o = 0 ∨ o = 1 ∨ o = 2 ∨ o = 3 ∨ o = 4 ∨ o = 5 ∨ o = 6 ∨ o = 7 ∨ o = 8 ∨ o = 9 ∨ o = 10 ∨ o = 11 ∨ o = 12 ∨ o = 13 ∨ o = 14 ∨ o = 15 ∨ o = 16 := by omega
  rcases hc with rfl | rfl | rfl | rfl | rfl | rfl | rfl | rfl | rfl | rfl | rfl | rfl | rfl | rfl | rfl | rfl | rfl
  · rw [show dm_lim F C 0 = 0 from by simp [dm_lim]] at p
    repeat (first | refine br_f (by decide) ?_ | refine br_t (by decide) ?_)
    exact p
  · rw [show dm_lim F C 1 = 4 from by simp [dm_lim]] at p
    repeat (first | refine br_f (by decide) ?_ | refine br_t (by decide) ?_)
    exact p
  · rw [show dm_lim F C 2 = 4 from by simp [dm_lim]] at p
    repeat (first | refine br_f (by decide) ?_ | refine br_t (by decide) ?_)
    exact p
  · rw [show dm_lim F C 3 = 8 from by simp [dm_lim]] at p
    repeat (first | refine br_f (by decide) ?_ | refine br_t (by decide) ?_)
    exact p
  · rw [show dm_lim F C 4 = 8 from by simp [dm_lim]] at p
    repeat (first | refine br_f (by decide) ?_ | refine br_t (by decide) ?_)
    exact p
  · rw [show dm_lim F C 5 = 0 from by simp [dm_lim]] at p
    repeat (first | refine br_f (by decide) ?_ | refine br_t (by decide) ?_)
    exact p
  · rw [show dm_lim F C 6 = 0 from by simp [dm_lim]] at p
    repeat (first | refine br_f (by decide) ?_ | refine br_t (by decide) ?_)
    exact p
  · rw [show dm_lim F C 7 = 0 from by simp [dm_lim]] at p
    repeat (first | refine br_f (by decide) ?_ | refine br_t (by decide) ?_)
    exact p
  · rw [show dm_lim F C 8 = 0 from by simp [dm_lim]] at p
    repeat (first | refine br_f (by decide) ?_ | refine br_t (by decide) ?_)
    exact p
  · rw [show dm_lim F C 9 = 0 from by simp [dm_lim]] at p
    repeat (first | refine br_f (by decide) ?_ | refine br_t (by decide) ?_)
    exact p
  · rw [show dm_lim F C 10 = C from by simp [dm_lim]] at p
    repeat (first | refine br_f (by decide) ?_ | refine br_t (by decide) ?_)
    exact p
  · rw [show dm_lim F C 11 = C from by simp [dm_lim]] at p
    repeat (first | refine br_f (by decide) ?_ | refine br_t (by decide) ?_)
    exact p
  · rw [show dm_lim F C 12 = F from by simp [dm_lim]] at p
    repeat (first | refine br_f (by decide) ?_ | refine br_t (by decide) ?_)
    exact p
  · rw [show dm_lim F C 13 = F from by simp [dm_lim]] at p
    repeat (first | refine br_f (by decide) ?_ | refine br_t (by decide) ?_)
    exact p
  · rw [show dm_lim F C 14 = F from by simp [dm_lim]] at p
    repeat (first | refine br_f (by decide) ?_ | refine br_t (by decide) ?_)
    exact p
  · rw [show dm_lim F C 15 = 0 from by simp [dm_lim]] at p
    repeat (first | refine br_f (by decide) ?_ | refine br_t (by decide) ?_)
    exact p
  · rw [show dm_lim F C 16 = 0 from by simp [dm_lim]] at p
    repeat (first | refine br_f (by decide) ?_ | refine br_t (by decide) ?_)
    exact p
theorem dm_xfit1 {o : Nat} {x : Int32} {post : Int32 → Prop} (hF : 2 ≤ F) (hF8 : F ≤ 8) (hC : 8 ≤ C) (hC32 : C ≤ 32) (ho : o ≤ 16) (hk : dm_lim F C o = 0 ∨ ∃ m, m < dm_lim F C o ∧ x = nI m) (p : post 1) : wpX_operandFits post (dm_X F C D fl oc rs st fc O xs H L sl gl am ou FF FP PC lo pe) (nI o) x := by
  have hc : o = 0 ∨ o = 1 ∨ o = 2 ∨ o = 3 ∨ o = 4 ∨ o = 5 ∨ o = 6 ∨ o = 7 ∨ o = 8 ∨ o = 9 ∨ o = 10 ∨ o = 11 ∨ o = 12 ∨ o = 13 ∨ o = 14 ∨ o = 15 ∨ o = 16 := by omega
  rcases hc with rfl | rfl | rfl | rfl | rfl | rfl | rfl | rfl | rfl | rfl | rfl | rfl | rfl | rfl | rfl | rfl | rfl
  · repeat (first | refine br_f (by decide) ?_ | refine br_t (by decide) ?_)
    exact p
  · rw [show dm_lim F C 1 = 4 from by simp [dm_lim]] at hk
    rcases hk with hk | ⟨m, hm, rfl⟩
    · omega
    · repeat (first | refine br_f (by decide) ?_ | refine br_t (by decide) ?_)
      refine br_f (nI_pos (by omega)) ?_
      repeat (first | refine br_f (by decide) ?_ | refine br_t (by decide) ?_)
      exact br_f (nI_ge (b := 4) hm (by omega)) p
  · rw [show dm_lim F C 2 = 4 from by simp [dm_lim]] at hk
    rcases hk with hk | ⟨m, hm, rfl⟩
    · omega
    · repeat (first | refine br_f (by decide) ?_ | refine br_t (by decide) ?_)
      refine br_f (nI_pos (by omega)) ?_
      repeat (first | refine br_f (by decide) ?_ | refine br_t (by decide) ?_)
      exact br_f (nI_ge (b := 4) hm (by omega)) p
  · rw [show dm_lim F C 3 = 8 from by simp [dm_lim]] at hk
    rcases hk with hk | ⟨m, hm, rfl⟩
    · omega
    · repeat (first | refine br_f (by decide) ?_ | refine br_t (by decide) ?_)
      refine br_f (nI_pos (by omega)) ?_
      repeat (first | refine br_f (by decide) ?_ | refine br_t (by decide) ?_)
      exact br_f (nI_ge (b := 8) hm (by omega)) p
  · rw [show dm_lim F C 4 = 8 from by simp [dm_lim]] at hk
    rcases hk with hk | ⟨m, hm, rfl⟩
    · omega
    · repeat (first | refine br_f (by decide) ?_ | refine br_t (by decide) ?_)
      refine br_f (nI_pos (by omega)) ?_
      repeat (first | refine br_f (by decide) ?_ | refine br_t (by decide) ?_)
      exact br_f (nI_ge (b := 8) hm (by omega)) p
  · repeat (first | refine br_f (by decide) ?_ | refine br_t (by decide) ?_)
    exact p
  · repeat (first | refine br_f (by decide) ?_ | refine br_t (by decide) ?_)
    exact p
  · repeat (first | refine br_f (by decide) ?_ | refine br_t (by decide) ?_)
    exact p
  · repeat (first | refine br_f (by decide) ?_ | refine br_t (by decide) ?_)
    exact p
  · repeat (first | refine br_f (by decide) ?_ | refine br_t (by decide) ?_)
    exact p
  · rw [show dm_lim F C 10 = C from by simp [dm_lim]] at hk
    rcases hk with hk | ⟨m, hm, rfl⟩
    · omega
    · repeat (first | refine br_f (by decide) ?_ | refine br_t (by decide) ?_)
      refine br_f (nI_pos (by omega)) ?_
      repeat (first | refine br_f (by decide) ?_ | refine br_t (by decide) ?_)
      exact br_f (nI_ge (b := C) hm (by omega)) p
  · rw [show dm_lim F C 11 = C from by simp [dm_lim]] at hk
    rcases hk with hk | ⟨m, hm, rfl⟩
    · omega
    · repeat (first | refine br_f (by decide) ?_ | refine br_t (by decide) ?_)
      refine br_f (nI_pos (by omega)) ?_
      repeat (first | refine br_f (by decide) ?_ | refine br_t (by decide) ?_)
      exact br_f (nI_ge (b := C) hm (by omega)) p
  · rw [show dm_lim F C 12 = F from by simp [dm_lim]] at hk
    rcases hk with hk | ⟨m, hm, rfl⟩
    · omega
    · repeat (first | refine br_f (by decide) ?_ | refine br_t (by decide) ?_)
      refine br_f (nI_pos (by omega)) ?_
      repeat (first | refine br_f (by decide) ?_ | refine br_t (by decide) ?_)
      exact br_f (nI_ge (b := F) hm (by omega)) p
  · rw [show dm_lim F C 13 = F from by simp [dm_lim]] at hk
    rcases hk with hk | ⟨m, hm, rfl⟩
    · omega
    · repeat (first | refine br_f (by decide) ?_ | refine br_t (by decide) ?_)
      refine br_f (nI_pos (by omega)) ?_
      repeat (first | refine br_f (by decide) ?_ | refine br_t (by decide) ?_)
      exact br_f (nI_ge (b := F) hm (by omega)) p
  · rw [show dm_lim F C 14 = F from by simp [dm_lim]] at hk
    rcases hk with hk | ⟨m, hm, rfl⟩
    · omega
    · repeat (first | refine br_f (by decide) ?_ | refine br_t (by decide) ?_)
      refine br_f (nI_pos (by omega)) ?_
      repeat (first | refine br_f (by decide) ?_ | refine br_t (by decide) ?_)
      exact br_f (nI_ge (b := F) hm (by omega)) p
  · repeat (first | refine br_f (by decide) ?_ | refine br_t (by decide) ?_)
    exact p
  · repeat (first | refine br_f (by decide) ?_ | refine br_t (by decide) ?_)
    exact p
theorem dm_xfit0 {o : Nat} {x : Int32} {post : Int32 → Prop} (ho : o ≤ 16) (h0 : 0 < dm_lim F C o) (hk : x < 0 ∨ (¬ x < 0 ∧ nI (dm_lim F C o) ≤ x)) (p : post 0) : wpX_operandFits post (dm_X F C D fl oc rs st fc O xs H L sl gl am ou FF FP PC lo pe) (nI o) x := by
  have hc : o = 0 ∨ o = 1 ∨ o = 2 ∨ o = 3 ∨ o = 4 ∨ o = 5 ∨ o = 6 ∨ o = 7 ∨ o = 8 ∨ o = 9 ∨ o = 10 ∨ o = 11 ∨ o = 12 ∨ o = 13 ∨ o = 14 ∨ o = 15 ∨ o = 16 := by omega
  rcases hc with rfl | rfl | rfl | rfl | rfl | rfl | rfl | rfl | rfl | rfl | rfl | rfl | rfl | rfl | rfl | rfl | rfl
  · rw [show dm_lim F C 0 = 0 from by simp [dm_lim]] at h0
    omega
  · rw [show dm_lim F C 1 = 4 from by simp [dm_lim]] at hk
    repeat (first | refine br_f (by decide) ?_ | refine br_t (by decide) ?_)
    rcases hk with hk | ⟨hk, hk2⟩
    · exact br_t hk p
    · refine br_f hk ?_
      repeat (first | refine br_f (by decide) ?_ | refine br_t (by decide) ?_)
      exact br_t hk2 p
  · rw [show dm_lim F C 2 = 4 from by simp [dm_lim]] at hk
    repeat (first | refine br_f (by decide) ?_ | refine br_t (by decide) ?_)
    rcases hk with hk | ⟨hk, hk2⟩
    · exact br_t hk p
    · refine br_f hk ?_
      repeat (first | refine br_f (by decide) ?_ | refine br_t (by decide) ?_)
      exact br_t hk2 p
  · rw [show dm_lim F C 3 = 8 from by simp [dm_lim]] at hk
    repeat (first | refine br_f (by decide) ?_ | refine br_t (by decide) ?_)
    rcases hk with hk | ⟨hk, hk2⟩
    · exact br_t hk p
    · refine br_f hk ?_
      repeat (first | refine br_f (by decide) ?_ | refine br_t (by decide) ?_)
      exact br_t hk2 p
  · rw [show dm_lim F C 4 = 8 from by simp [dm_lim]] at hk
    repeat (first | refine br_f (by decide) ?_ | refine br_t (by decide) ?_)
    rcases hk with hk | ⟨hk, hk2⟩
    · exact br_t hk p
    · refine br_f hk ?_
      repeat (first | refine br_f (by decide) ?_ | refine br_t (by decide) ?_)
      exact br_t hk2 p
  · rw [show dm_lim F C 5 = 0 from by simp [dm_lim]] at h0
    omega
  · rw [show dm_lim F C 6 = 0 from by simp [dm_lim]] at h0
    omega
  · rw [show dm_lim F C 7 = 0 from by simp [dm_lim]] at h0
    omega
  · rw [show dm_lim F C 8 = 0 from by simp [dm_lim]] at h0
    omega
  · rw [show dm_lim F C 9 = 0 from by simp [dm_lim]] at h0
    omega
  · rw [show dm_lim F C 10 = C from by simp [dm_lim]] at hk
    repeat (first | refine br_f (by decide) ?_ | refine br_t (by decide) ?_)
    rcases hk with hk | ⟨hk, hk2⟩
    · exact br_t hk p
    · refine br_f hk ?_
      repeat (first | refine br_f (by decide) ?_ | refine br_t (by decide) ?_)
      exact br_t hk2 p
  · rw [show dm_lim F C 11 = C from by simp [dm_lim]] at hk
    repeat (first | refine br_f (by decide) ?_ | refine br_t (by decide) ?_)
    rcases hk with hk | ⟨hk, hk2⟩
    · exact br_t hk p
    · refine br_f hk ?_
      repeat (first | refine br_f (by decide) ?_ | refine br_t (by decide) ?_)
      exact br_t hk2 p
  · rw [show dm_lim F C 12 = F from by simp [dm_lim]] at hk
    repeat (first | refine br_f (by decide) ?_ | refine br_t (by decide) ?_)
    rcases hk with hk | ⟨hk, hk2⟩
    · exact br_t hk p
    · refine br_f hk ?_
      repeat (first | refine br_f (by decide) ?_ | refine br_t (by decide) ?_)
      exact br_t hk2 p
  · rw [show dm_lim F C 13 = F from by simp [dm_lim]] at hk
    repeat (first | refine br_f (by decide) ?_ | refine br_t (by decide) ?_)
    rcases hk with hk | ⟨hk, hk2⟩
    · exact br_t hk p
    · refine br_f hk ?_
      repeat (first | refine br_f (by decide) ?_ | refine br_t (by decide) ?_)
      exact br_t hk2 p
  · rw [show dm_lim F C 14 = F from by simp [dm_lim]] at hk
    repeat (first | refine br_f (by decide) ?_ | refine br_t (by decide) ?_)
    rcases hk with hk | ⟨hk, hk2⟩
    · exact br_t hk p
    · refine br_f hk ?_
      repeat (first | refine br_f (by decide) ?_ | refine br_t (by decide) ?_)
      exact br_t hk2 p
  · rw [show dm_lim F C 15 = 0 from by simp [dm_lim]] at h0
    omega
  · rw [show dm_lim F C 16 = 0 from by simp [dm_lim]] at h0
    omega
end
end DME
end
section
section DMF
/-! F: emit and seal -/
section
variable {F C D : Nat} {fl : Int32} {oc : Nat} {rs st : Int32} {fc : Nat} {O : Nat → Nat} {xs : Nat → Int32} {H L : Nat → Nat} {sl gl am ou : Nat → Int32} {FF FP PC : Nat → Nat} {lo pe : Nat → Int32}
theorem dm_oc {f i : Nat} (hf : f < 8) (hi : i < 32) : dm_nn O ((nI f * 32) + nI i).toNatClampNeg = nI (O (f * 32 + i)) := by
  rw [dm_cell, nI_clamp (by omega)]
  rfl
theorem dm_yh {post : Int32 → Prop} (K : dm_CK F C O xs H L) (hF : F ≤ 8) (hC : C ≤ 32) {f p : Nat} (hf : f < F) (hp : p ≤ L f) (hq : post (nI (dm_hb H f p))) :
    ∀ m i : Nat, i + m = p → wY_heightAt_5 post (nI f) (nI p) (nI F) (nI C) (nI D) fl (nI oc) rs st (nI fc) (dm_nn O) xs (dm_nn L) sl gl am ou (dm_nn FF) (dm_nn FP) (dm_nn PC) lo pe (m + 1) (nI (dm_hb H f i)) (nI i) := by
  have hL := (K f hf).1
  intro m
  induction m with
  | zero =>
    intro i hi
    obtain rfl : i = p := by omega
    exact br_t (nI_le (Nat.le_refl _) (by omega)) hq
  | succ m ih =>
    intro i hi
    obtain ⟨o16, _, h6, hn, e⟩ := (K f hf).2 i (by omega)
    refine br_f (nI_ge (by omega) (by omega)) (br_f (nI_ge (b := 32) (by omega) (by decide)) ⟨dm_cellIn (by omega) (by omega), ?_⟩)
    rw [dm_oc (O := O) (f := f) (i := i) (by omega) (by omega)]
    refine dm_yaf o16 hn ?_
    refine nm_r (nI_1 i) ?_
    have := ih (i + 1) (by omega)
    rw [dm_hbs, e] at this
    exact this
theorem dm_yhat {post : Int32 → Prop} (K : dm_CK F C O xs H L) (hF : F ≤ 8) (hC : C ≤ 32) {f p : Nat} (hf : f < F) (hp : p ≤ L f) (hq : post (nI (dm_hb H f p))) : wpY_heightAt post (dm_Y F C D fl oc rs st fc O xs L sl gl am ou FF FP PC lo pe) (nI f) (nI p) :=
  ⟨p + 1, dm_yh K hF hC hf hp hq p 0 (Nat.zero_add p)⟩
/-- the operands that fit -/
theorem dm_emit2 (I : dm_I F C D oc fc st O xs H L sl FF FP PC) {f o : Nat} (hf : f < F) (z : sl f = 0) (ho : o ≤ 16) (x : Int32) (hk : dm_lim F C o = 0 ∨ ∃ m, m < dm_lim F C o ∧ x = nI m) :
    dm_J (fun p => wpX_emit p (dm_X F C D fl oc rs st fc O xs H L sl gl am ou FF FP PC lo pe) (nI f) (nI o) x) (fun p => wpY_emit p (dm_Y F C D fl oc rs st fc O xs L sl gl am ou FF FP PC lo pe) (nI f) (nI o) x) := by
  obtain ⟨⟨a1, a2, a3, a4, a5, a6, a7, a8⟩, b1, K, S, T⟩ := id I
  have h0 : ¬ nI f < 0 := nI_pos (by omega)
  have h1 : ¬ nI F ≤ nI f := nI_ge hf (by omega)
  have hi : vp_in (nI f) 8 := vp_in_nI (by omega) (by decide)
  have z' : sl (nI f).toNatClampNeg = 0 := by
    rw [nI_clamp (by omega)]
    exact z
  have o0 : ¬ nI o < 0 := nI_pos (by omega)
  have o1 : ¬ (16 : Int32) < nI o := nI_nlt (a := 16) ho (by decide)
  have o2 : nI o ≤ 16 := nI_le (b := 16) ho (by decide)
  have hL : L f ≤ C := (K f hf).1
  have eL : dm_nn L (nI f).toNatClampNeg = nI (L f) := by
    rw [nI_clamp (by omega)]
    rfl
  have l32 : dm_lim F C o < 2 ^ 31 := by
    unfold dm_lim
    split
    · decide
    · split
      · decide
      · split
        · omega
        · split
          · omega
          · decide
  have ygo : ∀ post : Int32 → SY → Prop, wY_emit_57 post (nI f) (nI o) x (nI (dm_lim F C o)) (nI F) (nI C) (nI D) fl (nI oc) rs st (nI fc) (dm_nn O) xs (dm_nn L) sl gl am ou (dm_nn FF) (dm_nn FP) (dm_nn PC) lo pe → wpY_emit post (dm_Y F C D fl oc rs st fc O xs L sl gl am ou FF FP PC lo pe) (nI f) (nI o) x := by
    intro post p
    refine br_f h0 (br_f h1 ⟨hi, br_t z' (br_f o0 (br_t o2 ?_))⟩)
    refine dm_ylim ho ?_
    rcases hk with hk | ⟨m, hm, rfl⟩
    · refine br_t ?_ p
      rw [hk]
      exact nI_le (a := 0) (Nat.le_refl _) (by decide)
    · exact br_f (nI_nle (by omega) l32) (br_f (nI_pos (by omega)) (br_t (nI_lt hm l32) p))
  by_cases hl : L f < C
  · have hl' : nI (L f) < nI C := nI_lt hl (by omega)
    have h6 : dm_hb H f (L f) ≤ 6 := dm_hb6 K hf (Nat.le_refl _)
    rcases dm_hf (F := F) (C := C) (D := D) (fl := fl) (oc := oc) (rs := rs) (st := st) (fc := fc) (O := O) (xs := xs) (L := L) (sl := sl) (gl := gl) (am := am) (ou := ou) (FF := FF) (FP := FP) (PC := PC) (lo := lo) (pe := pe) (o := o) (h := dm_hb H f (L f)) ho h6 with ⟨hn, xf, yf⟩ | ⟨hn, xf, yf⟩
    · obtain ⟨r, er, xr⟩ := dm_xhc ho hn
      have hcell : vp_in ((nI f * 32) + nI (L f)) 256 := dm_cellIn (by omega) (by omega)
      have hcel2 : vp_in (nI (f * 32 + L f)) 256 := vp_in_nI (by omega) (by decide)
      have eO : upd (dm_nn O) (nI (f * 32 + L f)).toNatClampNeg (nI o) = dm_nn (dm_un O (f * 32 + L f) o) := by
        rw [nI_clamp (by omega), dm_upd]
      have eO' : upd (dm_nn O) ((nI f * 32) + nI (L f)).toNatClampNeg (nI o) = dm_nn (dm_un O (f * 32 + L f) o) := by
        rw [dm_cell]
        exact eO
      have eX : ∀ y, upd xs (nI (f * 32 + L f)).toNatClampNeg y = upd xs (f * 32 + L f) y := fun y => by
        rw [nI_clamp (by omega)]
      have eX' : ∀ y, upd xs ((nI f * 32) + nI (L f)).toNatClampNeg y = upd xs (f * 32 + L f) y := fun y => by
        rw [dm_cell]
        exact eX y
      have eH : upd (dm_nn H) (nI (f * 32 + L f)).toNatClampNeg (nI (dm_hb H f (L f)) + r) = dm_nn (dm_un H (f * 32 + L f) (dm_af o (dm_hb H f (L f)))) := by
        rw [nI_clamp (by omega), er, dm_upd]
      have eN : upd (dm_nn L) (nI f).toNatClampNeg (nI (L f) + 1) = dm_nn (dm_un L f (L f + 1)) := by
        rw [nI_1]
        exact dm_u0 (t := f) (by omega) _
      have eN' : upd (dm_nn L) (nI f).toNatClampNeg (dm_nn L (nI f).toNatClampNeg + 1) = dm_nn (dm_un L f (L f + 1)) := dm_uP (t := f) (by omega) rfl
      have fin : ∀ y, dm_oo F C o y → dm_I F C D oc fc st (dm_un O (f * 32 + L f) o) (upd xs (f * 32 + L f) y) (dm_un H (f * 32 + L f) (dm_af o (dm_hb H f (L f)))) (dm_un L f (L f + 1)) sl FF FP PC := fun y hy =>
        ⟨⟨a1, a2, a3, a4, a5, a6, a7, a8⟩, b1, dm_CKe K a4 hl ho hy hn, dm_SKe K S a4 hl z, dm_FKe K T a4 hl z⟩
      rcases dm_ig a1 a3 ho with ⟨q, xi⟩ | ⟨q0, q1, xi⟩
      · refine ⟨1, _, _, dm_R (fl := fl) (rs := rs) (gl := gl) (am := am) (ou := ou) (lo := lo) (pe := pe) (fin x ?_), fun post p => ?_, fun post p => ?_⟩
        · intro h
          rcases hk with hk | hk
          · omega
          · exact hk
        · unfold wpX_emit
          refine dm_xF2 a2 hf (br_f dm_10 ⟨hi, br_t z' (br_f o0 (br_f o1 ?_))⟩)
          refine dm_xfit1 a1 a2 a3 a4 ho hk ?_
          refine br_f dm_10 ⟨hi, nm_r eL ?_⟩
          refine br_t hl' ?_
          refine dm_xhb (by omega) (by omega) ?_
          refine xf _ (br_f dm_10 (nm_r dm_cell ⟨hcel2, nm_r eO ?_⟩))
          refine xi _ (br_t rfl ⟨hcel2, nm_r (eX x) ?_⟩)
          exact xr _ ⟨hcel2, nm_r eH ⟨hi, nm_r eN p⟩⟩
        · refine ygo post ⟨hi, br_t (by rw [eL]; exact hl') ⟨hi, ?_⟩⟩
          rw [eL]
          refine dm_yhat K a2 a4 hf (Nat.le_refl _) ?_
          refine yf _ (br_f dm_10 ⟨hi, hcell, nm_r eO' ⟨hi, ?_⟩⟩)
          by_cases q0 : o = 0
          · exact br_t (by rw [q0]; rfl) ⟨hcell, nm_r (eX' x) ⟨hi, hi, nm_r eN' p⟩⟩
          · exact br_f (nI_ne0 (by omega) (by omega)) (br_f (nI_nle (by omega) l32) ⟨hcell, nm_r (eX' x) ⟨hi, hi, nm_r eN' p⟩⟩)
      · refine ⟨1, _, _, dm_R (fl := fl) (rs := rs) (gl := gl) (am := am) (ou := ou) (lo := lo) (pe := pe) (fin 0 (fun h => absurd q1 (by omega))), fun post p => ?_, fun post p => ?_⟩
        · unfold wpX_emit
          refine dm_xF2 a2 hf (br_f dm_10 ⟨hi, br_t z' (br_f o0 (br_f o1 ?_))⟩)
          refine dm_xfit1 a1 a2 a3 a4 ho hk ?_
          refine br_f dm_10 ⟨hi, nm_r eL ?_⟩
          refine br_t hl' ?_
          refine dm_xhb (by omega) (by omega) ?_
          refine xf _ (br_f dm_10 (nm_r dm_cell ⟨hcel2, nm_r eO ?_⟩))
          refine xi _ (br_f dm_10 ⟨hcel2, nm_r (eX 0) ?_⟩)
          exact xr _ ⟨hcel2, nm_r eH ⟨hi, nm_r eN p⟩⟩
        · refine ygo post ⟨hi, br_t (by rw [eL]; exact hl') ⟨hi, ?_⟩⟩
          rw [eL]
          refine dm_yhat K a2 a4 hf (Nat.le_refl _) ?_
          refine yf _ (br_f dm_10 ⟨hi, hcell, nm_r eO' ⟨hi, ?_⟩⟩)
          refine br_f (nI_ne0 (by omega) (by omega)) (br_t ?_ ⟨hcell, nm_r (eX' 0) ⟨hi, hi, nm_r eN' p⟩⟩)
          rw [q1]
          exact nI_le (a := 0) (Nat.le_refl _) (by decide)
    · refine dm_same (fl := fl) (rs := rs) (gl := gl) (am := am) (ou := ou) (lo := lo) (pe := pe) I 3 (fun post p => ?_) (fun post p => ?_)
      · unfold wpX_emit
        refine dm_xF2 a2 hf (br_f dm_10 ⟨hi, br_t z' (br_f o0 (br_f o1 ?_))⟩)
        refine dm_xfit1 a1 a2 a3 a4 ho hk ?_
        refine br_f dm_10 ⟨hi, nm_r eL ?_⟩
        refine br_t hl' ?_
        refine dm_xhb (by omega) (by omega) ?_
        exact xf _ (br_t rfl p)
      · refine ygo post ⟨hi, br_t (by rw [eL]; exact hl') ⟨hi, ?_⟩⟩
        rw [eL]
        refine dm_yhat K a2 a4 hf (Nat.le_refl _) ?_
        exact yf _ (br_t rfl p)
  · have hl' : ¬ nI (L f) < nI C := nI_nlt (by omega) (by omega)
    refine dm_same (fl := fl) (rs := rs) (gl := gl) (am := am) (ou := ou) (lo := lo) (pe := pe) I 2 (fun post p => ?_) (fun post p => ?_)
    · unfold wpX_emit
      refine dm_xF2 a2 hf (br_f dm_10 ⟨hi, br_t z' (br_f o0 (br_f o1 ?_))⟩)
      refine dm_xfit1 a1 a2 a3 a4 ho hk ?_
      refine br_f dm_10 ⟨hi, nm_r eL ?_⟩
      exact br_f hl' p
    · exact ygo post ⟨hi, br_f (by rw [eL]; exact hl') p⟩
theorem dm_emit (I : dm_I F C D oc fc st O xs H L sl FF FP PC) (v w x : Int32) : dm_J (fun p => wpX_emit p (dm_X F C D fl oc rs st fc O xs H L sl gl am ou FF FP PC lo pe) v w x) (fun p => wpY_emit p (dm_Y F C D fl oc rs st fc O xs L sl gl am ou FF FP PC lo pe) v w x) := by
  have hF : F ≤ 8 := I.1.2.1
  rcases dm_fn v (n := F) (by omega) with h | ⟨h, h2⟩ | ⟨f, hf, rfl⟩
  · exact dm_same I 0 (fun _ p => by unfold wpX_emit; exact dm_xF0 h (br_t rfl p)) (fun _ p => br_t h p)
  · exact dm_same I 0 (fun _ p => by unfold wpX_emit; exact dm_xF1 h h2 (br_t rfl p)) (fun _ p => br_f h (br_t h2 p))
  · have h0 : ¬ nI f < 0 := nI_pos (by omega)
    have h1 : ¬ nI F ≤ nI f := nI_ge hf (by omega)
    have hi : vp_in (nI f) 8 := vp_in_nI (by omega) (by decide)
    by_cases z : sl (nI f).toNatClampNeg = 0
    · rcases dm_fn w (n := 17) (by decide) with g | ⟨g, g2⟩ | ⟨o, ho, rfl⟩
      · exact dm_same I 0 (fun _ p => by unfold wpX_emit; exact dm_xF2 hF hf (br_f dm_10 ⟨hi, br_t z (br_t g p)⟩)) (fun _ p => br_f h0 (br_f h1 ⟨hi, br_t z (br_t g p)⟩))
      · have g3 : (16 : Int32) < w := Int32.lt_of_lt_of_le (by decide : (16 : Int32) < nI 17) g2
        exact dm_same I 0 (fun _ p => by unfold wpX_emit; exact dm_xF2 hF hf (br_f dm_10 ⟨hi, br_t z (br_f g (br_t g3 p))⟩)) (fun _ p => br_f h0 (br_f h1 ⟨hi, br_t z (br_f g (br_f (Int32.not_le.mpr g3) p))⟩))
      · have z0 : sl f = 0 := by
          rw [nI_clamp (by omega)] at z
          exact z
        by_cases hl : dm_lim F C o = 0
        · exact dm_emit2 I hf z0 (by omega) x (Or.inl hl)
        · have l32 : dm_lim F C o < 2 ^ 31 := by
            have c32 := I.1.2.2.2.1
            unfold dm_lim
            split
            · decide
            · split
              · decide
              · split
                · omega
                · split
                  · omega
                  · decide
          have o0 : ¬ nI o < 0 := nI_pos (by omega)
          have o1 : ¬ (16 : Int32) < nI o := nI_nlt (a := 16) (by omega) (by decide)
          have o2 : nI o ≤ 16 := nI_le (b := 16) (by omega) (by decide)
          rcases dm_fn x (n := dm_lim F C o) l32 with g | ⟨g, g2⟩ | g
          · refine dm_same (fl := fl) (rs := rs) (gl := gl) (am := am) (ou := ou) (lo := lo) (pe := pe) I 0 (fun _ p => ?_) (fun _ p => ?_)
            · unfold wpX_emit
              refine dm_xF2 hF hf (br_f dm_10 ⟨hi, br_t z (br_f o0 (br_f o1 ?_))⟩)
              exact dm_xfit0 (by omega) (by omega) (Or.inl g) (br_t rfl p)
            · refine br_f h0 (br_f h1 ⟨hi, br_t z (br_f o0 (br_t o2 ?_))⟩)
              refine dm_ylim (by omega) ?_
              exact br_f (nI_nle (by omega) l32) (br_t g p)
          · refine dm_same (fl := fl) (rs := rs) (gl := gl) (am := am) (ou := ou) (lo := lo) (pe := pe) I 0 (fun _ p => ?_) (fun _ p => ?_)
            · unfold wpX_emit
              refine dm_xF2 hF hf (br_f dm_10 ⟨hi, br_t z (br_f o0 (br_f o1 ?_))⟩)
              exact dm_xfit0 (by omega) (by omega) (Or.inr ⟨g, g2⟩) (br_t rfl p)
            · refine br_f h0 (br_f h1 ⟨hi, br_t z (br_f o0 (br_t o2 ?_))⟩)
              refine dm_ylim (by omega) ?_
              exact br_f (nI_nle (by omega) l32) (br_f g (br_f (Int32.not_lt.mpr g2) p))
          · exact dm_emit2 I hf z0 (by omega) x (Or.inr g)
    · exact dm_same I 0 (fun _ p => by unfold wpX_emit; exact dm_xF2 hF hf (br_f dm_10 ⟨hi, br_f z p⟩)) (fun _ p => br_f h0 (br_f h1 ⟨hi, br_f z p⟩))
end
end DMF
end
section
section DMG
/-! G: seal -/
section
variable {F C D : Nat} {fl : Int32} {oc : Nat} {rs st : Int32} {fc : Nat} {O : Nat → Nat} {xs : Nat → Int32} {H L : Nat → Nat} {sl gl am ou : Nat → Int32} {FF FP PC : Nat → Nat} {lo pe : Nat → Int32}
theorem dm_ne {o k : Nat} (ho : o ≤ 16) (hk : k ≤ 16) (h : o ≠ k) : ¬ nI o = nI k := fun e => h ((nI_eq (by omega) (by omega)).mp e)
theorem dm_xj1 {post : Int32 → Prop} {a : Int32} {o : Nat} (e : a = nI o) (h : o = 10 ∨ o = 11) (p : post 1) : wpX_isJump post a := by
  subst e
  rcases h with rfl | rfl
  · exact br_t rfl p
  · exact br_f (by decide) (br_t rfl p)
theorem dm_xj0 {post : Int32 → Prop} {a : Int32} {o : Nat} (e : a = nI o) (ho : o ≤ 16) (h : ¬ (o = 10 ∨ o = 11)) (p : post 0) : wpX_isJump post a := by
  subst e
  exact br_f (dm_ne (k := 10) ho (by decide) (fun z => h (Or.inl z))) (br_f (dm_ne (k := 11) ho (by decide) (fun z => h (Or.inr z))) p)
theorem dm_xt1 {post : Int32 → Prop} {a : Int32} {f m : Nat} (hf : f < 8) (hL : L f ≤ 32) (e : a = nI m) (hm : m < L f) (hb : dm_hb H f m = 0) (p : post 1) : wpX_isTarget post (dm_X F C D fl oc rs st fc O xs H L sl gl am ou FF FP PC lo pe) (nI f) a := by
  subst e
  have eL : dm_nn L (nI f).toNatClampNeg = nI (L f) := by
    rw [nI_clamp (by omega)]
    rfl
  refine ⟨vp_in_nI hf (by decide), br_f (by rw [eL]; exact nI_ge hm (by omega)) ?_⟩
  refine dm_xhb hf (by omega) ?_
  rw [hb]
  exact br_t rfl p
theorem dm_xt0 {post : Int32 → Prop} {a : Int32} {f m : Nat} (hf : f < 8) (hL : L f ≤ 32) (e : a = nI m) (m32 : m < 32) (h6 : m < L f → dm_hb H f m ≤ 6) (hm : m < L f → ¬ dm_hb H f m = 0) (p : post 0) : wpX_isTarget post (dm_X F C D fl oc rs st fc O xs H L sl gl am ou FF FP PC lo pe) (nI f) a := by
  subst e
  have eL : dm_nn L (nI f).toNatClampNeg = nI (L f) := by
    rw [nI_clamp (by omega)]
    rfl
  by_cases q : m < L f
  · refine ⟨vp_in_nI hf (by decide), br_f (by rw [eL]; exact nI_ge q (by omega)) ?_⟩
    refine dm_xhb hf (by omega) ?_
    have := h6 q
    have := hm q
    exact br_f (nI_ne0 (by omega) (by omega)) p
  · exact ⟨vp_in_nI hf (by decide), br_t (by rw [eL]; exact nI_le (by omega) (by omega)) p⟩
theorem dm_sloop (K : dm_CK F C O xs H L) (hF : F ≤ 8) (hC : C ≤ 32) (hC0 : 0 < C) {f : Nat} (hf : f < F) : ∀ m i : Nat, i + m = L f →
    (∀ j, j < i → (O (f * 32 + j) = 10 ∨ O (f * 32 + j) = 11) → ∃ t, t < L f ∧ xs (f * 32 + j) = nI t ∧ dm_hb H f t = 0) →
    ((∀ j, j < L f → (O (f * 32 + j) = 10 ∨ O (f * 32 + j) = 11) → ∃ t, t < L f ∧ xs (f * 32 + j) = nI t ∧ dm_hb H f t = 0) ∧
      (∀ post : Int32 → Prop, post 1 → wX_jumpsAreSound_2 post (nI f) (nI F) (nI C) (nI D) fl (nI oc) rs st (nI fc) (dm_nn O) xs (dm_nn H) (dm_nn L) sl gl am ou (dm_nn FF) (dm_nn FP) (dm_nn PC) lo pe (m + 1) (nI i)) ∧
      (∀ post : Int32 → SY → Prop, post 1 (dm_Y F C D fl oc rs st fc O xs L (upd sl f 1) gl am ou FF FP PC lo pe) → wY_seal_69 post (nI f) (nI F) (nI C) (nI D) fl (nI oc) rs st (nI fc) (dm_nn O) xs (dm_nn L) sl gl am ou (dm_nn FF) (dm_nn FP) (dm_nn PC) lo pe (m + 1) (nI i)))
    ∨ ((∀ post : Int32 → Prop, post 0 → wX_jumpsAreSound_2 post (nI f) (nI F) (nI C) (nI D) fl (nI oc) rs st (nI fc) (dm_nn O) xs (dm_nn H) (dm_nn L) sl gl am ou (dm_nn FF) (dm_nn FP) (dm_nn PC) lo pe (m + 1) (nI i)) ∧ (∀ post : Int32 → SY → Prop, post 4 (dm_Y F C D fl oc rs st fc O xs L sl gl am ou FF FP PC lo pe) → wY_seal_69 post (nI f) (nI F) (nI C) (nI D) fl (nI oc) rs st (nI fc) (dm_nn O) xs (dm_nn L) sl gl am ou (dm_nn FF) (dm_nn FP) (dm_nn PC) lo pe (m + 1) (nI i))) := by
  have hL : L f ≤ C := (K f hf).1
  have hi : vp_in (nI f) 8 := vp_in_nI (by omega) (by decide)
  have eL : dm_nn L (nI f).toNatClampNeg = nI (L f) := by
    rw [nI_clamp (by omega)]
    rfl
  have eS : upd sl (nI f).toNatClampNeg (vp_nar .boolean 1) = upd sl f 1 := by rw [nI_clamp (by omega), dm_vb1]
  intro m
  induction m with
  | zero =>
    intro i hm hj
    have h : dm_nn L (nI f).toNatClampNeg ≤ nI i := by
      rw [eL]
      exact nI_le (by omega) (by omega)
    exact Or.inl ⟨fun j hj' => hj j (by omega), fun _ p => ⟨hi, br_t h p⟩, fun _ p => ⟨hi, br_t h ⟨hi, nm_r eS p⟩⟩⟩
  | succ m ih =>
    intro i hm hj
    obtain ⟨o16, oo, _, hn, e⟩ := (K f hf).2 i (by omega)
    have h : ¬ dm_nn L (nI f).toNatClampNeg ≤ nI i := by
      rw [eL]
      exact nI_ge (by omega) (by omega)
    have h32 : ¬ (32 : Int32) ≤ nI i := nI_ge (b := 32) (by omega) (by decide)
    have hc : vp_in ((nI f * 32) + nI i) 256 := dm_cellIn (by omega) (by omega)
    have hc2 : vp_in (nI (f * 32 + i)) 256 := vp_in_nI (by omega) (by decide)
    have eO : dm_nn O ((nI f * 32) + nI i).toNatClampNeg = nI (O (f * 32 + i)) := dm_oc (by omega) (by omega)
    have eO2 : dm_nn O (nI (f * 32 + i)).toNatClampNeg = nI (O (f * 32 + i)) := by
      rw [nI_clamp (by omega)]
      rfl
    by_cases jp : O (f * 32 + i) = 10 ∨ O (f * 32 + i) = 11
    · have l0 : dm_lim F C (O (f * 32 + i)) = C := by
        rcases jp with jp | jp
        · rw [jp]
          simp [dm_lim]
        · rw [jp]
          simp [dm_lim]
      unfold dm_oo at oo
      rw [l0] at oo
      obtain ⟨t, ht, ex⟩ := oo hC0
      have eX : xs ((nI f * 32) + nI i).toNatClampNeg = nI t := by
        rw [dm_cell, nI_clamp (by omega)]
        exact ex
      have eX2 : xs (nI (f * 32 + i)).toNatClampNeg = nI t := by
        rw [nI_clamp (by omega)]
        exact ex
      have y0 : ∀ post : Int32 → SY → Prop, wY_seal_117 post (wY_seal_69 post (nI f) (nI F) (nI C) (nI D) fl (nI oc) rs st (nI fc) (dm_nn O) xs (dm_nn L) sl gl am ou (dm_nn FF) (dm_nn FP) (dm_nn PC) lo pe (m + 1)) (nI f) (nI i) (nI F) (nI C) (nI D) fl (nI oc) rs st (nI fc) (dm_nn O) xs (dm_nn L) sl gl am ou (dm_nn FF) (dm_nn FP) (dm_nn PC) lo pe → wY_seal_69 post (nI f) (nI F) (nI C) (nI D) fl (nI oc) rs st (nI fc) (dm_nn O) xs (dm_nn L) sl gl am ou (dm_nn FF) (dm_nn FP) (dm_nn PC) lo pe (m + 1 + 1) (nI i) := by
        intro post p
        rcases jp with jp | jp
        · exact ⟨hi, br_f h (br_f h32 ⟨hc, br_t (by rw [eO, jp]; rfl) p⟩)⟩
        · exact ⟨hi, br_f h (br_f h32 ⟨hc, br_f (by rw [eO, jp]; decide) ⟨hc, br_t (by rw [eO, jp]; rfl) p⟩⟩)⟩
      by_cases ok : t < L f ∧ dm_hb H f t = 0
      · have hj' : ∀ j, j < i + 1 → (O (f * 32 + j) = 10 ∨ O (f * 32 + j) = 11) → ∃ t, t < L f ∧ xs (f * 32 + j) = nI t ∧ dm_hb H f t = 0 := fun j hj1 hj2 => by
          by_cases q : j = i
          · rw [q]
            exact ⟨t, ok.1, ex, ok.2⟩
          · exact hj j (by omega) hj2
        have xs1 : ∀ post : Int32 → Prop, wX_jumpsAreSound_2 post (nI f) (nI F) (nI C) (nI D) fl (nI oc) rs st (nI fc) (dm_nn O) xs (dm_nn H) (dm_nn L) sl gl am ou (dm_nn FF) (dm_nn FP) (dm_nn PC) lo pe (m + 1) (nI (i + 1)) → wX_jumpsAreSound_2 post (nI f) (nI F) (nI C) (nI D) fl (nI oc) rs st (nI fc) (dm_nn O) xs (dm_nn H) (dm_nn L) sl gl am ou (dm_nn FF) (dm_nn FP) (dm_nn PC) lo pe (m + 1 + 1) (nI i) := by
          intro post p
          refine ⟨hi, br_f h (nm_r dm_cell ⟨hc2, ?_⟩)⟩
          refine dm_xj1 eO2 jp (br_f dm_10 ⟨hc2, ?_⟩)
          exact dm_xt1 (by omega) (by omega) eX2 ok.1 ok.2 (br_f dm_10 (nm_r (nI_1 i) p))
        have ys1 : ∀ post : Int32 → SY → Prop, wY_seal_69 post (nI f) (nI F) (nI C) (nI D) fl (nI oc) rs st (nI fc) (dm_nn O) xs (dm_nn L) sl gl am ou (dm_nn FF) (dm_nn FP) (dm_nn PC) lo pe (m + 1) (nI (i + 1)) → wY_seal_69 post (nI f) (nI F) (nI C) (nI D) fl (nI oc) rs st (nI fc) (dm_nn O) xs (dm_nn L) sl gl am ou (dm_nn FF) (dm_nn FP) (dm_nn PC) lo pe (m + 1 + 1) (nI i) := by
          intro post p
          refine y0 post ⟨hc, nm_r eX ⟨hi, br_t (by rw [eL]; exact nI_lt ok.1 (by omega)) ?_⟩⟩
          refine dm_yhat K hF hC hf (Nat.le_of_lt ok.1) ?_
          rw [ok.2]
          exact br_t rfl (nm_r (nI_1 i) p)
        rcases ih (i + 1) (by omega) hj' with ⟨z, a, b⟩ | ⟨a, b⟩
        · exact Or.inl ⟨z, fun _ p => xs1 _ (a _ p), fun _ p => ys1 _ (b _ p)⟩
        · exact Or.inr ⟨fun _ p => xs1 _ (a _ p), fun _ p => ys1 _ (b _ p)⟩
      · refine Or.inr ⟨fun post p => ?_, fun post p => ?_⟩
        · refine ⟨hi, br_f h (nm_r dm_cell ⟨hc2, ?_⟩)⟩
          refine dm_xj1 eO2 jp (br_f dm_10 ⟨hc2, ?_⟩)
          exact dm_xt0 (by omega) (by omega) eX2 (by omega) (fun q => dm_hb6 K hf (Nat.le_of_lt q)) (fun q z => ok ⟨q, z⟩) (br_t rfl p)
        · by_cases q : t < L f
          · refine y0 post ⟨hc, nm_r eX ⟨hi, br_t (by rw [eL]; exact nI_lt q (by omega)) ?_⟩⟩
            refine dm_yhat K hF hC hf (Nat.le_of_lt q) ?_
            have h6 := dm_hb6 K hf (Nat.le_of_lt q)
            have h0 : ¬ dm_hb H f t = 0 := fun z => ok ⟨q, z⟩
            exact br_f (nI_ne0 (by omega) (by omega)) p
          · exact y0 post ⟨hc, nm_r eX ⟨hi, br_f (by rw [eL]; exact nI_nlt (by omega) (by omega)) p⟩⟩
    · have hj' : ∀ j, j < i + 1 → (O (f * 32 + j) = 10 ∨ O (f * 32 + j) = 11) → ∃ t, t < L f ∧ xs (f * 32 + j) = nI t ∧ dm_hb H f t = 0 := fun j hj1 hj2 => by
        by_cases q : j = i
        · rw [q] at hj2
          exact absurd hj2 jp
        · exact hj j (by omega) hj2
      have xs1 : ∀ post : Int32 → Prop, wX_jumpsAreSound_2 post (nI f) (nI F) (nI C) (nI D) fl (nI oc) rs st (nI fc) (dm_nn O) xs (dm_nn H) (dm_nn L) sl gl am ou (dm_nn FF) (dm_nn FP) (dm_nn PC) lo pe (m + 1) (nI (i + 1)) → wX_jumpsAreSound_2 post (nI f) (nI F) (nI C) (nI D) fl (nI oc) rs st (nI fc) (dm_nn O) xs (dm_nn H) (dm_nn L) sl gl am ou (dm_nn FF) (dm_nn FP) (dm_nn PC) lo pe (m + 1 + 1) (nI i) := by
        intro post p
        refine ⟨hi, br_f h (nm_r dm_cell ⟨hc2, ?_⟩)⟩
        exact dm_xj0 eO2 o16 jp (br_t rfl (nm_r (nI_1 i) p))
      have ys1 : ∀ post : Int32 → SY → Prop, wY_seal_69 post (nI f) (nI F) (nI C) (nI D) fl (nI oc) rs st (nI fc) (dm_nn O) xs (dm_nn L) sl gl am ou (dm_nn FF) (dm_nn FP) (dm_nn PC) lo pe (m + 1) (nI (i + 1)) → wY_seal_69 post (nI f) (nI F) (nI C) (nI D) fl (nI oc) rs st (nI fc) (dm_nn O) xs (dm_nn L) sl gl am ou (dm_nn FF) (dm_nn FP) (dm_nn PC) lo pe (m + 1 + 1) (nI i) := by
        intro post p
        exact ⟨hi, br_f h (br_f h32 ⟨hc, br_f (by rw [eO]; exact dm_ne (k := 10) o16 (by decide) (fun z => jp (Or.inl z))) ⟨hc, br_f (by rw [eO]; exact dm_ne (k := 11) o16 (by decide) (fun z => jp (Or.inr z))) (nm_r (nI_1 i) p)⟩⟩)⟩
      rcases ih (i + 1) (by omega) hj' with ⟨z, a, b⟩ | ⟨a, b⟩
      · exact Or.inl ⟨z, fun _ p => xs1 _ (a _ p), fun _ p => ys1 _ (b _ p)⟩
      · exact Or.inr ⟨fun _ p => xs1 _ (a _ p), fun _ p => ys1 _ (b _ p)⟩
theorem dm_seal (I : dm_I F C D oc fc st O xs H L sl FF FP PC) (v : Int32) : dm_J (fun p => wpX_seal p (dm_X F C D fl oc rs st fc O xs H L sl gl am ou FF FP PC lo pe) v) (fun p => wpY_seal p (dm_Y F C D fl oc rs st fc O xs L sl gl am ou FF FP PC lo pe) v) := by
  obtain ⟨⟨a1, a2, a3, a4, a5, a6, a7, a8⟩, b1, K, S, T⟩ := id I
  rcases dm_fn v (n := F) (by omega) with h | ⟨h, h2⟩ | ⟨f, hf, rfl⟩
  · exact dm_same I 0 (fun _ p => by unfold wpX_seal; exact dm_xF0 h (br_t rfl p)) (fun _ p => br_t h p)
  · exact dm_same I 0 (fun _ p => by unfold wpX_seal; exact dm_xF1 h h2 (br_t rfl p)) (fun _ p => br_f h (br_t h2 p))
  · have h0 : ¬ nI f < 0 := nI_pos (by omega)
    have h1 : ¬ nI F ≤ nI f := nI_ge hf (by omega)
    have hi : vp_in (nI f) 8 := vp_in_nI (by omega) (by decide)
    by_cases z : sl (nI f).toNatClampNeg = 0
    · have hL : L f ≤ C := (K f hf).1
      have eL : dm_nn L (nI f).toNatClampNeg = nI (L f) := by
        rw [nI_clamp (by omega)]
        rfl
      by_cases l0 : L f = 0
      · have e0 : dm_nn L (nI f).toNatClampNeg = 0 := by
          rw [eL, l0]
          rfl
        refine dm_same (fl := fl) (rs := rs) (gl := gl) (am := am) (ou := ou) (lo := lo) (pe := pe) I 4 (fun _ p => ?_) (fun _ p => br_f h0 (br_f h1 ⟨hi, br_t z ⟨hi, br_t e0 p⟩⟩))
        unfold wpX_seal
        refine dm_xF2 a2 hf (br_f dm_10 ⟨hi, br_t z ?_⟩)
        exact ⟨hi, br_t e0 (br_t rfl p)⟩
      · have e0 : ¬ dm_nn L (nI f).toNatClampNeg = 0 := by
          rw [eL]
          exact nI_ne0 (by omega) (by omega)
        have ec : ((nI f * 32) + dm_nn L (nI f).toNatClampNeg) - 1 = nI (f * 32 + (L f - 1)) := by
          rw [eL, dm_cell, show f * 32 + L f = f * 32 + (L f - 1) + 1 from by omega]
          exact nI_pred _
        have hc : vp_in (((nI f * 32) + dm_nn L (nI f).toNatClampNeg) - 1) 256 := by
          rw [ec]
          exact vp_in_nI (by omega) (by decide)
        have o16 := ((K f hf).2 (L f - 1) (by omega)).1
        have eO : dm_nn O (((nI f * 32) + dm_nn L (nI f).toNatClampNeg) - 1).toNatClampNeg = nI (O (f * 32 + (L f - 1))) := by
          rw [ec, nI_clamp (by omega)]
          rfl
        by_cases lst : O (f * 32 + (L f - 1)) = 10 ∨ O (f * 32 + (L f - 1)) = 16
        · have xgo : ∀ post : Int32 → Prop, post 1 → wpX_endsInJumpOrReturn post (dm_X F C D fl oc rs st fc O xs H L sl gl am ou FF FP PC lo pe) (nI f) := by
            intro post p
            rcases lst with lst | lst
            · rw [lst] at eO
              exact ⟨hi, br_f e0 ⟨hi, hc, nm_r eO (br_t rfl p)⟩⟩
            · rw [lst] at eO
              exact ⟨hi, br_f e0 ⟨hi, hc, nm_r eO (br_f (by decide) (br_t rfl p))⟩⟩
          have ygo : ∀ post : Int32 → SY → Prop, wY_seal_69 post (nI f) (nI F) (nI C) (nI D) fl (nI oc) rs st (nI fc) (dm_nn O) xs (dm_nn L) sl gl am ou (dm_nn FF) (dm_nn FP) (dm_nn PC) lo pe (L f + 1) (nI 0) → wpY_seal post (dm_Y F C D fl oc rs st fc O xs L sl gl am ou FF FP PC lo pe) (nI f) := by
            intro post p
            rcases lst with lst | lst
            · rw [lst] at eO
              exact br_f h0 (br_f h1 ⟨hi, br_t z ⟨hi, br_f e0 ⟨hi, hc, nm_r eO (br_t rfl ⟨_, p⟩)⟩⟩⟩)
            · rw [lst] at eO
              exact br_f h0 (br_f h1 ⟨hi, br_t z ⟨hi, br_f e0 ⟨hi, hc, nm_r eO (br_f (by decide) (br_t rfl ⟨_, p⟩))⟩⟩⟩)
          have eS : upd sl (nI f).toNatClampNeg (vp_nar .boolean 1) = upd sl f 1 := by rw [nI_clamp (by omega), dm_vb1]
          rcases dm_sloop (D := D) (fl := fl) (oc := oc) (rs := rs) (st := st) (fc := fc) (sl := sl) (gl := gl) (am := am) (ou := ou) (FF := FF) (FP := FP) (PC := PC) (lo := lo) (pe := pe) K a2 a4 (by omega) hf (L f) 0 (by omega) (fun j hj => absurd hj (Nat.not_lt_zero j)) with ⟨q, a, b⟩ | ⟨a, b⟩
          · refine ⟨1, (dm_X F C D fl oc rs st fc O xs H L (upd sl f 1) gl am ou FF FP PC lo pe), (dm_Y F C D fl oc rs st fc O xs L (upd sl f 1) gl am ou FF FP PC lo pe), dm_R ?_, fun post p => ?_, fun post p => ygo _ (b _ p)⟩
            · exact ⟨⟨a1, a2, a3, a4, a5, a6, a7, a8⟩, b1, K, dm_SKs S (by omega) lst q, dm_FKs T dm_10⟩
            · unfold wpX_seal
              refine dm_xF2 a2 hf (br_f dm_10 ⟨hi, br_t z ?_⟩)
              refine xgo _ (br_f dm_10 ?_)
              exact ⟨_, a _ (br_f dm_10 ⟨hi, nm_r eS p⟩)⟩
          · refine dm_same (fl := fl) (rs := rs) (gl := gl) (am := am) (ou := ou) (lo := lo) (pe := pe) I 4 (fun _ p => ?_) (fun _ p => ygo _ (b _ p))
            unfold wpX_seal
            refine dm_xF2 a2 hf (br_f dm_10 ⟨hi, br_t z ?_⟩)
            refine xgo _ (br_f dm_10 ?_)
            exact ⟨_, a _ (br_t rfl p)⟩
        · have n10 := dm_ne (k := 10) o16 (by decide) (fun z => lst (Or.inl z))
          have n16 := dm_ne (k := 16) o16 (by decide) (fun z => lst (Or.inr z))
          refine dm_same (fl := fl) (rs := rs) (gl := gl) (am := am) (ou := ou) (lo := lo) (pe := pe) I 4 (fun _ p => ?_) (fun _ p => br_f h0 (br_f h1 ⟨hi, br_t z ⟨hi, br_f e0 ⟨hi, hc, nm_r eO (br_f n10 (br_f n16 p))⟩⟩⟩))
          unfold wpX_seal
          refine dm_xF2 a2 hf (br_f dm_10 ⟨hi, br_t z ?_⟩)
          exact ⟨hi, br_f e0 ⟨hi, hc, nm_r eO (br_f n10 (br_f n16 (br_t rfl p)))⟩⟩
    · exact dm_same I 0 (fun _ p => by unfold wpX_seal; exact dm_xF2 a2 hf (br_f dm_10 ⟨hi, br_f z p⟩)) (fun _ p => br_f h0 (br_f h1 ⟨hi, br_f z p⟩))
end
end DMG
end
section
section DMH
/-! H: one step of a run: the rules -/
/-- what one instruction does from a state with t + 1 frames: on both sides it goes on to one next state, or ends the slice in related states -/
def dm_Go (F C D : Nat) (fl : Int32) (oc : Nat) (rs : Int32) (t : Nat) (O : Nat → Nat) (xs : Nat → Int32) (H L : Nat → Nat) (sl gl am ou : Nat → Int32) (FF FP PC : Nat → Nat) (lo pe : Nat → Int32) (o x cl : Int32) : Prop :=
  (∃ (fl' : Int32) (oc' fc' : Nat) (gl' am' ou' : Nat → Int32) (FF' FP' PC' : Nat → Nat) (lo' pe' : Nat → Int32),
    dm_I F C D oc' fc' 1 O xs H L sl FF' FP' PC' ∧
    (∀ (post : Int32 → SX → Prop) (K : (Int32 → Int32 → Int32 → Int32 → Int32 → Int32 → Int32 → Int32 → Int32 → Int32 → (Nat → Int32) → (Nat → Int32) → (Nat → Int32) → (Nat → Int32) → (Nat → Int32) → (Nat → Int32) → (Nat → Int32) → (Nat → Int32) → (Nat → Int32) → (Nat → Int32) → (Nat → Int32) → (Nat → Int32) → (Nat → Int32) → Prop)) (c s : Int32), K c (s + 1) (nI F) (nI C) (nI D) fl' (nI oc') rs 1 (nI fc') (dm_nn O) xs (dm_nn H) (dm_nn L) sl gl' am' ou' (dm_nn FF') (dm_nn FP') (dm_nn PC') lo' pe' → wX_run_109 post K c s o x (nI F) (nI C) (nI D) fl (nI oc) rs 1 (nI (t + 1)) (dm_nn O) xs (dm_nn H) (dm_nn L) sl gl am ou (dm_nn FF) (dm_nn FP) (dm_nn PC) lo pe) ∧
    (∀ (post : Int32 → SY → Prop) (K : (Int32 → Int32 → Int32 → Int32 → Int32 → Int32 → Int32 → Int32 → Int32 → Int32 → (Nat → Int32) → (Nat → Int32) → (Nat → Int32) → (Nat → Int32) → (Nat → Int32) → (Nat → Int32) → (Nat → Int32) → (Nat → Int32) → (Nat → Int32) → (Nat → Int32) → (Nat → Int32) → (Nat → Int32) → Prop)) (c s : Int32), K c (s + 1) (nI F) (nI C) (nI D) fl' (nI oc') rs 1 (nI fc') (dm_nn O) xs (dm_nn L) sl gl' am' ou' (dm_nn FF') (dm_nn FP') (dm_nn PC') lo' pe' → wY_run_170 post K c s (nI t) (nI (FP t)) o x cl (nI F) (nI C) (nI D) fl (nI oc) rs 1 (nI (t + 1)) (dm_nn O) xs (dm_nn L) sl gl am ou (dm_nn FF) (dm_nn FP) (dm_nn PC) lo pe))
  ∨ (∃ (r : Int32) (u : SX) (v : SY), i_Rel 0 u v ∧
    (∀ (post : Int32 → SX → Prop) (K : (Int32 → Int32 → Int32 → Int32 → Int32 → Int32 → Int32 → Int32 → Int32 → Int32 → (Nat → Int32) → (Nat → Int32) → (Nat → Int32) → (Nat → Int32) → (Nat → Int32) → (Nat → Int32) → (Nat → Int32) → (Nat → Int32) → (Nat → Int32) → (Nat → Int32) → (Nat → Int32) → (Nat → Int32) → (Nat → Int32) → Prop)) (c s : Int32), post r u → wX_run_109 post K c s o x (nI F) (nI C) (nI D) fl (nI oc) rs 1 (nI (t + 1)) (dm_nn O) xs (dm_nn H) (dm_nn L) sl gl am ou (dm_nn FF) (dm_nn FP) (dm_nn PC) lo pe) ∧
    (∀ (post : Int32 → SY → Prop) (K : (Int32 → Int32 → Int32 → Int32 → Int32 → Int32 → Int32 → Int32 → Int32 → Int32 → (Nat → Int32) → (Nat → Int32) → (Nat → Int32) → (Nat → Int32) → (Nat → Int32) → (Nat → Int32) → (Nat → Int32) → (Nat → Int32) → (Nat → Int32) → (Nat → Int32) → (Nat → Int32) → (Nat → Int32) → Prop)) (c s : Int32), post r v → wY_run_170 post K c s (nI t) (nI (FP t)) o x cl (nI F) (nI C) (nI D) fl (nI oc) rs 1 (nI (t + 1)) (dm_nn O) xs (dm_nn L) sl gl am ou (dm_nn FF) (dm_nn FP) (dm_nn PC) lo pe))
section
variable {F C D : Nat} {fl : Int32} {oc : Nat} {rs st : Int32} {fc : Nat} {O : Nat → Nat} {xs : Nat → Int32} {H L : Nat → Nat} {sl gl am ou : Nat → Int32} {FF FP PC : Nat → Nat} {lo pe : Nat → Int32} {t o : Nat}
theorem dm_top (I : dm_I F C D oc (t + 1) 1 O xs H L sl FF FP PC) (ho : O (FF t * 32 + FP t) = o) :
    t < 8 ∧ FF t < F ∧ ¬ sl (FF t) = 0 ∧ FP t < L (FF t) ∧ L (FF t) ≤ C ∧ dm_oo F C o (xs (FF t * 32 + FP t)) ∧ PC t ≤ 6 ∧ dm_nd o (PC t) ∧ dm_hb H (FF t) (FP t + 1) = dm_af o (PC t) := by
  obtain ⟨⟨a1, a2, a3, a4, a5, a6, a7, a8⟩, b1, K, S, T⟩ := I
  obtain ⟨a, b, c, e⟩ := T t (Nat.lt_succ_self t)
  rw [if_pos rfl, Nat.add_zero] at e
  obtain ⟨_, oo, h6, hn, eH⟩ := (K (FF t) a).2 (FP t) c
  rw [ho] at oo hn eH
  rw [← e] at h6 hn eH
  exact ⟨by omega, a, b, c, (K (FF t) a).1, oo, h6, hn, eH⟩
/-- on to the next instruction -/
theorem dm_Ig (I : dm_I F C D oc (t + 1) 1 O xs H L sl FF FP PC) (ho : O (FF t * 32 + FP t) = o) (n10 : o ≠ 10) (n16 : o ≠ 16) {oc' : Nat} (hoc : oc' ≤ 16) {PC' : Nat → Nat} (hc : ∀ d, d ≠ t → PC' d = PC d) (h2 : PC' t = dm_af o (PC t)) :
    dm_I F C D oc' (t + 1) 1 O xs H L sl FF (dm_un FP t (FP t + 1)) PC' := by
  obtain ⟨ht, a, b, c, _, _, _, _, eH⟩ := dm_top I ho
  obtain ⟨⟨a1, a2, a3, a4, a5, a6, a7, a8⟩, b1, K, S, T⟩ := I
  refine ⟨⟨a1, a2, a3, a4, a5, a6, hoc, a8⟩, b1, K, S, dm_FKg T (fun d hd => dm_ud hd) hc ?_ ?_⟩
  · rw [dm_us]
    exact dm_nx S a b c (by rw [ho]; exact n10) (by rw [ho]; exact n16)
  · rw [dm_us, eH]
    exact h2
/-- a jump -/
theorem dm_Ij (I : dm_I F C D oc (t + 1) 1 O xs H L sl FF FP PC) {p : Nat} (hp : p < L (FF t)) (hb : dm_hb H (FF t) p = 0) {FP' PC' : Nat → Nat} (hf : ∀ d, d ≠ t → FP' d = FP d) (hc : ∀ d, d ≠ t → PC' d = PC d) (h1 : FP' t = p) (h2 : PC' t = 0) :
    dm_I F C D oc (t + 1) 1 O xs H L sl FF FP' PC' := by
  obtain ⟨⟨a1, a2, a3, a4, a5, a6, a7, a8⟩, b1, K, S, T⟩ := I
  refine ⟨⟨a1, a2, a3, a4, a5, a6, a7, a8⟩, b1, K, S, dm_FKg T hf hc ?_ ?_⟩
  · rw [h1]
    exact hp
  · rw [h1, hb]
    exact h2
/-- a call -/
theorem dm_Ic (I : dm_I F C D oc (t + 1) 1 O xs H L sl FF FP PC) (ho : O (FF t * 32 + FP t) = o) (n10 : o ≠ 10) (n16 : o ≠ 16) (hD : t + 1 < D) {m : Nat} (hm : m < F) (hs : ¬ sl m = 0) {PC' : Nat → Nat} (hc : ∀ d, d ≠ t → PC' d = PC d) (h2 : PC' t + 1 = dm_af o (PC t)) :
    dm_I F C D oc (t + 2) 1 O xs H L sl (dm_un FF (t + 1) m) (dm_un (dm_un FP t (FP t + 1)) (t + 1) 0) (dm_un PC' (t + 1) 0) := by
  obtain ⟨ht, a, b, c, _, _, _, _, eH⟩ := dm_top I ho
  obtain ⟨⟨a1, a2, a3, a4, a5, a6, a7, a8⟩, b1, K, S, T⟩ := I
  have hne : t ≠ t + 1 := by omega
  refine ⟨⟨a1, a2, a3, a4, a5, a6, a7, by omega⟩, Or.inl ⟨rfl, by omega⟩, K, S, dm_FKc T (fun d hd => dm_ud hd) (fun d h h' => ?_) (fun d h h' => ?_) ?_ ?_ ?_ ?_ dm_us dm_us ?_⟩
  · rw [dm_ud h', dm_ud h]
  · rw [dm_ud h', hc d h]
  · rw [dm_ud hne, dm_us]
    exact dm_nx S a b c (by rw [ho]; exact n10) (by rw [ho]; exact n16)
  · rw [dm_ud hne, dm_ud hne, dm_us, eH]
    exact h2
  · rw [dm_us]
    exact hm
  · rw [dm_us]
    exact hs
  · rw [dm_us]
    exact (S m hm hs).1
/-- a return to a caller -/
theorem dm_Ir (I : dm_I F C D oc (t + 1 + 1) 1 O xs H L sl FF FP PC) {FP' PC' : Nat → Nat} (hf : ∀ d, d < t + 1 → FP' d = FP d) (hc : ∀ d, d < t → PC' d = PC d) (h2 : PC' t = PC t + 1) :
    dm_I F C D oc (t + 1) 1 O xs H L sl FF FP' PC' := by
  obtain ⟨⟨a1, a2, a3, a4, a5, a6, a7, a8⟩, b1, K, S, T⟩ := I
  exact ⟨⟨a1, a2, a3, a4, a5, a6, a7, by omega⟩, Or.inl ⟨rfl, by omega⟩, K, S, dm_FKt T hf hc h2⟩
theorem dm_pcr (I : dm_I F C D oc (t + 1 + 1) 1 O xs H L sl FF FP PC) : PC t < 6 := by
  obtain ⟨_, b1, K, S, T⟩ := I
  obtain ⟨a, _, c, e⟩ := T t (by omega)
  rw [if_neg (by omega)] at e
  have := dm_hb6 K a (Nat.le_of_lt c)
  omega
theorem dm_eFP (ht : t < 8) : upd (dm_nn FP) (nI t).toNatClampNeg (nI (FP t) + 1) = dm_nn (dm_un FP t (FP t + 1)) := by
  rw [nI_1]
  exact dm_u0 ht _
end
end DMH
end
section
section DMI
/-! I: one step of a run: the seventeen instructions -/
section
variable {F C D : Nat} {fl : Int32} {oc : Nat} {rs st : Int32} {fc : Nat} {O : Nat → Nat} {xs : Nat → Int32} {H L : Nat → Nat} {sl gl am ou : Nat → Int32} {FF FP PC : Nat → Nat} {lo pe : Nat → Int32} {t : Nat}
theorem dm_go0 (I : dm_I F C D oc (t + 1) 1 O xs H L sl FF FP PC) (ho : O (FF t * 32 + FP t) = 0) (x : Int32) : dm_Go F C D fl oc rs t O xs H L sl gl am ou FF FP PC lo pe 0 x 0 := by
  obtain ⟨ht, a, b, cc, hL, oo, h6, hn, eH⟩ := dm_top I ho
  have hi : vp_in (nI t) 8 := vp_in_nI ht (by decide)
  have h5 : PC t < 6 := by
    simp [dm_nd] at hn
    omega
  refine Or.inl ⟨fl, oc, t + 1, gl, am, ou, FF, dm_un FP t (FP t + 1), dm_un PC t (PC t + 1), lo, upd pe (t * 6 + PC t) x, ?_, fun post K c s k => ?_, fun post K c s k => ?_⟩
  · refine dm_Ig I ho (by decide) (by decide) I.1.2.2.2.2.2.2.1 (fun d hd => ?_) ?_
    · simp only [dm_ud hd]
    · rw [dm_us]
      simp [dm_af]
  · unfold wX_run_109 wpX_stopBefore
    repeat (first | refine br_f (by decide) ?_ | refine br_t (by decide) ?_)
    refine nm_r (nI_pred t) ⟨hi, hi, nm_r (dm_uP ht rfl) ?_⟩
    repeat (first | refine br_f (by decide) ?_ | refine br_t (by decide) ?_)
    refine dm_xpush ht rfl h5 ?_
    repeat (first | refine br_f (by decide) ?_ | refine br_t (by decide) ?_)
    exact nm_e k
  · repeat (first | refine br_f (by decide) ?_ | refine br_t (by decide) ?_)
    refine ⟨hi, nm_r (dm_eFP ht) ?_⟩
    repeat (first | refine br_f (by decide) ?_ | refine br_t (by decide) ?_)
    refine dm_ypush ht rfl h5 ?_
    repeat (first | refine br_f (by decide) ?_ | refine br_t (by decide) ?_)
    exact nm_e k
theorem dm_go1 (I : dm_I F C D oc (t + 1) 1 O xs H L sl FF FP PC) (ho : O (FF t * 32 + FP t) = 1) {m : Nat} (hm : m < 4) : dm_Go F C D fl oc rs t O xs H L sl gl am ou FF FP PC lo pe 1 (nI m) 0 := by
  obtain ⟨ht, a, b, cc, hL, oo, h6, hn, eH⟩ := dm_top I ho
  have hi : vp_in (nI t) 8 := vp_in_nI ht (by decide)
  have h5 : PC t < 6 := by
    simp [dm_nd] at hn
    omega
  refine Or.inl ⟨fl, oc, t + 1, gl, am, ou, FF, dm_un FP t (FP t + 1), dm_un PC t (PC t + 1), lo, upd pe (t * 6 + PC t) (lo ((nI t * 4) + nI m).toNatClampNeg), ?_, fun post K c s k => ?_, fun post K c s k => ?_⟩
  · refine dm_Ig I ho (by decide) (by decide) I.1.2.2.2.2.2.2.1 (fun d hd => ?_) ?_
    · simp only [dm_ud hd]
    · rw [dm_us]
      simp [dm_af]
  · unfold wX_run_109 wpX_stopBefore
    repeat (first | refine br_f (by decide) ?_ | refine br_t (by decide) ?_)
    refine nm_r (nI_pred t) ⟨hi, hi, nm_r (dm_uP ht rfl) ?_⟩
    repeat (first | refine br_f (by decide) ?_ | refine br_t (by decide) ?_)
    refine nm_r (nI_pred t) ⟨dm_4 ht m hm, ?_⟩
    refine dm_xpush ht rfl h5 ?_
    repeat (first | refine br_f (by decide) ?_ | refine br_t (by decide) ?_)
    exact nm_e k
  · repeat (first | refine br_f (by decide) ?_ | refine br_t (by decide) ?_)
    refine ⟨hi, nm_r (dm_eFP ht) ?_⟩
    repeat (first | refine br_f (by decide) ?_ | refine br_t (by decide) ?_)
    refine ⟨dm_4 ht m hm, ?_⟩
    refine dm_ypush ht rfl h5 ?_
    repeat (first | refine br_f (by decide) ?_ | refine br_t (by decide) ?_)
    exact nm_e k
theorem dm_go2 (I : dm_I F C D oc (t + 1) 1 O xs H L sl FF FP PC) (ho : O (FF t * 32 + FP t) = 2) {m : Nat} (hm : m < 4) : dm_Go F C D fl oc rs t O xs H L sl gl am ou FF FP PC lo pe 2 (nI m) 0 := by
  obtain ⟨ht, a, b, cc, hL, oo, h6, hn, eH⟩ := dm_top I ho
  have hi : vp_in (nI t) 8 := vp_in_nI ht (by decide)
  obtain ⟨h, hh⟩ : ∃ h, PC t = h + 1 := ⟨PC t - 1, by simp [dm_nd] at hn; omega⟩
  refine Or.inl ⟨fl, oc, t + 1, gl, am, ou, FF, dm_un FP t (FP t + 1), dm_un PC t h, upd lo ((nI t * 4) + nI m).toNatClampNeg (pe (t * 6 + h)), pe, ?_, fun post K c s k => ?_, fun post K c s k => ?_⟩
  · refine dm_Ig I ho (by decide) (by decide) I.1.2.2.2.2.2.2.1 (fun d hd => ?_) ?_
    · simp only [dm_ud hd]
    · rw [dm_us, hh]
      simp [dm_af]
  · unfold wX_run_109 wpX_stopBefore
    repeat (first | refine br_f (by decide) ?_ | refine br_t (by decide) ?_)
    refine nm_r (nI_pred t) ⟨hi, hi, nm_r (dm_uP ht rfl) ?_⟩
    repeat (first | refine br_f (by decide) ?_ | refine br_t (by decide) ?_)
    unfold wX_execute_109 wpX_deliver
    refine dm_xpop ht hh (by omega) ?_
    repeat (first | refine br_f (by decide) ?_ | refine br_t (by decide) ?_)
    refine nm_r (nI_pred t) ⟨dm_4 ht m hm, nm_e ?_⟩
    repeat (first | refine br_f (by decide) ?_ | refine br_t (by decide) ?_)
    exact nm_e k
  · repeat (first | refine br_f (by decide) ?_ | refine br_t (by decide) ?_)
    refine ⟨hi, nm_r (dm_eFP ht) ?_⟩
    repeat (first | refine br_f (by decide) ?_ | refine br_t (by decide) ?_)
    unfold wY_run_350
    refine dm_ypop ht hh (by omega) ?_
    repeat (first | refine br_f (by decide) ?_ | refine br_t (by decide) ?_)
    refine ⟨dm_4 ht m hm, nm_e ?_⟩
    repeat (first | refine br_f (by decide) ?_ | refine br_t (by decide) ?_)
    exact nm_e k
theorem dm_go3 (I : dm_I F C D oc (t + 1) 1 O xs H L sl FF FP PC) (ho : O (FF t * 32 + FP t) = 3) {m : Nat} (hm : m < 8) : dm_Go F C D fl oc rs t O xs H L sl gl am ou FF FP PC lo pe 3 (nI m) 0 := by
  obtain ⟨ht, a, b, cc, hL, oo, h6, hn, eH⟩ := dm_top I ho
  have hi : vp_in (nI t) 8 := vp_in_nI ht (by decide)
  have h5 : PC t < 6 := by
    simp [dm_nd] at hn
    omega
  refine Or.inl ⟨fl, oc, t + 1, gl, am, ou, FF, dm_un FP t (FP t + 1), dm_un PC t (PC t + 1), lo, upd pe (t * 6 + PC t) (gl (nI m).toNatClampNeg), ?_, fun post K c s k => ?_, fun post K c s k => ?_⟩
  · refine dm_Ig I ho (by decide) (by decide) I.1.2.2.2.2.2.2.1 (fun d hd => ?_) ?_
    · simp only [dm_ud hd]
    · rw [dm_us]
      simp [dm_af]
  · unfold wX_run_109 wpX_stopBefore
    repeat (first | refine br_f (by decide) ?_ | refine br_t (by decide) ?_)
    refine nm_r (nI_pred t) ⟨hi, hi, nm_r (dm_uP ht rfl) ?_⟩
    repeat (first | refine br_f (by decide) ?_ | refine br_t (by decide) ?_)
    refine ⟨vp_in_nI hm (by decide), ?_⟩
    refine dm_xpush ht rfl h5 ?_
    repeat (first | refine br_f (by decide) ?_ | refine br_t (by decide) ?_)
    exact nm_e k
  · repeat (first | refine br_f (by decide) ?_ | refine br_t (by decide) ?_)
    refine ⟨hi, nm_r (dm_eFP ht) ?_⟩
    repeat (first | refine br_f (by decide) ?_ | refine br_t (by decide) ?_)
    refine ⟨vp_in_nI hm (by decide), ?_⟩
    refine dm_ypush ht rfl h5 ?_
    repeat (first | refine br_f (by decide) ?_ | refine br_t (by decide) ?_)
    exact nm_e k
theorem dm_go4 (I : dm_I F C D oc (t + 1) 1 O xs H L sl FF FP PC) (ho : O (FF t * 32 + FP t) = 4) {m : Nat} (hm : m < 8) : dm_Go F C D fl oc rs t O xs H L sl gl am ou FF FP PC lo pe 4 (nI m) 0 := by
  obtain ⟨ht, a, b, cc, hL, oo, h6, hn, eH⟩ := dm_top I ho
  have hi : vp_in (nI t) 8 := vp_in_nI ht (by decide)
  obtain ⟨h, hh⟩ : ∃ h, PC t = h + 1 := ⟨PC t - 1, by simp [dm_nd] at hn; omega⟩
  obtain ⟨fl', gl', am', wx, wy⟩ := dm_write (F := F) (C := C) (D := D) (fl := fl) (oc := oc) (rs := rs) (st := 1) (fc := t + 1) (O := O) (xs := xs) (H := H) (L := L) (sl := sl) (gl := gl) (am := am) (ou := ou) (FF := FF) (FP := dm_un FP t (FP t + 1)) (PC := dm_un PC t h) (lo := lo) (pe := pe) hm (pe (t * 6 + h))
  refine Or.inl ⟨fl', oc, t + 1, gl', am', ou, FF, dm_un FP t (FP t + 1), dm_un PC t h, lo, pe, ?_, fun post K c s k => ?_, fun post K c s k => ?_⟩
  · refine dm_Ig I ho (by decide) (by decide) I.1.2.2.2.2.2.2.1 (fun d hd => ?_) ?_
    · simp only [dm_ud hd]
    · rw [dm_us, hh]
      simp [dm_af]
  · unfold wX_run_109 wpX_stopBefore
    repeat (first | refine br_f (by decide) ?_ | refine br_t (by decide) ?_)
    refine nm_r (nI_pred t) ⟨hi, hi, nm_r (dm_uP ht rfl) ?_⟩
    repeat (first | refine br_f (by decide) ?_ | refine br_t (by decide) ?_)
    unfold wX_execute_109 wpX_deliver
    refine dm_xpop ht hh (by omega) ?_
    repeat (first | refine br_f (by decide) ?_ | refine br_t (by decide) ?_)
    refine wx _ ?_
    repeat (first | refine br_f (by decide) ?_ | refine br_t (by decide) ?_)
    exact nm_e k
  · repeat (first | refine br_f (by decide) ?_ | refine br_t (by decide) ?_)
    refine ⟨hi, nm_r (dm_eFP ht) ?_⟩
    repeat (first | refine br_f (by decide) ?_ | refine br_t (by decide) ?_)
    unfold wY_run_350
    refine dm_ypop ht hh (by omega) ?_
    repeat (first | refine br_f (by decide) ?_ | refine br_t (by decide) ?_)
    refine wy _ ?_
    repeat (first | refine br_f (by decide) ?_ | refine br_t (by decide) ?_)
    exact nm_e k
theorem dm_go5 (I : dm_I F C D oc (t + 1) 1 O xs H L sl FF FP PC) (ho : O (FF t * 32 + FP t) = 5) (x : Int32) : dm_Go F C D fl oc rs t O xs H L sl gl am ou FF FP PC lo pe 5 x 0 := by
  obtain ⟨ht, a, b, cc, hL, oo, h6, hn, eH⟩ := dm_top I ho
  have hi : vp_in (nI t) 8 := vp_in_nI ht (by decide)
  obtain ⟨h, hh⟩ : ∃ h, PC t = h + 1 + 1 := ⟨PC t - 2, by simp [dm_nd] at hn; omega⟩
  refine Or.inl ⟨fl, oc, t + 1, gl, am, ou, FF, dm_un FP t (FP t + 1), dm_un (dm_un (dm_un PC t (h + 1)) t h) t (h + 1), lo, upd pe (t * 6 + h) (pe (t * 6 + h) + pe (t * 6 + (h + 1))), ?_, fun post K c s k => ?_, fun post K c s k => ?_⟩
  · refine dm_Ig I ho (by decide) (by decide) I.1.2.2.2.2.2.2.1 (fun d hd => ?_) ?_
    · simp only [dm_ud hd]
    · rw [dm_us, hh]
      simp [dm_af]
  · unfold wX_run_109 wpX_stopBefore
    repeat (first | refine br_f (by decide) ?_ | refine br_t (by decide) ?_)
    refine nm_r (nI_pred t) ⟨hi, hi, nm_r (dm_uP ht rfl) ?_⟩
    repeat (first | refine br_f (by decide) ?_ | refine br_t (by decide) ?_)
    unfold wX_execute_157 wpX_calculate
    refine dm_xpop ht hh (by omega) ?_
    refine dm_xpop ht dm_us (by omega) ?_
    repeat (first | refine br_f (by decide) ?_ | refine br_t (by decide) ?_)
    refine dm_xpush ht dm_us (by omega) ?_
    repeat (first | refine br_f (by decide) ?_ | refine br_t (by decide) ?_)
    exact nm_e k
  · repeat (first | refine br_f (by decide) ?_ | refine br_t (by decide) ?_)
    refine ⟨hi, nm_r (dm_eFP ht) ?_⟩
    repeat (first | refine br_f (by decide) ?_ | refine br_t (by decide) ?_)
    unfold wY_run_350
    refine dm_ypop ht hh (by omega) ?_
    repeat (first | refine br_f (by decide) ?_ | refine br_t (by decide) ?_)
    unfold wY_run_368
    refine dm_ypop ht dm_us (by omega) ?_
    repeat (first | refine br_f (by decide) ?_ | refine br_t (by decide) ?_)
    refine dm_ypush ht dm_us (by omega) ?_
    repeat (first | refine br_f (by decide) ?_ | refine br_t (by decide) ?_)
    exact nm_e k
theorem dm_go6 (I : dm_I F C D oc (t + 1) 1 O xs H L sl FF FP PC) (ho : O (FF t * 32 + FP t) = 6) (x : Int32) : dm_Go F C D fl oc rs t O xs H L sl gl am ou FF FP PC lo pe 6 x 0 := by
  obtain ⟨ht, a, b, cc, hL, oo, h6, hn, eH⟩ := dm_top I ho
  have hi : vp_in (nI t) 8 := vp_in_nI ht (by decide)
  obtain ⟨h, hh⟩ : ∃ h, PC t = h + 1 + 1 := ⟨PC t - 2, by simp [dm_nd] at hn; omega⟩
  refine Or.inl ⟨fl, oc, t + 1, gl, am, ou, FF, dm_un FP t (FP t + 1), dm_un (dm_un (dm_un PC t (h + 1)) t h) t (h + 1), lo, upd pe (t * 6 + h) (pe (t * 6 + h) - pe (t * 6 + (h + 1))), ?_, fun post K c s k => ?_, fun post K c s k => ?_⟩
  · refine dm_Ig I ho (by decide) (by decide) I.1.2.2.2.2.2.2.1 (fun d hd => ?_) ?_
    · simp only [dm_ud hd]
    · rw [dm_us, hh]
      simp [dm_af]
  · unfold wX_run_109 wpX_stopBefore
    repeat (first | refine br_f (by decide) ?_ | refine br_t (by decide) ?_)
    refine nm_r (nI_pred t) ⟨hi, hi, nm_r (dm_uP ht rfl) ?_⟩
    repeat (first | refine br_f (by decide) ?_ | refine br_t (by decide) ?_)
    unfold wX_execute_157 wpX_calculate
    refine dm_xpop ht hh (by omega) ?_
    refine dm_xpop ht dm_us (by omega) ?_
    repeat (first | refine br_f (by decide) ?_ | refine br_t (by decide) ?_)
    refine dm_xpush ht dm_us (by omega) ?_
    repeat (first | refine br_f (by decide) ?_ | refine br_t (by decide) ?_)
    exact nm_e k
  · repeat (first | refine br_f (by decide) ?_ | refine br_t (by decide) ?_)
    refine ⟨hi, nm_r (dm_eFP ht) ?_⟩
    repeat (first | refine br_f (by decide) ?_ | refine br_t (by decide) ?_)
    unfold wY_run_350
    refine dm_ypop ht hh (by omega) ?_
    repeat (first | refine br_f (by decide) ?_ | refine br_t (by decide) ?_)
    unfold wY_run_368
    refine dm_ypop ht dm_us (by omega) ?_
    repeat (first | refine br_f (by decide) ?_ | refine br_t (by decide) ?_)
    refine dm_ypush ht dm_us (by omega) ?_
    repeat (first | refine br_f (by decide) ?_ | refine br_t (by decide) ?_)
    exact nm_e k
theorem dm_go7 (I : dm_I F C D oc (t + 1) 1 O xs H L sl FF FP PC) (ho : O (FF t * 32 + FP t) = 7) (x : Int32) : dm_Go F C D fl oc rs t O xs H L sl gl am ou FF FP PC lo pe 7 x 0 := by
  obtain ⟨ht, a, b, cc, hL, oo, h6, hn, eH⟩ := dm_top I ho
  have hi : vp_in (nI t) 8 := vp_in_nI ht (by decide)
  obtain ⟨h, hh⟩ : ∃ h, PC t = h + 1 + 1 := ⟨PC t - 2, by simp [dm_nd] at hn; omega⟩
  refine Or.inl ⟨fl, oc, t + 1, gl, am, ou, FF, dm_un FP t (FP t + 1), dm_un (dm_un (dm_un PC t (h + 1)) t h) t (h + 1), lo, upd pe (t * 6 + h) (pe (t * 6 + h) * pe (t * 6 + (h + 1))), ?_, fun post K c s k => ?_, fun post K c s k => ?_⟩
  · refine dm_Ig I ho (by decide) (by decide) I.1.2.2.2.2.2.2.1 (fun d hd => ?_) ?_
    · simp only [dm_ud hd]
    · rw [dm_us, hh]
      simp [dm_af]
  · unfold wX_run_109 wpX_stopBefore
    repeat (first | refine br_f (by decide) ?_ | refine br_t (by decide) ?_)
    refine nm_r (nI_pred t) ⟨hi, hi, nm_r (dm_uP ht rfl) ?_⟩
    repeat (first | refine br_f (by decide) ?_ | refine br_t (by decide) ?_)
    unfold wX_execute_157 wpX_calculate
    refine dm_xpop ht hh (by omega) ?_
    refine dm_xpop ht dm_us (by omega) ?_
    repeat (first | refine br_f (by decide) ?_ | refine br_t (by decide) ?_)
    refine dm_xpush ht dm_us (by omega) ?_
    repeat (first | refine br_f (by decide) ?_ | refine br_t (by decide) ?_)
    exact nm_e k
  · repeat (first | refine br_f (by decide) ?_ | refine br_t (by decide) ?_)
    refine ⟨hi, nm_r (dm_eFP ht) ?_⟩
    repeat (first | refine br_f (by decide) ?_ | refine br_t (by decide) ?_)
    unfold wY_run_350
    refine dm_ypop ht hh (by omega) ?_
    repeat (first | refine br_f (by decide) ?_ | refine br_t (by decide) ?_)
    unfold wY_run_368
    refine dm_ypop ht dm_us (by omega) ?_
    repeat (first | refine br_f (by decide) ?_ | refine br_t (by decide) ?_)
    refine dm_ypush ht dm_us (by omega) ?_
    repeat (first | refine br_f (by decide) ?_ | refine br_t (by decide) ?_)
    exact nm_e k
theorem dm_go8 (I : dm_I F C D oc (t + 1) 1 O xs H L sl FF FP PC) (ho : O (FF t * 32 + FP t) = 8) (x : Int32) : dm_Go F C D fl oc rs t O xs H L sl gl am ou FF FP PC lo pe 8 x 0 := by
  obtain ⟨ht, a, b, cc, hL, oo, h6, hn, eH⟩ := dm_top I ho
  have hi : vp_in (nI t) 8 := vp_in_nI ht (by decide)
  obtain ⟨h, hh⟩ : ∃ h, PC t = h + 1 + 1 := ⟨PC t - 2, by simp [dm_nd] at hn; omega⟩
  have e61 : ((nI t * 6) + dm_nn PC (nI t).toNatClampNeg) - 1 = nI (t * 6 + (h + 1)) := dm_c61 ht hh
  have p0 : ¬ dm_nn PC (nI t).toNatClampNeg ≤ 0 := by
    rw [nI_clamp (by omega)]
    exact nI_nle (n := PC t) (by omega) (by omega)
  have v6 : vp_in (((nI t * 6) + dm_nn PC (nI t).toNatClampNeg) - 1) 48 := by
    rw [e61]
    exact vp_in_nI (by omega) (by decide)
  by_cases z : pe (t * 6 + (h + 1)) = 0
  · have z' : pe (((nI t * 6) + dm_nn PC (nI t).toNatClampNeg) - 1).toNatClampNeg = 0 := by
      rw [e61, nI_clamp (by omega)]
      exact z
    refine Or.inr ⟨8, (dm_X F C D fl oc rs 1 (t + 1) O xs H L sl gl am ou FF FP PC lo pe), (dm_Y F C D fl oc rs 1 (t + 1) O xs L sl gl am ou FF FP PC lo pe), dm_R I, fun post K c s k => ?_, fun post K c s k => ?_⟩
    · unfold wX_run_109 wpX_stopBefore
      repeat (first | refine br_f (by decide) ?_ | refine br_t (by decide) ?_)
      refine dm_xtop ht hh (by omega) ?_
      refine br_t z ?_
      repeat (first | refine br_f (by decide) ?_ | refine br_t (by decide) ?_)
      exact k
    · repeat (first | refine br_f (by decide) ?_ | refine br_t (by decide) ?_)
      exact ⟨hi, br_f p0 ⟨hi, v6, br_t z' k⟩⟩
  · have z' : ¬ pe (((nI t * 6) + dm_nn PC (nI t).toNatClampNeg) - 1).toNatClampNeg = 0 := by
      rw [e61, nI_clamp (by omega)]
      exact z
    refine Or.inl ⟨fl, oc, t + 1, gl, am, ou, FF, dm_un FP t (FP t + 1), dm_un (dm_un (dm_un PC t (h + 1)) t h) t (h + 1), lo, upd pe (t * 6 + h) (pe (t * 6 + h) / pe (t * 6 + (h + 1))), ?_, fun post K c s k => ?_, fun post K c s k => ?_⟩
    · refine dm_Ig I ho (by decide) (by decide) I.1.2.2.2.2.2.2.1 (fun d hd => ?_) ?_
      · simp only [dm_ud hd]
      · rw [dm_us, hh]
        simp [dm_af]
    · unfold wX_run_109 wpX_stopBefore
      repeat (first | refine br_f (by decide) ?_ | refine br_t (by decide) ?_)
      refine dm_xtop ht hh (by omega) ?_
      refine br_f z ?_
      repeat (first | refine br_f (by decide) ?_ | refine br_t (by decide) ?_)
      refine nm_r (nI_pred t) ⟨hi, hi, nm_r (dm_uP ht rfl) ?_⟩
      repeat (first | refine br_f (by decide) ?_ | refine br_t (by decide) ?_)
      unfold wX_execute_157 wpX_calculate
      refine dm_xpop ht hh (by omega) ?_
      refine dm_xpop ht dm_us (by omega) ?_
      repeat (first | refine br_f (by decide) ?_ | refine br_t (by decide) ?_)
      refine br_f z ⟨z, ?_⟩
      refine dm_xpush ht dm_us (by omega) ?_
      repeat (first | refine br_f (by decide) ?_ | refine br_t (by decide) ?_)
      exact nm_e k
    · repeat (first | refine br_f (by decide) ?_ | refine br_t (by decide) ?_)
      refine ⟨hi, br_f p0 ⟨hi, v6, br_f z' ?_⟩⟩
      repeat (first | refine br_f (by decide) ?_ | refine br_t (by decide) ?_)
      refine ⟨hi, nm_r (dm_eFP ht) ?_⟩
      repeat (first | refine br_f (by decide) ?_ | refine br_t (by decide) ?_)
      unfold wY_run_350
      refine dm_ypop ht hh (by omega) ?_
      repeat (first | refine br_f (by decide) ?_ | refine br_t (by decide) ?_)
      unfold wY_run_368
      refine dm_ypop ht dm_us (by omega) ?_
      repeat (first | refine br_f (by decide) ?_ | refine br_t (by decide) ?_)
      refine br_f z ⟨z, ?_⟩
      refine dm_ypush ht dm_us (by omega) ?_
      repeat (first | refine br_f (by decide) ?_ | refine br_t (by decide) ?_)
      exact nm_e k
theorem dm_go9 (I : dm_I F C D oc (t + 1) 1 O xs H L sl FF FP PC) (ho : O (FF t * 32 + FP t) = 9) (x : Int32) : dm_Go F C D fl oc rs t O xs H L sl gl am ou FF FP PC lo pe 9 x 0 := by
  obtain ⟨ht, a, b, cc, hL, oo, h6, hn, eH⟩ := dm_top I ho
  have hi : vp_in (nI t) 8 := vp_in_nI ht (by decide)
  obtain ⟨h, hh⟩ : ∃ h, PC t = h + 1 + 1 := ⟨PC t - 2, by simp [dm_nd] at hn; omega⟩
  by_cases q : pe (t * 6 + (h + 1)) ≤ pe (t * 6 + h)
  · refine Or.inl ⟨fl, oc, t + 1, gl, am, ou, FF, dm_un FP t (FP t + 1), dm_un (dm_un (dm_un PC t (h + 1)) t h) t (h + 1), lo, upd pe (t * 6 + h) 0, ?_, fun post K c s k => ?_, fun post K c s k => ?_⟩
    · refine dm_Ig I ho (by decide) (by decide) I.1.2.2.2.2.2.2.1 (fun d hd => ?_) ?_
      · simp only [dm_ud hd]
      · rw [dm_us, hh]
        simp [dm_af]
    · unfold wX_run_109 wpX_stopBefore
      repeat (first | refine br_f (by decide) ?_ | refine br_t (by decide) ?_)
      refine nm_r (nI_pred t) ⟨hi, hi, nm_r (dm_uP ht rfl) ?_⟩
      repeat (first | refine br_f (by decide) ?_ | refine br_t (by decide) ?_)
      unfold wX_execute_157 wpX_calculate
      refine dm_xpop ht hh (by omega) ?_
      refine dm_xpop ht dm_us (by omega) ?_
      repeat (first | refine br_f (by decide) ?_ | refine br_t (by decide) ?_)
      refine br_t q ?_
      unfold wX_calculate_74
      refine dm_xpush ht dm_us (by omega) ?_
      repeat (first | refine br_f (by decide) ?_ | refine br_t (by decide) ?_)
      exact nm_e k
    · repeat (first | refine br_f (by decide) ?_ | refine br_t (by decide) ?_)
      refine ⟨hi, nm_r (dm_eFP ht) ?_⟩
      repeat (first | refine br_f (by decide) ?_ | refine br_t (by decide) ?_)
      unfold wY_run_350
      refine dm_ypop ht hh (by omega) ?_
      repeat (first | refine br_f (by decide) ?_ | refine br_t (by decide) ?_)
      unfold wY_run_368
      refine dm_ypop ht dm_us (by omega) ?_
      repeat (first | refine br_f (by decide) ?_ | refine br_t (by decide) ?_)
      refine br_t q ?_
      unfold wY_run_546
      refine dm_ypush ht dm_us (by omega) ?_
      repeat (first | refine br_f (by decide) ?_ | refine br_t (by decide) ?_)
      exact nm_e k
  · refine Or.inl ⟨fl, oc, t + 1, gl, am, ou, FF, dm_un FP t (FP t + 1), dm_un (dm_un (dm_un PC t (h + 1)) t h) t (h + 1), lo, upd pe (t * 6 + h) 1, ?_, fun post K c s k => ?_, fun post K c s k => ?_⟩
    · refine dm_Ig I ho (by decide) (by decide) I.1.2.2.2.2.2.2.1 (fun d hd => ?_) ?_
      · simp only [dm_ud hd]
      · rw [dm_us, hh]
        simp [dm_af]
    · unfold wX_run_109 wpX_stopBefore
      repeat (first | refine br_f (by decide) ?_ | refine br_t (by decide) ?_)
      refine nm_r (nI_pred t) ⟨hi, hi, nm_r (dm_uP ht rfl) ?_⟩
      repeat (first | refine br_f (by decide) ?_ | refine br_t (by decide) ?_)
      unfold wX_execute_157 wpX_calculate
      refine dm_xpop ht hh (by omega) ?_
      refine dm_xpop ht dm_us (by omega) ?_
      repeat (first | refine br_f (by decide) ?_ | refine br_t (by decide) ?_)
      refine br_f q ?_
      unfold wX_calculate_74
      refine dm_xpush ht dm_us (by omega) ?_
      repeat (first | refine br_f (by decide) ?_ | refine br_t (by decide) ?_)
      exact nm_e k
    · repeat (first | refine br_f (by decide) ?_ | refine br_t (by decide) ?_)
      refine ⟨hi, nm_r (dm_eFP ht) ?_⟩
      repeat (first | refine br_f (by decide) ?_ | refine br_t (by decide) ?_)
      unfold wY_run_350
      refine dm_ypop ht hh (by omega) ?_
      repeat (first | refine br_f (by decide) ?_ | refine br_t (by decide) ?_)
      unfold wY_run_368
      refine dm_ypop ht dm_us (by omega) ?_
      repeat (first | refine br_f (by decide) ?_ | refine br_t (by decide) ?_)
      refine br_f q ?_
      unfold wY_run_546
      refine dm_ypush ht dm_us (by omega) ?_
      repeat (first | refine br_f (by decide) ?_ | refine br_t (by decide) ?_)
      exact nm_e k
theorem dm_go10 (I : dm_I F C D oc (t + 1) 1 O xs H L sl FF FP PC) (ho : O (FF t * 32 + FP t) = 10) {m : Nat} (hm : m < L (FF t)) (hb : dm_hb H (FF t) m = 0) : dm_Go F C D fl oc rs t O xs H L sl gl am ou FF FP PC lo pe 10 (nI m) 0 := by
  obtain ⟨ht, a, b, cc, hL, oo, h6, hn, eH⟩ := dm_top I ho
  have hi : vp_in (nI t) 8 := vp_in_nI ht (by decide)
  have h0 : PC t = 0 := by
    simp [dm_nd] at hn
    exact hn
  refine Or.inl ⟨fl, oc, t + 1, gl, am, ou, FF, dm_un (dm_un FP t (FP t + 1)) t m, PC, lo, pe, ?_, fun post K c s k => ?_, fun post K c s k => ?_⟩
  · refine dm_Ij I hm hb (fun d hd => ?_) (fun d hd => rfl) dm_us h0
    simp only [dm_ud hd]
  · unfold wX_run_109 wpX_stopBefore
    repeat (first | refine br_f (by decide) ?_ | refine br_t (by decide) ?_)
    refine nm_r (nI_pred t) ⟨hi, hi, nm_r (dm_uP ht rfl) ?_⟩
    repeat (first | refine br_f (by decide) ?_ | refine br_t (by decide) ?_)
    refine ⟨hi, nm_r (dm_u0 ht m) ?_⟩
    repeat (first | refine br_f (by decide) ?_ | refine br_t (by decide) ?_)
    exact nm_e k
  · repeat (first | refine br_f (by decide) ?_ | refine br_t (by decide) ?_)
    refine ⟨hi, nm_r (dm_eFP ht) ?_⟩
    repeat (first | refine br_f (by decide) ?_ | refine br_t (by decide) ?_)
    refine ⟨hi, nm_r (dm_u0 ht m) ?_⟩
    repeat (first | refine br_f (by decide) ?_ | refine br_t (by decide) ?_)
    exact nm_e k
theorem dm_go11 (I : dm_I F C D oc (t + 1) 1 O xs H L sl FF FP PC) (ho : O (FF t * 32 + FP t) = 11) {m : Nat} (hm : m < L (FF t)) (hb : dm_hb H (FF t) m = 0) : dm_Go F C D fl oc rs t O xs H L sl gl am ou FF FP PC lo pe 11 (nI m) 0 := by
  obtain ⟨ht, a, b, cc, hL, oo, h6, hn, eH⟩ := dm_top I ho
  have hi : vp_in (nI t) 8 := vp_in_nI ht (by decide)
  have hh : PC t = 0 + 1 := by
    simp [dm_nd] at hn
    exact hn
  by_cases z : pe (t * 6 + 0) = 0
  · refine Or.inl ⟨fl, oc, t + 1, gl, am, ou, FF, dm_un FP t (FP t + 1), dm_un PC t 0, lo, pe, ?_, fun post K c s k => ?_, fun post K c s k => ?_⟩
    · refine dm_Ig I ho (by decide) (by decide) I.1.2.2.2.2.2.2.1 (fun d hd => ?_) ?_
      · simp only [dm_ud hd]
      · rw [dm_us, hh]
        simp [dm_af]
    · unfold wX_run_109 wpX_stopBefore
      repeat (first | refine br_f (by decide) ?_ | refine br_t (by decide) ?_)
      refine nm_r (nI_pred t) ⟨hi, hi, nm_r (dm_uP ht rfl) ?_⟩
      repeat (first | refine br_f (by decide) ?_ | refine br_t (by decide) ?_)
      refine dm_xpop ht hh (by omega) ?_
      refine br_t z ?_
      repeat (first | refine br_f (by decide) ?_ | refine br_t (by decide) ?_)
      exact nm_e k
    · repeat (first | refine br_f (by decide) ?_ | refine br_t (by decide) ?_)
      refine ⟨hi, nm_r (dm_eFP ht) ?_⟩
      repeat (first | refine br_f (by decide) ?_ | refine br_t (by decide) ?_)
      unfold wY_run_350
      refine dm_ypop ht hh (by omega) ?_
      repeat (first | refine br_f (by decide) ?_ | refine br_t (by decide) ?_)
      refine br_t z ?_
      repeat (first | refine br_f (by decide) ?_ | refine br_t (by decide) ?_)
      exact nm_e k
  · refine Or.inl ⟨fl, oc, t + 1, gl, am, ou, FF, dm_un (dm_un FP t (FP t + 1)) t m, dm_un PC t 0, lo, pe, ?_, fun post K c s k => ?_, fun post K c s k => ?_⟩
    · refine dm_Ij I hm hb (fun d hd => ?_) (fun d hd => ?_) dm_us dm_us
      · simp only [dm_ud hd]
      · simp only [dm_ud hd]
    · unfold wX_run_109 wpX_stopBefore
      repeat (first | refine br_f (by decide) ?_ | refine br_t (by decide) ?_)
      refine nm_r (nI_pred t) ⟨hi, hi, nm_r (dm_uP ht rfl) ?_⟩
      repeat (first | refine br_f (by decide) ?_ | refine br_t (by decide) ?_)
      refine dm_xpop ht hh (by omega) ?_
      refine br_f z ⟨hi, nm_r (dm_u0 ht m) ?_⟩
      repeat (first | refine br_f (by decide) ?_ | refine br_t (by decide) ?_)
      exact nm_e k
    · repeat (first | refine br_f (by decide) ?_ | refine br_t (by decide) ?_)
      refine ⟨hi, nm_r (dm_eFP ht) ?_⟩
      repeat (first | refine br_f (by decide) ?_ | refine br_t (by decide) ?_)
      unfold wY_run_350
      refine dm_ypop ht hh (by omega) ?_
      repeat (first | refine br_f (by decide) ?_ | refine br_t (by decide) ?_)
      refine br_f z ?_
      refine ⟨hi, nm_r (dm_u0 ht m) ?_⟩
      repeat (first | refine br_f (by decide) ?_ | refine br_t (by decide) ?_)
      exact nm_e k
theorem dm_go12 (I : dm_I F C D oc (t + 1) 1 O xs H L sl FF FP PC) (ho : O (FF t * 32 + FP t) = 12) {m : Nat} (hm : m < F) : dm_Go F C D fl oc rs t O xs H L sl gl am ou FF FP PC lo pe 12 (nI m) 1 := by
  obtain ⟨ht, a, b, cc, hL, oo, h6, hn, eH⟩ := dm_top I ho
  have hi : vp_in (nI t) 8 := vp_in_nI ht (by decide)
  have hF : F ≤ 8 := I.1.2.1
  have hD : D ≤ 8 := I.1.2.2.2.2.2.1
  have hv : vp_in (nI m) 8 := vp_in_nI (by omega) (by decide)
  have h5 : PC t < 6 := by
    simp [dm_nd] at hn
    omega
  by_cases z : sl (nI m).toNatClampNeg = 0
  · refine Or.inr ⟨5, (dm_X F C D fl oc rs 1 (t + 1) O xs H L sl gl am ou FF FP PC lo pe), (dm_Y F C D fl oc rs 1 (t + 1) O xs L sl gl am ou FF FP PC lo pe), dm_R I, fun post K c s k => ?_, fun post K c s k => ?_⟩
    · unfold wX_run_109 wpX_stopBefore
      repeat (first | refine br_f (by decide) ?_ | refine br_t (by decide) ?_)
      refine ⟨hv, br_t z ?_⟩
      repeat (first | refine br_f (by decide) ?_ | refine br_t (by decide) ?_)
      exact k
    · repeat (first | refine br_f (by decide) ?_ | refine br_t (by decide) ?_)
      exact ⟨hv, br_t z k⟩
  by_cases q : t + 1 < D
  · have q' : nI (t + 1) < nI D := nI_lt q (by omega)
    have z2 : ¬ sl m = 0 := by
      rw [nI_clamp (by omega)] at z
      exact z
    refine Or.inl ⟨fl, oc, t + 2, gl, am, ou, dm_un FF (t + 1) m, dm_un (dm_un FP t (FP t + 1)) (t + 1) 0, dm_un (PC) (t + 1) 0, dm_nl lo (t + 1) (0) (0), pe, ?_, fun post K c s k => ?_, fun post K c s k => ?_⟩
    · refine dm_Ic I ho (by decide) (by decide) q hm z2 (fun d hd => rfl) ?_
      simp [dm_af]
    · unfold wX_run_109 wpX_stopBefore
      repeat (first | refine br_f (by decide) ?_ | refine br_t (by decide) ?_)
      refine ⟨hv, br_f z ?_⟩
      repeat (first | refine br_f (by decide) ?_ | refine br_t (by decide) ?_)
      refine br_t q' ?_
      repeat (first | refine br_f (by decide) ?_ | refine br_t (by decide) ?_)
      refine nm_r (nI_pred t) ⟨hi, hi, nm_r (dm_uP ht rfl) ?_⟩
      repeat (first | refine br_f (by decide) ?_ | refine br_t (by decide) ?_)
      repeat (first | refine br_f (by decide) ?_ | refine br_t (by decide) ?_)
      unfold wX_enterFunction_29
      refine dm_xadd (t := t + 1) (by omega) ?_
      repeat (first | refine br_f (by decide) ?_ | refine br_t (by decide) ?_)
      exact nm_e k
    · repeat (first | refine br_f (by decide) ?_ | refine br_t (by decide) ?_)
      refine ⟨hv, br_f z ?_⟩
      repeat (first | refine br_f (by decide) ?_ | refine br_t (by decide) ?_)
      refine br_t q' ?_
      repeat (first | refine br_f (by decide) ?_ | refine br_t (by decide) ?_)
      refine ⟨hi, nm_r (dm_eFP ht) ?_⟩
      repeat (first | refine br_f (by decide) ?_ | refine br_t (by decide) ?_)
      refine dm_yadd (t := t + 1) (by omega) ?_
      repeat (first | refine br_f (by decide) ?_ | refine br_t (by decide) ?_)
      exact nm_e k
  · have q' : ¬ nI (t + 1) < nI D := nI_nlt (by omega) (by omega)
    refine Or.inr ⟨9, (dm_X F C D fl oc rs 1 (t + 1) O xs H L sl gl am ou FF FP PC lo pe), (dm_Y F C D fl oc rs 1 (t + 1) O xs L sl gl am ou FF FP PC lo pe), dm_R I, fun post K c s k => ?_, fun post K c s k => ?_⟩
    · unfold wX_run_109 wpX_stopBefore
      repeat (first | refine br_f (by decide) ?_ | refine br_t (by decide) ?_)
      refine ⟨hv, br_f z ?_⟩
      repeat (first | refine br_f (by decide) ?_ | refine br_t (by decide) ?_)
      refine br_f q' ?_
      repeat (first | refine br_f (by decide) ?_ | refine br_t (by decide) ?_)
      exact k
    · repeat (first | refine br_f (by decide) ?_ | refine br_t (by decide) ?_)
      refine ⟨hv, br_f z ?_⟩
      repeat (first | refine br_f (by decide) ?_ | refine br_t (by decide) ?_)
      exact br_f q' k
theorem dm_go13 (I : dm_I F C D oc (t + 1) 1 O xs H L sl FF FP PC) (ho : O (FF t * 32 + FP t) = 13) {m : Nat} (hm : m < F) : dm_Go F C D fl oc rs t O xs H L sl gl am ou FF FP PC lo pe 13 (nI m) 1 := by
  obtain ⟨ht, a, b, cc, hL, oo, h6, hn, eH⟩ := dm_top I ho
  have hi : vp_in (nI t) 8 := vp_in_nI ht (by decide)
  have hF : F ≤ 8 := I.1.2.1
  have hD : D ≤ 8 := I.1.2.2.2.2.2.1
  have hv : vp_in (nI m) 8 := vp_in_nI (by omega) (by decide)
  obtain ⟨h, hh⟩ : ∃ h, PC t = h + 1 := ⟨PC t - 1, by simp [dm_nd] at hn; omega⟩
  by_cases z : sl (nI m).toNatClampNeg = 0
  · refine Or.inr ⟨5, (dm_X F C D fl oc rs 1 (t + 1) O xs H L sl gl am ou FF FP PC lo pe), (dm_Y F C D fl oc rs 1 (t + 1) O xs L sl gl am ou FF FP PC lo pe), dm_R I, fun post K c s k => ?_, fun post K c s k => ?_⟩
    · unfold wX_run_109 wpX_stopBefore
      repeat (first | refine br_f (by decide) ?_ | refine br_t (by decide) ?_)
      refine ⟨hv, br_t z ?_⟩
      repeat (first | refine br_f (by decide) ?_ | refine br_t (by decide) ?_)
      exact k
    · repeat (first | refine br_f (by decide) ?_ | refine br_t (by decide) ?_)
      exact ⟨hv, br_t z k⟩
  by_cases q : t + 1 < D
  · have q' : nI (t + 1) < nI D := nI_lt q (by omega)
    have z2 : ¬ sl m = 0 := by
      rw [nI_clamp (by omega)] at z
      exact z
    refine Or.inl ⟨fl, oc, t + 2, gl, am, ou, dm_un FF (t + 1) m, dm_un (dm_un FP t (FP t + 1)) (t + 1) 0, dm_un (dm_un PC t h) (t + 1) 0, dm_nl lo (t + 1) (pe (t * 6 + h)) (0), pe, ?_, fun post K c s k => ?_, fun post K c s k => ?_⟩
    · refine dm_Ic I ho (by decide) (by decide) q hm z2 (fun d hd => dm_ud hd) ?_
      rw [dm_us, hh]
      simp [dm_af]
    · unfold wX_run_109 wpX_stopBefore
      repeat (first | refine br_f (by decide) ?_ | refine br_t (by decide) ?_)
      refine ⟨hv, br_f z ?_⟩
      repeat (first | refine br_f (by decide) ?_ | refine br_t (by decide) ?_)
      refine br_t q' ?_
      repeat (first | refine br_f (by decide) ?_ | refine br_t (by decide) ?_)
      refine nm_r (nI_pred t) ⟨hi, hi, nm_r (dm_uP ht rfl) ?_⟩
      repeat (first | refine br_f (by decide) ?_ | refine br_t (by decide) ?_)
      repeat (first | refine br_f (by decide) ?_ | refine br_t (by decide) ?_)
      refine dm_xpop ht hh (by omega) ?_
      unfold wX_enterFunction_29
      refine dm_xadd (t := t + 1) (by omega) ?_
      repeat (first | refine br_f (by decide) ?_ | refine br_t (by decide) ?_)
      exact nm_e k
    · repeat (first | refine br_f (by decide) ?_ | refine br_t (by decide) ?_)
      refine ⟨hv, br_f z ?_⟩
      repeat (first | refine br_f (by decide) ?_ | refine br_t (by decide) ?_)
      refine br_t q' ?_
      repeat (first | refine br_f (by decide) ?_ | refine br_t (by decide) ?_)
      refine ⟨hi, nm_r (dm_eFP ht) ?_⟩
      repeat (first | refine br_f (by decide) ?_ | refine br_t (by decide) ?_)
      unfold wY_run_368
      refine dm_ypop ht hh (by omega) ?_
      repeat (first | refine br_f (by decide) ?_ | refine br_t (by decide) ?_)
      refine dm_yadd (t := t + 1) (by omega) ?_
      repeat (first | refine br_f (by decide) ?_ | refine br_t (by decide) ?_)
      exact nm_e k
  · have q' : ¬ nI (t + 1) < nI D := nI_nlt (by omega) (by omega)
    refine Or.inr ⟨9, (dm_X F C D fl oc rs 1 (t + 1) O xs H L sl gl am ou FF FP PC lo pe), (dm_Y F C D fl oc rs 1 (t + 1) O xs L sl gl am ou FF FP PC lo pe), dm_R I, fun post K c s k => ?_, fun post K c s k => ?_⟩
    · unfold wX_run_109 wpX_stopBefore
      repeat (first | refine br_f (by decide) ?_ | refine br_t (by decide) ?_)
      refine ⟨hv, br_f z ?_⟩
      repeat (first | refine br_f (by decide) ?_ | refine br_t (by decide) ?_)
      refine br_f q' ?_
      repeat (first | refine br_f (by decide) ?_ | refine br_t (by decide) ?_)
      exact k
    · repeat (first | refine br_f (by decide) ?_ | refine br_t (by decide) ?_)
      refine ⟨hv, br_f z ?_⟩
      repeat (first | refine br_f (by decide) ?_ | refine br_t (by decide) ?_)
      exact br_f q' k
theorem dm_go14 (I : dm_I F C D oc (t + 1) 1 O xs H L sl FF FP PC) (ho : O (FF t * 32 + FP t) = 14) {m : Nat} (hm : m < F) : dm_Go F C D fl oc rs t O xs H L sl gl am ou FF FP PC lo pe 14 (nI m) 1 := by
  obtain ⟨ht, a, b, cc, hL, oo, h6, hn, eH⟩ := dm_top I ho
  have hi : vp_in (nI t) 8 := vp_in_nI ht (by decide)
  have hF : F ≤ 8 := I.1.2.1
  have hD : D ≤ 8 := I.1.2.2.2.2.2.1
  have hv : vp_in (nI m) 8 := vp_in_nI (by omega) (by decide)
  obtain ⟨h, hh⟩ : ∃ h, PC t = h + 1 + 1 := ⟨PC t - 2, by simp [dm_nd] at hn; omega⟩
  by_cases z : sl (nI m).toNatClampNeg = 0
  · refine Or.inr ⟨5, (dm_X F C D fl oc rs 1 (t + 1) O xs H L sl gl am ou FF FP PC lo pe), (dm_Y F C D fl oc rs 1 (t + 1) O xs L sl gl am ou FF FP PC lo pe), dm_R I, fun post K c s k => ?_, fun post K c s k => ?_⟩
    · unfold wX_run_109 wpX_stopBefore
      repeat (first | refine br_f (by decide) ?_ | refine br_t (by decide) ?_)
      refine ⟨hv, br_t z ?_⟩
      repeat (first | refine br_f (by decide) ?_ | refine br_t (by decide) ?_)
      exact k
    · repeat (first | refine br_f (by decide) ?_ | refine br_t (by decide) ?_)
      exact ⟨hv, br_t z k⟩
  by_cases q : t + 1 < D
  · have q' : nI (t + 1) < nI D := nI_lt q (by omega)
    have z2 : ¬ sl m = 0 := by
      rw [nI_clamp (by omega)] at z
      exact z
    refine Or.inl ⟨fl, oc, t + 2, gl, am, ou, dm_un FF (t + 1) m, dm_un (dm_un FP t (FP t + 1)) (t + 1) 0, dm_un (dm_un (dm_un PC t (h + 1)) t h) (t + 1) 0, dm_nl lo (t + 1) (pe (t * 6 + h)) (pe (t * 6 + (h + 1))), pe, ?_, fun post K c s k => ?_, fun post K c s k => ?_⟩
    · refine dm_Ic I ho (by decide) (by decide) q hm z2 (fun d hd => by rw [dm_ud hd, dm_ud hd]) ?_
      rw [dm_us, hh]
      simp [dm_af]
    · unfold wX_run_109 wpX_stopBefore
      repeat (first | refine br_f (by decide) ?_ | refine br_t (by decide) ?_)
      refine ⟨hv, br_f z ?_⟩
      repeat (first | refine br_f (by decide) ?_ | refine br_t (by decide) ?_)
      refine br_t q' ?_
      repeat (first | refine br_f (by decide) ?_ | refine br_t (by decide) ?_)
      refine nm_r (nI_pred t) ⟨hi, hi, nm_r (dm_uP ht rfl) ?_⟩
      repeat (first | refine br_f (by decide) ?_ | refine br_t (by decide) ?_)
      repeat (first | refine br_f (by decide) ?_ | refine br_t (by decide) ?_)
      refine dm_xpop ht hh (by omega) ?_
      repeat (first | refine br_f (by decide) ?_ | refine br_t (by decide) ?_)
      refine dm_xpop ht dm_us (by omega) ?_
      unfold wX_enterFunction_29
      refine dm_xadd (t := t + 1) (by omega) ?_
      repeat (first | refine br_f (by decide) ?_ | refine br_t (by decide) ?_)
      exact nm_e k
    · repeat (first | refine br_f (by decide) ?_ | refine br_t (by decide) ?_)
      refine ⟨hv, br_f z ?_⟩
      repeat (first | refine br_f (by decide) ?_ | refine br_t (by decide) ?_)
      refine br_t q' ?_
      repeat (first | refine br_f (by decide) ?_ | refine br_t (by decide) ?_)
      refine ⟨hi, nm_r (dm_eFP ht) ?_⟩
      repeat (first | refine br_f (by decide) ?_ | refine br_t (by decide) ?_)
      unfold wY_run_350
      refine dm_ypop ht hh (by omega) ?_
      repeat (first | refine br_f (by decide) ?_ | refine br_t (by decide) ?_)
      unfold wY_run_368
      refine dm_ypop ht dm_us (by omega) ?_
      repeat (first | refine br_f (by decide) ?_ | refine br_t (by decide) ?_)
      refine dm_yadd (t := t + 1) (by omega) ?_
      repeat (first | refine br_f (by decide) ?_ | refine br_t (by decide) ?_)
      exact nm_e k
  · have q' : ¬ nI (t + 1) < nI D := nI_nlt (by omega) (by omega)
    refine Or.inr ⟨9, (dm_X F C D fl oc rs 1 (t + 1) O xs H L sl gl am ou FF FP PC lo pe), (dm_Y F C D fl oc rs 1 (t + 1) O xs L sl gl am ou FF FP PC lo pe), dm_R I, fun post K c s k => ?_, fun post K c s k => ?_⟩
    · unfold wX_run_109 wpX_stopBefore
      repeat (first | refine br_f (by decide) ?_ | refine br_t (by decide) ?_)
      refine ⟨hv, br_f z ?_⟩
      repeat (first | refine br_f (by decide) ?_ | refine br_t (by decide) ?_)
      refine br_f q' ?_
      repeat (first | refine br_f (by decide) ?_ | refine br_t (by decide) ?_)
      exact k
    · repeat (first | refine br_f (by decide) ?_ | refine br_t (by decide) ?_)
      refine ⟨hv, br_f z ?_⟩
      repeat (first | refine br_f (by decide) ?_ | refine br_t (by decide) ?_)
      exact br_f q' k
theorem dm_go15 (I : dm_I F C D oc (t + 1) 1 O xs H L sl FF FP PC) (ho : O (FF t * 32 + FP t) = 15) (x : Int32) : dm_Go F C D fl oc rs t O xs H L sl gl am ou FF FP PC lo pe 15 x 0 := by
  obtain ⟨ht, a, b, cc, hL, oo, h6, hn, eH⟩ := dm_top I ho
  have hi : vp_in (nI t) 8 := vp_in_nI ht (by decide)
  obtain ⟨h, hh⟩ : ∃ h, PC t = h + 1 := ⟨PC t - 1, by simp [dm_nd] at hn; omega⟩
  have ho16 : oc ≤ 16 := I.1.2.2.2.2.2.2.1
  by_cases q : oc < 16
  · have q' : nI oc < 16 := nI_lt (b := 16) q (by decide)
    refine Or.inl ⟨fl, oc + 1, t + 1, gl, am, upd ou (nI oc).toNatClampNeg (pe (t * 6 + h)), FF, dm_un FP t (FP t + 1), dm_un PC t h, lo, pe, ?_, fun post K c s k => ?_, fun post K c s k => ?_⟩
    · refine dm_Ig I ho (by decide) (by decide) (by omega) (fun d hd => ?_) ?_
      · simp only [dm_ud hd]
      · rw [dm_us, hh]
        simp [dm_af]
    · unfold wX_run_109 wpX_stopBefore
      repeat (first | refine br_f (by decide) ?_ | refine br_t (by decide) ?_)
      refine br_t q' ?_
      repeat (first | refine br_f (by decide) ?_ | refine br_t (by decide) ?_)
      refine nm_r (nI_pred t) ⟨hi, hi, nm_r (dm_uP ht rfl) ?_⟩
      repeat (first | refine br_f (by decide) ?_ | refine br_t (by decide) ?_)
      unfold wX_execute_109 wpX_deliver
      refine dm_xpop ht hh (by omega) ?_
      repeat (first | refine br_f (by decide) ?_ | refine br_t (by decide) ?_)
      refine ⟨vp_in_nI q (by decide), nm_e (nm_r (nI_1 oc) ?_)⟩
      repeat (first | refine br_f (by decide) ?_ | refine br_t (by decide) ?_)
      exact nm_e k
    · repeat (first | refine br_f (by decide) ?_ | refine br_t (by decide) ?_)
      refine br_t q' ?_
      repeat (first | refine br_f (by decide) ?_ | refine br_t (by decide) ?_)
      refine ⟨hi, nm_r (dm_eFP ht) ?_⟩
      repeat (first | refine br_f (by decide) ?_ | refine br_t (by decide) ?_)
      unfold wY_run_350
      refine dm_ypop ht hh (by omega) ?_
      repeat (first | refine br_f (by decide) ?_ | refine br_t (by decide) ?_)
      refine nm_r (nI_1 oc) ⟨vp_in_nI q (by decide), nm_e ?_⟩
      repeat (first | refine br_f (by decide) ?_ | refine br_t (by decide) ?_)
      exact nm_e k
  · have q' : ¬ nI oc < 16 := nI_nlt (b := 16) (by omega) (by omega)
    refine Or.inr ⟨7, (dm_X F C D fl oc rs 1 (t + 1) O xs H L sl gl am ou FF FP PC lo pe), (dm_Y F C D fl oc rs 1 (t + 1) O xs L sl gl am ou FF FP PC lo pe), dm_R I, fun post K c s k => ?_, fun post K c s k => ?_⟩
    · unfold wX_run_109 wpX_stopBefore
      repeat (first | refine br_f (by decide) ?_ | refine br_t (by decide) ?_)
      refine br_f q' ?_
      repeat (first | refine br_f (by decide) ?_ | refine br_t (by decide) ?_)
      exact k
    · repeat (first | refine br_f (by decide) ?_ | refine br_t (by decide) ?_)
      exact br_f q' k
theorem dm_go16 (I : dm_I F C D oc (t + 1) 1 O xs H L sl FF FP PC) (ho : O (FF t * 32 + FP t) = 16) (x : Int32) : dm_Go F C D fl oc rs t O xs H L sl gl am ou FF FP PC lo pe 16 x 0 := by
  obtain ⟨ht, a, b, cc, hL, oo, h6, hn, eH⟩ := dm_top I ho
  have hi : vp_in (nI t) 8 := vp_in_nI ht (by decide)
  have hh : PC t = 0 + 1 := by
    simp [dm_nd] at hn
    exact hn
  cases t with
  | zero =>
    refine Or.inr ⟨10, (dm_X F C D fl oc (pe (0 * 6 + 0)) 2 0 O xs H L sl gl am ou FF (dm_un FP 0 (FP 0 + 1)) (dm_un PC 0 0) lo pe), (dm_Y F C D fl oc (pe (0 * 6 + 0)) 2 0 O xs L sl gl am ou FF (dm_un FP 0 (FP 0 + 1)) (dm_un PC 0 0) lo pe), dm_R ?_, fun post K c s k => ?_, fun post K c s k => ?_⟩
    · obtain ⟨⟨a1, a2, a3, a4, a5, a6, a7, a8⟩, b1, KK, S, TT⟩ := I
      exact ⟨⟨a1, a2, a3, a4, a5, a6, a7, Nat.zero_le _⟩, Or.inr ⟨by decide, rfl⟩, KK, S, dm_FK0⟩
    · unfold wX_run_109 wpX_stopBefore
      repeat (first | refine br_f (by decide) ?_ | refine br_t (by decide) ?_)
      refine nm_r (nI_pred 0) ⟨hi, hi, nm_r (dm_uP ht rfl) ?_⟩
      repeat (first | refine br_f (by decide) ?_ | refine br_t (by decide) ?_)
      unfold wpX_leaveFunction
      refine dm_xpop ht hh (by omega) ?_
      refine nm_r (nI_pred 0) (br_t (by decide) ?_)
      repeat (first | refine br_f (by decide) ?_ | refine br_t (by decide) ?_)
      exact k
    · repeat (first | refine br_f (by decide) ?_ | refine br_t (by decide) ?_)
      refine ⟨hi, nm_r (dm_eFP ht) ?_⟩
      repeat (first | refine br_f (by decide) ?_ | refine br_t (by decide) ?_)
      unfold wY_run_350
      refine dm_ypop ht hh (by omega) ?_
      repeat (first | refine br_f (by decide) ?_ | refine br_t (by decide) ?_)
      refine nm_r (nI_pred 0) (br_t (by decide) ?_)
      exact k
  | succ q =>
    have p5 : PC q < 6 := dm_pcr I
    have e5 : dm_un PC (q + 1) 0 q = PC q := dm_ud (by omega)
    refine Or.inl ⟨fl, oc, q + 1, gl, am, ou, FF, dm_un FP (q + 1) (FP (q + 1) + 1), dm_un (dm_un PC (q + 1) 0) q (PC q + 1), lo, upd pe (q * 6 + PC q) (pe ((q + 1) * 6 + 0)), ?_, fun post K c s k => ?_, fun post K c s k => ?_⟩
    · refine dm_Ir I (fun d hd => dm_ud (by omega)) (fun d hd => ?_) dm_us
      rw [dm_ud (by omega), dm_ud (by omega)]
    · unfold wX_run_109 wpX_stopBefore
      repeat (first | refine br_f (by decide) ?_ | refine br_t (by decide) ?_)
      refine nm_r (nI_pred (q + 1)) ⟨hi, hi, nm_r (dm_uP ht rfl) ?_⟩
      repeat (first | refine br_f (by decide) ?_ | refine br_t (by decide) ?_)
      unfold wpX_leaveFunction
      refine dm_xpop ht hh (by omega) ?_
      refine nm_r (nI_pred (q + 1)) (br_f (nI_nle (by omega) (by omega)) ?_)
      refine dm_xpush (t := q) (by omega) e5 p5 ?_
      repeat (first | refine br_f (by decide) ?_ | refine br_t (by decide) ?_)
      exact nm_e k
    · repeat (first | refine br_f (by decide) ?_ | refine br_t (by decide) ?_)
      refine ⟨hi, nm_r (dm_eFP ht) ?_⟩
      repeat (first | refine br_f (by decide) ?_ | refine br_t (by decide) ?_)
      unfold wY_run_350
      refine dm_ypop ht hh (by omega) ?_
      repeat (first | refine br_f (by decide) ?_ | refine br_t (by decide) ?_)
      refine nm_r (nI_pred (q + 1)) (br_f (nI_ne0 (by omega) (by omega)) ?_)
      refine dm_ypush (t := q) (by omega) e5 p5 ?_
      exact nm_e k
end
end DMI
end
section
section DMJ
/-! J: the loop of a run -/
def dm_cost (o : Nat) (x p : Int32) : Prop := (12 ≤ o ∧ o ≤ 14) ∨ ((o = 10 ∨ o = 11) ∧ ¬ p < x)
def dm_fg (o : Nat) : Int32 := if 12 ≤ o ∧ o ≤ 14 then 1 else 0
section
variable {F C D : Nat} {fl : Int32} {oc : Nat} {rs st : Int32} {fc : Nat} {O : Nat → Nat} {xs : Nat → Int32} {H L : Nat → Nat} {sl gl am ou : Nat → Int32} {FF FP PC : Nat → Nat} {lo pe : Nat → Int32} {t o : Nat}
theorem dm_goAll (I : dm_I F C D oc (t + 1) 1 O xs H L sl FF FP PC) : ∃ o, o ≤ 16 ∧ O (FF t * 32 + FP t) = o ∧ dm_Go F C D fl oc rs t O xs H L sl gl am ou FF FP PC lo pe (nI o) (xs (FF t * 32 + FP t)) (dm_fg o) := by
  obtain ⟨o, ho⟩ : ∃ o, O (FF t * 32 + FP t) = o := ⟨_, rfl⟩
  obtain ⟨ht, a, b, cc, hL, oo, h6, hn, eH⟩ := dm_top I ho
  have o16 : o ≤ 16 := by
    have := ((I.2.2.1 (FF t) a).2 (FP t) cc).1
    omega
  have hC : 8 ≤ C := I.1.2.2.1
  have hF : 2 ≤ F := I.1.1
  have sj := (I.2.2.2.1 (FF t) a b).2.2 (FP t) cc
  refine ⟨o, o16, ho, ?_⟩
  have hc : o = 0 ∨ o = 1 ∨ o = 2 ∨ o = 3 ∨ o = 4 ∨ o = 5 ∨ o = 6 ∨ o = 7 ∨ o = 8 ∨ o = 9 ∨ o = 10 ∨ o = 11 ∨ o = 12 ∨ o = 13 ∨ o = 14 ∨ o = 15 ∨ o = 16 := by omega
  rcases hc with rfl | rfl | rfl | rfl | rfl | rfl | rfl | rfl | rfl | rfl | rfl | rfl | rfl | rfl | rfl | rfl | rfl
  · exact dm_go0 I ho _
  · unfold dm_oo at oo
    rw [show dm_lim F C 1 = 4 from by simp [dm_lim]] at oo
    obtain ⟨m, hm, ex⟩ := oo (by omega)
    rw [ex]
    exact dm_go1 I ho hm
  · unfold dm_oo at oo
    rw [show dm_lim F C 2 = 4 from by simp [dm_lim]] at oo
    obtain ⟨m, hm, ex⟩ := oo (by omega)
    rw [ex]
    exact dm_go2 I ho hm
  · unfold dm_oo at oo
    rw [show dm_lim F C 3 = 8 from by simp [dm_lim]] at oo
    obtain ⟨m, hm, ex⟩ := oo (by omega)
    rw [ex]
    exact dm_go3 I ho hm
  · unfold dm_oo at oo
    rw [show dm_lim F C 4 = 8 from by simp [dm_lim]] at oo
    obtain ⟨m, hm, ex⟩ := oo (by omega)
    rw [ex]
    exact dm_go4 I ho hm
  · exact dm_go5 I ho _
  · exact dm_go6 I ho _
  · exact dm_go7 I ho _
  · exact dm_go8 I ho _
  · exact dm_go9 I ho _
  · obtain ⟨m, hm, ex, hb⟩ := sj (Or.inl ho)
    rw [ex]
    exact dm_go10 I ho hm hb
  · obtain ⟨m, hm, ex, hb⟩ := sj (Or.inr ho)
    rw [ex]
    exact dm_go11 I ho hm hb
  · unfold dm_oo at oo
    rw [show dm_lim F C 12 = F from by simp [dm_lim]] at oo
    obtain ⟨m, hm, ex⟩ := oo (by omega)
    rw [ex]
    exact dm_go12 I ho hm
  · unfold dm_oo at oo
    rw [show dm_lim F C 13 = F from by simp [dm_lim]] at oo
    obtain ⟨m, hm, ex⟩ := oo (by omega)
    rw [ex]
    exact dm_go13 I ho hm
  · unfold dm_oo at oo
    rw [show dm_lim F C 14 = F from by simp [dm_lim]] at oo
    obtain ⟨m, hm, ex⟩ := oo (by omega)
    rw [ex]
    exact dm_go14 I ho hm
  · exact dm_go15 I ho _
  · exact dm_go16 I ho _
theorem dm_xc1 {post : Int32 → Prop} {x p : Int32} (ho : o ≤ 16) (h : dm_cost o x p) (q : post 1) : wpX_costsCredit post (nI o) x p := by
  have hc : o = 0 ∨ o = 1 ∨ o = 2 ∨ o = 3 ∨ o = 4 ∨ o = 5 ∨ o = 6 ∨ o = 7 ∨ o = 8 ∨ o = 9 ∨ o = 10 ∨ o = 11 ∨ o = 12 ∨ o = 13 ∨ o = 14 ∨ o = 15 ∨ o = 16 := by omega
  unfold dm_cost at h
  unfold wpX_costsCredit
  rcases hc with rfl | rfl | rfl | rfl | rfl | rfl | rfl | rfl | rfl | rfl | rfl | rfl | rfl | rfl | rfl | rfl | rfl
  · omega
  · omega
  · omega
  · omega
  · omega
  · omega
  · omega
  · omega
  · omega
  · omega
  · have h' : ¬ p < x := by
      rcases h with h | h
      · omega
      · exact h.2
    repeat (first | refine br_f (by decide) ?_ | refine br_t (by decide) ?_)
    exact br_f h' q
  · have h' : ¬ p < x := by
      rcases h with h | h
      · omega
      · exact h.2
    repeat (first | refine br_f (by decide) ?_ | refine br_t (by decide) ?_)
    exact br_f h' q
  · repeat (first | refine br_f (by decide) ?_ | refine br_t (by decide) ?_)
    exact q
  · repeat (first | refine br_f (by decide) ?_ | refine br_t (by decide) ?_)
    exact q
  · repeat (first | refine br_f (by decide) ?_ | refine br_t (by decide) ?_)
    exact q
  · omega
  · omega
theorem dm_xc0 {post : Int32 → Prop} {x p : Int32} (ho : o ≤ 16) (h : ¬ dm_cost o x p) (q : post 0) : wpX_costsCredit post (nI o) x p := by
  have hc : o = 0 ∨ o = 1 ∨ o = 2 ∨ o = 3 ∨ o = 4 ∨ o = 5 ∨ o = 6 ∨ o = 7 ∨ o = 8 ∨ o = 9 ∨ o = 10 ∨ o = 11 ∨ o = 12 ∨ o = 13 ∨ o = 14 ∨ o = 15 ∨ o = 16 := by omega
  unfold dm_cost at h
  unfold wpX_costsCredit
  rcases hc with rfl | rfl | rfl | rfl | rfl | rfl | rfl | rfl | rfl | rfl | rfl | rfl | rfl | rfl | rfl | rfl | rfl
  · repeat (first | refine br_f (by decide) ?_ | refine br_t (by decide) ?_)
    exact q
  · repeat (first | refine br_f (by decide) ?_ | refine br_t (by decide) ?_)
    exact q
  · repeat (first | refine br_f (by decide) ?_ | refine br_t (by decide) ?_)
    exact q
  · repeat (first | refine br_f (by decide) ?_ | refine br_t (by decide) ?_)
    exact q
  · repeat (first | refine br_f (by decide) ?_ | refine br_t (by decide) ?_)
    exact q
  · repeat (first | refine br_f (by decide) ?_ | refine br_t (by decide) ?_)
    exact q
  · repeat (first | refine br_f (by decide) ?_ | refine br_t (by decide) ?_)
    exact q
  · repeat (first | refine br_f (by decide) ?_ | refine br_t (by decide) ?_)
    exact q
  · repeat (first | refine br_f (by decide) ?_ | refine br_t (by decide) ?_)
    exact q
  · repeat (first | refine br_f (by decide) ?_ | refine br_t (by decide) ?_)
    exact q
  · have h' : p < x := by
      by_cases z : p < x
      · exact z
      · exact absurd (Or.inr ⟨by decide, z⟩) h
    repeat (first | refine br_f (by decide) ?_ | refine br_t (by decide) ?_)
    exact br_t h' q
  · have h' : p < x := by
      by_cases z : p < x
      · exact z
      · exact absurd (Or.inr ⟨by decide, z⟩) h
    repeat (first | refine br_f (by decide) ?_ | refine br_t (by decide) ?_)
    exact br_t h' q
  · exact absurd (Or.inl ⟨by decide, by decide⟩) h
  · exact absurd (Or.inl ⟨by decide, by decide⟩) h
  · exact absurd (Or.inl ⟨by decide, by decide⟩) h
  · repeat (first | refine br_f (by decide) ?_ | refine br_t (by decide) ?_)
    exact q
  · repeat (first | refine br_f (by decide) ?_ | refine br_t (by decide) ?_)
    exact q
/-- X's way to the instruction -/
theorem dm_xrun {post : Int32 → SX → Prop} {n s : Nat} {c x : Int32} (I : dm_I F C D oc (t + 1) 1 O xs H L sl FF FP PC) (hs : s < 20000) (o16 : o ≤ 16) (ho : O (FF t * 32 + FP t) = o) (hx : xs (FF t * 32 + FP t) = x)
    (g0 : ¬ dm_cost o x (nI (FP t)) → wX_run_109 post (wX_run_30 post n) c (nI s) (nI o) x (nI F) (nI C) (nI D) fl (nI oc) rs 1 (nI (t + 1)) (dm_nn O) xs (dm_nn H) (dm_nn L) sl gl am ou (dm_nn FF) (dm_nn FP) (dm_nn PC) lo pe)
    (g1 : dm_cost o x (nI (FP t)) → c = 0 → post 6 (dm_X F C D fl oc rs 1 (t + 1) O xs H L sl gl am ou FF FP PC lo pe))
    (g2 : dm_cost o x (nI (FP t)) → ¬ c = 0 → wX_run_109 post (wX_run_30 post n) (c + (-1)) (nI s) (nI o) x (nI F) (nI C) (nI D) fl (nI oc) rs 1 (nI (t + 1)) (dm_nn O) xs (dm_nn H) (dm_nn L) sl gl am ou (dm_nn FF) (dm_nn FP) (dm_nn PC) lo pe) :
    wX_run_30 post (n + 1) c (nI s) (nI F) (nI C) (nI D) fl (nI oc) rs 1 (nI (t + 1)) (dm_nn O) xs (dm_nn H) (dm_nn L) sl gl am ou (dm_nn FF) (dm_nn FP) (dm_nn PC) lo pe := by
  obtain ⟨ht, a, b, cc, hL, oo, h6, hn, eH⟩ := dm_top I ho
  have hF := I.1.2.1
  have hC := I.1.2.2.2.1
  have hi : vp_in (nI t) 8 := vp_in_nI ht (by decide)
  have hc : vp_in (nI (FF t * 32 + FP t)) 256 := vp_in_nI (by omega) (by decide)
  have e1 : dm_nn FP (nI t).toNatClampNeg = nI (FP t) := by
    rw [nI_clamp (by omega)]
    rfl
  have e2 : dm_nn FF (nI t).toNatClampNeg * 32 + nI (FP t) = nI (FF t * 32 + FP t) := by
    rw [nI_clamp (by omega)]
    exact dm_cell
  have e3 : dm_nn O (nI (FF t * 32 + FP t)).toNatClampNeg = nI o := by
    rw [nI_clamp (by omega), ← ho]
    rfl
  have e4 : xs (nI (FF t * 32 + FP t)).toNatClampNeg = x := by
    rw [nI_clamp (by omega)]
    exact hx
  refine br_f (nI_ge (b := 20000) hs (by decide)) (nm_r (nI_pred t) ⟨hi, nm_r e1 ⟨hi, nm_r e2 ⟨hc, nm_r e3 ⟨hc, nm_r e4 ?_⟩⟩⟩⟩)
  by_cases q : dm_cost o x (nI (FP t))
  · refine dm_xc1 o16 q (br_f dm_10 ?_)
    by_cases z : c = 0
    · exact br_t z (g1 q z)
    · exact br_f z (nm_e (g2 q z))
  · exact dm_xc0 o16 q (br_t rfl (g0 q))
/-- Y's way to the instruction -/
theorem dm_yrun {post : Int32 → SY → Prop} {n s : Nat} {c x : Int32} (I : dm_I F C D oc (t + 1) 1 O xs H L sl FF FP PC) (hs : s < 20000) (o16 : o ≤ 16) (ho : O (FF t * 32 + FP t) = o) (hx : xs (FF t * 32 + FP t) = x)
    (g0 : ¬ dm_cost o x (nI (FP t)) → wY_run_170 post (wY_run_30 post n) c (nI s) (nI t) (nI (FP t)) (nI o) x (dm_fg o) (nI F) (nI C) (nI D) fl (nI oc) rs 1 (nI (t + 1)) (dm_nn O) xs (dm_nn L) sl gl am ou (dm_nn FF) (dm_nn FP) (dm_nn PC) lo pe)
    (g1 : dm_cost o x (nI (FP t)) → wY_run_160 post (wY_run_30 post n) c (nI s) (nI t) (nI (FP t)) (nI o) x (dm_fg o) (nI F) (nI C) (nI D) fl (nI oc) rs 1 (nI (t + 1)) (dm_nn O) xs (dm_nn L) sl gl am ou (dm_nn FF) (dm_nn FP) (dm_nn PC) lo pe) :
    wY_run_30 post (n + 1) c (nI s) (nI F) (nI C) (nI D) fl (nI oc) rs 1 (nI (t + 1)) (dm_nn O) xs (dm_nn L) sl gl am ou (dm_nn FF) (dm_nn FP) (dm_nn PC) lo pe := by
  obtain ⟨ht, a, b, cc, hL, oo, h6, hn, eH⟩ := dm_top I ho
  have hF := I.1.2.1
  have hC := I.1.2.2.2.1
  have hi : vp_in (nI t) 8 := vp_in_nI ht (by decide)
  have e1 : dm_nn FP (nI t).toNatClampNeg = nI (FP t) := by
    rw [nI_clamp (by omega)]
    rfl
  have e2 : dm_nn FF (nI t).toNatClampNeg * 32 + nI (FP t) = nI (FF t * 32 + FP t) := by
    rw [nI_clamp (by omega)]
    exact dm_cell
  have hc : vp_in (dm_nn FF (nI t).toNatClampNeg * 32 + nI (FP t)) 256 := by
    rw [e2]
    exact vp_in_nI (by omega) (by decide)
  have e3 : dm_nn O (dm_nn FF (nI t).toNatClampNeg * 32 + nI (FP t)).toNatClampNeg = nI o := by
    rw [e2, nI_clamp (by omega), ← ho]
    rfl
  have e4 : xs (dm_nn FF (nI t).toNatClampNeg * 32 + nI (FP t)).toNatClampNeg = x := by
    rw [e2, nI_clamp (by omega)]
    exact hx
  have h32 : dm_nn FP (nI t).toNatClampNeg < 32 := by
    rw [e1]
    exact nI_lt (b := 32) (by omega) (by decide)
  refine br_f (nI_ge (b := 20000) hs (by decide)) (nm_r (nI_pred t) (br_f (nI_pos (by omega)) ⟨hi, br_t h32 ⟨hi, nm_r e1 ⟨hi, hc, nm_r e3 ⟨hi, hc, nm_r e4 ?_⟩⟩⟩⟩))
  have hcs : o = 0 ∨ o = 1 ∨ o = 2 ∨ o = 3 ∨ o = 4 ∨ o = 5 ∨ o = 6 ∨ o = 7 ∨ o = 8 ∨ o = 9 ∨ o = 10 ∨ o = 11 ∨ o = 12 ∨ o = 13 ∨ o = 14 ∨ o = 15 ∨ o = 16 := by omega
  unfold dm_cost at g0 g1
  clear e1 e2 e3 e4 hc h32 hi eH hn oo
  rcases hcs with rfl | rfl | rfl | rfl | rfl | rfl | rfl | rfl | rfl | rfl | rfl | rfl | rfl | rfl | rfl | rfl | rfl
  · exact br_t (by decide) (br_t rfl (br_f (by decide) (br_f (by decide) (g0 (by omega)))))
  · exact br_t (by decide) (br_t rfl (br_f (by decide) (br_f (by decide) (g0 (by omega)))))
  · exact br_t (by decide) (br_t rfl (br_f (by decide) (br_f (by decide) (g0 (by omega)))))
  · exact br_t (by decide) (br_t rfl (br_f (by decide) (br_f (by decide) (g0 (by omega)))))
  · exact br_t (by decide) (br_t rfl (br_f (by decide) (br_f (by decide) (g0 (by omega)))))
  · exact br_t (by decide) (br_t rfl (br_f (by decide) (br_f (by decide) (g0 (by omega)))))
  · exact br_t (by decide) (br_t rfl (br_f (by decide) (br_f (by decide) (g0 (by omega)))))
  · exact br_t (by decide) (br_t rfl (br_f (by decide) (br_f (by decide) (g0 (by omega)))))
  · exact br_t (by decide) (br_t rfl (br_f (by decide) (br_f (by decide) (g0 (by omega)))))
  · exact br_t (by decide) (br_t rfl (br_f (by decide) (br_f (by decide) (g0 (by omega)))))
  · repeat (first | refine br_f (by decide) ?_ | refine br_t (by decide) ?_)
    refine br_c (fun z => g0 ?_) (fun z => g1 (Or.inr ⟨by decide, z⟩))
    intro h
    rcases h with h | h
    · omega
    · exact h.2 z
  · repeat (first | refine br_f (by decide) ?_ | refine br_t (by decide) ?_)
    refine br_c (fun z => g0 ?_) (fun z => g1 (Or.inr ⟨by decide, z⟩))
    intro h
    rcases h with h | h
    · omega
    · exact h.2 z
  · repeat (first | refine br_f (by decide) ?_ | refine br_t (by decide) ?_)
    exact g1 (Or.inl ⟨by decide, by decide⟩)
  · repeat (first | refine br_f (by decide) ?_ | refine br_t (by decide) ?_)
    exact g1 (Or.inl ⟨by decide, by decide⟩)
  · repeat (first | refine br_f (by decide) ?_ | refine br_t (by decide) ?_)
    exact g1 (Or.inl ⟨by decide, by decide⟩)
  · exact br_f (by decide) (br_t (by decide) (br_t rfl (br_f (by decide) (br_f (by decide) (g0 (by omega))))))
  · exact br_f (by decide) (br_t (by decide) (br_t rfl (br_f (by decide) (br_f (by decide) (g0 (by omega))))))
/-- one step of both loops -/
theorem dm_step (I : dm_I F C D oc (t + 1) 1 O xs H L sl FF FP PC) (c : Int32) {s : Nat} (hs : s < 20000) :
    (∃ (c' fl' : Int32) (oc' fc' : Nat) (gl' am' ou' : Nat → Int32) (FF' FP' PC' : Nat → Nat) (lo' pe' : Nat → Int32),
      dm_I F C D oc' fc' 1 O xs H L sl FF' FP' PC' ∧
      (∀ (post : Int32 → SX → Prop) (n : Nat), wX_run_30 post n c' (nI (s + 1)) (nI F) (nI C) (nI D) fl' (nI oc') rs 1 (nI fc') (dm_nn O) xs (dm_nn H) (dm_nn L) sl gl' am' ou' (dm_nn FF') (dm_nn FP') (dm_nn PC') lo' pe' → wX_run_30 post (n + 1) c (nI s) (nI F) (nI C) (nI D) fl (nI oc) rs 1 (nI (t + 1)) (dm_nn O) xs (dm_nn H) (dm_nn L) sl gl am ou (dm_nn FF) (dm_nn FP) (dm_nn PC) lo pe) ∧
      (∀ (post : Int32 → SY → Prop) (n : Nat), wY_run_30 post n c' (nI (s + 1)) (nI F) (nI C) (nI D) fl' (nI oc') rs 1 (nI fc') (dm_nn O) xs (dm_nn L) sl gl' am' ou' (dm_nn FF') (dm_nn FP') (dm_nn PC') lo' pe' → wY_run_30 post (n + 1) c (nI s) (nI F) (nI C) (nI D) fl (nI oc) rs 1 (nI (t + 1)) (dm_nn O) xs (dm_nn L) sl gl am ou (dm_nn FF) (dm_nn FP) (dm_nn PC) lo pe))
    ∨ (∃ (r : Int32) (u : SX) (v : SY), i_Rel 0 u v ∧
      (∀ (post : Int32 → SX → Prop) (n : Nat), post r u → wX_run_30 post (n + 1) c (nI s) (nI F) (nI C) (nI D) fl (nI oc) rs 1 (nI (t + 1)) (dm_nn O) xs (dm_nn H) (dm_nn L) sl gl am ou (dm_nn FF) (dm_nn FP) (dm_nn PC) lo pe) ∧
      (∀ (post : Int32 → SY → Prop) (n : Nat), post r v → wY_run_30 post (n + 1) c (nI s) (nI F) (nI C) (nI D) fl (nI oc) rs 1 (nI (t + 1)) (dm_nn O) xs (dm_nn L) sl gl am ou (dm_nn FF) (dm_nn FP) (dm_nn PC) lo pe)) := by
  obtain ⟨o, o16, ho, G⟩ := dm_goAll (fl := fl) (rs := rs) (gl := gl) (am := am) (ou := ou) (lo := lo) (pe := pe) I
  by_cases q : dm_cost o (xs (FF t * 32 + FP t)) (nI (FP t))
  · by_cases z : c = 0
    · exact Or.inr ⟨6, (dm_X F C D fl oc rs 1 (t + 1) O xs H L sl gl am ou FF FP PC lo pe), (dm_Y F C D fl oc rs 1 (t + 1) O xs L sl gl am ou FF FP PC lo pe), dm_R I,
        fun post n p => dm_xrun I hs o16 ho rfl (fun h => absurd q h) (fun _ _ => p) (fun _ h => absurd z h),
        fun post n p => dm_yrun I hs o16 ho rfl (fun h => absurd q h) (fun _ => br_t z p)⟩
    · rcases G with ⟨fl', oc', fc', gl', am', ou', FF', FP', PC', lo', pe', I', gx, gy⟩ | ⟨r, u, v, R, gx, gy⟩
      · refine Or.inl ⟨c + (-1), fl', oc', fc', gl', am', ou', FF', FP', PC', lo', pe', I', fun post n p => ?_, fun post n p => ?_⟩
        · refine dm_xrun I hs o16 ho rfl (fun h => absurd q h) (fun _ h => absurd h z) (fun _ _ => gx post (wX_run_30 post n) (c + (-1)) (nI s) ?_)
          rw [nI_1]
          exact p
        · refine dm_yrun I hs o16 ho rfl (fun h => absurd q h) (fun _ => br_f z (nm_e (gy post (wY_run_30 post n) (c + (-1)) (nI s) ?_)))
          rw [nI_1]
          exact p
      · exact Or.inr ⟨r, u, v, R,
          fun post n p => dm_xrun I hs o16 ho rfl (fun h => absurd q h) (fun _ h => absurd h z) (fun _ _ => gx post (wX_run_30 post n) (c + (-1)) (nI s) p),
          fun post n p => dm_yrun I hs o16 ho rfl (fun h => absurd q h) (fun _ => br_f z (nm_e (gy post (wY_run_30 post n) (c + (-1)) (nI s) p)))⟩
  · rcases G with ⟨fl', oc', fc', gl', am', ou', FF', FP', PC', lo', pe', I', gx, gy⟩ | ⟨r, u, v, R, gx, gy⟩
    · refine Or.inl ⟨c, fl', oc', fc', gl', am', ou', FF', FP', PC', lo', pe', I', fun post n p => ?_, fun post n p => ?_⟩
      · refine dm_xrun I hs o16 ho rfl (fun _ => gx post (wX_run_30 post n) c (nI s) ?_) (fun h => absurd h q) (fun h => absurd h q)
        rw [nI_1]
        exact p
      · refine dm_yrun I hs o16 ho rfl (fun _ => gy post (wY_run_30 post n) c (nI s) ?_) (fun h => absurd h q)
        rw [nI_1]
        exact p
    · exact Or.inr ⟨r, u, v, R,
        fun post n p => dm_xrun I hs o16 ho rfl (fun _ => gx post (wX_run_30 post n) c (nI s) p) (fun h => absurd h q) (fun h => absurd h q),
        fun post n p => dm_yrun I hs o16 ho rfl (fun _ => gy post (wY_run_30 post n) c (nI s) p) (fun h => absurd h q)⟩
end
theorem dm_loop {F C D : Nat} {rs : Int32} {O : Nat → Nat} {xs : Nat → Int32} {H L : Nat → Nat} {sl : Nat → Int32} : ∀ (m s : Nat), s + m = 20000 →
    ∀ (c fl : Int32) (oc t : Nat) (gl am ou : Nat → Int32) (FF FP PC : Nat → Nat) (lo pe : Nat → Int32), dm_I F C D oc (t + 1) 1 O xs H L sl FF FP PC →
    ∃ (r : Int32) (u : SX) (v : SY), i_Rel 0 u v ∧
      (∀ post : Int32 → SX → Prop, post r u → wX_run_30 post (m + 1) c (nI s) (nI F) (nI C) (nI D) fl (nI oc) rs 1 (nI (t + 1)) (dm_nn O) xs (dm_nn H) (dm_nn L) sl gl am ou (dm_nn FF) (dm_nn FP) (dm_nn PC) lo pe) ∧
      (∀ post : Int32 → SY → Prop, post r v → wY_run_30 post (m + 1) c (nI s) (nI F) (nI C) (nI D) fl (nI oc) rs 1 (nI (t + 1)) (dm_nn O) xs (dm_nn L) sl gl am ou (dm_nn FF) (dm_nn FP) (dm_nn PC) lo pe) := by
  intro m
  induction m with
  | zero =>
    intro s hs c fl oc t gl am ou FF FP PC lo pe I
    have h : (20000 : Int32) ≤ nI s := nI_le (a := 20000) (by omega) (by omega)
    exact ⟨6, (dm_X F C D fl oc rs 1 (t + 1) O xs H L sl gl am ou FF FP PC lo pe), (dm_Y F C D fl oc rs 1 (t + 1) O xs L sl gl am ou FF FP PC lo pe), dm_R I, fun post p => br_t h p, fun post p => br_t h p⟩
  | succ m ih =>
    intro s hs c fl oc t gl am ou FF FP PC lo pe I
    rcases dm_step (fl := fl) (rs := rs) (gl := gl) (am := am) (ou := ou) (lo := lo) (pe := pe) I c (s := s) (by omega) with ⟨c', fl', oc', fc', gl', am', ou', FF', FP', PC', lo', pe', I', gx, gy⟩ | ⟨r, u, v, R, gx, gy⟩
    · obtain ⟨t', rfl⟩ : ∃ t', fc' = t' + 1 := ⟨fc' - 1, by
        rcases I'.2.1 with ⟨_, h⟩ | ⟨h, _⟩
        · omega
        · exact absurd rfl h⟩
      obtain ⟨r, u, v, R, a, b⟩ := ih (s + 1) (by omega) c' fl' oc' t' gl' am' ou' FF' FP' PC' lo' pe' I'
      exact ⟨r, u, v, R, fun post p => gx post (m + 1) (a post p), fun post p => gy post (m + 1) (b post p)⟩
    · exact ⟨r, u, v, R, fun post p => gx post (m + 1) p, fun post p => gy post (m + 1) p⟩
section
variable {F C D : Nat} {fl : Int32} {oc : Nat} {rs st : Int32} {fc : Nat} {O : Nat → Nat} {xs : Nat → Int32} {H L : Nat → Nat} {sl gl am ou : Nat → Int32} {FF FP PC : Nat → Nat} {lo pe : Nat → Int32}
theorem dm_run (I : dm_I F C D oc fc st O xs H L sl FF FP PC) (v : Int32) : dm_J (fun p => wpX_run p (dm_X F C D fl oc rs st fc O xs H L sl gl am ou FF FP PC lo pe) v) (fun p => wpY_run p (dm_Y F C D fl oc rs st fc O xs L sl gl am ou FF FP PC lo pe) v) := by
  by_cases h1 : v < 1
  · exact dm_same I 0 (fun _ p => br_t h1 p) (fun _ p => br_t h1 p)
  · by_cases hs : st = 1
    · obtain ⟨t, rfl⟩ : ∃ t, fc = t + 1 := ⟨fc - 1, by
        rcases I.2.1 with ⟨_, h⟩ | ⟨h, _⟩
        · omega
        · exact absurd hs h⟩
      subst hs
      by_cases h64 : v ≤ 64
      · obtain ⟨r, u, w, R, a, b⟩ := dm_loop (rs := rs) 20000 0 (by decide) v fl oc t gl am ou FF FP PC lo pe I
        exact ⟨r, u, w, R, fun post p => br_f h1 (br_t rfl (br_t h64 ⟨_, a post p⟩)), fun post p => br_f h1 (br_t rfl (br_t h64 ⟨_, b post p⟩))⟩
      · obtain ⟨r, u, w, R, a, b⟩ := dm_loop (rs := rs) 20000 0 (by decide) 64 fl oc t gl am ou FF FP PC lo pe I
        exact ⟨r, u, w, R, fun post p => br_f h1 (br_t rfl (br_f h64 ⟨_, a post p⟩)), fun post p => br_f h1 (br_t rfl (br_f h64 ⟨_, b post p⟩))⟩
    · exact dm_same I 0 (fun _ p => br_f h1 (br_f hs p)) (fun _ p => br_f h1 (br_f hs p))
end
end DMJ
end
section
section DMK
/-! K: what is owed -/
theorem i_vc0 (k0 : Int32) (k1 : Int32) (k2 : Int32) (k3 : Int32) : wpX_init (fun u => wpY_init (fun v => i_Rel 4 u v) k0 k1 k2 k3) k0 k1 k2 k3 := by
  obtain ⟨F, C, D, f1, f2, c1, c2, d1, d2, a, b⟩ := dm_init k0 k1 k2 k3
  refine a _ (b _ (dm_R ?_))
  exact ⟨⟨f1, f2, c1, c2, d1, d2, Nat.zero_le _, Nat.zero_le _⟩, Or.inr ⟨by decide, rfl⟩, fun f hf => ⟨Nat.zero_le _, fun i hi => absurd hi (Nat.not_lt_zero _)⟩, fun f hf h => absurd rfl h, dm_FK0⟩
theorem i_vc_emit {k : Nat} {u : SX} {v : SY} (I : i_Rel k u v) (hk : k + 4 ≤ 2052) (v1 : Int32) (v2 : Int32) (v3 : Int32) : wpX_emit (fun r u' => wpY_emit (fun r' v' => r' = r ∧ i_Rel (k + 4) u' v') v v1 v2 v3) u v1 v2 v3 := by
  obtain ⟨F, C, D, fl, oc, rs, st, fc, O, xs, H, L, sl, gl, am, ou, FF, FP, PC, lo, pe, rfl, rfl, I⟩ := I
  exact dm_Jv (wX := fun p => wpX_emit p _ v1 v2 v3) (wY := fun p => wpY_emit p _ v1 v2 v3) (dm_emit I v1 v2 v3)
theorem i_vc_seal {k : Nat} {u : SX} {v : SY} (I : i_Rel k u v) (hk : k + 4 ≤ 2052) (v1 : Int32) : wpX_seal (fun r u' => wpY_seal (fun r' v' => r' = r ∧ i_Rel (k + 4) u' v') v v1) u v1 := by
  obtain ⟨F, C, D, fl, oc, rs, st, fc, O, xs, H, L, sl, gl, am, ou, FF, FP, PC, lo, pe, rfl, rfl, I⟩ := I
  exact dm_Jv (wX := fun p => wpX_seal p _ v1) (wY := fun p => wpY_seal p _ v1) (dm_seal I v1)
theorem i_vc_erase {k : Nat} {u : SX} {v : SY} (I : i_Rel k u v) (hk : k + 4 ≤ 2052) (v1 : Int32) : wpX_erase (fun r u' => wpY_erase (fun r' v' => r' = r ∧ i_Rel (k + 4) u' v') v v1) u v1 := by
  obtain ⟨F, C, D, fl, oc, rs, st, fc, O, xs, H, L, sl, gl, am, ou, FF, FP, PC, lo, pe, rfl, rfl, I⟩ := I
  exact dm_Jv (wX := fun p => wpX_erase p _ v1) (wY := fun p => wpY_erase p _ v1) (dm_erase I v1)
theorem i_vc_code {k : Nat} {u : SX} {v : SY} (I : i_Rel k u v) (hk : k + 4 ≤ 2052) (v1 : Int32) (v2 : Int32) (v3 : Int32) : wpX_code (fun r => wpY_code (fun r' => r' = r ∧ i_Rel (k + 4) u v) v v1 v2 v3) u v1 v2 v3 := by
  have R : i_Rel (k + 4) u v := I
  obtain ⟨F, C, D, fl, oc, rs, st, fc, O, xs, H, L, sl, gl, am, ou, FF, FP, PC, lo, pe, rfl, rfl, I⟩ := I
  exact dm_Kv (wX := fun p => wpX_code p _ v1 v2 v3) (wY := fun p => wpY_code p _ v1 v2 v3) (dm_code I v1 v2 v3) R
theorem i_vc_start {k : Nat} {u : SX} {v : SY} (I : i_Rel k u v) (hk : k + 4 ≤ 2052) (v1 : Int32) (v2 : Int32) (v3 : Int32) : wpX_start (fun r u' => wpY_start (fun r' v' => r' = r ∧ i_Rel (k + 4) u' v') v v1 v2 v3) u v1 v2 v3 := by
  obtain ⟨F, C, D, fl, oc, rs, st, fc, O, xs, H, L, sl, gl, am, ou, FF, FP, PC, lo, pe, rfl, rfl, I⟩ := I
  exact dm_Jv (wX := fun p => wpX_start p _ v1 v2 v3) (wY := fun p => wpY_start p _ v1 v2 v3) (dm_start I v1 v2 v3)
theorem i_vc_run {k : Nat} {u : SX} {v : SY} (I : i_Rel k u v) (hk : k + 4 ≤ 2052) (v1 : Int32) : wpX_run (fun r u' => wpY_run (fun r' v' => r' = r ∧ i_Rel (k + 4) u' v') v v1) u v1 := by
  obtain ⟨F, C, D, fl, oc, rs, st, fc, O, xs, H, L, sl, gl, am, ou, FF, FP, PC, lo, pe, rfl, rfl, I⟩ := I
  exact dm_Jv (wX := fun p => wpX_run p _ v1) (wY := fun p => wpY_run p _ v1) (dm_run I v1)
theorem i_vc_abandon {k : Nat} {u : SX} {v : SY} (I : i_Rel k u v) (hk : k + 4 ≤ 2052) : wpX_abandon (fun r u' => wpY_abandon (fun r' v' => r' = r ∧ i_Rel (k + 4) u' v') v) u := by
  obtain ⟨F, C, D, fl, oc, rs, st, fc, O, xs, H, L, sl, gl, am, ou, FF, FP, PC, lo, pe, rfl, rfl, I⟩ := I
  exact dm_Jv (wX := fun p => wpX_abandon p _) (wY := fun p => wpY_abandon p _) (dm_abandon I)
theorem i_vc_setGlobal {k : Nat} {u : SX} {v : SY} (I : i_Rel k u v) (hk : k + 4 ≤ 2052) (v1 : Int32) (v2 : Int32) : wpX_setGlobal (fun r u' => wpY_setGlobal (fun r' v' => r' = r ∧ i_Rel (k + 4) u' v') v v1 v2) u v1 v2 := by
  obtain ⟨F, C, D, fl, oc, rs, st, fc, O, xs, H, L, sl, gl, am, ou, FF, FP, PC, lo, pe, rfl, rfl, I⟩ := I
  exact dm_Jv (wX := fun p => wpX_setGlobal p _ v1 v2) (wY := fun p => wpY_setGlobal p _ v1 v2) (dm_setGlobal I v1 v2)
theorem i_vc_global {k : Nat} {u : SX} {v : SY} (I : i_Rel k u v) (hk : k + 4 ≤ 2052) (v1 : Int32) : wpX_global (fun r => wpY_global (fun r' => r' = r ∧ i_Rel (k + 4) u v) v v1) u v1 := by
  have R : i_Rel (k + 4) u v := I
  obtain ⟨F, C, D, fl, oc, rs, st, fc, O, xs, H, L, sl, gl, am, ou, FF, FP, PC, lo, pe, rfl, rfl, I⟩ := I
  exact dm_Kv (wX := fun p => wpX_global p _ v1) (wY := fun p => wpY_global p _ v1) (dm_global v1) R
theorem i_vc_optimise {k : Nat} {u : SX} {v : SY} (I : i_Rel k u v) (hk : k + 4 ≤ 2052) (v1 : Int32) : wpX_optimise (fun r => wpY_optimise (fun r' => r' = r ∧ i_Rel (k + 4) u v) v v1) u v1 := by
  have R : i_Rel (k + 4) u v := I
  obtain ⟨F, C, D, fl, oc, rs, st, fc, O, xs, H, L, sl, gl, am, ou, FF, FP, PC, lo, pe, rfl, rfl, I⟩ := I
  exact dm_Kv (wX := fun p => wpX_optimise p _ v1) (wY := fun p => wpY_optimise p _ v1) (dm_optimise I v1) R
theorem i_vc_assume {k : Nat} {u : SX} {v : SY} (I : i_Rel k u v) (hk : k + 4 ≤ 2052) (v1 : Int32) : wpX_assume (fun r u' => wpY_assume (fun r' v' => r' = r ∧ i_Rel (k + 4) u' v') v v1) u v1 := by
  obtain ⟨F, C, D, fl, oc, rs, st, fc, O, xs, H, L, sl, gl, am, ou, FF, FP, PC, lo, pe, rfl, rfl, I⟩ := I
  exact dm_Jv (wX := fun p => wpX_assume p _ v1) (wY := fun p => wpY_assume p _ v1) (dm_assume I v1)
theorem i_vc_assumed {k : Nat} {u : SX} {v : SY} (I : i_Rel k u v) (hk : k + 4 ≤ 2052) (v1 : Int32) : wpX_assumed (fun r => wpY_assumed (fun r' => r' = r ∧ i_Rel (k + 4) u v) v v1) u v1 := by
  have R : i_Rel (k + 4) u v := I
  obtain ⟨F, C, D, fl, oc, rs, st, fc, O, xs, H, L, sl, gl, am, ou, FF, FP, PC, lo, pe, rfl, rfl, I⟩ := I
  exact dm_Kv (wX := fun p => wpX_assumed p _ v1) (wY := fun p => wpY_assumed p _ v1) (dm_assumed v1) R
theorem i_vc_status {k : Nat} {u : SX} {v : SY} (I : i_Rel k u v) (hk : k + 4 ≤ 2052) (v1 : Int32) : wpX_status (fun r => wpY_status (fun r' => r' = r ∧ i_Rel (k + 4) u v) v v1) u v1 := by
  have R : i_Rel (k + 4) u v := I
  obtain ⟨F, C, D, fl, oc, rs, st, fc, O, xs, H, L, sl, gl, am, ou, FF, FP, PC, lo, pe, rfl, rfl, I⟩ := I
  exact dm_Kv (wX := fun p => wpX_status p _ v1) (wY := fun p => wpY_status p _ v1) (dm_status v1) R
theorem i_vc_frame {k : Nat} {u : SX} {v : SY} (I : i_Rel k u v) (hk : k + 4 ≤ 2052) (v1 : Int32) (v2 : Int32) : wpX_frame (fun r => wpY_frame (fun r' => r' = r ∧ i_Rel (k + 4) u v) v v1 v2) u v1 v2 := by
  have R : i_Rel (k + 4) u v := I
  obtain ⟨F, C, D, fl, oc, rs, st, fc, O, xs, H, L, sl, gl, am, ou, FF, FP, PC, lo, pe, rfl, rfl, I⟩ := I
  exact dm_Kv (wX := fun p => wpX_frame p _ v1 v2) (wY := fun p => wpY_frame p _ v1 v2) (dm_frame I v1 v2) R
theorem i_vc_output {k : Nat} {u : SX} {v : SY} (I : i_Rel k u v) (hk : k + 4 ≤ 2052) (v1 : Int32) : wpX_output (fun r => wpY_output (fun r' => r' = r ∧ i_Rel (k + 4) u v) v v1) u v1 := by
  have R : i_Rel (k + 4) u v := I
  obtain ⟨F, C, D, fl, oc, rs, st, fc, O, xs, H, L, sl, gl, am, ou, FF, FP, PC, lo, pe, rfl, rfl, I⟩ := I
  exact dm_Kv (wX := fun p => wpX_output p _ v1) (wY := fun p => wpY_output p _ v1) (dm_output I v1) R
theorem i_vc_clearOutput {k : Nat} {u : SX} {v : SY} (I : i_Rel k u v) (hk : k + 4 ≤ 2052) : wpX_clearOutput (fun r u' => wpY_clearOutput (fun r' v' => r' = r ∧ i_Rel (k + 4) u' v') v) u := by
  obtain ⟨F, C, D, fl, oc, rs, st, fc, O, xs, H, L, sl, gl, am, ou, FF, FP, PC, lo, pe, rfl, rfl, I⟩ := I
  exact dm_Jv (wX := fun p => wpX_clearOutput p _) (wY := fun p => wpY_clearOutput p _) (dm_clear I)
end DMK
end
