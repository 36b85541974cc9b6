/-! alike, counts, cubes, the log -/
section R2
variable {Γ : sk_T} {I : sk_I} {J : sk_J} {T : sl_ct}
theorem sl_RW_eq {f g : Option Nat} {k : Nat} {x y : Int64} (hS : 2 ^ cS T ≤ 64) (hx : sl_RW T f k x) (hy : sl_RW T g k y) : x = y ↔ ∀ v, v < 2 ^ cS T → (sl_rp T f v).testBit k = (sl_rp T g v).testBit k := by
  constructor
  · intro e v hv
    have h1 := hx v (by omega)
    have h2 := hy v (by omega)
    rw [e, h2] at h1
    simpa [hv] using h1.symm
  · intro e
    refine bt_ext fun v hv => ?_
    rw [hx v hv, hy v hv]
    by_cases hvS : v < 2 ^ cS T
    · rw [e v hvS]
    · simp [hvS]
theorem t_R_areAlike {f g : Nat} {K : Int32 → sk_I → sk_J → Prop} (hw : sl_wf T) (hr : sl_rc T I) (hf : f < cF T) (hg : g < cF T) (of : sl_ok T J (f + 1)) (og : sl_ok T J (g + 1)) (h : K (if sl_al T f g = true then 1 else 0) I J) : sk_S Γ m_R_areAlike 0 0 [.ref 16, .int (nI f), .int (nI g)] sk_gg I J (sk_Ki K) := by
  refine sk_spec (by decide) rfl (by exact Nat.le_of_ble_eq_true rfl) ?_
  have hF : cF T ≤ 208 := sl_F_le hw
  have hS := sl_S64 hw
  have hB := sl_B31 hw
  have hB12 := sl_ob_len hw
  have a4 : I 1 4 = nI (sl_ob T).length := hr.1.2.2.2.1
  refine s_R_areAlike_0 ?_
  refine t_R_vectorsShowing (by omega) ?_
  refine s_R_areAlike_5 ?_
  refine t_R_vectorsShowing (by omega) ?_
  refine s_R_areAlike_10 ?_
  rw [lg_cmp_eq]
  refine ⟨fun _ => ?_, fun hne => ⟨_, rfl, rfl, ?_⟩⟩
  · rw [show nI f + 1 = nI (f + 1) from (nI_succ f).symm, show nI g + 1 = nI (g + 1) from (nI_succ g).symm, show (12 : Int32) = nI 12 by decide +kernel, zI_mul, zI_mul]
    have loop : ∀ d k, k + d = (sl_ob T).length → (∀ k', k' < k → ∀ v, v < 2 ^ cS T → (sl_rp T (some f) v).testBit k' = (sl_rp T (some g) v).testBit k') → sk_W Γ m_R_areAlike 0 0 34 [(0, .ref 16), (3, .int (nI ((f + 1) * 12))), (4, .int (nI ((g + 1) * 12))), (5, .int (nI k))] [] sk_gg I J 0 0 (sk_Ki K) := by
      intro d
      induction d with
      | zero =>
        intro k hk hall
        have hk : k = (sl_ob T).length := by omega
        subst hk
        refine s_R_areAlike_34 ⟨fun _ => ⟨_, rfl, rfl, ?_⟩, fun hcc => absurd ?_ hcc⟩
        · have ha : sl_al T f g = true := decide_eq_true fun v hv => sl_rp_eq fun k hk => hall k hk v hv
          rw [if_pos ha] at h; exact h
        · rw [a4]; exact (zI_le hB hB).mpr (Nat.le_refl _)
      | succ d ih =>
        intro k hk hall
        have hkB : k < (sl_ob T).length := by omega
        have hk31 : k < 2 ^ 31 := by omega
        refine s_R_areAlike_34 ⟨fun hcc => ?_, fun _ => ?_⟩
        · rw [a4, zI_le hB hk31] at hcc; omega
        · rw [zI_add, zI_add, zI_cl (sl_lt31 (m := 2508) (by omega) (by decide)), zI_cl (sl_lt31 (m := 2508) (by omega) (by decide)), lg_cmp_eq, sl_RW_eq hS (of.1 k hkB) (og.1 k hkB), show nI k + 1 = nI (k + 1) from (nI_succ k).symm]
          refine ⟨vp_nat (by omega) (by decide), vp_nat (by omega) (by decide), fun hy => ih (k + 1) (by omega) (fun k' hk' => ?_), fun hn => ⟨_, rfl, rfl, ?_⟩⟩
          · by_cases hkk : k' = k
            · rw [hkk]; exact hy
            · exact hall k' (by omega)
          · have ha : ¬ sl_al T f g = true := fun ha => hn fun v hv => by
              have e := of_decide_eq_true ha v hv
              show (sl_rp T (some f) v).testBit k = (sl_rp T (some g) v).testBit k
              rw [e]
            rw [if_neg ha] at h; exact h
    exact loop (sl_ob T).length 0 (by omega) (fun k' hk' => absurd hk' (Nat.not_lt_zero _))
  · have ha : ¬ sl_al T f g = true := fun ha => hne (bt_ext fun v hv => by
      rw [of.2 v hv, og.2 v hv]
      by_cases hvS : v < 2 ^ cS T
      · have e := of_decide_eq_true ha v hvS
        show _ = (decide (v < 2 ^ cS T) && decide (sl_rp T (some g) v ≠ sl_rp T none v))
        rw [← e]
        rfl
      · simp [hvS])
    rw [if_neg ha] at h; exact h
theorem t_R_firstAlike {f : Nat} {K : Int32 → sk_I → sk_J → Prop} (hw : sl_wf T) (hr : sl_rc T I) (hf : f < cF T) (ho : ∀ p, p ≤ cF T → sl_ok T J p) (h : K (nI (sl_fa T f)) I J) : sk_S Γ m_R_firstAlike 0 0 [.ref 16, .int (nI f)] sk_gg I J (sk_Ki K) := by
  refine sk_spec (by decide) rfl (by exact Nat.le_of_ble_eq_true rfl) ?_
  have hF : cF T ≤ 208 := sl_F_le hw
  have hf31 : f < 2 ^ 31 := sl_lt31 (m := 208) (by omega) (by decide)
  refine s_R_firstAlike_0 ?_
  have loop : ∀ d g, g + d = f → K (nI ((sl_find (fun g => sl_al T g f) g d).getD f)) I J → sk_W Γ m_R_firstAlike 0 0 2 [(0, .ref 16), (1, .int (nI f)), (2, .int (nI g))] [] sk_gg I J 0 0 (sk_Ki K) := by
    intro d
    induction d with
    | zero =>
      intro g hg hk
      have hg : g = f := by omega
      subst hg
      exact s_R_firstAlike_2 ⟨fun _ => ⟨_, rfl, rfl, hk⟩, fun hcc => absurd ((zI_le hf31 hf31).mpr (Nat.le_refl _)) hcc⟩
    | succ d ih =>
      intro g hg hk
      have hg31 : g < 2 ^ 31 := by omega
      refine s_R_firstAlike_2 ⟨fun hcc => ?_, fun _ => ?_⟩
      · rw [zI_le hf31 hg31] at hcc; omega
      · refine t_R_areAlike hw hr (by omega) hf (ho _ (by omega)) (ho _ (by omega)) ?_
        refine s_R_firstAlike_13 ?_
        simp only [sl_find] at hk
        by_cases ha : sl_al T g f = true
        · rw [if_pos ha] at hk ⊢
          exact ⟨fun hn => absurd hn (by decide), fun _ => ⟨_, rfl, rfl, hk⟩⟩
        · rw [if_neg ha] at hk ⊢
          refine ⟨fun _ => ?_, fun hn => absurd rfl hn⟩
          rw [show nI g + 1 = nI (g + 1) from (nI_succ g).symm]
          exact ih (g + 1) (by omega) hk
  exact loop f 0 (by omega) h
theorem sl_SW0 {q : Nat} {x : Int64} (hw : sl_wf T) (hx : sl_SW T (some q) x) : x = 0 ↔ sl_ls T q = none := by
  have hS := sl_S64 hw
  unfold sl_ls
  rw [sl_find_none]
  constructor
  · intro e r _ hr
    have := hx r (by omega)
    rw [e, bt_0] at this
    have hr2 : r < 2 ^ cS T := by omega
    simpa [hr2, sl_sh] using this
  · intro e
    refine bt_ext fun v hv => ?_
    rw [hx v hv, bt_0]
    by_cases hvS : v < 2 ^ cS T
    · have : decide (sl_rp T (some q) v ≠ sl_rp T none v) = false := e v (Nat.zero_le _) (by omega)
      rw [this, Bool.and_false]
    · simp [hvS]
theorem t_R_shownFaults {K : Int32 → sk_I → sk_J → Prop} (hw : sl_wf T) (hr : sl_rc T I) (ho : ∀ p, p ≤ cF T → sl_ok T J p) (h : K (nI (sl_cnt (fun f => (sl_ls T f).isSome) (cF T))) I J) : sk_S Γ m_R_shownFaults 0 0 [.ref 16] sk_gg I J (sk_Ki K) := by
  refine sk_spec (by decide) rfl (by exact Nat.le_of_ble_eq_true rfl) ?_
  have hF : cF T ≤ 208 := sl_F_le hw
  have hF31 : cF T < 2 ^ 31 := sl_lt31 (m := 208) (by omega) (by decide)
  refine s_R_shownFaults_0 ?_
  have loop : ∀ d f, f + d = cF T → sk_W Γ m_R_shownFaults 0 0 4 [(0, .ref 16), (1, .int (nI (sl_cnt (fun f => (sl_ls T f).isSome) f))), (2, .int (nI f))] [] sk_gg I J 0 0 (sk_Ki K) := by
    intro d
    induction d with
    | zero =>
      intro f hf
      have hf : f = cF T := by omega
      subst hf
      refine s_R_shownFaults_4 ?_
      refine t_C_faults' hr ?_
      exact s_R_shownFaults_12 ⟨fun _ => ⟨_, rfl, rfl, h⟩, fun hcc => absurd ((zI_le hF31 hF31).mpr (Nat.le_refl _)) hcc⟩
    | succ d ih =>
      intro f hf
      have hf31 : f < 2 ^ 31 := by omega
      refine s_R_shownFaults_4 ?_
      refine t_C_faults' hr ?_
      refine s_R_shownFaults_12 ⟨fun hcc => ?_, fun _ => ?_⟩
      · rw [zI_le hF31 hf31] at hcc; omega
      · refine t_R_vectorsShowing (by omega) ?_
        refine s_R_shownFaults_20 ?_
        have hnx := ih (f + 1) (by omega)
        rw [lg_cmp_eq, sl_SW0 hw (ho (f + 1) (by omega)).2, show nI f + 1 = nI (f + 1) from (nI_succ f).symm]
        simp only [sl_cnt] at hnx
        cases hl : sl_ls T f with
        | none =>
          rw [if_neg (by rw [hl]; simp)] at hnx
          exact ⟨fun _ => hnx, fun hn => absurd rfl hn⟩
        | some v =>
          rw [if_pos (by rw [hl]; rfl)] at hnx
          refine ⟨fun hn => (by cases hn), fun _ => ?_⟩
          rw [zI_1, zI_add]
          exact hnx
  exact loop (cF T) 0 (by omega)
theorem t_R_classesOfAlike {K : Int32 → sk_I → sk_J → Prop} (hw : sl_wf T) (hr : sl_rc T I) (ho : ∀ p, p ≤ cF T → sl_ok T J p) (h : K (nI (sl_cnt (fun f => decide (sl_fa T f = f)) (cF T))) I J) : sk_S Γ m_R_classesOfAlike 0 0 [.ref 16] sk_gg I J (sk_Ki K) := by
  refine sk_spec (by decide) rfl (by exact Nat.le_of_ble_eq_true rfl) ?_
  have hF : cF T ≤ 208 := sl_F_le hw
  have hF31 : cF T < 2 ^ 31 := sl_lt31 (m := 208) (by omega) (by decide)
  refine s_R_classesOfAlike_0 ?_
  have loop : ∀ d f, f + d = cF T → sk_W Γ m_R_classesOfAlike 0 0 4 [(0, .ref 16), (1, .int (nI (sl_cnt (fun f => decide (sl_fa T f = f)) f))), (2, .int (nI f))] [] sk_gg I J 0 0 (sk_Ki K) := by
    intro d
    induction d with
    | zero =>
      intro f hf
      have hf : f = cF T := by omega
      subst hf
      refine s_R_classesOfAlike_4 ?_
      refine t_C_faults' hr ?_
      exact s_R_classesOfAlike_12 ⟨fun _ => ⟨_, rfl, rfl, h⟩, fun hcc => absurd ((zI_le hF31 hF31).mpr (Nat.le_refl _)) hcc⟩
    | succ d ih =>
      intro f hf
      have hf31 : f < 2 ^ 31 := by omega
      refine s_R_classesOfAlike_4 ?_
      refine t_C_faults' hr ?_
      refine s_R_classesOfAlike_12 ⟨fun hcc => ?_, fun _ => ?_⟩
      · rw [zI_le hF31 hf31] at hcc; omega
      · refine t_R_firstAlike hw hr (by omega) ho ?_
        refine s_R_classesOfAlike_20 ?_
        have hfa : sl_fa T f ≤ f := by
          unfold sl_fa
          cases hx : sl_find (fun g => sl_al T g f) 0 f with
          | none => exact Nat.le_refl _
          | some r => have := (sl_find_lt hx).2.1; show r ≤ f; omega
        have hnx := ih (f + 1) (by omega)
        rw [zI_inj (by omega) hf31, show nI f + 1 = nI (f + 1) from (nI_succ f).symm]
        simp only [sl_cnt, decide_eq_true_eq] at hnx
        refine ⟨fun hn => ?_, fun hy => ?_⟩
        · rw [if_neg hn] at hnx; exact hnx
        · rw [if_pos hy] at hnx
          rw [zI_1, zI_add]; exact hnx
  exact loop (cF T) 0 (by omega)
/-! cubes -/
def sl_tl (T : sl_ct) (a w q : Nat) : Bool := (sl_ob T).any (fun x => sl_cn (sl_vv T (sl_sc a w) none x) (sl_vv T (sl_sc a w) (some q) x))
def sl_wd (T : sl_ct) (q : Nat) : Nat → Nat → Nat → Nat → Nat
  | 0, _, a, w => 64 * a + w
  | d + 1, i, a, w => if sl_tl T (a ||| 2 ^ i) (w &&& (63 ^^^ 2 ^ i)) q = true then sl_wd T q d (i + 1) (a ||| 2 ^ i) (w &&& (63 ^^^ 2 ^ i)) else sl_wd T q d (i + 1) a w
theorem zI_cb : ∀ a, a < 64 → ∀ i, i < 6 → nI a ||| (1 <<< (nI i &&& 31)) = nI (a ||| 2 ^ i) ∧ a ||| 2 ^ i < 64 ∧ nI a &&& ((1 <<< (nI i &&& 31)) ^^^ (-1)) = nI (a &&& (63 ^^^ 2 ^ i)) ∧ a &&& (63 ^^^ 2 ^ i) < 64 := by decide +kernel
theorem t_U_shows {a w q : Nat} {K : Int32 → sk_I → sk_J → Prop} (hw : sl_wf T) (hr : sl_rc T I) (ha : a < 64) (hww : w < 64) (hq : q < cF T)
    (h : ∀ I' J', (∀ q, q ≠ 26 → q ≠ 31 → I' q = I q) → (∀ q, q < 26 ∨ 35 < q → J' q = J q) → K (if sl_tl T a w q = true then 1 else 0) I' J') : sk_S Γ m_U_shows 0 0 [.ref 25, .int (nI a), .int (nI w), .int (nI q)] sk_gg I J (sk_Ki K) := by
  refine sk_spec (by decide) rfl (by exact Nat.le_of_ble_eq_true rfl) ?_
  refine s_U_shows_0 ?_
  refine t_S_settleCube (f := none) (Or.inr (Or.inr (Or.inl rfl))) hw hr (fun q hq => by cases hq) ha hww (fun I1 J1 a1 b1 c1 => ?_)
  have hr1 : sl_rc T I1 := sl_rc_frame hr (fun j _ _ => by rw [a1 1 (by decide)]) (fun q _ _ => a1 q (by omega))
  refine s_U_shows_10 ?_
  refine t_S_settleCube (f := some q) (Or.inr (Or.inr (Or.inr rfl))) hw hr1 (fun r hr => by cases hr; exact hq) ha hww (fun I2 J2 a2 b2 c2 => ?_)
  have hr2 : sl_rc T I2 := sl_rc_frame hr1 (fun j _ _ => by rw [a2 1 (by decide)]) (fun q _ _ => a2 q (by omega))
  refine s_U_shows_20 ?_
  refine t_S_isContraryTo (g := sl_vv T (sl_sc a w) none) (g' := sl_vv T (sl_sc a w) (some q)) hw hr2 (fun l hl => ?_) c2 ?_
  · rw [b2 29 (by decide), b2 30 (by decide)]; exact c1 l hl
  · refine s_U_shows_31 ⟨?_, _, rfl, rfl, h I2 J2 (fun q x y => by rw [a2 q y, a1 q x]) (fun q x => by rw [b2 q (by omega), b1 q (by omega)])⟩
    split
    · exact Or.inr rfl
    · exact Or.inl rfl
theorem t_U_widen {v q : Nat} {K : Int32 → sk_I → sk_J → Prop} (hw : sl_wf T) (hr : sl_rc T I) (hv : v < 64) (hq : q < cF T)
    (h : ∀ I' J', (∀ q, q ≠ 26 → q ≠ 31 → I' q = I q) → (∀ q, q < 26 ∨ 35 < q → J' q = J q) → K (nI (sl_wd T q (cS T) 0 0 v)) I' J') : sk_S Γ m_U_widen 0 0 [.ref 25, .int (nI v), .int (nI q)] sk_gg I J (sk_Ki K) := by
  refine sk_spec (by decide) rfl (by exact Nat.le_of_ble_eq_true rfl) ?_
  have hS := hw.2.1
  have hS31 : cS T < 2 ^ 31 := sl_lt31 (m := 6) (by omega) (by decide)
  refine s_U_widen_0 ?_
  have loop : ∀ d i a w (I1 : sk_I) (J1 : sk_J), i + d = cS T → a < 64 → w < 64 → (∀ q, q ≠ 26 → q ≠ 31 → I1 q = I q) → (∀ q, q < 26 ∨ 35 < q → J1 q = J q) → (∀ I' J', (∀ q, q ≠ 26 → q ≠ 31 → I' q = I q) → (∀ q, q < 26 ∨ 35 < q → J' q = J q) → K (nI (sl_wd T q d i a w)) I' J') →
      sk_W Γ m_U_widen 0 0 8 [(0, .ref 25), (2, .int (nI q)), (3, .int (nI a)), (4, .int (nI w)), (5, .int (nI i))] [] sk_gg I1 J1 0 0 (sk_Ki K) := by
    intro d
    induction d with
    | zero =>
      intro i a w I1 J1 hi ha hww f1 g1 hk
      have hi : i = cS T := by omega
      subst hi
      have e2 : I1 1 2 = nI (cS T) := by rw [f1 1 (by decide) (by decide)]; exact hr.1.2.1
      refine s_U_widen_8 ⟨fun _ => ⟨_, rfl, rfl, ?_⟩, fun hcc => absurd ?_ hcc⟩
      · rw [show (64 : Int32) = nI 64 by decide +kernel, zI_mul, zI_add]
        exact hk I1 J1 f1 g1
      · rw [e2]; exact (zI_le hS31 hS31).mpr (Nat.le_refl _)
    | succ d ih =>
      intro i a w I1 J1 hi ha hww f1 g1 hk
      have e2 : I1 1 2 = nI (cS T) := by rw [f1 1 (by decide) (by decide)]; exact hr.1.2.1
      have hr1 : sl_rc T I1 := sl_rc_frame hr (fun j _ _ => by rw [f1 1 (by decide) (by decide)]) (fun q _ _ => f1 q (by omega) (by omega))
      have hi31 : i < 2 ^ 31 := by omega
      obtain ⟨z1, z2, -, -⟩ := zI_cb a ha i (by omega)
      obtain ⟨-, -, z3, z4⟩ := zI_cb w hww i (by omega)
      refine s_U_widen_8 ⟨fun hcc => ?_, fun _ => ?_⟩
      · rw [e2, zI_le hS31 hi31] at hcc; omega
      · rw [z1, z3]
        refine t_U_shows hw hr1 z2 z4 hq (fun I2 J2 f2 g2 => ?_)
        refine s_U_widen_42 ?_
        rw [z1, z3, show nI i + 1 = nI (i + 1) from (nI_succ i).symm]
        simp only [sl_wd] at hk
        have f12 : ∀ q, q ≠ 26 → q ≠ 31 → I2 q = I q := fun q x y => by rw [f2 q x y, f1 q x y]
        have g12 : ∀ q, q < 26 ∨ 35 < q → J2 q = J q := fun q x => by rw [g2 q x, g1 q x]
        by_cases ht : sl_tl T (a ||| 2 ^ i) (w &&& (63 ^^^ 2 ^ i)) q = true
        · rw [if_pos ht]
          refine ⟨fun hn => absurd hn (by decide), fun _ => ih (i + 1) _ _ I2 J2 (by omega) z2 z4 f12 g12 (fun I' J' x y => ?_)⟩
          have := hk I' J' x y
          rw [if_pos ht] at this
          exact this
        · rw [if_neg ht]
          refine ⟨fun _ => ih (i + 1) _ _ I2 J2 (by omega) ha hww f12 g12 (fun I' J' x y => ?_), fun hn => absurd rfl hn⟩
          have := hk I' J' x y
          rw [if_neg ht] at this
          exact this
  exact loop (cS T) 0 0 v I J (by omega) (by decide) hv (fun _ _ _ => rfl) (fun _ _ => rfl) h
/-! the log -/
def sl_lg (T : sl_ct) (lg : List (Nat × Nat)) (I : sk_I) : Prop := I 38 3 = nI lg.length ∧ lg.length ≤ 16 ∧ (∀ x ∈ lg, x.1 < 2 ^ cS T ∧ x.2 < 4096) ∧ ∀ i x, lg[i]? = some x → I 39 i = nI x.1 ∧ I 40 i = nI x.2
def sl_ex (T : sl_ct) (lg : List (Nat × Nat)) (f : Option Nat) : Bool := lg.all (fun x => decide (sl_rp T f x.1 = x.2))
theorem sl_rp4096 (hw : sl_wf T) (f : Option Nat) (v : Nat) : sl_rp T f v < 4096 := by
  have h1 := sl_rp_lt T f v
  have h2 : 2 ^ (sl_ob T).length ≤ 2 ^ 12 := Nat.pow_le_pow_right (by decide) (sl_ob_len hw)
  have h3 : (2 : Nat) ^ 12 = 4096 := by decide
  omega
theorem t_G_isExplainedBy {p : Nat} {lg : List (Nat × Nat)} {K : Int32 → sk_I → sk_J → Prop} (hw : sl_wf T) (hr : sl_rc T I) (hg : sl_lg T lg I) (hp : p ≤ cF T) (ho : sl_ok T J p) (h : K (if sl_ex T lg (sl_pf p) = true then 1 else 0) I J) : sk_S Γ m_G_isExplainedBy 0 0 [.ref 38, .int (sl_fi (sl_pf p))] sk_gg I J (sk_Ki K) := by
  refine sk_spec (by decide) rfl (by exact Nat.le_of_ble_eq_true rfl) ?_
  obtain ⟨g1, g2, g3, g4⟩ := hg
  have hl31 : lg.length < 2 ^ 31 := sl_lt31 (m := 16) g2 (by decide)
  refine s_G_isExplainedBy_0 ?_
  have loop : ∀ d i, i + d = lg.length → (∀ j, j < i → ∀ x, lg[j]? = some x → sl_rp T (sl_pf p) x.1 = x.2) → sk_W Γ m_G_isExplainedBy 0 0 2 [(0, .ref 38), (1, .int (sl_fi (sl_pf p))), (2, .int (nI i))] [] sk_gg I J 0 0 (sk_Ki K) := by
    intro d
    induction d with
    | zero =>
      intro i hi hall
      have hi : i = lg.length := by omega
      subst hi
      refine s_G_isExplainedBy_2 ⟨fun _ => ⟨_, rfl, rfl, ?_⟩, fun hcc => absurd ?_ hcc⟩
      · have he : sl_ex T lg (sl_pf p) = true := List.all_eq_true.mpr fun x hx => by
          obtain ⟨j, hj⟩ := List.getElem?_of_mem hx
          exact decide_eq_true (hall j (List.getElem?_eq_some_iff.mp hj).1 x hj)
        rw [if_pos he] at h; exact h
      · rw [g1]; exact (zI_le hl31 hl31).mpr (Nat.le_refl _)
    | succ d ih =>
      intro i hi hall
      have hil : i < lg.length := by omega
      have hi31 : i < 2 ^ 31 := by omega
      have hx := List.getElem?_eq_getElem hil
      obtain ⟨b1, b2⟩ := g3 _ (List.getElem_mem hil)
      obtain ⟨c1, c2⟩ := g4 i _ hx
      refine s_G_isExplainedBy_2 ⟨fun hcc => ?_, fun _ => ⟨vp_nat (by omega) (by decide), ?_⟩⟩
      · rw [g1, zI_le hl31 hi31] at hcc; omega
      · rw [zI_cl hi31, c1]
        refine t_R_to hw hr hp b1 ho ?_
        refine s_G_isExplainedBy_24 ⟨vp_nat (by omega) (by decide), ?_, ?_⟩
        · rw [zI_cl hi31, c2, zI_inj (sl_lt31 (m := 4096) (Nat.le_of_lt (sl_rp4096 hw _ _)) (by decide)) (sl_lt31 (m := 4096) (by omega) (by decide)), show nI i + 1 = nI (i + 1) from (nI_succ i).symm]
          intro he
          refine ih (i + 1) (by omega) (fun j hj x hjx => ?_)
          by_cases hji : j = i
          · subst hji
            rw [hx] at hjx
            cases hjx
            exact he
          · exact hall j (by omega) x hjx
        · rw [zI_cl hi31, c2, zI_inj (sl_lt31 (m := 4096) (Nat.le_of_lt (sl_rp4096 hw _ _)) (by decide)) (sl_lt31 (m := 4096) (by omega) (by decide))]
          intro hn
          refine ⟨_, rfl, rfl, ?_⟩
          have he : ¬ sl_ex T lg (sl_pf p) = true := fun he => hn (of_decide_eq_true (List.all_eq_true.mp he _ (List.getElem_mem hil)))
          rw [if_neg he] at h; exact h
  exact loop lg.length 0 (by omega) (fun j hj => absurd hj (Nat.not_lt_zero _))
theorem t_G_removeAll {K : sk_I → sk_J → Prop} (h : ∀ I' : sk_I, (∀ q, q ≠ 38 → I' q = I q) → I' 38 3 = 0 → K I' J) : sk_S Γ m_G_removeAll 0 0 [.ref 38] sk_gg I J (sk_Kv K) := by
  refine sk_spec (by decide) rfl (by exact Nat.le_of_ble_eq_true rfl) ?_
  exact s_G_removeAll_0 ⟨rfl, rfl, h _ (fun q hq => pi_q _ _ _ _ hq) (pi_eq _ _ _ _)⟩
theorem t_G_add {lg : List (Nat × Nat)} {v r : Nat} {K : Int32 → sk_I → sk_J → Prop} (hg : sl_lg T lg I) (hl : lg.length < 16) (hv : v < 2 ^ cS T) (hr : r < 4096)
    (h : ∀ I' : sk_I, (∀ q, q < 38 ∨ 40 < q → I' q = I q) → sl_lg T (lg ++ [(v, r)]) I' → K (nI (lg.length + 1)) I' J) : sk_S Γ m_G_add 0 0 [.ref 38, .int (nI v), .int (nI r)] sk_gg I J (sk_Ki K) := by
  refine sk_spec (by decide) rfl (by exact Nat.le_of_ble_eq_true rfl) ?_
  obtain ⟨g1, g2, g3, g4⟩ := hg
  refine s_G_add_0 ?_
  rw [g1, zI_cl (sl_lt31 (m := 16) g2 (by decide)), show nI lg.length + 1 = nI (lg.length + 1) from (nI_succ _).symm]
  refine ⟨vp_nat hl (by decide), vp_nat hl (by decide), _, rfl, rfl, h _ (fun q hq => ?_) ⟨?_, ?_, ?_, ?_⟩⟩
  · rw [pi_q _ _ _ _ (by omega), pi_q _ _ _ _ (by omega), pi_q _ _ _ _ (by omega)]
  · rw [pi_eq]; simp
  · rw [List.length_append]; simp; omega
  · intro x hx
    rcases List.mem_append.mp hx with hx | hx
    · exact g3 x hx
    · simp at hx; subst hx; exact ⟨hv, hr⟩
  · intro i x hx
    rw [pi_q _ _ _ _ (show (39 : Nat) ≠ 38 by decide), pi_q _ _ _ _ (show (39 : Nat) ≠ 40 by decide), pi_q _ _ _ _ (show (40 : Nat) ≠ 38 by decide), pi_at, pi_at, pi_q _ _ _ _ (show (40 : Nat) ≠ 39 by decide)]
    by_cases hi : i < lg.length
    · rw [List.getElem?_append_left hi] at hx
      rw [if_neg (by omega), if_neg (by omega)]
      exact g4 i x hx
    · by_cases hi2 : i = lg.length
      · subst hi2
        rw [List.getElem?_append_right (Nat.le_refl _)] at hx
        simp at hx
        subst hx
        rw [if_pos rfl, if_pos rfl]
        exact ⟨rfl, rfl⟩
      · have : (lg ++ [(v, r)])[i]? = none := List.getElem?_eq_none (by rw [List.length_append]; simp; omega)
        rw [this] at hx
        cases hx
end R2
