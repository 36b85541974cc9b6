/-! the responses -/
theorem sl_gt_le1 {k : Nat} {vs : List Nat} (h : ∀ x ∈ vs, x ≤ 1) : sl_gt k vs ≤ 1 := by
  have h2 : ¬ 2 ∈ vs := fun hm => by have := h 2 hm; omega
  unfold sl_gt
  have hv : (if k < 2 then (if 0 ∈ vs then 0 else if 2 ∈ vs then 2 else 1) else if k < 4 then (if 1 ∈ vs then 1 else if 2 ∈ vs then 2 else 0) else (if 2 ∈ vs then 2 else vs.count 1 % 2)) ≤ 1 := by
    have := Nat.mod_lt (vs.count 1) (show 0 < 2 by decide)
    rw [if_neg h2, if_neg h2, if_neg h2]
    split
    · split <;> omega
    · split
      · split <;> omega
      · omega
  simp only
  revert hv
  generalize (if k < 2 then (if 0 ∈ vs then 0 else if 2 ∈ vs then 2 else 1) else if k < 4 then (if 1 ∈ vs then 1 else if 2 ∈ vs then 2 else 0) else (if 2 ∈ vs then 2 else vs.count 1 % 2)) = w
  intro hv
  split <;> omega
theorem sl_v1_le1 {T : sl_ct} {src : Nat → Nat} {f : Option Nat} {w : Nat → Nat} {l : Nat} (hs : ∀ i, src i ≤ 1) (hw : ∀ x, w x ≤ 1) : sl_v1 T src f w l ≤ 1 := by
  unfold sl_v1
  split
  · exact sl_fb_le f
  · split
    · exact hs _
    · refine sl_gt_le1 (fun x hx => ?_)
      obtain ⟨j, hj⟩ := List.getElem?_of_mem hx
      rw [List.getElem?_mapIdx] at hj
      rename_i q _
      cases hp : q.2[j]? with
      | none => rw [hp] at hj; cases hj
      | some y =>
        rw [hp] at hj
        simp only [Option.map_some, Option.some.injEq] at hj
        rw [← hj]
        split
        · exact sl_fb_le f
        · exact hw _
theorem sl_vt_le1 {T : sl_ct} {src : Nat → Nat} {f : Option Nat} (hs : ∀ i, src i ≤ 1) : ∀ n l, sl_vt T src f n l ≤ 1
  | 0, _ => Nat.zero_le _
  | n + 1, l => by
    simp only [sl_vt]
    split
    · exact sl_v1_le1 hs (sl_vt_le1 hs n)
    · exact sl_vt_le1 hs n l
theorem sl_vv_le1 {T : sl_ct} {src : Nat → Nat} {f : Option Nat} {l : Nat} (hs : ∀ i, src i ≤ 1) : sl_vv T src f l ≤ 1 := sl_vt_le1 hs _ _
theorem sl_rs_lt {g : Nat → Nat} (hg : ∀ x, g x ≤ 1) : ∀ xs : List Nat, sl_rs g xs < 2 ^ xs.length
  | [] => by simp [sl_rs]
  | x :: t => by
    have h1 := sl_rs_lt hg t
    have h2 := hg x
    simp only [sl_rs, List.length_cons, Nat.pow_succ]
    omega
theorem sl_rs_bit {g : Nat → Nat} (hg : ∀ x, g x ≤ 1) : ∀ (xs : List Nat) (k x : Nat), xs[k]? = some x → (sl_rs g xs).testBit k = decide (g x = 1)
  | [], k, x, h => by simp at h
  | y :: t, 0, x, h => by
    simp at h
    subst h
    have := hg y
    rw [Nat.testBit_zero]
    have e : sl_rs g (y :: t) % 2 = g y := by simp only [sl_rs]; omega
    rw [e]
  | y :: t, k + 1, x, h => by
    have := hg y
    rw [Nat.testBit_succ]
    have e : sl_rs g (y :: t) / 2 = sl_rs g t := by simp only [sl_rs]; omega
    rw [e]
    exact sl_rs_bit hg t k x (by simpa using h)
theorem sl_rp_lt (T : sl_ct) (f : Option Nat) (v : Nat) : sl_rp T f v < 2 ^ (sl_ob T).length := sl_rs_lt (fun x => sl_vv_le1 (sl_sv_le v)) _
theorem sl_rp_bit {T : sl_ct} {f : Option Nat} {v k x : Nat} (h : (sl_ob T)[k]? = some x) : (sl_rp T f v).testBit k = decide (sl_vv T (sl_sv v) f x = 1) := sl_rs_bit (fun x => sl_vv_le1 (sl_sv_le v)) _ k x h
theorem sl_rp_eq {T : sl_ct} {f g : Option Nat} {v : Nat} (h : ∀ k, k < (sl_ob T).length → (sl_rp T f v).testBit k = (sl_rp T g v).testBit k) : sl_rp T f v = sl_rp T g v := by
  refine Nat.eq_of_testBit_eq fun k => ?_
  by_cases hk : k < (sl_ob T).length
  · exact h k hk
  · have hp : 2 ^ (sl_ob T).length ≤ 2 ^ k := Nat.pow_le_pow_right (by decide) (by omega)
    rw [Nat.testBit_lt_two_pow (Nat.lt_of_lt_of_le (sl_rp_lt T f v) hp), Nat.testBit_lt_two_pow (Nat.lt_of_lt_of_le (sl_rp_lt T g v) hp)]
theorem sl_mod_succ (x k : Nat) : x % 2 ^ (k + 1) = x % 2 ^ k + 2 ^ k * (x.testBit k).toNat := by
  rw [Nat.mod_pow_succ, Nat.testBit_eq_decide_div_mod_eq]
  have h := Nat.mod_lt (x / 2 ^ k) (show 0 < 2 by decide)
  by_cases h1 : x / 2 ^ k % 2 = 1
  · simp [h1]
  · have h0 : x / 2 ^ k % 2 = 0 := by omega
    simp [h0]
theorem sl_md {x y k : Nat} : (x % 2 ^ (k + 1) ≠ y % 2 ^ (k + 1)) ↔ (x % 2 ^ k ≠ y % 2 ^ k ∨ x.testBit k ≠ y.testBit k) := by
  rw [sl_mod_succ, sl_mod_succ]
  have h1 := Nat.mod_lt x (Nat.two_pow_pos k)
  have h2 := Nat.mod_lt y (Nat.two_pow_pos k)
  generalize x % 2 ^ k = a at *
  generalize y % 2 ^ k = b at *
  generalize 2 ^ k = P at *
  cases x.testBit k <;> cases y.testBit k <;> simp <;> omega
/-- the fault at a place -/
def sl_pf (p : Nat) : Option Nat := match p with | 0 => none | q + 1 => some q
theorem sl_fi_pf (p : Nat) : sl_fi (sl_pf p) + 1 = nI p := by
  cases p with
  | zero => show (-1 : Int32) + 1 = nI 0; decide +kernel
  | succ q => exact (nI_succ q).symm
theorem sl_vf_pf {T : sl_ct} {p : Nat} (h : p ≤ cF T) : sl_vf T (sl_pf p) := by
  intro q hq
  cases p with
  | zero => cases hq
  | succ r =>
    cases hq
    exact h
/-- the word of an observed line -/
def sl_RW (T : sl_ct) (f : Option Nat) (k : Nat) (x : Int64) : Prop := ∀ v, v < 64 → sk_bt x v = (decide (v < 2 ^ cS T) && (sl_rp T f v).testBit k)
/-- .. of the vectors that show a fault -/
def sl_SW (T : sl_ct) (f : Option Nat) (x : Int64) : Prop := ∀ v, v < 64 → sk_bt x v = (decide (v < 2 ^ cS T) && decide (sl_rp T f v ≠ sl_rp T none v))
def sl_ok (T : sl_ct) (J : sk_J) (p : Nat) : Prop := (∀ k, k < (sl_ob T).length → sl_RW T (sl_pf p) k (J 17 (p * 12 + k))) ∧ sl_SW T (sl_pf p) (J 18 p)
def sl_ch (T : sl_ct) (I : sk_I) (J : sk_J) : Prop := ∀ p, p ≤ cF T → I 19 p = I 1 0 → sl_ok T J p
def sl_fR (I I' : sk_I) (J J' : sk_J) : Prop := (∀ q, q ≠ 19 → q ≠ 20 → I' q = I q) ∧ (∀ q, q < 17 ∨ 24 < q → J' q = J q) ∧ (∀ p, I' 19 p = I 19 p ∨ I' 19 p = I 1 0)
theorem sl_fR_refl (I : sk_I) (J : sk_J) : sl_fR I I J J := ⟨fun _ _ _ => rfl, fun _ _ => rfl, fun _ => Or.inl rfl⟩
theorem sl_fR_trans {I I' I'' : sk_I} {J J' J'' : sk_J} (h1 : sl_fR I I' J J') (h2 : sl_fR I' I'' J' J'') : sl_fR I I'' J J'' := by
  refine ⟨fun q a b => by rw [h2.1 q a b, h1.1 q a b], fun q a => by rw [h2.2.1 q a, h1.2.1 q a], fun p => ?_⟩
  rcases h2.2.2 p with e | e
  · rw [e]; exact h1.2.2 p
  · rw [e, h1.1 1 (by decide) (by decide)]; exact Or.inr rfl
theorem sl_fR_keep {I I' : sk_I} {J J' : sk_J} (h : sl_fR I I' J J') {p : Nat} (hp : I 19 p = I 1 0) : I' 19 p = I' 1 0 := by
  rw [h.1 1 (by decide) (by decide)]
  rcases h.2.2 p with e | e
  · rw [e, hp]
  · exact e
theorem sl_fR_rc {T : sl_ct} {I I' : sk_I} {J J' : sk_J} (h : sl_fR I I' J J') (hr : sl_rc T I) : sl_rc T I' :=
  sl_rc_frame hr (fun j _ _ => by rw [h.1 1 (by decide) (by decide)]) (fun q _ _ => h.1 q (by omega) (by omega))
theorem sl_low1 (x : Int64) {v : Nat} (hv : v < 64) : sk_ushr x (nI v) &&& 1 = if sk_bt x v = true then 1 else 0 := by
  refine bt_ext fun k hk => ?_
  rw [bt_and, bt_ushr _ hv, bt_1]
  by_cases h0 : k = 0
  · subst h0
    rw [Nat.add_zero]
    split
    · rename_i h; rw [h, bt_1]; rfl
    · rename_i h; rw [bt_0]; simpa using h
  · split
    · rw [bt_1]; simp [h0]
    · rw [bt_0]; simp [h0]
theorem sl_i32 : ((1 : Int64).toInt32 = nI 1) ∧ ((0 : Int64).toInt32 = nI 0) := by decide +kernel
theorem sl_orP : ∀ k, k < 12 → ∀ s, s < 2 ^ k → nI s ||| (nI 1 <<< (nI k &&& 31)) = nI (s + 2 ^ k) ∧ nI s ||| (nI 0 <<< (nI k &&& 31)) = nI s := by decide +kernel
/-- the first, the number -/
def sl_find (p : Nat → Bool) : Nat → Nat → Option Nat
  | _, 0 => none
  | i, d + 1 => if p i = true then some i else sl_find p (i + 1) d
def sl_cnt (p : Nat → Bool) : Nat → Nat
  | 0 => 0
  | n + 1 => sl_cnt p n + (if p n = true then 1 else 0)
theorem sl_cnt_le (p : Nat → Bool) : ∀ n, sl_cnt p n ≤ n
  | 0 => Nat.le_refl _
  | n + 1 => by
    have := sl_cnt_le p n
    simp only [sl_cnt]
    split <;> omega
theorem sl_find_lt {p : Nat → Bool} : ∀ {d i r : Nat}, sl_find p i d = some r → i ≤ r ∧ r < i + d ∧ p r = true
  | 0, i, r, h => by cases h
  | d + 1, i, r, h => by
    simp only [sl_find] at h
    split at h
    · rename_i hp
      cases h
      exact ⟨Nat.le_refl _, by omega, hp⟩
    · have := sl_find_lt h
      exact ⟨by omega, by omega, this.2.2⟩
theorem sl_find_none {p : Nat → Bool} : ∀ {d i : Nat}, sl_find p i d = none ↔ ∀ r, i ≤ r → r < i + d → p r = false
  | 0, i => ⟨fun _ r h1 h2 => by omega, fun _ => rfl⟩
  | d + 1, i => by
    simp only [sl_find]
    constructor
    · intro h r h1 h2
      split at h
      · cases h
      · rename_i hp
        by_cases hr : r = i
        · subst hr; simpa using hp
        · exact sl_find_none.mp h r (by omega) (by omega)
    · intro h
      rw [if_neg (by rw [h i (Nat.le_refl _) (by omega)]; simp)]
      exact sl_find_none.mpr (fun r h1 h2 => h r (by omega) (by omega))
theorem sl_find_congr {p p' : Nat → Bool} : ∀ {d i e : Nat}, (∀ r, i ≤ r → r < i + d → p r = p' r) → (∀ r, i + d ≤ r → p r = false) → sl_find p i (d + e) = sl_find p' i d
  | 0, i, e, _, h => by
    rw [Nat.zero_add]
    exact sl_find_none.mpr (fun r h1 h2 => h r (by omega))
  | d + 1, i, e, h1, h2 => by
    rw [show d + 1 + e = (d + e) + 1 by omega]
    simp only [sl_find]
    rw [h1 i (Nat.le_refl _) (by omega), sl_find_congr (d := d) (fun r a b => h1 r (by omega) (by omega)) (fun r a => h2 r (by omega))]
/-- the least vector that shows a fault; are two alike; the first alike -/
def sl_sh (T : sl_ct) (q v : Nat) : Bool := decide (sl_rp T (some q) v ≠ sl_rp T none v)
def sl_ls (T : sl_ct) (q : Nat) : Option Nat := sl_find (sl_sh T q) 0 (2 ^ cS T)
def sl_al (T : sl_ct) (f g : Nat) : Bool := decide (∀ v, v < 2 ^ cS T → sl_rp T (some f) v = sl_rp T (some g) v)
def sl_fa (T : sl_ct) (f : Nat) : Nat := (sl_find (fun g => sl_al T g f) 0 f).getD f
section RR
variable {Γ : sk_T} {I : sk_I} {J : sk_J} {T : sl_ct}
theorem t_R_workOut {p : Nat} {K : sk_I → sk_J → Prop} (hw : sl_wf T) (hr : sl_rc T I) (hc : sl_ch T I J) (hp : p ≤ cF T) (h0 : p = 0 ∨ I 19 0 = I 1 0)
    (h : ∀ I' J', sl_fR I I' J J' → sl_ch T I' J' → I' 19 p = I' 1 0 → K I' J') : sk_S Γ m_R_workOut 0 0 [.ref 16, .int (sl_fi (sl_pf p))] sk_gg I J (sk_Kv K) := by
  refine sk_spec (by decide) rfl (by exact Nat.le_of_ble_eq_true rfl) ?_
  have hF : cF T ≤ 208 := sl_F_le hw
  have hp31 : p < 2 ^ 31 := sl_lt31 (m := 208) (by omega) (by decide)
  have hvp : vp_in (nI p) 209 := vp_nat (by omega) (by decide)
  have hB := sl_B31 hw
  have hB12 := sl_ob_len hw
  have hS := hw.2.1
  have hN := hw.1
  have ho : sk_sg 20 := Or.inr (Or.inl rfl)
  refine s_R_workOut_0 ?_
  rw [sl_fi_pf, zI_cl hp31]
  refine ⟨hvp, fun hne => ?_, fun he => ⟨rfl, rfl, h I J (sl_fR_refl I J) hc he⟩⟩
  refine t_C_vectors' hw hr ?_
  refine s_R_workOut_33 ?_
  refine t_S_settleVectors ho hw hr (sl_vf_pf hp) (fun I1 J1 fI fJ fE => ?_)
  refine s_R_workOut_47 ?_
  have i1 : I1 1 = I 1 := fI 1 (by decide)
  have i8 : I1 8 = I 8 := fI 8 (by decide)
  have a4 : I1 1 4 = nI (sl_ob T).length := by rw [i1]; exact hr.1.2.2.2.1
  have c6 : sl_pre (I1 8) (sl_ob T) := by rw [i8]; exact hr.2.2.2.2.2.2
  have loop : ∀ d k (J2 : sk_J) (y : Int64), k + d = (sl_ob T).length → (∀ q, q ≠ 17 → J2 q = J1 q) → (∀ j, j < p * 12 ∨ p * 12 + 12 ≤ j → J2 17 j = J 17 j) → (∀ k', k' < k → sl_RW T (sl_pf p) k' (J2 17 (p * 12 + k'))) →
      (∀ v, v < 64 → sk_bt y v = (decide (v < 2 ^ cS T) && decide (sl_rp T (sl_pf p) v % 2 ^ k ≠ sl_rp T none v % 2 ^ k))) →
      sk_W Γ m_R_workOut 0 0 50 [(0, .ref 16), (2, .int (nI p)), (3, .long (sk_ushr (-1) (64 - nI (2 ^ cS T)))), (5, .long y), (7, .int (nI k))] [] sk_gg I1 J2 0 0 (sk_Kv K) := by
    intro d
    induction d with
    | zero =>
      intro k J2 y hk jq jo jw jy
      have hk : k = (sl_ob T).length := by omega
      subst hk
      refine s_R_workOut_50 ⟨fun _ => ?_, fun hcc => absurd ?_ hcc⟩
      · rw [zI_cl hp31]
        refine ⟨hvp, hvp, rfl, rfl, h _ _ ⟨fun q a b => ?_, fun q a => ?_, fun p' => ?_⟩ (fun p' hp' hv => ?_) ?_⟩
        · rw [pi_q _ _ _ _ a, fI q b]
        · rw [pj_q _ _ _ _ (by omega), jq q (by omega), fJ q (by omega)]
        · rw [pi_at, i1, fI 19 (by decide)]
          split
          · exact Or.inr rfl
          · exact Or.inl rfl
        · by_cases hpp : p' = p
          · subst hpp
            refine ⟨fun k hk => ?_, ?_⟩
            · rw [pj_q _ _ _ _ (by decide)]; exact jw k hk
            · rw [pj_eq]
              intro v hv
              rw [jy v hv, Nat.mod_eq_of_lt (sl_rp_lt T _ v), Nat.mod_eq_of_lt (sl_rp_lt T _ v)]
          · rw [pi_j _ _ _ _ hpp, pi_q _ _ _ _ (by decide), i1, fI 19 (by decide)] at hv
            obtain ⟨o1, o2⟩ := hc p' hp' hv
            refine ⟨fun k hk => ?_, ?_⟩
            · rw [pj_q _ _ _ _ (by decide), jo _ (by omega)]; exact o1 k hk
            · rw [pj_j _ _ _ _ hpp, jq 18 (by decide), fJ 18 (by decide)]; exact o2
        · rw [pi_eq, pi_q _ _ _ _ (by decide)]
      · rw [a4]; exact (zI_le hB hB).mpr (Nat.le_refl _)
    | succ d ih =>
      intro k J2 y hk jq jo jw jy
      have hkB : k < (sl_ob T).length := by omega
      have hk31 : k < 2 ^ 31 := by omega
      have hm := List.getElem_mem hkB
      have hx := sl_ob_lt hw _ hm
      refine s_R_workOut_50 ⟨fun hcc => ?_, fun _ => ⟨vp_nat (by omega) (by decide), ?_⟩⟩
      · rw [a4, zI_le hB hk31] at hcc; omega
      · rw [zI_cl hk31, sl_pre_lt c6 hkB]
        refine t_S_onesOf ho (by omega) ?_
        refine s_R_workOut_79 ?_
        have e12 : nI p * 12 + nI k = nI (p * 12 + k) := by
          rw [show (12 : Int32) = nI 12 by decide +kernel, zI_mul, zI_add]
        rw [e12, zI_cl (sl_lt31 (m := 2508) (by omega) (by decide)), zI_cl hk31, show nI k + 1 = nI (k + 1) from (nI_succ k).symm]
        have hone : J2 (20 + 3) (sl_ob T)[k] = J1 23 (sl_ob T)[k] := by rw [show 20 + 3 = 23 from rfl, jq 23 (by decide)]
        have hRW : sl_RW T (sl_pf p) k (J2 (20 + 3) (sl_ob T)[k] &&& sk_ushr (-1) (64 - nI (2 ^ cS T))) := by
          intro v hv
          rw [bt_and, sk_maskT _ (by omega) v hv, hone, (fE _ hx v hv).1, sl_rp_bit (List.getElem?_eq_getElem hkB), Bool.and_comm]
        refine ⟨vp_nat (by omega) (by decide), vp_nat (by omega) (by decide), ih (k + 1) _ _ (by omega) (fun q hq => ?_) (fun j hj => ?_) (fun k' hk' => ?_) (fun v hv => ?_)⟩
        · rw [pj_q _ _ _ _ hq, jq q hq]
        · rw [pj_j _ _ _ _ (by omega)]; exact jo j hj
        · rw [pj_at]
          by_cases hkk : k' = k
          · subst hkk; rw [if_pos rfl]; exact hRW
          · rw [if_neg (by omega)]; exact jw k' (by omega)
        · have hz : sl_RW T none k (sk_pj J2 17 (p * 12 + k) (J2 (20 + 3) (sl_ob T)[k] &&& sk_ushr (-1) (64 - nI (2 ^ cS T))) 17 k) := by
            rcases h0 with hp0 | hp0
            · subst hp0
              rw [show 0 * 12 + k = k by omega, pj_eq]; exact hRW
            · by_cases hpz : p = 0
              · subst hpz
                rw [show 0 * 12 + k = k by omega, pj_eq]; exact hRW
              · rw [pj_j _ _ _ _ (by omega), jo _ (by omega)]
                have := (hc 0 (Nat.zero_le _) hp0).1 k hkB
                rw [show 0 * 12 + k = k by omega] at this
                exact this
          rw [bt_or, bt_xor, jy v hv, hRW v hv, hz v hv]
          by_cases hv2 : v < 2 ^ cS T
          · simp only [hv2, decide_true, Bool.true_and]
            rw [show decide (sl_rp T (sl_pf p) v % 2 ^ (k + 1) ≠ sl_rp T none v % 2 ^ (k + 1)) = decide (sl_rp T (sl_pf p) v % 2 ^ k ≠ sl_rp T none v % 2 ^ k ∨ (sl_rp T (sl_pf p) v).testBit k ≠ (sl_rp T none v).testBit k) from decide_eq_decide.mpr sl_md]
            rw [Bool.decide_or]
            congr 1
            cases (sl_rp T (sl_pf p) v).testBit k <;> cases (sl_rp T none v).testBit k <;> rfl
          · simp only [hv2, decide_false, Bool.false_and]
            rfl
  refine loop (sl_ob T).length 0 J1 0 (by omega) (fun _ _ => rfl) (fun j hj => ?_) (fun k' hk' => absurd hk' (Nat.not_lt_zero _)) (fun v hv => ?_)
  · rw [fJ 17 (by decide)]
  · rw [bt_0]; simp [Nat.mod_one]
theorem t_R_prepare {p : Nat} {K : sk_I → sk_J → Prop} (hw : sl_wf T) (hr : sl_rc T I) (hc : sl_ch T I J) (hp : p ≤ cF T)
    (h : ∀ I' J', sl_fR I I' J J' → sl_ch T I' J' → sl_ok T J' 0 → sl_ok T J' p → K I' J') : sk_S Γ m_R_prepare 0 0 [.ref 16, .int (sl_fi (sl_pf p))] sk_gg I J (sk_Kv K) := by
  refine sk_spec (by decide) rfl (by exact Nat.le_of_ble_eq_true rfl) ?_
  refine s_R_prepare_0 ?_
  refine t_R_workOut (p := 0) hw hr hc (Nat.zero_le _) (Or.inl rfl) (fun I1 J1 f1 c1 v1 => ?_)
  refine s_R_prepare_5 ?_
  refine t_R_workOut (p := p) hw (sl_fR_rc f1 hr) c1 hp (Or.inr v1) (fun I2 J2 f2 c2 v2 => ?_)
  exact s_R_prepare_10 ⟨rfl, rfl, h I2 J2 (sl_fR_trans f1 f2) c2 (c2 0 (Nat.zero_le _) (sl_fR_keep f2 v1)) (c2 p hp v2)⟩
theorem t_R_prepareAll {K : sk_I → sk_J → Prop} (hw : sl_wf T) (hr : sl_rc T I) (hc : sl_ch T I J)
    (h : ∀ I' J', sl_fR I I' J J' → sl_ch T I' J' → (∀ p, p ≤ cF T → sl_ok T J' p) → K I' J') : sk_S Γ m_R_prepareAll 0 0 [.ref 16] sk_gg I J (sk_Kv K) := by
  refine sk_spec (by decide) rfl (by exact Nat.le_of_ble_eq_true rfl) ?_
  have hF : cF T ≤ 208 := sl_F_le hw
  have hF31 : cF T < 2 ^ 31 := sl_lt31 (m := 208) (by omega) (by decide)
  refine s_R_prepareAll_0 ?_
  have loop : ∀ d p (I1 : sk_I) (J1 : sk_J), p + d = cF T + 1 → sl_fR I I1 J J1 → sl_ch T I1 J1 → (∀ p', p' < p → I1 19 p' = I1 1 0) →
      sk_W Γ m_R_prepareAll 0 0 2 [(0, .ref 16), (1, .int (sl_fi (sl_pf p)))] [] sk_gg I1 J1 0 0 (sk_Kv K) := by
    intro d
    induction d with
    | zero =>
      intro p I1 J1 hp f1 c1 v1
      have hp : p = cF T + 1 := by omega
      subst hp
      refine s_R_prepareAll_2 ?_
      refine t_C_faults' (sl_fR_rc f1 hr) ?_
      refine s_R_prepareAll_10 ⟨fun _ => ⟨rfl, rfl, h I1 J1 f1 c1 (fun p hp => c1 p hp (v1 p (by omega)))⟩, fun hcc => absurd ?_ hcc⟩
      exact (zI_le hF31 hF31).mpr (Nat.le_refl _)
    | succ d ih =>
      intro p I1 J1 hp f1 c1 v1
      have hpF : p ≤ cF T := by omega
      refine s_R_prepareAll_2 ?_
      refine t_C_faults' (sl_fR_rc f1 hr) ?_
      refine s_R_prepareAll_10 ⟨fun hcc => ?_, fun _ => ?_⟩
      · exfalso
        cases p with
        | zero =>
          have h1 : nI (cF T) ≤ -1 := hcc
          rw [Int32.le_iff_toInt_le, nI_toInt hF31] at h1
          have h2 : (-1 : Int32).toInt = -1 := by decide +kernel
          omega
        | succ q =>
          have h1 : nI (cF T) ≤ nI q := hcc
          rw [zI_le hF31 (by omega)] at h1
          omega
      · refine t_R_workOut (p := p) hw (sl_fR_rc f1 hr) c1 hpF ?_ (fun I2 J2 f2 c2 v2 => ?_)
        · by_cases hp0 : p = 0
          · exact Or.inl hp0
          · exact Or.inr (v1 0 (by omega))
        · refine s_R_prepareAll_18 ?_
          rw [sl_fi_pf]
          refine ih (p + 1) I2 J2 (by omega) (sl_fR_trans f1 f2) c2 (fun p' hp' => ?_)
          by_cases hpp : p' = p
          · rw [hpp]; exact v2
          · exact sl_fR_keep f2 (v1 p' (by omega))
  exact loop (cF T + 1) 0 I J (by omega) (sl_fR_refl I J) hc (fun p' hp' => absurd hp' (Nat.not_lt_zero _))
theorem t_R_vectorsShowing {q : Nat} {K : Int64 → sk_I → sk_J → Prop} (hq : q < 208) (h : K (J 18 (q + 1)) I J) : sk_S Γ m_R_vectorsShowing 0 0 [.ref 16, .int (nI q)] sk_gg I J (sk_Kl K) := by
  refine sk_spec (by decide) rfl (by exact Nat.le_of_ble_eq_true rfl) ?_
  refine s_R_vectorsShowing_0 ?_
  rw [show nI q + 1 = nI (q + 1) from (nI_succ q).symm, zI_cl (sl_lt31 (m := 209) (by omega) (by decide))]
  exact ⟨vp_nat (by omega) (by decide), _, rfl, rfl, h⟩
theorem t_R_firstShowing {q : Nat} {K : Int32 → sk_I → sk_J → Prop} (hw : sl_wf T) (hq : q < cF T) (ho : sl_ok T J (q + 1)) (h : K (sl_oi (sl_ls T q)) I J) : sk_S Γ m_R_firstShowing 0 0 [.ref 16, .int (nI q)] sk_gg I J (sk_Ki K) := by
  refine sk_spec (by decide) rfl (by exact Nat.le_of_ble_eq_true rfl) ?_
  have hF : cF T ≤ 208 := sl_F_le hw
  have hS := sl_S64 hw
  refine s_R_firstShowing_0 ?_
  refine t_R_vectorsShowing (by omega) ?_
  refine s_R_firstShowing_5 ?_
  have e : sl_ls T q = sl_find (fun v => sk_bt (J 18 (q + 1)) v) 0 64 := by
    unfold sl_ls
    rw [show 64 = 2 ^ cS T + (64 - 2 ^ cS T) by omega]
    symm
    refine sl_find_congr (fun r h1 h2 => ?_) (fun r h1 => ?_)
    · rw [ho.2 r (by omega)]
      have : r < 2 ^ cS T := by omega
      simp only [this, decide_true, Bool.true_and]
      rfl
    · by_cases hr : r < 64
      · rw [ho.2 r hr]
        have : ¬ r < 2 ^ cS T := by omega
        simp [this]
      · exact bt_big _ (by omega)
  rw [e] at h
  have loop : ∀ d i, i + d = 64 → K (sl_oi (sl_find (fun v => sk_bt (J 18 (q + 1)) v) i d)) I J → sk_W Γ m_R_firstShowing 0 0 9 [(2, .long (J 18 (q + 1))), (4, .int (nI i))] [] sk_gg I J 0 0 (sk_Ki K) := by
    intro d
    induction d with
    | zero =>
      intro i hi hk
      have hi : i = 64 := by omega
      subst hi
      exact s_R_firstShowing_9 ⟨fun _ => ⟨_, rfl, rfl, hk⟩, fun hcc => absurd (by decide +kernel) hcc⟩
    | succ d ih =>
      intro i hi hk
      have hi31 : i < 2 ^ 31 := sl_lt31 (m := 64) (by omega) (by decide)
      refine s_R_firstShowing_9 ⟨fun hcc => ?_, fun _ => ?_⟩
      · rw [show (64 : Int32) = nI 64 by decide +kernel, zI_le (by decide) hi31] at hcc; omega
      · rw [bt_test _ (by omega), show nI i + 1 = nI (i + 1) from (nI_succ i).symm]
        simp only [sl_find] at hk
        refine ⟨fun hn => ?_, fun hy => ⟨_, rfl, rfl, ?_⟩⟩
        · rw [if_neg hn] at hk
          exact ih (i + 1) (by omega) hk
        · rw [if_pos hy] at hk
          exact hk
  exact loop 64 0 (by omega) h
theorem t_R_to {p v : Nat} {K : Int32 → sk_I → sk_J → Prop} (hw : sl_wf T) (hr : sl_rc T I) (hp : p ≤ cF T) (hv : v < 2 ^ cS T) (ho : sl_ok T J p) (h : K (nI (sl_rp T (sl_pf p) v)) I J) : sk_S Γ m_R_to 0 0 [.ref 16, .int (nI v), .int (sl_fi (sl_pf p))] sk_gg I J (sk_Ki K) := by
  refine sk_spec (by decide) rfl (by exact Nat.le_of_ble_eq_true rfl) ?_
  have hF : cF T ≤ 208 := sl_F_le hw
  have hS := sl_S64 hw
  have hv64 : v < 64 := by omega
  have hB := sl_B31 hw
  have hB12 := sl_ob_len hw
  have a4 : I 1 4 = nI (sl_ob T).length := hr.1.2.2.2.1
  refine s_R_to_0 ?_
  rw [sl_fi_pf, show (12 : Int32) = nI 12 by decide +kernel, zI_mul]
  have loop : ∀ d k, k + d = (sl_ob T).length → sk_W Γ m_R_to 0 0 13 [(0, .ref 16), (1, .int (nI v)), (3, .int (nI (p * 12))), (4, .int (nI (sl_rp T (sl_pf p) v % 2 ^ k))), (5, .int (nI k))] [] sk_gg I J 0 0 (sk_Ki K) := by
    intro d
    induction d with
    | zero =>
      intro k hk
      have hk : k = (sl_ob T).length := by omega
      subst hk
      rw [Nat.mod_eq_of_lt (sl_rp_lt T _ v)]
      refine s_R_to_13 ⟨fun _ => ⟨_, rfl, rfl, h⟩, fun hcc => absurd ?_ hcc⟩
      rw [a4]; exact (zI_le hB hB).mpr (Nat.le_refl _)
    | succ d ih =>
      intro k hk
      have hkB : k < (sl_ob T).length := by omega
      have hk31 : k < 2 ^ 31 := by omega
      refine s_R_to_13 ⟨fun hcc => ?_, fun _ => ?_⟩
      · rw [a4, zI_le hB hk31] at hcc; omega
      · rw [zI_add, zI_cl (sl_lt31 (m := 2508) (by omega) (by decide)), sl_low1 _ hv64, ho.1 k hkB v hv64]
        refine ⟨vp_nat (by omega) (by decide), ?_⟩
        have hm := Nat.mod_lt (sl_rp T (sl_pf p) v) (Nat.two_pow_pos k)
        obtain ⟨o1, o0⟩ := sl_orP k (by omega) _ hm
        have e : nI (sl_rp T (sl_pf p) v % 2 ^ k) ||| (Int64.toInt32 (if (decide (v < 2 ^ cS T) && (sl_rp T (sl_pf p) v).testBit k) = true then 1 else 0) <<< (nI k &&& 31)) = nI (sl_rp T (sl_pf p) v % 2 ^ (k + 1)) := by
          rw [sl_mod_succ]
          cases hb : (sl_rp T (sl_pf p) v).testBit k with
          | true => simp only [hv, decide_true, Bool.and_true, if_true, sl_i32.1]; rw [o1]; simp
          | false => simp only [Bool.and_false]; rw [if_neg (by decide), sl_i32.2, o0]; simp
        rw [e, show nI k + 1 = nI (k + 1) from (nI_succ k).symm]
        exact ih (k + 1) (by omega)
  have := loop (sl_ob T).length 0 (by omega)
  rw [show sl_rp T (sl_pf p) v % 2 ^ 0 = 0 from Nat.mod_one _] at this
  exact this
end RR
