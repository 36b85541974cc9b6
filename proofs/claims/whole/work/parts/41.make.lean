/-! the model's values -/
theorem sl_site {T : sl_ct} {I : sk_I} (ho : sl_mo T I) {s : Nat} (hs : s < cN T + cP T) : (s < cN T ∧ I 51 s = nI s ∧ I 52 s = -1) ∨ ∃ l, l < cN T ∧ ∃ j, j < sl_p1 (cD T l) ∧ s = cN T + sl_np (cD T) l + j ∧ I 51 s = nI l ∧ I 52 s = nI j := by
  by_cases h : s < cN T
  · exact Or.inl ⟨h, ho.2.2.2.1 s h⟩
  · obtain ⟨l, hl, j, hj, e⟩ := sl_dec (cD T) (cN T) (s - cN T) (by have : s < cN T + cP T := hs; show s - cN T < cP T; omega)
    have e2 : s = cN T + sl_np (cD T) l + j := by omega
    refine Or.inr ⟨l, hl, j, hj, e2, ?_⟩
    rw [e2]; exact ho.2.2.2.2 l hl j hj
theorem sl_np_inj {d : Nat → sl_ln} {l l' j j' : Nat} (hj : j < sl_p1 (d l)) (hj' : j' < sl_p1 (d l')) (h : sl_np d l + j = sl_np d l' + j') : l = l' ∧ j = j' := by
  rcases Nat.lt_trichotomy l l' with hl | hl | hl
  · have := sl_np_lt (d := d) hl hj; omega
  · subst hl; exact ⟨rfl, by omega⟩
  · have := sl_np_lt (d := d) hl hj'; omega
/-- where the fault is, as the model has it -/
def sl_mln (I : sk_I) (f : Option Nat) : Int32 := match f with | none => -1 | some q => I 51 (q / 2)
def sl_mpn (I : sk_I) (f : Option Nat) : Int32 := match f with | none => -1 | some q => I 52 (q / 2)
theorem sl_mat_l {T : sl_ct} {I : sk_I} {f : Option Nat} (hw : sl_wf T) (ho : sl_mo T I) (hf : sl_vf T f) {l : Nat} (hl : l < cN T) : (nI l = sl_mln I f ∧ sl_mpn I f = -1) ↔ sl_at f l = true := by
  have hN := hw.1
  have hl31 : l < 2 ^ 31 := sl_lt31 (m := 26) (by omega) (by decide)
  cases f with
  | none =>
    show (nI l = -1 ∧ (-1 : Int32) = -1) ↔ false = true
    exact ⟨fun h => absurd h.1 (zI_m1 hl31), fun h => by cases h⟩
  | some q =>
    have hq : q < 2 * (cN T + cP T) := hf q rfl
    show (nI l = I 51 (q / 2) ∧ I 52 (q / 2) = -1) ↔ (q / 2 == l) = true
    rw [beq_iff_eq]
    rcases sl_site ho (s := q / 2) (by omega) with ⟨h1, h2, h3⟩ | ⟨l', hl', j', hj', e, h2, h3⟩
    · rw [h2, h3, zI_inj hl31 (sl_lt31 (m := 26) (by omega) (by decide))]
      exact ⟨fun h => h.1.symm, fun h => ⟨h.symm, rfl⟩⟩
    · have hp3 := sl_p1_le hw hl'
      rw [h3]
      exact ⟨fun h => absurd h.2 (zI_m1 (sl_lt31 (m := 26) (by omega) (by decide))), fun h => by omega⟩
theorem sl_mat_p {T : sl_ct} {I : sk_I} {f : Option Nat} (hw : sl_wf T) (ho : sl_mo T I) (hf : sl_vf T f) {l j : Nat} (hl : l < cN T) (hj : j < sl_p1 (cD T l)) : (nI l = sl_mln I f ∧ nI j = sl_mpn I f) ↔ sl_at f (cN T + sl_np (cD T) l + j) = true := by
  have hN := hw.1
  have hp3 := sl_p1_le hw hl
  have hl31 : l < 2 ^ 31 := sl_lt31 (m := 26) (by omega) (by decide)
  have hj31 : j < 2 ^ 31 := sl_lt31 (m := 26) (by omega) (by decide)
  cases f with
  | none =>
    show (nI l = -1 ∧ nI j = -1) ↔ false = true
    exact ⟨fun h => absurd h.1 (zI_m1 hl31), fun h => by cases h⟩
  | some q =>
    have hq : q < 2 * (cN T + cP T) := hf q rfl
    show (nI l = I 51 (q / 2) ∧ nI j = I 52 (q / 2)) ↔ (q / 2 == cN T + sl_np (cD T) l + j) = true
    rw [beq_iff_eq]
    rcases sl_site ho (s := q / 2) (by omega) with ⟨h1, h2, h3⟩ | ⟨l', hl', j', hj', e, h2, h3⟩
    · rw [h3]
      exact ⟨fun h => absurd h.2 (zI_m1 hj31), fun h => by omega⟩
    · have hp3' := sl_p1_le hw hl'
      rw [h2, h3, zI_inj hl31 (sl_lt31 (m := 26) (by omega) (by decide)), zI_inj hj31 (sl_lt31 (m := 26) (by omega) (by decide)), e]
      constructor
      · rintro ⟨rfl, rfl⟩; rfl
      · intro h
        have := sl_np_inj (d := cD T) hj' hj (by omega)
        exact ⟨this.1.symm, this.2.symm⟩
theorem sl_cnt0 {a : Nat} {xs : List Nat} (h : xs.length ≤ 3) : nI (xs.count a) ≤ 0 ↔ ¬ a ∈ xs := by
  have h1 : xs.count a ≤ xs.length := List.count_le_length
  rw [show (0 : Int32) = nI 0 by decide +kernel, zI_le (sl_lt31 (m := 3) (by omega) (by decide)) (by decide), ← List.count_pos_iff]
  omega
theorem zI_i2 : ∀ n, n < 4 → nI n - nI n / 2 * 2 = nI (n % 2) := by decide +kernel
theorem zI_k2 : ∀ k, k < 6 → (nI k - nI k / 2 * 2 = 0 ↔ k % 2 = 0) ∧ (2 ≤ nI k ↔ ¬ k < 2) ∧ (4 ≤ nI k ↔ ¬ k < 4) := by decide +kernel
theorem zI_1m : ∀ v, v < 2 → (1 : Int32) - nI v = nI (1 - v) := by decide +kernel
section MM
variable {Γ : sk_T} {I : sk_I} {J : sk_J} {T : sl_ct}
theorem t_M_madeOf {k : Nat} {xs : List Nat} {K : Int32 → sk_I → sk_J → Prop} (hk : k < 6) (hl : xs.length ≤ 3) (h : K (nI (sl_gt k xs)) I J) : sk_S Γ m_M_madeOf 0 0 [.int (nI k), .int (nI (xs.count 0)), .int (nI (xs.count 1)), .int (nI (xs.count 2))] sk_gg I J (sk_Ki K) := by
  refine sk_spec (by decide) rfl (by exact Nat.le_of_ble_eq_true rfl) ?_
  obtain ⟨z0, z2, z4⟩ := zI_k2 k hk
  have fin : ∀ v, v ≤ 2 → K (nI (if v = 2 ∨ k % 2 = 0 then v else 1 - v)) I J → sk_W Γ m_M_madeOf 0 0 67 [(0, .int (nI k)), (4, .int (nI v))] [] sk_gg I J 0 0 (sk_Ki K) := by
    intro v hv hK
    refine s_M_madeOf_67 ?_
    rw [z0, zI_2, zI_inj (sl_lt31 (m := 2) hv (by decide)) (by decide)]
    refine ⟨fun h2 => ⟨_, rfl, rfl, ?_⟩, fun h2 => ⟨fun h0 => ⟨_, rfl, rfl, ?_⟩, fun h0 => ⟨_, rfl, rfl, ?_⟩⟩⟩
    · rw [if_pos (Or.inl h2)] at hK; exact hK
    · rw [if_neg (by omega)] at hK
      rw [zI_1m v (by omega)]; exact hK
    · rw [if_pos (Or.inr h0)] at hK; exact hK
  have hc1 : xs.count 1 < 4 := by have : xs.count 1 ≤ xs.length := List.count_le_length; omega
  unfold sl_gt at h
  simp only at h
  refine s_M_madeOf_0 ?_
  rw [z2, z4, sl_cnt0 hl, sl_cnt0 hl, sl_cnt0 hl, zI_i2 _ hc1]
  refine ⟨fun k2 => ⟨fun k4 => ⟨fun n2 => ?_, fun y2 => ?_⟩, fun k4 => ⟨fun n1 => ⟨fun n2 => ?_, fun y2 => ?_⟩, fun y1 => ?_⟩⟩, fun k2 => ⟨fun n0 => ⟨fun n2 => ?_, fun y2 => ?_⟩, fun y0 => ?_⟩⟩
  · rw [if_neg k2, if_neg k4, if_neg n2] at h
    exact fin _ (by omega) h
  · rw [if_neg k2, if_neg k4, if_pos (Classical.byContradiction y2)] at h
    exact fin 2 (by omega) h
  · have k4 := Classical.byContradiction k4
    rw [if_neg k2, if_pos k4, if_neg n1, if_neg n2] at h
    exact fin 0 (by omega) h
  · have k4 := Classical.byContradiction k4
    rw [if_neg k2, if_pos k4, if_neg n1, if_pos (Classical.byContradiction y2)] at h
    exact fin 2 (by omega) h
  · have k4 := Classical.byContradiction k4
    rw [if_neg k2, if_pos k4, if_pos (Classical.byContradiction y1)] at h
    exact fin 1 (by omega) h
  · have k2 := Classical.byContradiction k2
    rw [if_pos k2, if_neg n0, if_neg n2] at h
    exact fin 1 (by omega) h
  · have k2 := Classical.byContradiction k2
    rw [if_pos k2, if_neg n0, if_pos (Classical.byContradiction y2)] at h
    exact fin 2 (by omega) h
  · have k2 := Classical.byContradiction k2
    rw [if_pos k2, if_pos (Classical.byContradiction y0)] at h
    exact fin 0 (by omega) h
theorem t_M_make {a w : Nat} {f : Option Nat} {K : sk_I → sk_J → Prop} (hw : sl_wf T) (hb : sl_mb T I) (ho : sl_mo T I) (hf : sl_vf T f) (ha : a < 64) (hww : w < 64)
    (h : ∀ I' : sk_I, (∀ q, q ≠ 53 → I' q = I q) → (∀ l, l < cN T → I' 53 l = nI (sl_vv T (sl_sc a w) f l)) → K I' J) : sk_S Γ m_M_make 0 0 [.ref 41, .int (nI a), .int (nI w), .int (sl_fi f)] sk_gg I J (sk_Kv K) := by
  refine sk_spec (by decide) rfl (by exact Nat.le_of_ble_eq_true rfl) ?_
  have hN := hw.1
  have hN31 := sl_N31 hw
  have hsc := sl_sc_le a w
  have loop : ∀ d l (I1 : sk_I), l + d = cN T → (∀ q, q ≠ 53 → I1 q = I q) → (∀ l', l' < l → I1 53 l' = nI (sl_vv T (sl_sc a w) f l')) →
      sk_W Γ m_M_make 0 0 52 [(0, .ref 41), (1, .int (nI a)), (2, .int (nI w)), (4, .int (sl_mln I f)), (5, .int (sl_mpn I f)), (6, .int (nI (sl_fb f))), (7, .int (nI l))] [] sk_gg I1 J 0 0 (sk_Kv K) := by
    intro d
    induction d with
    | zero =>
      intro l I1 hl fI hv
      have hl : l = cN T := by omega
      subst hl
      refine s_M_make_52 ⟨fun _ => ⟨rfl, rfl, h I1 fI hv⟩, fun hcc => absurd ?_ hcc⟩
      rw [fI 41 (by decide), hb.1.1]; exact (zI_le hN31 hN31).mpr (Nat.le_refl _)
    | succ d ih =>
      intro l I1 hl fI hv
      have hlN : l < cN T := by omega
      have hl31 : l < 2 ^ 31 := by omega
      have hvp : vp_in (nI l) 26 := vp_nat (by omega) (by decide)
      -- the end of a line
      have e246 : ∀ x, (¬ sl_at f l = true → x = sl_vv T (sl_sc a w) f l) → sk_W Γ m_M_make 0 0 246 [(0, .ref 41), (1, .int (nI a)), (2, .int (nI w)), (4, .int (sl_mln I f)), (5, .int (sl_mpn I f)), (6, .int (nI (sl_fb f))), (7, .int (nI l))] [] sk_gg (sk_pi I1 53 l (nI x)) J 0 0 (sk_Kv K) := by
        intro x hx
        have nxt : ∀ y, y = sl_vv T (sl_sc a w) f l → sk_W Γ m_M_make 0 0 52 [(0, .ref 41), (1, .int (nI a)), (2, .int (nI w)), (4, .int (sl_mln I f)), (5, .int (sl_mpn I f)), (6, .int (nI (sl_fb f))), (7, .int (nI l + 1))] [] sk_gg (sk_pi (sk_pi I1 53 l (nI x)) 53 l (nI y)) J 0 0 (sk_Kv K) := by
          intro y hy
          rw [show nI l + 1 = nI (l + 1) from (nI_succ l).symm]
          refine ih (l + 1) _ (by omega) (fun q hq => by rw [pi_q _ _ _ _ hq, pi_q _ _ _ _ hq, fI q hq]) (fun l' hl' => ?_)
          rw [pi_at, pi_at]
          by_cases hll : l' = l
          · subst hll; rw [if_pos rfl, hy]
          · rw [if_neg hll, if_neg hll]; exact hv l' (by omega)
        refine s_M_make_246 ?_
        rw [zI_cl hl31, pi_eq]
        refine ⟨fun hne => ⟨hvp, hvp, nxt x (hx ?_)⟩, fun he => ⟨fun hp => ⟨hvp, hvp, nxt x (hx ?_)⟩, fun hp => ⟨hvp, nxt _ ?_⟩⟩⟩
        · intro hat
          exact hne ((sl_mat_l hw ho hf hlN).mpr hat).1
        · intro hat
          exact hp ((sl_mat_l hw ho hf hlN).mpr hat).2
        · exact (sl_vv_at hw hlN ((sl_mat_l hw ho hf hlN).mp ⟨he, hp⟩)).symm
      refine s_M_make_52 ⟨fun hcc => ?_, fun _ => ⟨hvp, fun hneg => ?_, fun hpos => ?_⟩⟩
      · rw [fI 41 (by decide), hb.1.1, zI_le hN31 hl31] at hcc; omega
      · rw [zI_cl hl31, fI 42 (by decide)] at hneg
        cases hd : cD T l with
        | inl b =>
          rw [(hb.2.1 l hlN b hd).1] at hneg
          have hns : sl_ns (cD T) l ≤ cS T := sl_ns_mono (cD T) (by omega)
          have hS := hw.2.1
          exact absurd hneg (zI_nn (sl_lt31 (m := 6) (by omega) (by decide)))
        | inr kp =>
          obtain ⟨k, ps⟩ := kp
          obtain ⟨m42, m43, m45, m44⟩ := hb.2.2.1 l hlN k ps hd
          obtain ⟨hk, hp1, hp3, hpx⟩ := hw.2.2.2.2.1 l hlN k ps hd
          have hp1e : sl_p1 (cD T l) = ps.length := by rw [hd]; rfl
          have hl3 : (sl_pv T (sl_sc a w) f l ps).length ≤ 3 := by rw [sl_pv_len]; exact hp3
          have pins : ∀ e j, j + e = ps.length → sk_W Γ m_M_make 0 0 117 [(0, .ref 41), (1, .int (nI a)), (2, .int (nI w)), (4, .int (sl_mln I f)), (5, .int (sl_mpn I f)), (6, .int (nI (sl_fb f))), (7, .int (nI l)), (9, .int (nI (((sl_pv T (sl_sc a w) f l ps).take j).count 0))), (10, .int (nI (((sl_pv T (sl_sc a w) f l ps).take j).count 1))), (11, .int (nI (((sl_pv T (sl_sc a w) f l ps).take j).count 2))), (12, .int (nI j))] [] sk_gg I1 J 0 0 (sk_Kv K) := by
            intro e
            induction e with
            | zero =>
              intro j hj
              have hj : j = ps.length := by omega
              have etk : (sl_pv T (sl_sc a w) f l ps).take j = sl_pv T (sl_sc a w) f l ps := List.take_of_length_le (by rw [sl_pv_len]; omega)
              rw [etk]
              refine s_M_make_117 ?_
              rw [zI_cl hl31, fI 45 (by decide), fI 43 (by decide), m45, m43]
              refine ⟨hvp, fun _ => ⟨hvp, ?_⟩, fun hcc => absurd ((zI_le (by omega) (by omega)).mpr (by omega)) hcc⟩
              refine t_M_madeOf hk hl3 ?_
              refine s_M_make_245 ⟨hvp, ?_⟩
              rw [zI_cl hl31]
              exact e246 _ (fun hn => (sl_vv_gate hw hlN hd hn).symm)
            | succ e ihe =>
              intro j hj
              have hjp : j < ps.length := by omega
              have hxl := hpx _ (List.getElem_mem hjp)
              have hx31 : ps[j] < 2 ^ 31 := sl_lt31 (m := 26) (by omega) (by decide)
              have h3l : 3 * nI l + nI j = nI (3 * l + j) := by rw [show (3 : Int32) = nI 3 by decide +kernel, zI_mul, zI_add]
              have hi31 : 3 * l + j < 2 ^ 31 := sl_lt31 (m := 78) (by omega) (by decide)
              have e44 : I1 44 (3 * l + j) = nI ps[j] := by rw [fI 44 (by decide)]; exact m44 j _ (List.getElem?_eq_getElem hjp)
              have hpj := sl_pv_at (T := T) (src := sl_sc a w) (f := f) (l := l) (List.getElem?_eq_getElem hjp)
              have s165 : ∀ v, v ≤ 2 → (sl_pv T (sl_sc a w) f l ps)[j]? = some v → sk_W Γ m_M_make 0 0 165 [(0, .ref 41), (1, .int (nI a)), (2, .int (nI w)), (4, .int (sl_mln I f)), (5, .int (sl_mpn I f)), (6, .int (nI (sl_fb f))), (7, .int (nI l)), (9, .int (nI (((sl_pv T (sl_sc a w) f l ps).take j).count 0))), (10, .int (nI (((sl_pv T (sl_sc a w) f l ps).take j).count 1))), (11, .int (nI (((sl_pv T (sl_sc a w) f l ps).take j).count 2))), (12, .int (nI j))] [.int (nI v)] sk_gg I1 J 0 0 (sk_Kv K) := by
                intro v hv2 hpv
                have hnx := ihe (j + 1) (by omega)
                rw [List.take_succ, hpv] at hnx
                simp only [Option.toList_some, List.count_append, List.count_singleton] at hnx
                have hv31 : v < 2 ^ 31 := sl_lt31 (m := 2) hv2 (by decide)
                refine s_M_make_165 ?_
                rw [show (0 : Int32) = nI 0 by decide +kernel, zI_1, zI_inj hv31 (by decide), zI_inj hv31 (by decide), zI_add, zI_add]
                refine ⟨fun n0 => ⟨fun n1 => ?_, fun y1 => ?_⟩, fun y0 => ⟨fun n1 => ?_, fun y1 => absurd y1 (by omega)⟩⟩
                · refine s_M_make_198 ?_
                  rw [zI_2, zI_inj hv31 (by decide), zI_1, zI_add, zI_add]
                  have hv2 : v = 2 := by omega
                  subst hv2
                  exact ⟨fun hn => absurd rfl hn, fun _ => hnx⟩
                · subst y1
                  refine s_M_make_198 ?_
                  rw [zI_2, zI_inj hv31 (by decide), show nI j + 1 = nI (j + 1) from (nI_succ j).symm]
                  exact ⟨fun _ => hnx, fun hn => absurd hn (by decide)⟩
                · subst y0
                  refine s_M_make_198 ?_
                  rw [zI_2, zI_inj hv31 (by decide), show nI j + 1 = nI (j + 1) from (nI_succ j).symm]
                  exact ⟨fun _ => hnx, fun hn => absurd hn (by decide)⟩
              have hrd : ¬ sl_at f (cN T + sl_np (cD T) l + j) = true → sk_W Γ m_M_make 0 0 165 [(0, .ref 41), (1, .int (nI a)), (2, .int (nI w)), (4, .int (sl_mln I f)), (5, .int (sl_mpn I f)), (6, .int (nI (sl_fb f))), (7, .int (nI l)), (9, .int (nI (((sl_pv T (sl_sc a w) f l ps).take j).count 0))), (10, .int (nI (((sl_pv T (sl_sc a w) f l ps).take j).count 1))), (11, .int (nI (((sl_pv T (sl_sc a w) f l ps).take j).count 2))), (12, .int (nI j))] [.int (I1 53 ps[j])] sk_gg I1 J 0 0 (sk_Kv K) := by
                intro hn
                rw [hv _ hxl]
                rw [if_neg hn] at hpj
                exact s165 _ (sl_vv_le hsc) hpj
              refine s_M_make_117 ?_
              rw [zI_cl hl31, fI 45 (by decide), m45, h3l, zI_cl hi31, e44, zI_cl hx31]
              have vp1 : vp_in (nI (3 * l + j)) 78 := vp_nat (by omega) (by decide)
              have vp2 : vp_in (nI ps[j]) 26 := vp_nat (by omega) (by decide)
              refine ⟨hvp, fun hcc => ?_, fun _ => ⟨fun hne => ⟨vp1, vp2, hrd fun hat => ?_⟩, fun he => ⟨fun hnp => ⟨vp1, vp2, hrd fun hat => ?_⟩, fun hp => ?_⟩⟩⟩
              · rw [zI_le (by omega) (by omega)] at hcc; omega
              · exact hne ((sl_mat_p hw ho hf hlN (by rw [hp1e]; exact hjp)).mpr hat).1
              · exact hnp ((sl_mat_p hw ho hf hlN (by rw [hp1e]; exact hjp)).mpr hat).2
              · have hat := (sl_mat_p hw ho hf hlN (by rw [hp1e]; exact hjp)).mp ⟨he, hp⟩
                rw [if_pos hat] at hpj
                exact s165 _ (Nat.le_trans (sl_fb_le f) (by decide)) hpj
          exact pins ps.length 0 (by omega)
      · rw [zI_cl hl31, fI 42 (by decide)] at hpos ⊢
        cases hd : cD T l with
        | inr kp =>
          obtain ⟨k, ps⟩ := kp
          rw [(hb.2.2.1 l hlN k ps hd).1] at hpos
          exact absurd (by decide) hpos
        | inl b =>
          have hns : sl_ns (cD T) l < 6 := by
            have e2 : sl_ns (cD T) (l + 1) ≤ cS T := sl_ns_mono (cD T) (by omega)
            have e3 : sl_ns (cD T) (l + 1) = sl_ns (cD T) l + 1 := by simp only [sl_ns]; rw [hd]; rfl
            have e4 := hw.2.1
            omega
          rw [(hb.2.1 l hlN b hd).1, zI_bit a ha _ hns, zI_bit w hww _ hns, zI_1, zI_inj (sl_lt31 (m := 2) (by omega) (by decide)) (by decide)]
          refine ⟨fun hn => ⟨hvp, e246 _ (fun hat => ?_)⟩, fun hy => ⟨hvp, e246 2 (fun hat => ?_)⟩⟩
          · rw [sl_vv_src hw hlN hd hat]; unfold sl_sc; rw [if_neg hn]
          · rw [sl_vv_src hw hlN hd hat]; unfold sl_sc; rw [if_pos hy]
  refine s_M_make_0 ?_
  cases f with
  | none =>
    have hn : ¬ (0 : Int32) ≤ -1 := by decide
    exact ⟨fun hc => absurd hc hn, fun _ => ⟨fun hc => absurd hc hn, fun _ => s_M_make_34 ⟨fun hc => absurd hc hn, fun _ => loop (cN T) 0 I (by omega) (fun _ _ => rfl) (fun l' hl' => absurd hl' (Nat.not_lt_zero _))⟩⟩⟩
  | some q =>
    have hq : q < 2 * (cN T + cP T) := hf q rfl
    have hP : cP T ≤ 78 := sl_P_le hw
    have hq256 : q < 256 := by omega
    have hp : (0 : Int32) ≤ sl_fi (some q) := by
      show (0 : Int32) ≤ nI q
      rw [show (0 : Int32) = nI 0 by decide +kernel, zI_le (by decide) (by omega)]; omega
    have hvp : vp_in (sl_fi (some q) / 2) 104 := by
      show vp_in (nI q / 2) 104
      rw [zI_div2 q hq256]; exact vp_nat (by omega) (by decide)
    have e1 : (sl_fi (some q) / 2).toNatClampNeg = q / 2 := by
      show (nI q / 2).toNatClampNeg = q / 2
      rw [zI_div2 q hq256, zI_cl (by omega)]
    have e2 : sl_fi (some q) - sl_fi (some q) / 2 * 2 = nI (q % 2) := zI_mod2 q hq256
    rw [e1]
    refine ⟨fun _ => ⟨hvp, fun _ => ⟨hvp, s_M_make_34 ⟨fun _ => ?_, fun hc => absurd hp hc⟩⟩, fun hc => absurd hp hc⟩, fun hc => absurd hp hc⟩
    rw [e2]
    exact loop (cN T) 0 I (by omega) (fun _ _ => rfl) (fun l' hl' => absurd hl' (Nat.not_lt_zero _))
theorem zI_shP : ∀ k, k < 12 → nI 1 <<< (nI k &&& 31) = nI (2 ^ k) ∧ nI 0 <<< (nI k &&& 31) = nI 0 := by decide +kernel
theorem t_M_answered {g : Nat → Nat} {K : Int32 → sk_I → sk_J → Prop} (hw : sl_wf T) (ho : sl_mo T I) (hg : ∀ x, g x ≤ 1) (h3 : ∀ l, l < cN T → I 53 l = nI (g l)) (h : K (nI (sl_rs g (sl_ob T))) I J) : sk_S Γ m_M_answered 0 0 [.ref 41] sk_gg I J (sk_Ki K) := by
  refine sk_spec (by decide) rfl (by exact Nat.le_of_ble_eq_true rfl) ?_
  have hB := sl_B31 hw
  have hB12 := sl_ob_len hw
  have hN := hw.1
  refine s_M_answered_0 ?_
  have loop : ∀ d k, k + d = (sl_ob T).length → sk_W Γ m_M_answered 0 0 4 [(0, .ref 41), (1, .int (nI (sl_rs g ((sl_ob T).take k)))), (2, .int (nI k))] [] sk_gg I J 0 0 (sk_Ki K) := by
    intro d
    induction d with
    | zero =>
      intro k hk
      have hk : k = (sl_ob T).length := by omega
      subst hk
      rw [List.take_length]
      refine s_M_answered_4 ⟨fun _ => ⟨_, rfl, rfl, h⟩, fun hcc => absurd ?_ hcc⟩
      rw [ho.1]; exact (zI_le hB hB).mpr (Nat.le_refl _)
    | succ d ih =>
      intro k hk
      have hkB : k < (sl_ob T).length := by omega
      have hk31 : k < 2 ^ 31 := by omega
      have hx := sl_ob_lt hw _ (List.getElem_mem hkB)
      have hnx := ih (k + 1) (by omega)
      rw [List.take_succ, List.getElem?_eq_getElem hkB, sl_rs_app, List.length_take] at hnx
      refine s_M_answered_4 ?_
      rw [zI_cl hk31, sl_pre_lt ho.2.1 hkB, zI_cl (sl_lt31 (m := 26) (by omega) (by decide)), h3 _ hx, show nI k + 1 = nI (k + 1) from (nI_succ k).symm]
      refine ⟨fun hcc => ?_, fun _ => ⟨vp_nat (by omega) (by decide), vp_nat (by omega) (by decide), ?_⟩⟩
      · rw [ho.1, zI_le hB hk31] at hcc; omega
      · have e : nI (g (sl_ob T)[k]) <<< (nI k &&& 31) = nI (2 ^ k * g (sl_ob T)[k]) := by
          obtain ⟨z1, z0⟩ := zI_shP k (by omega)
          have := hg (sl_ob T)[k]
          by_cases h1 : g (sl_ob T)[k] = 1
          · rw [h1, z1, Nat.mul_one]
          · have h0 : g (sl_ob T)[k] = 0 := by omega
            rw [h0, z0, Nat.mul_zero]
        rw [e, zI_add]
        have em : min k (sl_ob T).length = k := by omega
        rw [em] at hnx
        simp only [Option.toList_some, sl_rs, Nat.mul_zero, Nat.add_zero] at hnx
        exact hnx
  have := loop (sl_ob T).length 0 (by omega)
  exact this
end MM
