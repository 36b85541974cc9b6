/-! the packed set -/
def sl_ga (T : sl_ct) : Nat → List Nat
  | 0 => []
  | f + 1 => match sl_ls T f with
    | none => sl_ga T f
    | some v => if (sl_ga T f).any (sl_sh T f) = true then sl_ga T f else sl_ga T f ++ [v]
/-- does a set show all that can be shown -/
def sl_cv (T : sl_ct) (k : List Nat) : Bool := decide (∀ f, f < cF T → (sl_ls T f).isSome = true → k.any (sl_sh T f) = true)
def sl_kk (T : sl_ct) (xs : List Nat) : Nat → List Nat
  | 0 => xs
  | s + 1 => if sl_cv T ((sl_kk T xs s).filter (fun x => decide (x ≠ xs.getD (xs.length - 1 - s) 0))) = true then (sl_kk T xs s).filter (fun x => decide (x ≠ xs.getD (xs.length - 1 - s) 0)) else sl_kk T xs s
def sl_pl (T : sl_ct) : List Nat := sl_ga T (cF T)
def sl_pk (T : sl_ct) : List Nat := (sl_pl T).filter (fun x => decide (x ∈ sl_kk T (sl_pl T) (sl_pl T).length))
theorem sl_ls_lt {T : sl_ct} {f v : Nat} (h : sl_ls T f = some v) : v < 2 ^ cS T ∧ sl_sh T f v = true := by
  have := sl_find_lt h
  exact ⟨by omega, this.2.2⟩
theorem sl_ga_lt {T : sl_ct} : ∀ f, ∀ x ∈ sl_ga T f, x < 2 ^ cS T
  | 0, x, h => by cases h
  | f + 1, x, h => by
    simp only [sl_ga] at h
    cases hl : sl_ls T f with
    | none => rw [hl] at h; exact sl_ga_lt f x h
    | some v =>
      rw [hl] at h
      simp only at h
      split at h
      · exact sl_ga_lt f x h
      · rcases List.mem_append.mp h with h | h
        · exact sl_ga_lt f x h
        · simp at h; rw [h]; exact (sl_ls_lt hl).1
theorem sl_ga_nd {T : sl_ct} : ∀ f, (sl_ga T f).Nodup
  | 0 => List.nodup_nil
  | f + 1 => by
    simp only [sl_ga]
    cases hl : sl_ls T f with
    | none => exact sl_ga_nd f
    | some v =>
      simp only
      split
      · exact sl_ga_nd f
      · rename_i hn
        rw [List.nodup_append]
        refine ⟨sl_ga_nd f, by simp, fun a ha b hb => ?_⟩
        simp at hb
        subst hb
        rintro rfl
        exact hn (List.any_eq_true.mpr ⟨a, ha, (sl_ls_lt hl).2⟩)
theorem sl_nd_len : ∀ (n : Nat) (xs : List Nat), xs.Nodup → (∀ x ∈ xs, x < n) → xs.length ≤ n
  | 0, xs, _, h => by
    cases xs with
    | nil => exact Nat.le_refl _
    | cons x t => exact absurd (h x (by simp)) (Nat.not_lt_zero _)
  | n + 1, xs, hn, h => by
    have h1 := sl_nd_len n (xs.erase n) (hn.erase n) (fun x hx => by
      have h2 := (hn.mem_erase_iff).mp hx
      have h3 := h x h2.2
      have h4 := h2.1
      omega)
    by_cases hm : n ∈ xs
    · rw [List.length_erase_of_mem hm] at h1; omega
    · rw [List.erase_of_not_mem hm] at h1; omega
theorem sl_ga_len {T : sl_ct} (hw : sl_wf T) (f : Nat) : (sl_ga T f).length ≤ 64 := sl_nd_len 64 _ (sl_ga_nd f) (fun x hx => Nat.lt_of_lt_of_le (sl_ga_lt f x hx) (sl_S64 hw))
theorem sl_kk_sub {T : sl_ct} {xs : List Nat} : ∀ s, ∀ x ∈ sl_kk T xs s, x ∈ xs
  | 0, x, h => h
  | s + 1, x, h => by
    simp only [sl_kk] at h
    split at h
    · exact sl_kk_sub s x (List.mem_filter.mp h).1
    · exact sl_kk_sub s x h
/-- a word as a set -/
def sl_MW (k : List Nat) (m : Int64) : Prop := ∀ v, v < 64 → sk_bt m v = decide (v ∈ k)
theorem sl_MW_any {T : sl_ct} {q : Nat} {k : List Nat} {w m : Int64} (hw : sl_wf T) (h1 : sl_SW T (some q) w) (h2 : sl_MW k m) (hk : ∀ x ∈ k, x < 2 ^ cS T) : w &&& m = 0 ↔ ¬ k.any (sl_sh T q) = true := by
  have hS := sl_S64 hw
  constructor
  · intro e ha
    obtain ⟨x, hx, hs⟩ := List.any_eq_true.mp ha
    have hx2 := hk x hx
    have hb : sk_bt (w &&& m) x = true := by
      rw [bt_and, h1 x (by omega), h2 x (by omega)]
      have hs' : decide (sl_rp T (some q) x ≠ sl_rp T none x) = true := hs
      rw [hs', decide_eq_true hx2, decide_eq_true hx]; rfl
    rw [e, bt_0] at hb
    cases hb
  · intro hn
    refine bt_ext fun v hv => ?_
    rw [bt_and, h1 v hv, h2 v hv, bt_0]
    by_cases hm : v ∈ k
    · have hs : ¬ decide (sl_rp T (some q) v ≠ sl_rp T none v) = true := fun hs => hn (List.any_eq_true.mpr ⟨v, hm, hs⟩)
      rw [Bool.not_eq_true] at hs
      rw [hs]; simp
    · simp [hm]
theorem sl_fi_pred (i : Nat) : nI i + (-1) = sl_fi (sl_pf i) := by
  cases i with
  | zero => show nI 0 + (-1) = -1; decide +kernel
  | succ j =>
    show nI (j + 1) + (-1) = nI j
    rw [nI_succ, Int32.add_assoc]
    have : (1 : Int32) + (-1) = 0 := by decide +kernel
    rw [this, Int32.add_zero]
theorem sl_fi_pred' (i : Nat) : nI i - 1 = sl_fi (sl_pf i) := by
  rw [← sl_fi_pred, Int32.sub_eq_add_neg]
section PP
variable {Γ : sk_T} {I : sk_I} {J : sk_J} {T : sl_ct}
theorem t_P_gather {K : sk_I → sk_J → Prop} (hw : sl_wf T) (hr : sl_rc T I) (ho : ∀ p, p ≤ cF T → sl_ok T J p)
    (h : ∀ (I' : sk_I) (J' : sk_J), (∀ q, q ≠ 36 → q ≠ 37 → I' q = I q) → (∀ q, q ≠ 36 → J' q = J q) → I' 36 3 = nI (sl_pl T).length → sl_pre (I' 37) (sl_pl T) → sl_MW (sl_pl T) (J' 36 4) → K I' J') : sk_S Γ m_P_gather 0 0 [.ref 36] sk_gg I J (sk_Kv K) := by
  refine sk_spec (by decide) rfl (by exact Nat.le_of_ble_eq_true rfl) ?_
  have hF : cF T ≤ 208 := sl_F_le hw
  have hF31 : cF T < 2 ^ 31 := sl_lt31 (m := 208) (by omega) (by decide)
  have hS := sl_S64 hw
  refine s_P_gather_0 ?_
  have loop : ∀ d f (I1 : sk_I) (J1 : sk_J), f + d = cF T → (∀ q, q ≠ 36 → q ≠ 37 → I1 q = I q) → (∀ q, q ≠ 36 → J1 q = J q) → I1 36 3 = nI (sl_ga T f).length → sl_pre (I1 37) (sl_ga T f) → sl_MW (sl_ga T f) (J1 36 4) →
      sk_W Γ m_P_gather 0 0 12 [(0, .ref 36), (1, .int (nI f))] [] sk_gg I1 J1 0 0 (sk_Kv K) := by
    intro d
    induction d with
    | zero =>
      intro f I1 J1 hf fI fJ b3 b7 bm
      have hf : f = cF T := by omega
      subst hf
      have hr1 : sl_rc T I1 := sl_rc_frame hr (fun j _ _ => by rw [fI 1 (by decide) (by decide)]) (fun q _ _ => fI q (by omega) (by omega))
      refine s_P_gather_12 ?_
      refine t_C_faults' hr1 ?_
      exact s_P_gather_20 ⟨fun _ => ⟨rfl, rfl, h I1 J1 fI fJ b3 b7 bm⟩, fun hcc => absurd ((zI_le hF31 hF31).mpr (Nat.le_refl _)) hcc⟩
    | succ d ih =>
      intro f I1 J1 hf fI fJ b3 b7 bm
      have hfF : f < cF T := by omega
      have hf31 : f < 2 ^ 31 := by omega
      have hr1 : sl_rc T I1 := sl_rc_frame hr (fun j _ _ => by rw [fI 1 (by decide) (by decide)]) (fun q _ _ => fI q (by omega) (by omega))
      have ok1 : sl_ok T J1 (f + 1) := by
        have := ho (f + 1) (by omega)
        unfold sl_ok at this ⊢
        rw [fJ 17 (by decide), fJ 18 (by decide)]; exact this
      have eS : nI f + 1 = nI (f + 1) := (nI_succ f).symm
      refine s_P_gather_12 ?_
      refine t_C_faults' hr1 ?_
      refine s_P_gather_20 ⟨fun hcc => ?_, fun _ => ?_⟩
      · rw [zI_le hF31 hf31] at hcc; omega
      · refine t_R_firstShowing hw hfF ok1 ?_
        refine s_P_gather_31 ?_
        rw [eS]
        cases hl : sl_ls T f with
        | none =>
          refine ⟨fun _ => ?_, fun hn => absurd rfl hn⟩
          have eg : sl_ga T (f + 1) = sl_ga T f := by simp only [sl_ga]; rw [hl]
          exact ih (f + 1) I1 J1 (by omega) fI fJ (by rw [eg]; exact b3) (by rw [eg]; exact b7) (by rw [eg]; exact bm)
        | some v =>
          have hv := (sl_ls_lt hl).1
          refine ⟨fun he => absurd he (zI_m1 (sl_lt31 (m := 64) (by omega) (by decide))), fun _ => ?_⟩
          refine t_R_vectorsShowing (by omega) ?_
          refine s_P_gather_45 ?_
          rw [eS, lg_cmp_eq, sl_MW_any hw ok1.2 bm (sl_ga_lt f)]
          refine ⟨fun hn => ?_, fun hy => ?_⟩
          · have ha := Classical.byContradiction hn
            have eg : sl_ga T (f + 1) = sl_ga T f := by simp only [sl_ga]; rw [hl]; simp only [if_pos ha]
            exact ih (f + 1) I1 J1 (by omega) fI fJ (by rw [eg]; exact b3) (by rw [eg]; exact b7) (by rw [eg]; exact bm)
          · have eg : sl_ga T (f + 1) = sl_ga T f ++ [v] := by simp only [sl_ga]; rw [hl]; simp only [if_neg hy]
            have hlen := sl_ga_len hw (f + 1)
            rw [eg, List.length_append] at hlen
            have hlen2 : (sl_ga T f).length < 64 := by simp at hlen; omega
            rw [b3, zI_cl (sl_lt31 (m := 64) (by omega) (by decide)), show nI (sl_ga T f).length + 1 = nI ((sl_ga T f).length + 1) from (nI_succ _).symm]
            refine ⟨vp_nat hlen2 (by decide), ih (f + 1) _ _ (by omega) (fun q x y => ?_) (fun q x => pj_q _ _ _ _ x ▸ fJ q x) ?_ ?_ ?_⟩
            · rw [pi_q _ _ _ _ x, pi_q _ _ _ _ y, fI q x y]
            · rw [pi_eq, eg, List.length_append]; rfl
            · rw [pi_q _ _ _ _ (by decide), eg]
              exact sl_pre_push b7 (fun j hj => pi_j _ _ _ _ (by omega)) (pi_eq _ _ _ _)
            · rw [pj_eq, eg]
              intro u hu
              rw [bt_or, bm u hu]
              have e : sk_bt (sk_shl 1 (sl_oi (some v))) u = decide (u = v) := bt_shl (by omega) u
              rw [e]
              simp [List.mem_append]
  refine loop (cF T) 0 _ _ (by omega) (fun q x y => pi_q _ _ _ _ x) (fun q x => pj_q _ _ _ _ x) (by rw [pi_eq]; rfl) (sl_pre_nil _) ?_
  rw [pj_eq]
  intro u hu
  rw [bt_0]
  simp [sl_ga]
theorem t_P_showAll {k : List Nat} {m : Int64} {K : Int32 → sk_I → sk_J → Prop} (hw : sl_wf T) (hr : sl_rc T I) (ho : ∀ p, p ≤ cF T → sl_ok T J p) (hk : ∀ x ∈ k, x < 2 ^ cS T) (hm : sl_MW k m)
    (h : K (if sl_cv T k = true then 1 else 0) I J) : sk_S Γ m_P_showAll 0 0 [.ref 36, .long m] sk_gg I J (sk_Ki K) := by
  refine sk_spec (by decide) rfl (by exact Nat.le_of_ble_eq_true rfl) ?_
  have hF : cF T ≤ 208 := sl_F_le hw
  have hF31 : cF T < 2 ^ 31 := sl_lt31 (m := 208) (by omega) (by decide)
  refine s_P_showAll_0 ?_
  have loop : ∀ d f, f + d = cF T → (∀ g, g < f → (sl_ls T g).isSome = true → k.any (sl_sh T g) = true) → sk_W Γ m_P_showAll 0 0 2 [(0, .ref 36), (1, .long m), (3, .int (nI f))] [] sk_gg I J 0 0 (sk_Ki K) := by
    intro d
    induction d with
    | zero =>
      intro f hf hall
      have hf : f = cF T := by omega
      subst hf
      refine s_P_showAll_2 ?_
      refine t_C_faults' hr ?_
      refine s_P_showAll_10 ⟨fun _ => ⟨_, rfl, rfl, ?_⟩, fun hcc => absurd ((zI_le hF31 hF31).mpr (Nat.le_refl _)) hcc⟩
      have hc : sl_cv T k = true := decide_eq_true hall
      rw [if_pos hc] at h; exact h
    | succ d ih =>
      intro f hf hall
      have hfF : f < cF T := by omega
      have hf31 : f < 2 ^ 31 := by omega
      refine s_P_showAll_2 ?_
      refine t_C_faults' hr ?_
      refine s_P_showAll_10 ⟨fun hcc => ?_, fun _ => ?_⟩
      · rw [zI_le hF31 hf31] at hcc; omega
      · refine t_R_vectorsShowing (by omega) ?_
        refine s_P_showAll_21 ?_
        have ok1 := (ho (f + 1) (by omega)).2
        rw [lg_cmp_eq, lg_cmp_eq, sl_SW0 hw ok1, sl_MW_any hw ok1 hm hk, show nI f + 1 = nI (f + 1) from (nI_succ f).symm]
        refine ⟨fun hn => ih (f + 1) (by omega) (fun g hg hs => ?_), fun hs => ⟨fun hn => ih (f + 1) (by omega) (fun g hg hs => ?_), fun hy => ⟨_, rfl, rfl, ?_⟩⟩⟩
        · by_cases hgf : g = f
          · subst hgf; rw [hn] at hs; cases hs
          · exact hall g (by omega) hs
        · by_cases hgf : g = f
          · subst hgf; exact Classical.byContradiction hn
          · exact hall g (by omega) hs
        · have hc : ¬ sl_cv T k = true := fun hc => hy (of_decide_eq_true hc f hfF (by cases hl : sl_ls T f with | none => exact absurd hl hs | some v => rfl))
          rw [if_neg hc] at h; exact h
  exact loop (cF T) 0 (by omega) (fun g hg => absurd hg (Nat.not_lt_zero _))
theorem t_P_thinOut {xs : List Nat} {K : sk_I → sk_J → Prop} (hw : sl_wf T) (hr : sl_rc T I) (ho : ∀ p, p ≤ cF T → sl_ok T J p) (hx : ∀ x ∈ xs, x < 2 ^ cS T) (hl : xs.length ≤ 64) (h3 : I 36 3 = nI xs.length) (h7 : sl_pre (I 37) xs) (hm : sl_MW xs (J 36 4))
    (h : ∀ J' : sk_J, (∀ q, q ≠ 36 → J' q = J q) → sl_MW (sl_kk T xs xs.length) (J' 36 4) → K I J') : sk_S Γ m_P_thinOut 0 0 [.ref 36] sk_gg I J (sk_Kv K) := by
  refine sk_spec (by decide) rfl (by exact Nat.le_of_ble_eq_true rfl) ?_
  have hS := sl_S64 hw
  refine s_P_thinOut_0 ?_
  rw [h3, sl_fi_pred']
  have loop : ∀ r s (J1 : sk_J), s + r = xs.length → (∀ q, q ≠ 36 → J1 q = J q) → sl_MW (sl_kk T xs s) (J1 36 4) →
      sk_W Γ m_P_thinOut 0 0 7 [(0, .ref 36), (1, .int (sl_fi (sl_pf r)))] [] sk_gg I J1 0 0 (sk_Kv K) := by
    intro r
    induction r with
    | zero =>
      intro s J1 hs fJ bm
      have hs : s = xs.length := by omega
      subst hs
      exact s_P_thinOut_7 ⟨fun _ => ⟨rfl, rfl, h J1 fJ bm⟩, fun hn => absurd (by decide : (-1 : Int32) < 0) hn⟩
    | succ i ih =>
      intro s J1 hs fJ bm
      have hi31 : i < 2 ^ 31 := sl_lt31 (m := 64) (by omega) (by decide)
      have hil : i < xs.length := by omega
      have hxi := hx _ (List.getElem_mem hil)
      have ok1 : ∀ p, p ≤ cF T → sl_ok T J1 p := by
        intro p hp
        have := ho p hp
        unfold sl_ok at this ⊢
        rw [fJ 17 (by decide), fJ 18 (by decide)]; exact this
      refine s_P_thinOut_7 ⟨fun hn => absurd hn (zI_nn hi31), fun _ => ⟨vp_nat (c := i) (by omega) (by decide), ?_⟩⟩
      have ecl : (sl_fi (sl_pf (i + 1))).toNatClampNeg = i := zI_cl hi31
      have ei : xs.length - 1 - s = i := by omega
      have hMW : sl_MW ((sl_kk T xs s).filter (fun x => decide (x ≠ xs.getD (xs.length - 1 - s) 0))) (J1 36 4 &&& (sk_shl 1 (nI xs[i]) ^^^ -1)) := by
        intro v hv
        rw [bt_and, bm v hv, bt_not _ hv, bt_shl (by omega), ei, List.getD_eq_getElem?_getD, List.getElem?_eq_getElem hil]
        simp [List.mem_filter]
      rw [ecl, sl_pre_lt h7 hil]
      refine t_P_showAll hw hr ok1 (fun x hx2 => hx x (sl_kk_sub s x (List.mem_filter.mp hx2).1)) hMW ?_
      refine s_P_thinOut_34 ?_
      have epr : sl_fi (sl_pf (i + 1)) + (-1) = sl_fi (sl_pf i) := sl_fi_pred i
      rw [epr]
      by_cases hc : sl_cv T ((sl_kk T xs s).filter (fun x => decide (x ≠ xs.getD (xs.length - 1 - s) 0))) = true
      · rw [if_pos hc]
        refine ⟨fun hn => absurd hn (by decide), fun _ => ih (s + 1) _ (by omega) (fun q hq => by rw [pj_q _ _ _ _ hq, fJ q hq]) ?_⟩
        rw [pj_eq]
        simp only [sl_kk, if_pos hc]
        exact hMW
      · rw [if_neg hc]
        refine ⟨fun _ => ih (s + 1) J1 (by omega) fJ ?_, fun hn => absurd rfl hn⟩
        simp only [sl_kk, if_neg hc]
        exact bm
  exact loop xs.length 0 J (by omega) (fun _ _ => rfl) hm
theorem t_P_drop {xs k : List Nat} {K : sk_I → sk_J → Prop} (hx : ∀ x ∈ xs, x < 64) (hl : xs.length ≤ 64) (h3 : I 36 3 = nI xs.length) (h7 : sl_pre (I 37) xs) (hm : sl_MW k (J 36 4))
    (h : ∀ I' : sk_I, (∀ q, q ≠ 36 → q ≠ 37 → I' q = I q) → I' 36 3 = nI (xs.filter (fun x => decide (x ∈ k))).length → sl_pre (I' 37) (xs.filter (fun x => decide (x ∈ k))) → K I' J) : sk_S Γ m_P_dropTheLeftOut 0 0 [.ref 36] sk_gg I J (sk_Kv K) := by
  refine sk_spec (by decide) rfl (by exact Nat.le_of_ble_eq_true rfl) ?_
  have hl31 : xs.length < 2 ^ 31 := sl_lt31 (m := 64) hl (by decide)
  refine s_P_dropTheLeftOut_0 ?_
  have loop : ∀ d i (I1 : sk_I), i + d = xs.length → (∀ q, q ≠ 37 → I1 q = I q) → sl_pre (I1 37) ((xs.take i).filter (fun x => decide (x ∈ k))) → (∀ j x, i ≤ j → xs[j]? = some x → I1 37 j = nI x) →
      sk_W Γ m_P_dropTheLeftOut 0 0 4 [(0, .ref 36), (1, .int (nI ((xs.take i).filter (fun x => decide (x ∈ k))).length)), (2, .int (nI i))] [] sk_gg I1 J 0 0 (sk_Kv K) := by
    intro d
    induction d with
    | zero =>
      intro i I1 hi fI bp br
      have hi : i = xs.length := by omega
      subst hi
      rw [List.take_length] at bp ⊢
      refine s_P_dropTheLeftOut_4 ⟨fun _ => ⟨rfl, rfl, h _ (fun q x y => by rw [pi_q _ _ _ _ x, fI q y]) (pi_eq _ _ _ _) (by rw [pi_q _ _ _ _ (by decide)]; exact bp)⟩, fun hcc => absurd ?_ hcc⟩
      rw [fI 36 (by decide), h3]; exact (zI_le hl31 hl31).mpr (Nat.le_refl _)
    | succ d ih =>
      intro i I1 hi fI bp br
      have hil : i < xs.length := by omega
      have hi31 : i < 2 ^ 31 := by omega
      have hxi := hx _ (List.getElem_mem hil)
      have hle : ((xs.take i).filter (fun x => decide (x ∈ k))).length ≤ i := Nat.le_trans (List.length_filter_le _ _) (by rw [List.length_take]; omega)
      have hv := br i _ (Nat.le_refl _) (List.getElem?_eq_getElem hil)
      have etk : (xs.take (i + 1)).filter (fun x => decide (x ∈ k)) = (xs.take i).filter (fun x => decide (x ∈ k)) ++ [xs[i]].filter (fun x => decide (x ∈ k)) := by
        rw [List.take_succ, List.getElem?_eq_getElem hil, List.filter_append]; rfl
      refine s_P_dropTheLeftOut_4 ⟨fun hcc => ?_, fun _ => ⟨vp_nat (by omega) (by decide), ?_⟩⟩
      · rw [fI 36 (by decide), h3, zI_le hl31 hi31] at hcc; omega
      · rw [zI_cl hi31, hv, bt_test _ hxi, hm _ hxi, decide_eq_true_iff, zI_cl (show ((xs.take i).filter (fun x => decide (x ∈ k))).length < 2 ^ 31 by omega), show nI i + 1 = nI (i + 1) from (nI_succ i).symm]
        refine ⟨fun hn => ?_, fun hy => ⟨vp_nat (by omega) (by decide), vp_nat (by omega) (by decide), ?_⟩⟩
        · have e2 : [xs[i]].filter (fun x => decide (x ∈ k)) = [] := by simp [hn]
          rw [e2, List.append_nil] at etk
          have := ih (i + 1) I1 (by omega) fI (by rw [etk]; exact bp) (fun j x hj hx => br j x (by omega) hx)
          rw [etk] at this
          exact this
        · have e2 : [xs[i]].filter (fun x => decide (x ∈ k)) = [xs[i]] := by simp [hy]
          rw [e2] at etk
          have := ih (i + 1) (sk_pi I1 37 ((xs.take i).filter (fun x => decide (x ∈ k))).length (nI xs[i])) (by omega) (fun q hq => by rw [pi_q _ _ _ _ hq, fI q hq])
            (by rw [etk]; exact sl_pre_push bp (fun j hj => pi_j _ _ _ _ (by omega)) (pi_eq _ _ _ _)) (fun j x hj hx => by rw [pi_j _ _ _ _ (by omega)]; exact br j x (by omega) hx)
          rw [etk, List.length_append] at this
          rw [zI_1, zI_add]
          exact this
  exact loop xs.length 0 I (by omega) (fun _ _ => rfl) (sl_pre_nil _) (fun j x _ hx => h7 j x hx)
/-- what the packed set's cells hold, if they are of this circuit -/
def sl_pp (T : sl_ct) (I : sk_I) : Prop := I 36 5 = I 1 0 → I 36 3 = nI (sl_pk T).length ∧ sl_pre (I 37) (sl_pk T)
def sl_pa (xs : List Nat) (k : Int32) : Int32 := if k < 0 then -1 else sl_oi (xs[k.toNatClampNeg]?)
theorem t_P_at {k : Int32} {K : Int32 → sk_I → sk_J → Prop} (hw : sl_wf T) (hr : sl_rc T I) (ho : ∀ p, p ≤ cF T → sl_ok T J p) (hp : sl_pp T I)
    (h : ∀ (I' : sk_I) (J' : sk_J), (∀ q, q ≠ 36 → q ≠ 37 → I' q = I q) → (∀ q, q ≠ 36 → J' q = J q) → sl_pp T I' → I' 36 5 = I 1 0 → K (sl_pa (sl_pk T) k) I' J') : sk_S Γ m_P_at 0 0 [.ref 36, .int k] sk_gg I J (sk_Ki K) := by
  refine sk_spec (by decide) rfl (by exact Nat.le_of_ble_eq_true rfl) ?_
  have hS := sl_S64 hw
  have hpl : (sl_pl T).length ≤ 64 := sl_ga_len hw _
  have hpk : (sl_pk T).length ≤ 64 := Nat.le_trans (List.length_filter_le _ _) hpl
  have hpk31 : (sl_pk T).length < 2 ^ 31 := sl_lt31 (m := 64) hpk (by decide)
  have fin : ∀ (I1 : sk_I) (J1 : sk_J), (∀ q, q ≠ 36 → q ≠ 37 → I1 q = I q) → (∀ q, q ≠ 36 → J1 q = J q) → I1 36 5 = I 1 0 → I1 36 3 = nI (sl_pk T).length → sl_pre (I1 37) (sl_pk T) → sk_W Γ m_P_at 0 0 37 [(0, .ref 36), (1, .int k)] [] sk_gg I1 J1 0 0 (sk_Ki K) := by
    intro I1 J1 fI fJ b5 b3 b7
    have hk := h I1 J1 fI fJ (fun _ => ⟨b3, b7⟩) b5
    refine s_P_at_37 ⟨fun hn => ⟨_, rfl, rfl, ?_⟩, fun hn => ?_⟩
    · unfold sl_pa at hk; rw [if_pos hn] at hk; exact hk
    · obtain ⟨n, hn31, rfl⟩ := zI_of hn
      unfold sl_pa at hk
      rw [if_neg hn, zI_cl hn31] at hk
      rw [b3, zI_le hpk31 hn31, zI_cl hn31]
      refine ⟨fun hle => ⟨_, rfl, rfl, ?_⟩, fun hlt => ⟨vp_nat (by omega) (by decide), _, rfl, rfl, ?_⟩⟩
      · rw [List.getElem?_eq_none hle] at hk; exact hk
      · have hlt2 : n < (sl_pk T).length := by omega
        rw [List.getElem?_eq_getElem hlt2] at hk
        rw [sl_pre_lt b7 hlt2]; exact hk
  refine s_P_at_0 ⟨fun he => ?_, fun hne => ?_⟩
  · obtain ⟨b3, b7⟩ := hp he
    exact fin I J (fun _ _ _ => rfl) (fun _ _ => rfl) he b3 b7
  · refine t_P_gather hw hr ho (fun I1 J1 fI fJ b3 b7 bm => ?_)
    have hr1 : sl_rc T I1 := sl_rc_frame hr (fun j _ _ => by rw [fI 1 (by decide) (by decide)]) (fun q _ _ => fI q (by omega) (by omega))
    have ok1 : ∀ p, p ≤ cF T → sl_ok T J1 p := by
      intro p hp
      have := ho p hp
      unfold sl_ok at this ⊢
      rw [fJ 17 (by decide), fJ 18 (by decide)]; exact this
    refine s_P_at_18 ?_
    refine t_P_thinOut hw hr1 ok1 (sl_ga_lt _) hpl b3 b7 bm (fun J2 fJ2 bm2 => ?_)
    refine s_P_at_22 ?_
    refine t_P_drop (fun x hx => Nat.lt_of_lt_of_le (sl_ga_lt _ x hx) hS) hpl b3 b7 bm2 (fun I3 fI3 c3 c7 => ?_)
    refine s_P_at_26 ?_
    refine fin _ J2 (fun q x y => ?_) (fun q x => by rw [fJ2 q x, fJ q x]) ?_ ?_ ?_
    · rw [pi_q _ _ _ _ x, fI3 q x y, fI q x y]
    · rw [pi_eq, fI3 1 (by decide) (by decide), fI 1 (by decide) (by decide)]
    · rw [pi_j _ _ _ _ (by decide)]; exact c3
    · rw [pi_q _ _ _ _ (by decide)]; exact c7
end PP
