/-! the model's own calls: what is asked -/
section MS
variable {Γ : sk_T} {I : sk_I} {J : sk_J} {T : sl_ct} {lg : List (Nat × Nat)}
theorem sl_hq0 (c : Int32) : ∀ q, q < 41 ∨ 60 < q → sk_pi I 41 0 c q = I q := fun q hq => pi_q _ _ _ _ (by omega)
theorem t_M_value {x y z : Int32} {K : Int32 → sk_I → sk_J → Prop} (hw : sl_wf T) (hm : sl_ms T lg I)
    (h1 : sl_nv T x ∨ sl_nl T y ∨ (¬ z = -1 ∧ sl_nf T z) → K 0 (sk_pi I 41 0 1) J)
    (h0 : ¬ (sl_nv T x ∨ sl_nl T y ∨ (¬ z = -1 ∧ sl_nf T z)) → ∀ v l p, x = nI v → y = nI l → z = sl_fi (sl_pf p) → v < 2 ^ cS T → l < cN T → p ≤ cF T → ∀ I' : sk_I, sl_ms T lg I' → I' 41 0 = 0 → (∀ q, q < 41 ∨ 60 < q → I' q = I q) → K (nI (sl_vv T (sl_sv v) (sl_pf p) l)) I' J) : sk_S Γ m_M_value 0 0 [.ref 41, .int x, .int y, .int z] sk_gg I J (sk_Ki K) := by
  refine sk_spec (by decide) rfl (by exact Nat.le_of_ble_eq_true rfl) ?_
  have hN := hw.1
  have hS := sl_S64 hw
  have hm0 := sl_ms_code hm 0
  have bad : (sl_nv T x ∨ sl_nl T y ∨ (¬ z = -1 ∧ sl_nf T z)) → sk_W Γ m_M_value 0 0 34 [(0, .ref 41), (1, .int x), (2, .int y), (3, .int z)] [.ref 41] sk_gg I J 0 0 (sk_Ki K) := fun hc => s_M_value_34 ⟨_, rfl, rfl, h1 hc⟩
  refine s_M_value_0 ⟨fun hx => bad (Or.inl (Or.inl hx)), fun hx0 => t_M_vectors hw hm.1 (s_M_value_10 ⟨fun hx => bad (Or.inl (Or.inr hx)), fun hx1 => t_M_noLine hm.1 (s_M_value_18 ?_)⟩)⟩
  have hx : ¬ sl_nv T x := by rintro (h | h) <;> contradiction
  by_cases hy : sl_nl T y
  · rw [if_pos hy]
    exact ⟨fun _ => bad (Or.inr (Or.inl hy)), fun h => absurd h (by decide)⟩
  · rw [if_neg hy]
    obtain ⟨v, hv, rfl⟩ := sl_nv_of hw hx
    obtain ⟨l, hl, rfl⟩ := sl_nl_of hw hy
    have fin : ¬ (¬ z = -1 ∧ sl_nf T z) → sk_S Γ m_M_make 0 0 [.ref 41, .int 0, .int (nI v), .int z] sk_gg (sk_pi I 41 0 0) J (sk_Kv fun I' J' => sk_W Γ m_M_value 0 0 58 [(0, .ref 41), (2, .int (nI l))] [] sk_gg I' J' 0 0 (sk_Ki K)) := by
      intro hz
      obtain ⟨p, hp, rfl⟩ := sl_fi_of hw hz
      refine t_M_make (a := 0) (w := v) hw hm0.1 hm0.2.1 (sl_vf_pf hp) (by decide) (by omega) (fun I' f vv => ?_)
      refine s_M_value_58 ?_
      rw [zI_cl (sl_lt31 (m := 26) (by omega) (by decide)), vv l hl, sl_sc0]
      refine ⟨vp_nat (by omega) (by decide), _, rfl, rfl, h0 (fun h => h.elim hx (fun h => h.elim hy hz)) v l p rfl rfl rfl hv hl hp I' (sl_ms_frame hm0 (fun j _ => by rw [f 41 (by decide)]) (fun q _ _ a _ => f q a)) ?_ (fun q hq => ?_)⟩
      · rw [f 41 (by decide), pi_eq]
      · rw [f q (by omega), sl_hq0 0 q hq]
    refine ⟨fun h => absurd rfl h, fun _ => ⟨fun hz => fin (fun h => h.1 hz), fun hz => t_M_noFault hm.2.1 (s_M_value_31 ?_)⟩⟩
    by_cases hf : sl_nf T z
    · rw [if_pos hf]
      exact ⟨fun h => absurd h (by decide), fun _ => bad (Or.inr (Or.inr ⟨hz, hf⟩))⟩
    · rw [if_neg hf]
      exact ⟨fun _ => fin (fun h => hf h.2), fun h => absurd rfl h⟩
theorem t_M_response {x z : Int32} {K : Int32 → sk_I → sk_J → Prop} (hw : sl_wf T) (hm : sl_ms T lg I)
    (h1 : sl_nv T x ∨ (¬ z = -1 ∧ sl_nf T z) → K 0 (sk_pi I 41 0 1) J)
    (h0 : ¬ (sl_nv T x ∨ (¬ z = -1 ∧ sl_nf T z)) → ∀ v p, x = nI v → z = sl_fi (sl_pf p) → v < 2 ^ cS T → p ≤ cF T → ∀ I' : sk_I, sl_ms T lg I' → I' 41 0 = 0 → (∀ q, q < 41 ∨ 60 < q → I' q = I q) → K (nI (sl_rp T (sl_pf p) v)) I' J) : sk_S Γ m_M_response 0 0 [.ref 41, .int x, .int z] sk_gg I J (sk_Ki K) := by
  refine sk_spec (by decide) rfl (by exact Nat.le_of_ble_eq_true rfl) ?_
  have hS := sl_S64 hw
  have hm0 := sl_ms_code hm 0
  have bad : (sl_nv T x ∨ (¬ z = -1 ∧ sl_nf T z)) → sk_W Γ m_M_response 0 0 26 [(0, .ref 41), (1, .int x), (2, .int z)] [.ref 41] sk_gg I J 0 0 (sk_Ki K) := fun hc => s_M_response_26 ⟨_, rfl, rfl, h1 hc⟩
  refine s_M_response_0 ⟨fun hx => bad (Or.inl (Or.inl hx)), fun hx0 => t_M_vectors hw hm.1 (s_M_response_10 ⟨fun hx => bad (Or.inl (Or.inr hx)), fun hx1 => ?_⟩)⟩
  have hx : ¬ sl_nv T x := by rintro (h | h) <;> contradiction
  obtain ⟨v, hv, rfl⟩ := sl_nv_of hw hx
  have fin : ¬ (¬ z = -1 ∧ sl_nf T z) → sk_S Γ m_M_make 0 0 [.ref 41, .int 0, .int (nI v), .int z] sk_gg (sk_pi I 41 0 0) J (sk_Kv fun I' J' => sk_W Γ m_M_response 0 0 50 [(0, .ref 41)] [] sk_gg I' J' 0 0 (sk_Ki K)) := by
    intro hz
    obtain ⟨p, hp, rfl⟩ := sl_fi_of hw hz
    refine t_M_make (a := 0) (w := v) hw hm0.1 hm0.2.1 (sl_vf_pf hp) (by decide) (by omega) (fun I' f vv => ?_)
    have hm' : sl_ms T lg I' := sl_ms_frame hm0 (fun j _ => by rw [f 41 (by decide)]) (fun q _ _ a _ => f q a)
    refine s_M_response_50 ?_
    refine t_M_answered hw hm'.2.1 (fun x => sl_vv_le1 (fun i => by rw [sl_sc0]; exact sl_sv_le v i)) vv ?_
    refine s_M_response_54 ⟨_, rfl, rfl, ?_⟩
    rw [show sl_rs (sl_vv T (sl_sc 0 v) (sl_pf p)) (sl_ob T) = sl_rp T (sl_pf p) v by unfold sl_rp; rw [sl_sc0]]
    refine h0 (fun h => h.elim hx hz) v p rfl rfl hv hp I' hm' ?_ (fun q hq => ?_)
    · rw [f 41 (by decide), pi_eq]
    · rw [f q (by omega), sl_hq0 0 q hq]
  refine ⟨fun hz => fin (fun h => h.1 hz), fun hz => t_M_noFault hm.2.1 (s_M_response_23 ?_)⟩
  by_cases hf : sl_nf T z
  · rw [if_pos hf]
    exact ⟨fun h => absurd h (by decide), fun _ => bad (Or.inr ⟨hz, hf⟩)⟩
  · rw [if_neg hf]
    exact ⟨fun _ => fin (fun h => hf h.2), fun h => absurd rfl h⟩
/-- where a fault is, as an answer -/
theorem t_M_fault {x y z : Int32} {K : Int32 → sk_I → sk_J → Prop} (hw : sl_wf T) (hm : sl_ms T lg I)
    (hz : z < 0 ∨ ¬ z ≤ 1 → K (-1) (sk_pi I 41 0 0) J)
    (hn : (∀ s, s < cN T + cP T → ¬ (I 51 s = x ∧ I 52 s = y)) → K (-1) (sk_pi I 41 0 0) J)
    (hs : ∀ s, s < cN T + cP T → I 51 s = x → I 52 s = y → ¬ z < 0 → z ≤ 1 → K (2 * nI s + z) (sk_pi I 41 0 0) J) : sk_S Γ m_M_fault 0 0 [.ref 41, .int x, .int y, .int z] sk_gg I J (sk_Ki K) := by
  refine sk_spec (by decide) rfl (by exact Nat.le_of_ble_eq_true rfl) ?_
  refine s_M_fault_0 ⟨fun h => ⟨_, rfl, rfl, hz (Or.inl h)⟩, fun z0 => ⟨fun z1 => ?_, fun h => ⟨_, rfl, rfl, hz (Or.inr h)⟩⟩⟩
  have hP : cP T ≤ 78 := sl_P_le hw
  have hN := hw.1
  have e14 : sk_pi I 41 0 0 41 14 = nI (cN T + cP T) := by rw [pi_j _ _ _ _ (by decide)]; exact hm.2.1.2.2.1
  have hs31 : cN T + cP T < 2 ^ 31 := sl_lt31 (m := 104) (by omega) (by decide)
  have loop : ∀ d s, s + d = cN T + cP T → (∀ s', s' < s → ¬ (I 51 s' = x ∧ I 52 s' = y)) → sk_W Γ m_M_fault 0 0 19 [(0, .ref 41), (1, .int x), (2, .int y), (3, .int z), (4, .int (nI s))] [] sk_gg (sk_pi I 41 0 0) J 0 0 (sk_Ki K) := by
    intro d
    induction d with
    | zero =>
      intro s hsd hno
      have hsd : s = cN T + cP T := by omega
      subst hsd
      refine s_M_fault_19 ⟨fun _ => ⟨_, rfl, rfl, hn hno⟩, fun hcc => absurd ?_ hcc⟩
      rw [e14]; exact (zI_le hs31 hs31).mpr (Nat.le_refl _)
    | succ d ih =>
      intro s hsd hno
      have h31 : s < 2 ^ 31 := by omega
      have vp : vp_in (nI s) 104 := vp_nat (by omega) (by decide)
      have nx : ¬ (I 51 s = x ∧ I 52 s = y) → sk_W Γ m_M_fault 0 0 19 [(0, .ref 41), (1, .int x), (2, .int y), (3, .int z), (4, .int (nI s + 1))] [] sk_gg (sk_pi I 41 0 0) J 0 0 (sk_Ki K) := by
        intro hh
        rw [show nI s + 1 = nI (s + 1) from (nI_succ s).symm]
        refine ih (s + 1) (by omega) (fun s' hs' => ?_)
        by_cases e : s' = s
        · subst e; exact hh
        · exact hno s' (by omega)
      refine s_M_fault_19 ?_
      rw [e14, zI_cl h31, pi_q _ _ _ _ (by decide), pi_q _ _ _ _ (by decide)]
      refine ⟨fun hcc => ?_, fun _ => ⟨vp, fun n1 => nx (fun h => n1 h.1), fun y1 => ⟨vp, fun n2 => nx (fun h => n2 h.2), fun y2 => ⟨_, rfl, rfl, hs s (by omega) y1 y2 z0 z1⟩⟩⟩⟩
      rw [zI_le hs31 h31] at hcc; omega
  exact loop (cN T + cP T) 0 (by omega) (fun s' hs' => absurd hs' (Nat.not_lt_zero _))
theorem t_M_faultAt {x y : Int32} {K : Int32 → sk_I → sk_J → Prop} (hw : sl_wf T) (hm : sl_ms T lg I)
    (h1 : sl_nf T x → K 0 (sk_pi I 41 0 1) J) (h2 : ¬ sl_nf T x → (y < 0 ∨ ¬ y ≤ 2) → K 0 (sk_pi I 41 0 2) J)
    (h0 : ¬ sl_nf T x → ∀ q, x = nI q → q < cF T → ¬ y < 0 → y ≤ 2 → K (if y = 0 then I 51 (q / 2) else if y = 1 then I 52 (q / 2) else nI (q % 2)) (sk_pi I 41 0 0) J) : sk_S Γ m_M_faultAt 0 0 [.ref 41, .int x, .int y] sk_gg I J (sk_Ki K) := by
  refine sk_spec (by decide) rfl (by exact Nat.le_of_ble_eq_true rfl) ?_
  have hF : cF T ≤ 208 := sl_F_le hw
  have bad : ∀ u : Int32, ¬ u ≤ 0 → K 0 (sk_pi I 41 0 u) J → sk_W Γ m_M_faultAt 0 0 27 [(0, .ref 41), (1, .int x), (2, .int y)] [.int u, .ref 41] sk_gg I J 0 0 (sk_Ki K) :=
    fun u hu hk => s_M_faultAt_27 ⟨fun hn => absurd hn hu, fun _ => ⟨_, rfl, rfl, hk⟩⟩
  refine s_M_faultAt_0 ?_
  refine t_M_noFault hm.2.1 ?_
  refine s_M_faultAt_6 ?_
  by_cases hf : sl_nf T x
  · rw [if_pos hf]
    exact ⟨fun h => absurd h (by decide), fun _ => bad 1 (by decide) (h1 hf)⟩
  · rw [if_neg hf]
    refine ⟨fun _ => ⟨fun y0 => bad 2 (by decide) (h2 hf (Or.inl y0)), fun y0 => ⟨fun y2 => ?_, fun y2 => bad 2 (by decide) (h2 hf (Or.inr y2))⟩⟩, fun h => absurd rfl h⟩
    obtain ⟨q, hq, rfl⟩ := sl_nf_of hw hf
    have r := h0 hf q rfl hq y0 y2
    have hvp : vp_in (nI q / 2) 104 := by rw [zI_div2 q (by omega)]; exact vp_nat (by omega) (by decide)
    refine s_M_faultAt_27 ?_
    rw [zI_mod2 q (by omega)]
    have ecl : (nI q / 2).toNatClampNeg = q / 2 := by rw [zI_div2 q (by omega), zI_cl (sl_lt31 (m := 208) (by omega) (by decide))]
    rw [ecl]
    refine ⟨fun _ => ⟨fun n0 => ⟨fun n1 => ⟨_, rfl, rfl, ?_⟩, fun e1 => ⟨hvp, _, rfl, rfl, ?_⟩⟩, fun e0 => ⟨hvp, _, rfl, rfl, ?_⟩⟩, fun h => absurd (by decide) h⟩
    · rw [if_neg n0, if_neg n1] at r; exact r
    · rw [if_neg n0, if_pos e1] at r; exact r
    · rw [if_pos e0] at r; exact r
theorem t_M_least {x : Int32} {K : Int32 → sk_I → sk_J → Prop} (hw : sl_wf T) (hm : sl_ms T lg I)
    (h1 : sl_nf T x → K 0 (sk_pi I 41 0 1) J)
    (h0 : ¬ sl_nf T x → ∀ q, x = nI q → q < cF T → ∀ I' : sk_I, sl_ms T lg I' → I' 41 0 = 0 → (∀ q, q < 41 ∨ 60 < q → I' q = I q) → K (sl_oi (sl_ls T q)) I' J) : sk_S Γ m_M_least 0 0 [.ref 41, .int x] sk_gg I J (sk_Ki K) := by
  refine sk_spec (by decide) rfl (by exact Nat.le_of_ble_eq_true rfl) ?_
  have hm0 := sl_ms_code hm 0
  refine s_M_least_0 ?_
  refine t_M_noFault hm.2.1 ?_
  refine s_M_least_6 ?_
  by_cases hf : sl_nf T x
  · rw [if_pos hf]
    exact ⟨fun h => absurd h (by decide), fun _ => ⟨_, rfl, rfl, h1 hf⟩⟩
  · rw [if_neg hf]
    obtain ⟨q, hq, rfl⟩ := sl_nf_of hw hf
    refine ⟨fun _ => t_M_learn hw hm0.1 hm0.2.1 hm0.2.2.1 (fun I' f g k t => ?_), fun h => absurd rfl h⟩
    have hm' := sl_ms_learn hm0 f g t
    refine s_M_least_30 ?_
    refine t_M_leastOf hw hm'.1 t hq ?_
    refine s_M_least_35 ⟨_, rfl, rfl, h0 hf q rfl hq I' hm' (by rw [g 0 (by decide), pi_eq]) (fun q hq => by rw [f q (by omega) (by omega) (by omega) (by omega), sl_hq0 0 q hq])⟩
theorem t_M_alike {x : Int32} {K : Int32 → sk_I → sk_J → Prop} (hw : sl_wf T) (hm : sl_ms T lg I)
    (h1 : sl_nf T x → K 0 (sk_pi I 41 0 1) J)
    (h0 : ¬ sl_nf T x → ∀ q, x = nI q → q < cF T → ∀ I' : sk_I, sl_ms T lg I' → I' 41 0 = 0 → (∀ q, q < 41 ∨ 60 < q → I' q = I q) → K (nI (sl_fa T q)) I' J) : sk_S Γ m_M_alike 0 0 [.ref 41, .int x] sk_gg I J (sk_Ki K) := by
  refine sk_spec (by decide) rfl (by exact Nat.le_of_ble_eq_true rfl) ?_
  have hm0 := sl_ms_code hm 0
  refine s_M_alike_0 ?_
  refine t_M_noFault hm.2.1 ?_
  refine s_M_alike_6 ?_
  by_cases hf : sl_nf T x
  · rw [if_pos hf]
    exact ⟨fun h => absurd h (by decide), fun _ => ⟨_, rfl, rfl, h1 hf⟩⟩
  · rw [if_neg hf]
    obtain ⟨q, hq, rfl⟩ := sl_nf_of hw hf
    refine ⟨fun _ => t_M_learn hw hm0.1 hm0.2.1 hm0.2.2.1 (fun I' f g k t => ?_), fun h => absurd rfl h⟩
    have hm' := sl_ms_learn hm0 f g t
    refine s_M_alike_30 ?_
    refine t_M_firstAlike hw hm'.1 t hq ?_
    refine s_M_alike_35 ⟨_, rfl, rfl, h0 hf q rfl hq I' hm' (by rw [g 0 (by decide), pi_eq]) (fun q hq => by rw [f q (by omega) (by omega) (by omega) (by omega), sl_hq0 0 q hq])⟩
theorem t_M_showing {x : Int32} {K : Int64 → sk_I → sk_J → Prop} (hw : sl_wf T) (hm : sl_ms T lg I)
    (h1 : sl_nf T x → K 0 (sk_pi I 41 0 1) J)
    (h0 : ¬ sl_nf T x → ∀ q, x = nI q → q < cF T → ∀ (I' : sk_I) (y : Int64), sl_SW T (some q) y → sl_ms T lg I' → I' 41 0 = 0 → (∀ q, q < 41 ∨ 60 < q → I' q = I q) → K y I' J) : sk_S Γ m_M_showing 0 0 [.ref 41, .int x] sk_gg I J (sk_Kl K) := by
  refine sk_spec (by decide) rfl (by exact Nat.le_of_ble_eq_true rfl) ?_
  have hm0 := sl_ms_code hm 0
  have hS := sl_S64 hw
  have hF : cF T ≤ 208 := sl_F_le hw
  have hS31 : 2 ^ cS T < 2 ^ 31 := sl_lt31 (m := 64) hS (by decide)
  refine s_M_showing_0 ?_
  refine t_M_noFault hm.2.1 ?_
  refine s_M_showing_6 ?_
  by_cases hf : sl_nf T x
  · rw [if_pos hf]
    exact ⟨fun h => absurd h (by decide), fun _ => ⟨_, rfl, rfl, h1 hf⟩⟩
  · rw [if_neg hf]
    obtain ⟨q, hq, rfl⟩ := sl_nf_of hw hf
    refine ⟨fun _ => t_M_learn hw hm0.1 hm0.2.1 hm0.2.2.1 (fun I' f g k t => ?_), fun h => absurd rfl h⟩
    have hm' := sl_ms_learn hm0 f g t
    refine s_M_showing_30 ?_
    have loop : ∀ d v (y : Int64), v + d = 2 ^ cS T → (∀ u, u < 64 → sk_bt y u = (decide (u < v) && sl_sh T q u)) → sk_W Γ m_M_showing 0 0 35 [(0, .ref 41), (1, .int (nI q)), (2, .long y), (4, .int (nI v))] [] sk_gg I' J 0 0 (sk_Kl K) := by
      intro d
      induction d with
      | zero =>
        intro v y hv hy
        have hv : v = 2 ^ cS T := by omega
        subst hv
        refine s_M_showing_35 ?_
        refine t_M_vectors hw hm'.1 ?_
        exact s_M_showing_41 ⟨fun _ => ⟨_, rfl, rfl, h0 hf q rfl hq I' y hy hm' (by rw [g 0 (by decide), pi_eq]) (fun q hq => by rw [f q (by omega) (by omega) (by omega) (by omega), sl_hq0 0 q hq])⟩, fun hcc => absurd ((zI_le hS31 hS31).mpr (Nat.le_refl _)) hcc⟩
      | succ d ih =>
        intro v y hv hy
        have hv31 : v < 2 ^ 31 := by omega
        refine s_M_showing_35 ?_
        refine t_M_vectors hw hm'.1 ?_
        refine s_M_showing_41 ⟨fun hcc => ?_, fun _ => ?_⟩
        · rw [zI_le hS31 hv31] at hcc; omega
        · rw [sl_64, zI_cl (sl_lt31 (m := 13312) (by omega) (by decide)), zI_cl hv31, sl_kt_ne hw t hq (by omega), show nI v + 1 = nI (v + 1) from (nI_succ v).symm]
          refine ⟨vp_nat (by omega) (by decide), vp_nat (by omega) (by decide), fun hn => ih (v + 1) y (by omega) (fun u hu => ?_), fun hn => ih (v + 1) _ (by omega) (fun u hu => ?_)⟩
          · rw [hy u hu]
            by_cases huv : u = v
            · subst huv
              have : sl_sh T q u = false := by simpa using hn
              rw [this, Bool.and_false, Bool.and_false]
            · have : decide (u < v) = decide (u < v + 1) := decide_eq_decide.mpr (by omega)
              rw [this]
          · rw [bt_or, hy u hu, bt_shl (by omega)]
            have hs := Classical.byContradiction hn
            by_cases huv : u = v
            · subst huv
              rw [hs]; simp
            · have : decide (u < v) = decide (u < v + 1) := decide_eq_decide.mpr (by omega)
              rw [this, decide_eq_false huv, Bool.or_false]
    exact loop (2 ^ cS T) 0 0 (by omega) (fun u hu => by rw [bt_0]; simp)
abbrev sl_tB (T : sl_ct) (x y : Int32) : Prop := sl_nv T x ∨ sl_nv T y ∨ ¬ x &&& y = 0
theorem t_M_ternary {x y z w : Int32} {K : Int32 → sk_I → sk_J → Prop} (hw : sl_wf T) (hm : sl_ms T lg I)
    (h1 : sl_nl T z ∨ (¬ w = -1 ∧ sl_nf T w) → K 0 (sk_pi I 41 0 1) J) (h2 : ¬ (sl_nl T z ∨ (¬ w = -1 ∧ sl_nf T w)) → sl_tB T x y → K 0 (sk_pi I 41 0 2) J)
    (h0 : ¬ (sl_nl T z ∨ (¬ w = -1 ∧ sl_nf T w)) → ¬ sl_tB T x y → ∀ a b l p, x = nI a → y = nI b → z = nI l → w = sl_fi (sl_pf p) → a < 2 ^ cS T → b < 2 ^ cS T → l < cN T → p ≤ cF T → x &&& y = 0 → ∀ I' : sk_I, sl_ms T lg I' → I' 41 0 = 0 → (∀ q, q < 41 ∨ 60 < q → I' q = I q) → K (nI (sl_vv T (sl_sc a b) (sl_pf p) l)) I' J) : sk_S Γ m_M_ternary 0 0 [.ref 41, .int x, .int y, .int z, .int w] sk_gg I J (sk_Ki K) := by
  refine sk_spec (by decide) rfl (by exact Nat.le_of_ble_eq_true rfl) ?_
  have hm0 := sl_ms_code hm 0
  have hN := hw.1
  have hS := sl_S64 hw
  have s65 : ∀ x5 u0 : Int32, (x5 = 0 ↔ ¬ (sl_nl T z ∨ (¬ w = -1 ∧ sl_nf T w))) → (u0 = 0 ↔ ¬ sl_tB T x y) → sk_W Γ m_M_ternary 0 0 65 [(0, .ref 41), (1, .int x), (2, .int y), (3, .int z), (4, .int w), (5, .int x5)] [.int u0] sk_gg I J 0 0 (sk_Ki K) := by
    intro x5 u0 hA hB
    refine s_M_ternary_65 ⟨fun h5 => ⟨fun hu => ?_, fun hu => ⟨_, rfl, rfl, h2 (hA.mp h5) (Classical.byContradiction fun hh => hu (hB.mpr hh))⟩⟩, fun h5 => ⟨_, rfl, rfl, h1 (Classical.byContradiction fun hh => h5 (hA.mpr hh))⟩⟩
    have a5 := hA.mp h5
    have b5 := hB.mp hu
    obtain ⟨a, ha, rfl⟩ := sl_nv_of hw (fun h => b5 (Or.inl h))
    obtain ⟨b, hb, rfl⟩ := sl_nv_of hw (fun h => b5 (Or.inr (Or.inl h)))
    obtain ⟨l, hl, rfl⟩ := sl_nl_of hw (fun h => a5 (Or.inl h))
    obtain ⟨p, hp, rfl⟩ := sl_fi_of hw (fun h => a5 (Or.inr h))
    refine t_M_make (a := a) (w := b) hw hm0.1 hm0.2.1 (sl_vf_pf hp) (by omega) (by omega) (fun I' f vv => ?_)
    refine s_M_ternary_107 ?_
    rw [zI_cl (sl_lt31 (m := 26) (by omega) (by decide)), vv l hl]
    refine ⟨vp_nat (by omega) (by decide), _, rfl, rfl, h0 a5 b5 a b l p rfl rfl rfl rfl ha hb hl hp (Classical.byContradiction fun hh => b5 (Or.inr (Or.inr hh))) I' (sl_ms_frame hm0 (fun j _ => by rw [f 41 (by decide)]) (fun q _ _ a _ => f q a)) ?_ (fun q hq => ?_)⟩
    · rw [f 41 (by decide), pi_eq]
    · rw [f q (by omega), sl_hq0 0 q hq]
  have opn : ∀ x5 : Int32, (x5 = 0 ↔ ¬ (sl_nl T z ∨ (¬ w = -1 ∧ sl_nf T w))) → (x < 0 → sk_W Γ m_M_ternary 0 0 65 [(0, .ref 41), (1, .int x), (2, .int y), (3, .int z), (4, .int w), (5, .int x5)] [.int 1] sk_gg I J 0 0 (sk_Ki K)) ∧ (¬ x < 0 → sk_S Γ m_M_vectors 0 0 [.ref 41] sk_gg I J (sk_Ki fun v' I' J' => sk_W Γ m_M_ternary 0 0 39 [(0, .ref 41), (1, .int x), (2, .int y), (3, .int z), (4, .int w), (5, .int x5)] [.int v', .int x] sk_gg I' J' 0 0 (sk_Ki K))) := by
    intro x5 hA
    have bad1 : sl_tB T x y → sk_W Γ m_M_ternary 0 0 65 [(0, .ref 41), (1, .int x), (2, .int y), (3, .int z), (4, .int w), (5, .int x5)] [.int 1] sk_gg I J 0 0 (sk_Ki K) := fun hB => s65 x5 1 hA ⟨fun h => absurd h (by decide), fun h => absurd hB h⟩
    refine ⟨fun hx => bad1 (Or.inl (Or.inl hx)), fun hx => t_M_vectors hw hm.1 (s_M_ternary_39 ⟨fun hx2 => bad1 (Or.inl (Or.inr hx2)), fun hx2 => ⟨fun hy => bad1 (Or.inr (Or.inl (Or.inl hy))), fun hy => t_M_vectors hw hm.1 (s_M_ternary_51 ⟨fun hy2 => bad1 (Or.inr (Or.inl (Or.inr hy2))), fun hy2 => ⟨fun he => s65 x5 0 hA ⟨fun _ => ?_, fun _ => rfl⟩, fun hne => bad1 (Or.inr (Or.inr hne))⟩⟩)⟩⟩)⟩
    rintro ((h | h) | (h | h) | h)
    · exact hx h
    · exact hx2 h
    · exact hy h
    · exact hy2 h
    · exact h he
  refine s_M_ternary_0 ?_
  refine t_M_noLine hm.1 ?_
  refine s_M_ternary_5 ?_
  by_cases hz : sl_nl T z
  · rw [if_pos hz]
    exact ⟨fun _ => opn 1 ⟨fun h => absurd h (by decide), fun h => absurd (Or.inl hz) h⟩, fun h => absurd h (by decide)⟩
  · rw [if_neg hz]
    refine ⟨fun h => absurd rfl h, fun _ => ⟨fun hw1 => opn 0 ⟨fun _ => ?_, fun _ => rfl⟩, fun hw1 => t_M_noFault hm.2.1 (s_M_ternary_20 ?_)⟩⟩
    · rintro (h | h)
      · exact hz h
      · exact h.1 hw1
    · by_cases hf : sl_nf T w
      · rw [if_pos hf]
        exact ⟨fun h => absurd h (by decide), fun _ => opn 1 ⟨fun h => absurd h (by decide), fun h => absurd (Or.inr ⟨hw1, hf⟩) h⟩⟩
      · rw [if_neg hf]
        refine ⟨fun _ => opn 0 ⟨fun _ => ?_, fun _ => rfl⟩, fun h => absurd rfl h⟩
        rintro (h | h)
        · exact hz h
        · exact hf h.2
theorem sl_cnP : ∀ a, a < 3 → ∀ b, b < 3 → ((2 ≤ nI b → ¬ sl_cn a b = true) ∧ (¬ 2 ≤ nI b → (nI a = 1 - nI b ↔ sl_cn a b = true))) := by decide +kernel
theorem t_M_tells {a w q : Nat} {K : Int32 → sk_I → sk_J → Prop} (hw : sl_wf T) (hm : sl_ms T lg I) (ha : a < 64) (hww : w < 64) (hq : q < cF T)
    (h : ∀ I' : sk_I, (∀ q, q ≠ 53 → q ≠ 54 → I' q = I q) → K (if sl_tl T a w q = true then 1 else 0) I' J) : sk_S Γ m_M_tells 0 0 [.ref 41, .int (nI a), .int (nI w), .int (nI q)] sk_gg I J (sk_Ki K) := by
  refine sk_spec (by decide) rfl (by exact Nat.le_of_ble_eq_true rfl) ?_
  have hB := sl_B31 hw
  have hB12 := sl_ob_len hw
  have hN := hw.1
  have hsc := sl_sc_le a w
  refine s_M_tells_0 ?_
  refine t_M_make (f := none) hw hm.1 hm.2.1 (fun q hq => by cases hq) ha hww (fun I1 f1 v1 => ?_)
  refine s_M_tells_7 ?_
  -- the second run
  have second : ∀ I2 : sk_I, (∀ q, q ≠ 53 → q ≠ 54 → I2 q = I q) → (∀ l, l < cN T → I2 53 l = nI (sl_vv T (sl_sc a w) (some q) l)) → (∀ k x, (sl_ob T)[k]? = some x → I2 54 k = nI (sl_vv T (sl_sc a w) none x)) →
      sk_W Γ m_M_tells 0 0 51 [(0, .ref 41)] [] sk_gg I2 J 0 0 (sk_Ki K) := by
    intro I2 f2 v2 p2
    have ho2 : sl_mo T I2 := sl_mo_frame hm.2.1 (fun j _ => by rw [f2 41 (by decide) (by decide)]) (fun q x y => f2 q (by omega) (by omega))
    refine s_M_tells_51 ?_
    have loop : ∀ d k, k + d = (sl_ob T).length → sk_W Γ m_M_tells 0 0 57 [(0, .ref 41), (4, .int (if ((sl_ob T).take k).any (fun x => sl_cn (sl_vv T (sl_sc a w) none x) (sl_vv T (sl_sc a w) (some q) x)) = true then 1 else 0)), (5, .int (nI k))] [] sk_gg I2 J 0 0 (sk_Ki K) := by
      intro d
      induction d with
      | zero =>
        intro k hk
        have hk : k = (sl_ob T).length := by omega
        subst hk
        rw [List.take_length]
        refine s_M_tells_57 ⟨fun _ => ⟨?_, _, rfl, rfl, h I2 f2⟩, fun hcc => absurd ?_ hcc⟩
        · split
          · exact Or.inr rfl
          · exact Or.inl rfl
        · rw [ho2.1]; exact (zI_le hB hB).mpr (Nat.le_refl _)
      | succ d ih =>
        intro k hk
        have hkB : k < (sl_ob T).length := by omega
        have hk31 : k < 2 ^ 31 := by omega
        have hx := sl_ob_lt hw _ (List.getElem_mem hkB)
        have hnx := ih (k + 1) (by omega)
        rw [List.take_succ, List.getElem?_eq_getElem hkB, List.any_append] at hnx
        have eany : [(sl_ob T)[k]].any (fun x => sl_cn (sl_vv T (sl_sc a w) none x) (sl_vv T (sl_sc a w) (some q) x)) = sl_cn (sl_vv T (sl_sc a w) none (sl_ob T)[k]) (sl_vv T (sl_sc a w) (some q) (sl_ob T)[k]) := by simp
        rw [show (some (sl_ob T)[k]).toList = [(sl_ob T)[k]] from rfl, eany] at hnx
        obtain ⟨c1, c2⟩ := sl_cnP _ (Nat.lt_succ_of_le (sl_vv_le (T := T) (f := none) (l := (sl_ob T)[k]) hsc)) _ (Nat.lt_succ_of_le (sl_vv_le (T := T) (f := some q) (l := (sl_ob T)[k]) hsc))
        have vp1 : vp_in (nI k) 12 := vp_nat (by omega) (by decide)
        refine s_M_tells_57 ?_
        rw [ho2.1, zI_cl hk31, sl_pre_lt ho2.2.1 hkB, zI_cl (sl_lt31 (m := 26) (by omega) (by decide)), v2 _ hx, p2 k _ (List.getElem?_eq_getElem hkB), show nI k + 1 = nI (k + 1) from (nI_succ k).symm]
        refine ⟨fun hcc => ?_, fun _ => ⟨vp1, vp_nat (by omega) (by decide), fun h1 => ?_, fun h0 => ⟨fun h2 => ?_, fun h2 => ⟨vp1, fun hn => ?_, fun hy => ?_⟩⟩⟩⟩
        · rw [zI_le hB hk31] at hcc; omega
        · cases hb : ((sl_ob T).take k).any (fun x => sl_cn (sl_vv T (sl_sc a w) none x) (sl_vv T (sl_sc a w) (some q) x)) with
          | false => rw [hb] at h1; exact absurd rfl h1
          | true => rw [hb] at hnx; exact hnx
        · cases hb : ((sl_ob T).take k).any (fun x => sl_cn (sl_vv T (sl_sc a w) none x) (sl_vv T (sl_sc a w) (some q) x)) with
          | true => rw [hb] at h0; exact absurd h0 (by decide)
          | false =>
            have hc := c1 h2
            rw [Bool.not_eq_true] at hc
            rw [hb, hc] at hnx; exact hnx
        · cases hb : ((sl_ob T).take k).any (fun x => sl_cn (sl_vv T (sl_sc a w) none x) (sl_vv T (sl_sc a w) (some q) x)) with
          | true => rw [hb] at h0; exact absurd h0 (by decide)
          | false =>
            have hc : ¬ sl_cn (sl_vv T (sl_sc a w) none (sl_ob T)[k]) (sl_vv T (sl_sc a w) (some q) (sl_ob T)[k]) = true := fun hh => hn ((c2 h2).mpr hh)
            rw [Bool.not_eq_true] at hc
            rw [hb, hc] at hnx; exact hnx
        · rw [(c2 h2).mp hy, Bool.or_true] at hnx; exact hnx
    exact loop (sl_ob T).length 0 (by omega)
  have loop : ∀ d k (I2 : sk_I), k + d = (sl_ob T).length → (∀ q, q ≠ 54 → I2 q = I1 q) → (∀ k' x, k' < k → (sl_ob T)[k']? = some x → I2 54 k' = nI (sl_vv T (sl_sc a w) none x)) →
      sk_W Γ m_M_tells 0 0 10 [(0, .ref 41), (1, .int (nI a)), (2, .int (nI w)), (3, .int (nI q)), (4, .int (nI k))] [] sk_gg I2 J 0 0 (sk_Ki K) := by
    intro d
    induction d with
    | zero =>
      intro k I2 hk f2 p2
      have hk : k = (sl_ob T).length := by omega
      subst hk
      have fI : ∀ q, q ≠ 53 → q ≠ 54 → I2 q = I q := fun q x y => by rw [f2 q y, f1 q x]
      have hb2 : sl_mb T I2 := sl_mb_frame hm.1 (fun j _ => by rw [fI 41 (by decide) (by decide)]) (fun q x y => fI q (by omega) (by omega))
      have ho2 : sl_mo T I2 := sl_mo_frame hm.2.1 (fun j _ => by rw [fI 41 (by decide) (by decide)]) (fun q x y => fI q (by omega) (by omega))
      refine s_M_tells_10 ⟨fun _ => ?_, fun hcc => absurd ?_ hcc⟩
      · refine t_M_make (f := some q) hw hb2 ho2 (fun r hr => by cases hr; exact hq) ha hww (fun I3 f3 v3 => ?_)
        refine second I3 (fun q x y => by rw [f3 q x, fI q x y]) v3 (fun k x hx => ?_)
        rw [f3 54 (by decide)]
        exact p2 k x (List.getElem?_eq_some_iff.mp hx).1 hx
      · rw [ho2.1]; exact (zI_le hB hB).mpr (Nat.le_refl _)
    | succ d ih =>
      intro k I2 hk f2 p2
      have hkB : k < (sl_ob T).length := by omega
      have hk31 : k < 2 ^ 31 := by omega
      have hx := sl_ob_lt hw _ (List.getElem_mem hkB)
      have fI : ∀ q, q ≠ 53 → q ≠ 54 → I2 q = I q := fun q x y => by rw [f2 q y, f1 q x]
      have ho2 : sl_mo T I2 := sl_mo_frame hm.2.1 (fun j _ => by rw [fI 41 (by decide) (by decide)]) (fun q x y => fI q (by omega) (by omega))
      have vp1 : vp_in (nI k) 12 := vp_nat (by omega) (by decide)
      refine s_M_tells_10 ?_
      rw [ho2.1, zI_cl hk31, sl_pre_lt ho2.2.1 hkB, zI_cl (sl_lt31 (m := 26) (by omega) (by decide)), f2 53 (by decide), v1 _ hx, show nI k + 1 = nI (k + 1) from (nI_succ k).symm]
      refine ⟨fun hcc => ?_, fun _ => ⟨vp1, vp_nat (by omega) (by decide), vp1, ih (k + 1) _ (by omega) (fun q hq => by rw [pi_q _ _ _ _ hq, f2 q hq]) (fun k' x hk' hx' => ?_)⟩⟩
      · rw [zI_le hB hk31] at hcc; omega
      · rw [pi_at]
        by_cases hkk : k' = k
        · subst hkk
          rw [List.getElem?_eq_getElem hkB] at hx'
          cases hx'
          rw [if_pos rfl]
        · rw [if_neg hkk]; exact p2 k' x (by omega) hx'
  exact loop (sl_ob T).length 0 I1 (by omega) (fun _ _ => rfl) (fun k' x hk' => absurd hk' (Nat.not_lt_zero _))
def sl_cu (T : sl_ct) (q : Nat) : Int32 := match sl_ls T q with | none => -1 | some v => nI (sl_wd T q (cS T) 0 0 v)
theorem t_M_cube {x : Int32} {K : Int32 → sk_I → sk_J → Prop} (hw : sl_wf T) (hm : sl_ms T lg I)
    (h1 : sl_nf T x → K 0 (sk_pi I 41 0 1) J)
    (h0 : ¬ sl_nf T x → ∀ q, x = nI q → q < cF T → ∀ I' : sk_I, sl_ms T lg I' → I' 41 0 = 0 → (∀ q, q < 41 ∨ 60 < q → I' q = I q) → K (sl_cu T q) I' J) : sk_S Γ m_M_cube 0 0 [.ref 41, .int x] sk_gg I J (sk_Ki K) := by
  refine sk_spec (by decide) rfl (by exact Nat.le_of_ble_eq_true rfl) ?_
  have hm0 := sl_ms_code hm 0
  have hS := sl_S64 hw
  have hS6 := hw.2.1
  have hS31 : cS T < 2 ^ 31 := sl_lt31 (m := 6) hS6 (by decide)
  refine s_M_cube_0 ?_
  refine t_M_noFault hm.2.1 ?_
  refine s_M_cube_6 ?_
  by_cases hf : sl_nf T x
  · rw [if_pos hf]
    exact ⟨fun h => absurd h (by decide), fun _ => ⟨_, rfl, rfl, h1 hf⟩⟩
  · rw [if_neg hf]
    obtain ⟨q, hq, rfl⟩ := sl_nf_of hw hf
    refine ⟨fun _ => t_M_learn hw hm0.1 hm0.2.1 hm0.2.2.1 (fun I' f g k t => ?_), fun h => absurd rfl h⟩
    have hm' := sl_ms_learn hm0 f g t
    have e0 : I' 41 0 = 0 := by rw [g 0 (by decide), pi_eq]
    have eq' : ∀ q, q < 41 ∨ 60 < q → I' q = I q := fun q hq => by rw [f q (by omega) (by omega) (by omega) (by omega), sl_hq0 0 q hq]
    refine s_M_cube_30 ?_
    refine t_M_leastOf hw hm'.1 t hq ?_
    refine s_M_cube_35 ?_
    have r := h0 hf q rfl hq
    unfold sl_cu at r
    cases hl : sl_ls T q with
    | none =>
      rw [hl] at r
      exact ⟨fun h => absurd h (by decide), fun _ => ⟨_, rfl, rfl, r I' hm' e0 eq'⟩⟩
    | some v =>
      rw [hl] at r
      have hv := (sl_ls_lt hl).1
      have hv31 : v < 2 ^ 31 := sl_lt31 (m := 64) (by omega) (by decide)
      refine ⟨fun _ => ?_, fun h => absurd (Int32.not_lt.mp (zI_nn (a := v) hv31)) h⟩
      have loop : ∀ d i a w (I1 : sk_I), i + d = cS T → a < 64 → w < 64 → (∀ q, q ≠ 53 → q ≠ 54 → I1 q = I' q) → (∀ I2 : sk_I, sl_ms T lg I2 → I2 41 0 = 0 → (∀ q, q < 41 ∨ 60 < q → I2 q = I q) → K (nI (sl_wd T q d i a w)) I2 J) →
          sk_W Γ m_M_cube 0 0 47 [(0, .ref 41), (1, .int (nI q)), (2, .int (nI w)), (3, .int (nI a)), (4, .int (nI i))] [] sk_gg I1 J 0 0 (sk_Ki K) := by
        intro d
        induction d with
        | zero =>
          intro i a w I1 hi ha hww f1 hk
          have hi : i = cS T := by omega
          subst hi
          have hm1 : sl_ms T lg I1 := sl_ms_frame hm' (fun j _ => by rw [f1 41 (by decide) (by decide)]) (fun q _ _ x y => f1 q x y)
          refine s_M_cube_47 ⟨fun _ => ⟨_, rfl, rfl, ?_⟩, fun hcc => absurd ?_ hcc⟩
          · rw [show (64 : Int32) = nI 64 by decide +kernel, zI_mul, zI_add]
            exact hk I1 hm1 (by rw [f1 41 (by decide) (by decide)]; exact e0) (fun q hq => by rw [f1 q (by omega) (by omega), eq' q hq])
          · rw [hm1.1.1.2.1]; exact (zI_le hS31 hS31).mpr (Nat.le_refl _)
        | succ d ih =>
          intro i a w I1 hi ha hww f1 hk
          have hm1 : sl_ms T lg I1 := sl_ms_frame hm' (fun j _ => by rw [f1 41 (by decide) (by decide)]) (fun q _ _ x y => f1 q x y)
          have hi31 : i < 2 ^ 31 := by omega
          obtain ⟨z1, z2, -, -⟩ := zI_cb a ha i (by omega)
          obtain ⟨-, -, z3, z4⟩ := zI_cb w hww i (by omega)
          refine s_M_cube_47 ⟨fun hcc => ?_, fun _ => ?_⟩
          · rw [hm1.1.1.2.1, zI_le hS31 hi31] at hcc; omega
          · rw [z1, z3]
            refine t_M_tells hw hm1 z2 z4 hq (fun I2 f2 => ?_)
            refine s_M_cube_77 ?_
            rw [z1, z3, show nI i + 1 = nI (i + 1) from (nI_succ i).symm]
            simp only [sl_wd] at hk
            have f12 : ∀ q, q ≠ 53 → q ≠ 54 → I2 q = I' q := fun q x y => by rw [f2 q x y, f1 q x y]
            by_cases ht : sl_tl T (a ||| 2 ^ i) (w &&& (63 ^^^ 2 ^ i)) q = true
            · rw [if_pos ht]
              refine ⟨fun hn => absurd hn (by decide), fun _ => ih (i + 1) _ _ I2 (by omega) z2 z4 f12 (fun I3 x y z => ?_)⟩
              have := hk I3 x y z
              rw [if_pos ht] at this
              exact this
            · rw [if_neg ht]
              refine ⟨fun _ => ih (i + 1) _ _ I2 (by omega) ha hww f12 (fun I3 x y z => ?_), fun hn => absurd rfl hn⟩
              have := hk I3 x y z
              rw [if_neg ht] at this
              exact this
      exact loop (cS T) 0 0 v I' (by omega) (by decide) (by omega) (fun _ _ _ => rfl) r
end MS
