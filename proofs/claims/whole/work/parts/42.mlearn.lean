/-! the model: what it learns -/
def sl_kt (T : sl_ct) (I : sk_I) : Prop := ∀ v, v < 2 ^ cS T → I 56 v = nI (sl_rp T none v) ∧ ∀ f, f < cF T → I 55 (64 * f + v) = nI (sl_rp T (some f) v)
def sl_mk (T : sl_ct) (I : sk_I) : Prop := ¬ I 41 19 = 0 → sl_kt T I
theorem sl_sc0 (v : Nat) : sl_sc 0 v = sl_sv v := by
  funext i
  simp [sl_sc, sl_sv]
section ML
variable {Γ : sk_T} {I : sk_I} {J : sk_J} {T : sl_ct}
theorem t_M_noLine {x : Int32} {K : Int32 → sk_I → sk_J → Prop} (hb : sl_mb T I) (h : K (if x < 0 ∨ nI (cN T) ≤ x then 1 else 0) I J) : sk_S Γ m_M_noLine 0 0 [.ref 41, .int x] sk_gg I J (sk_Ki K) := by
  refine sk_spec (by decide) rfl (by exact Nat.le_of_ble_eq_true rfl) ?_
  refine s_M_noLine_0 ?_
  rw [hb.1.1]
  refine ⟨fun h1 => ⟨_, rfl, rfl, ?_⟩, fun h1 => ⟨fun h2 => ⟨_, rfl, rfl, ?_⟩, fun h2 => ⟨_, rfl, rfl, ?_⟩⟩⟩
  · rw [if_pos (Or.inl h1)] at h; exact h
  · rw [if_neg] at h
    · exact h
    · rintro (h3 | h3)
      · exact h1 h3
      · exact Int32.not_lt.mpr h3 h2
  · rw [if_pos (Or.inr (Int32.not_lt.mp h2))] at h; exact h
theorem sl_mF (ho : sl_mo T I) : 2 * I 41 14 = nI (cF T) := by
  rw [ho.2.2.1, zI_2, zI_mul]
theorem t_M_noFault {x : Int32} {K : Int32 → sk_I → sk_J → Prop} (ho : sl_mo T I) (h : K (if x < 0 ∨ nI (cF T) ≤ x then 1 else 0) I J) : sk_S Γ m_M_noFault 0 0 [.ref 41, .int x] sk_gg I J (sk_Ki K) := by
  refine sk_spec (by decide) rfl (by exact Nat.le_of_ble_eq_true rfl) ?_
  refine s_M_noFault_0 ?_
  rw [sl_mF ho]
  refine ⟨fun h1 => ⟨_, rfl, rfl, ?_⟩, fun h1 => ⟨fun h2 => ⟨_, rfl, rfl, ?_⟩, fun h2 => ⟨_, rfl, rfl, ?_⟩⟩⟩
  · rw [if_pos (Or.inl h1)] at h; exact h
  · rw [if_neg] at h
    · exact h
    · rintro (h3 | h3)
      · exact h1 h3
      · exact Int32.not_lt.mpr h3 h2
  · rw [if_pos (Or.inr (Int32.not_lt.mp h2))] at h; exact h
theorem t_M_vectors {K : Int32 → sk_I → sk_J → Prop} (hw : sl_wf T) (hb : sl_mb T I) (h : K (nI (2 ^ cS T)) I J) : sk_S Γ m_M_vectors 0 0 [.ref 41] sk_gg I J (sk_Ki K) := by
  refine sk_spec (by decide) rfl (by exact Nat.le_of_ble_eq_true rfl) ?_
  refine s_M_vectors_0 ⟨_, rfl, rfl, ?_⟩
  rw [hb.1.2.1, zI_pow _ (by have := hw.2.1; omega)]; exact h
theorem t_M_learn {K : sk_I → sk_J → Prop} (hw : sl_wf T) (hb : sl_mb T I) (ho : sl_mo T I) (hk : sl_mk T I)
    (h : ∀ I' : sk_I, (∀ q, q ≠ 41 → q ≠ 53 → q ≠ 55 → q ≠ 56 → I' q = I q) → (∀ j, j ≠ 19 → I' 41 j = I 41 j) → ¬ I' 41 19 = 0 → sl_kt T I' → K I' J) : sk_S Γ m_M_learn 0 0 [.ref 41] sk_gg I J (sk_Kv K) := by
  refine sk_spec (by decide) rfl (by exact Nat.le_of_ble_eq_true rfl) ?_
  refine s_M_learn_0 ⟨fun _ => ?_, fun hn => ⟨rfl, rfl, h I (fun _ _ _ _ _ => rfl) (fun _ _ => rfl) hn (hk hn)⟩⟩
  have hF : cF T ≤ 208 := sl_F_le hw
  have hF31 : cF T < 2 ^ 31 := sl_lt31 (m := 208) (by omega) (by decide)
  have hS := sl_S64 hw
  have hS31 : 2 ^ cS T < 2 ^ 31 := sl_lt31 (m := 64) hS (by decide)
  let F : sk_I → Prop := fun I1 => (∀ q, q ≠ 41 → q ≠ 53 → q ≠ 55 → q ≠ 56 → I1 q = I q) ∧ (∀ j, j ≠ 19 → I1 41 j = I 41 j) ∧ I1 41 19 = 1
  have gB : ∀ I1, F I1 → sl_mb T I1 := fun I1 f => sl_mb_frame hb (fun j hj => f.2.1 j (by omega)) (fun q a b => f.1 q (by omega) (by omega) (by omega) (by omega))
  have gO : ∀ I1, F I1 → sl_mo T I1 := fun I1 f => sl_mo_frame ho (fun j hj => f.2.1 j (by omega)) (fun q a b => f.1 q (by omega) (by omega) (by omega) (by omega))
  have hF1 : ∀ (I1 I2 : sk_I), F I1 → (∀ q, q ≠ 53 → q ≠ 55 → q ≠ 56 → I2 q = I1 q) → F I2 := by
    intro I1 I2 f g
    refine ⟨fun q a b c d => by rw [g q b c d, f.1 q a b c d], fun j hj => ?_, ?_⟩
    · rw [g 41 (by decide) (by decide) (by decide)]; exact f.2.1 j hj
    · rw [g 41 (by decide) (by decide) (by decide)]; exact f.2.2
  have hg : ∀ v f x, sl_vv T (sl_sc 0 v) f x ≤ 1 := fun v f x => sl_vv_le1 (fun i => by rw [sl_sc0]; exact sl_sv_le v i)
  have erp : ∀ v f, sl_rs (sl_vv T (sl_sc 0 v) f) (sl_ob T) = sl_rp T f v := fun v f => by unfold sl_rp; rw [sl_sc0]
  have loop : ∀ d v (I1 : sk_I), v + d = 2 ^ cS T → F I1 → (∀ v', v' < v → I1 56 v' = nI (sl_rp T none v') ∧ ∀ f, f < cF T → I1 55 (64 * f + v') = nI (sl_rp T (some f) v')) →
      sk_W Γ m_M_learn 0 0 15 [(0, .ref 41), (1, .int (nI v))] [] sk_gg I1 J 0 0 (sk_Kv K) := by
    intro d
    induction d with
    | zero =>
      intro v I1 hv f ht
      have hv : v = 2 ^ cS T := by omega
      subst hv
      refine s_M_learn_15 ?_
      refine t_M_vectors hw (gB I1 f) ?_
      exact s_M_learn_20 ⟨fun _ => ⟨rfl, rfl, h I1 f.1 f.2.1 (by rw [f.2.2]; decide) ht⟩, fun hcc => absurd ((zI_le hS31 hS31).mpr (Nat.le_refl _)) hcc⟩
    | succ d ih =>
      intro v I1 hv f ht
      have hv31 : v < 2 ^ 31 := by omega
      have hv64 : v < 64 := by omega
      refine s_M_learn_15 ?_
      refine t_M_vectors hw (gB I1 f) ?_
      refine s_M_learn_20 ⟨fun hcc => ?_, fun _ => ?_⟩
      · rw [zI_le hS31 hv31] at hcc; omega
      · refine t_M_make (a := 0) (w := v) (f := none) hw (gB I1 f) (gO I1 f) (fun q hq => by cases hq) (by decide) hv64 (fun I2 f2 v2 => ?_)
        have F2 : F I2 := hF1 I1 I2 f (fun q a b c => f2 q a)
        refine s_M_learn_30 ?_
        refine t_M_answered hw (gO I2 F2) (hg v none) v2 ?_
        rw [erp]
        refine s_M_learn_39 ⟨vp_nat (by omega) (by decide), ?_⟩
        rw [zI_cl hv31]
        have inner : ∀ e g (I3 : sk_I), g + e = cF T → F I3 → (∀ v', v' < v → I3 56 v' = nI (sl_rp T none v') ∧ ∀ f, f < cF T → I3 55 (64 * f + v') = nI (sl_rp T (some f) v')) → I3 56 v = nI (sl_rp T none v) → (∀ f, f < g → I3 55 (64 * f + v) = nI (sl_rp T (some f) v)) →
            sk_W Γ m_M_learn 0 0 42 [(0, .ref 41), (1, .int (nI v)), (2, .int (nI g))] [] sk_gg I3 J 0 0 (sk_Kv K) := by
          intro e
          induction e with
          | zero =>
            intro g I3 hg2 F3 t1 t2 t3
            have hg2 : g = cF T := by omega
            subst hg2
            refine s_M_learn_42 ?_
            rw [sl_mF (gO I3 F3), show nI v + 1 = nI (v + 1) from (nI_succ v).symm]
            refine ⟨fun _ => ih (v + 1) I3 (by omega) F3 (fun v' hv' => ?_), fun hcc => absurd ((zI_le hF31 hF31).mpr (Nat.le_refl _)) hcc⟩
            by_cases hvv : v' = v
            · subst hvv; exact ⟨t2, t3⟩
            · exact t1 v' (by omega)
          | succ e ihe =>
            intro g I3 hg2 F3 t1 t2 t3
            have hgF : g < cF T := by omega
            have hg31 : g < 2 ^ 31 := by omega
            refine s_M_learn_42 ?_
            rw [sl_mF (gO I3 F3)]
            refine ⟨fun hcc => ?_, fun _ => ?_⟩
            · rw [zI_le hF31 hg31] at hcc; omega
            · refine t_M_make (a := 0) (w := v) (f := some g) hw (gB I3 F3) (gO I3 F3) (fun q hq => by cases hq; exact hgF) (by decide) hv64 (fun I4 f4 v4 => ?_)
              have F4 : F I4 := hF1 I3 I4 F3 (fun q a b c => f4 q a)
              refine s_M_learn_59 ?_
              refine t_M_answered hw (gO I4 F4) (hg v (some g)) v4 ?_
              rw [erp, show (64 : Int32) = nI 64 by decide +kernel, zI_mul, zI_add]
              refine s_M_learn_73 ⟨vp_nat (by omega) (by decide), ?_⟩
              rw [zI_cl (sl_lt31 (m := 13312) (by omega) (by decide)), show nI g + 1 = nI (g + 1) from (nI_succ g).symm]
              refine ihe (g + 1) _ (by omega) (hF1 I4 _ F4 (fun q a b c => pi_q _ _ _ _ b)) (fun v' hv' => ?_) ?_ (fun f' hf' => ?_)
              · rw [pi_q _ _ _ _ (show (56 : Nat) ≠ 55 by decide), f4 56 (by decide)]
                refine ⟨(t1 v' hv').1, fun f' hf' => ?_⟩
                rw [pi_j _ _ _ _ (by omega), f4 55 (by decide)]
                exact (t1 v' hv').2 f' hf'
              · rw [pi_q _ _ _ _ (show (56 : Nat) ≠ 55 by decide), f4 56 (by decide)]; exact t2
              · rw [pi_at]
                by_cases hff : f' = g
                · subst hff; rw [if_pos rfl]
                · rw [if_neg (by omega), f4 55 (by decide)]; exact t3 f' (by omega)
        refine inner (cF T) 0 _ (by omega) (hF1 I2 _ F2 (fun q a b c => pi_q _ _ _ _ c)) (fun v' hv' => ?_) (pi_eq _ _ _ _) (fun f' hf' => absurd hf' (Nat.not_lt_zero _))
        rw [pi_j _ _ _ _ (by omega), pi_q _ _ _ _ (show (55 : Nat) ≠ 56 by decide), f2 56 (by decide), f2 55 (by decide)]
        exact ht v' hv'
  refine loop (2 ^ cS T) 0 _ (by omega) ⟨fun q a _ _ _ => pi_q _ _ _ _ a, fun j hj => pi_j _ _ _ _ hj, pi_eq _ _ _ _⟩ (fun v' hv' => absurd hv' (Nat.not_lt_zero _))
theorem sl_kt_ne (hw : sl_wf T) (ht : sl_kt T I) {f v : Nat} (hf : f < cF T) (hv : v < 2 ^ cS T) : I 55 (64 * f + v) = I 56 v ↔ ¬ sl_sh T f v = true := by
  obtain ⟨h1, h2⟩ := ht v hv
  rw [h1, h2 f hf, zI_inj (sl_lt31 (m := 4096) (Nat.le_of_lt (sl_rp4096 hw _ _)) (by decide)) (sl_lt31 (m := 4096) (Nat.le_of_lt (sl_rp4096 hw _ _)) (by decide))]
  simp [sl_sh]
theorem sl_64 {f v : Nat} : 64 * nI f + nI v = nI (64 * f + v) := by
  rw [show (64 : Int32) = nI 64 by decide +kernel, zI_mul, zI_add]
theorem t_M_leastOf {f : Nat} {K : Int32 → sk_I → sk_J → Prop} (hw : sl_wf T) (hb : sl_mb T I) (ht : sl_kt T I) (hf : f < cF T) (h : K (sl_oi (sl_ls T f)) I J) : sk_S Γ m_M_leastOf 0 0 [.ref 41, .int (nI f)] sk_gg I J (sk_Ki K) := by
  refine sk_spec (by decide) rfl (by exact Nat.le_of_ble_eq_true rfl) ?_
  have hF : cF T ≤ 208 := sl_F_le hw
  have hS := sl_S64 hw
  have hS31 : 2 ^ cS T < 2 ^ 31 := sl_lt31 (m := 64) hS (by decide)
  refine s_M_leastOf_0 ?_
  have loop : ∀ d v, v + d = 2 ^ cS T → K (sl_oi (sl_find (sl_sh T f) v d)) I J → sk_W Γ m_M_leastOf 0 0 2 [(0, .ref 41), (1, .int (nI f)), (2, .int (nI v))] [] sk_gg I J 0 0 (sk_Ki K) := by
    intro d
    induction d with
    | zero =>
      intro v hv hK
      have hv : v = 2 ^ cS T := by omega
      subst hv
      refine s_M_leastOf_2 ?_
      refine t_M_vectors hw hb ?_
      exact s_M_leastOf_7 ⟨fun _ => ⟨_, rfl, rfl, hK⟩, fun hcc => absurd ((zI_le hS31 hS31).mpr (Nat.le_refl _)) hcc⟩
    | succ d ih =>
      intro v hv hK
      have hv31 : v < 2 ^ 31 := by omega
      refine s_M_leastOf_2 ?_
      refine t_M_vectors hw hb ?_
      refine s_M_leastOf_7 ⟨fun hcc => ?_, fun _ => ?_⟩
      · rw [zI_le hS31 hv31] at hcc; omega
      · rw [sl_64, zI_cl (sl_lt31 (m := 13312) (by omega) (by decide)), zI_cl hv31, sl_kt_ne hw ht hf (by omega), show nI v + 1 = nI (v + 1) from (nI_succ v).symm]
        simp only [sl_find] at hK
        refine ⟨vp_nat (by omega) (by decide), vp_nat (by omega) (by decide), fun hn => ih (v + 1) (by omega) ?_, fun hy => ⟨_, rfl, rfl, ?_⟩⟩
        · rw [if_neg hn] at hK; exact hK
        · rw [if_pos (Classical.byContradiction hy)] at hK; exact hK
  exact loop (2 ^ cS T) 0 (by omega) h
theorem t_M_firstAlike {f : Nat} {K : Int32 → sk_I → sk_J → Prop} (hw : sl_wf T) (hb : sl_mb T I) (ht : sl_kt T I) (hf : f < cF T) (h : K (nI (sl_fa T f)) I J) : sk_S Γ m_M_firstAlike 0 0 [.ref 41, .int (nI f)] sk_gg I J (sk_Ki K) := by
  refine sk_spec (by decide) rfl (by exact Nat.le_of_ble_eq_true rfl) ?_
  have hF : cF T ≤ 208 := sl_F_le hw
  have hS := sl_S64 hw
  have hS31 : 2 ^ cS T < 2 ^ 31 := sl_lt31 (m := 64) hS (by decide)
  have hf31 : f < 2 ^ 31 := by omega
  refine s_M_firstAlike_0 ?_
  have loop : ∀ d g, g + d = f → K (nI ((sl_find (fun g => sl_al T g f) g d).getD f)) I J → sk_W Γ m_M_firstAlike 0 0 2 [(0, .ref 41), (1, .int (nI f)), (2, .int (nI g))] [] sk_gg I J 0 0 (sk_Ki K) := by
    intro d
    induction d with
    | zero =>
      intro g hg hK
      have hg : g = f := by omega
      subst hg
      exact s_M_firstAlike_2 ⟨fun _ => ⟨_, rfl, rfl, hK⟩, fun hcc => absurd ((zI_le hf31 hf31).mpr (Nat.le_refl _)) hcc⟩
    | succ d ih =>
      intro g hg hK
      have hg31 : g < 2 ^ 31 := by omega
      simp only [sl_find] at hK
      refine s_M_firstAlike_2 ⟨fun hcc => ?_, fun _ => ?_⟩
      · rw [zI_le hf31 hg31] at hcc; omega
      · have noal : ¬ sl_al T g f = true → sk_W Γ m_M_firstAlike 0 0 2 [(0, .ref 41), (1, .int (nI f)), (2, .int (nI g + 1))] [] sk_gg I J 0 0 (sk_Ki K) := by
          intro hn
          rw [if_neg hn] at hK
          rw [show nI g + 1 = nI (g + 1) from (nI_succ g).symm]
          exact ih (g + 1) (by omega) hK
        have inner : ∀ e v (c : Int32), v + e = 2 ^ cS T → (¬ c = 0 → ∀ u, u < v → sl_rp T (some g) u = sl_rp T (some f) u) → (c = 0 → ¬ sl_al T g f = true) → sk_W Γ m_M_firstAlike 0 0 12 [(0, .ref 41), (1, .int (nI f)), (2, .int (nI g)), (3, .int c), (4, .int (nI v))] [] sk_gg I J 0 0 (sk_Ki K) := by
          intro e
          induction e with
          | zero =>
            intro v c hv hc1 hc0
            have hv : v = 2 ^ cS T := by omega
            subst hv
            refine s_M_firstAlike_12 ?_
            refine t_M_vectors hw hb ?_
            refine s_M_firstAlike_18 ⟨fun _ => ⟨fun h0 => noal (hc0 h0), fun h1 => ⟨_, rfl, rfl, ?_⟩⟩, fun hcc => absurd ((zI_le hS31 hS31).mpr (Nat.le_refl _)) hcc⟩
            rw [if_pos (show sl_al T g f = true from decide_eq_true (hc1 h1))] at hK
            exact hK
          | succ e ihe =>
            intro v c hv hc1 hc0
            have hv31 : v < 2 ^ 31 := by omega
            refine s_M_firstAlike_12 ?_
            refine t_M_vectors hw hb ?_
            refine s_M_firstAlike_18 ⟨fun hcc => ?_, fun _ => ⟨fun h0 => ⟨fun _ => noal (hc0 h0), fun hn => absurd h0 hn⟩, fun h1 => ?_⟩⟩
            · rw [zI_le hS31 hv31] at hcc; omega
            · have htv := (ht v (by omega)).2
              rw [sl_64, sl_64, zI_cl (sl_lt31 (m := 13312) (by omega) (by decide)), zI_cl (sl_lt31 (m := 13312) (by omega) (by decide)), htv f hf, htv g (by omega), zI_inj (sl_lt31 (m := 4096) (Nat.le_of_lt (sl_rp4096 hw _ _)) (by decide)) (sl_lt31 (m := 4096) (Nat.le_of_lt (sl_rp4096 hw _ _)) (by decide)), show nI v + 1 = nI (v + 1) from (nI_succ v).symm]
              refine ⟨vp_nat (by omega) (by decide), vp_nat (by omega) (by decide), fun hn => ihe (v + 1) 0 (by omega) (fun hz => absurd rfl hz) (fun _ ha => ?_), fun hy => ihe (v + 1) 1 (by omega) (fun _ u hu => ?_) (fun hz => absurd hz (by decide))⟩
              · exact hn (of_decide_eq_true ha v (by omega)).symm
              · by_cases huv : u = v
                · subst huv; exact hy.symm
                · exact hc1 h1 u (by omega)
        exact inner (2 ^ cS T) 0 1 (by omega) (fun _ u hu => absurd hu (Nat.not_lt_zero _)) (fun hz => absurd hz (by decide))
  exact loop f 0 (by omega) h
end ML
