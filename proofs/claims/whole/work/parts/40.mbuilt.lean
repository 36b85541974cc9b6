/-! the model: what was put in; what it derives of it -/
def sl_mb (T : sl_ct) (I : sk_I) : Prop :=
  (I 41 1 = nI (cN T) ∧ I 41 6 = nI (cS T) ∧ I 41 10 = nI (cO T).length) ∧
  (∀ l, l < cN T → ∀ b, cD T l = .inl b → I 42 l = nI (sl_ns (cD T) l) ∧ I 45 l = 0 ∧ I 47 (sl_ns (cD T) l) = (if b = true then 1 else 0) ∧ I 48 (sl_ns (cD T) l) = sl_oi (cA T l)) ∧
  (∀ l, l < cN T → ∀ k ps, cD T l = .inr (k, ps) → I 42 l = -1 ∧ I 43 l = nI k ∧ I 45 l = nI ps.length ∧ ∀ j x, ps[j]? = some x → I 44 (3 * l + j) = nI x) ∧
  sl_pre (I 49) (cO T)
def sl_mo (T : sl_ct) (I : sk_I) : Prop :=
  I 41 12 = nI (sl_ob T).length ∧ sl_pre (I 50) (sl_ob T) ∧ I 41 14 = nI (cN T + cP T) ∧ (∀ l, l < cN T → I 51 l = nI l ∧ I 52 l = -1) ∧
  (∀ l, l < cN T → ∀ j, j < sl_p1 (cD T l) → I 51 (cN T + sl_np (cD T) l + j) = nI l ∧ I 52 (cN T + sl_np (cD T) l + j) = nI j)
theorem sl_mb_frame {T : sl_ct} {I I' : sk_I} (h : sl_mb T I) (h1 : ∀ j, j = 1 ∨ j = 6 ∨ j = 10 → I' 41 j = I 41 j) (h2 : ∀ q, 42 ≤ q → q ≤ 49 → I' q = I q) : sl_mb T I' := by
  obtain ⟨⟨a1, a2, a3⟩, b, c, d⟩ := h
  have e2 := h2 42 (by omega) (by omega)
  have e3 := h2 43 (by omega) (by omega)
  have e4 := h2 44 (by omega) (by omega)
  have e5 := h2 45 (by omega) (by omega)
  have e7 := h2 47 (by omega) (by omega)
  have e8 := h2 48 (by omega) (by omega)
  have e9 := h2 49 (by omega) (by omega)
  refine ⟨⟨?_, ?_, ?_⟩, ?_, ?_, ?_⟩
  · rw [h1 1 (by simp)]; exact a1
  · rw [h1 6 (by simp)]; exact a2
  · rw [h1 10 (by simp)]; exact a3
  · rw [e2, e5, e7, e8]; exact b
  · rw [e2, e3, e5, e4]; exact c
  · rw [e9]; exact d
theorem sl_mo_frame {T : sl_ct} {I I' : sk_I} (h : sl_mo T I) (h1 : ∀ j, j = 12 ∨ j = 14 → I' 41 j = I 41 j) (h2 : ∀ q, 50 ≤ q → q ≤ 52 → I' q = I q) : sl_mo T I' := by
  obtain ⟨a, b, c, d, e⟩ := h
  refine ⟨?_, ?_, ?_, ?_, ?_⟩
  · rw [h1 12 (by simp)]; exact a
  · rw [h2 50 (by omega) (by omega)]; exact b
  · rw [h1 14 (by simp)]; exact c
  · rw [h2 51 (by omega) (by omega), h2 52 (by omega) (by omega)]; exact d
  · rw [h2 51 (by omega) (by omega), h2 52 (by omega) (by omega)]; exact e
theorem sl_mb_pc {T : sl_ct} {I : sk_I} (h : sl_mb T I) {l : Nat} (hl : l < cN T) : I 45 l = nI (sl_p1 (cD T l)) := by
  cases hd : cD T l with
  | inl b => exact (h.2.1 l hl b hd).2.1
  | inr kp => obtain ⟨k, ps⟩ := kp; exact (h.2.2.1 l hl k ps hd).2.2.1
/-- the data line of source i, as the model has it -/
def sl_B (I : sk_I) (i : Nat) : Option Nat := if I 47 i = 0 then none else if I 48 i < 0 then none else some (I 48 i).toNatClampNeg
theorem sl_B_eq {T : sl_ct} {I : sk_I} (hw : sl_wf T) (h : sl_mb T I) : ∀ m, m ≤ cN T → (List.range m).filterMap (cA T) = (List.range (sl_ns (cD T) m)).filterMap (sl_B I)
  | 0, _ => rfl
  | m + 1, hm => by
    have ih := sl_B_eq hw h m (by omega)
    have hN := hw.1
    rw [List.range_succ, List.filterMap_append, ih]
    cases hd : cD T m with
    | inr kp =>
      have ea : cA T m = none := by
        cases hx : cA T m with
        | none => rfl
        | some x => have := (hw.2.2.2.2.2 m x hx).2.2; rw [hd] at this; cases this
      have en : sl_ns (cD T) (m + 1) = sl_ns (cD T) m := by simp only [sl_ns]; rw [hd]; rfl
      rw [en]
      simp [ea]
    | inl b =>
      have en : sl_ns (cD T) (m + 1) = sl_ns (cD T) m + 1 := by simp only [sl_ns]; rw [hd]; rfl
      rw [en, List.range_succ, List.filterMap_append]
      congr 1
      obtain ⟨-, -, h47, h48⟩ := h.2.1 m (by omega) b hd
      have eb : sl_B I (sl_ns (cD T) m) = cA T m := by
        unfold sl_B
        rw [h47, h48]
        cases hx : cA T m with
        | none =>
          by_cases hb : b = true
          · rw [if_pos hb, if_neg (by decide), if_pos (by decide)]
          · rw [if_neg hb, if_pos rfl]
        | some x =>
          obtain ⟨w1, w2, w3⟩ := hw.2.2.2.2.2 m x hx
          rw [hd] at w3
          cases w3
          have hx31 : x < 2 ^ 31 := sl_lt31 (m := 26) (by omega) (by decide)
          rw [if_pos rfl, if_neg (by decide), show sl_oi (some x) = nI x from rfl, if_neg (zI_nn hx31), zI_cl hx31]
      simp [List.filterMap, eb]
theorem sl_dec (d : Nat → sl_ln) : ∀ n t, t < sl_np d n → ∃ l, l < n ∧ ∃ j, j < sl_p1 (d l) ∧ t = sl_np d l + j
  | 0, t, h => absurd h (Nat.not_lt_zero _)
  | n + 1, t, h => by
    simp only [sl_np] at h
    by_cases ht : t < sl_np d n
    · obtain ⟨l, hl, j, hj, e⟩ := sl_dec d n t ht
      exact ⟨l, by omega, j, hj, e⟩
    · exact ⟨n, by omega, t - sl_np d n, by omega, by omega⟩
theorem sl_np_lt {d : Nat → sl_ln} {l l' j : Nat} (hl : l < l') (hj : j < sl_p1 (d l)) : sl_np d l + j < sl_np d l' := by
  have h1 : sl_np d (l + 1) ≤ sl_np d l' := sl_np_mono d (by omega)
  simp only [sl_np] at h1
  omega
section MB
variable {Γ : sk_T} {I : sk_I} {J : sk_J} {T : sl_ct}
theorem t_M_built {K : sk_I → sk_J → Prop} (hw : sl_wf T) (hb : sl_mb T I)
    (h : ∀ I' : sk_I, sl_mb T I' → sl_mo T I' → I' 41 19 = 0 → I' 41 22 = 0 → I' 41 26 = 0 → I' 41 0 = I 41 0 → (∀ q, q < 41 ∨ 52 < q → I' q = I q) → K I' J) : sk_S Γ m_M_built 0 0 [.ref 41] sk_gg I J (sk_Kv K) := by
  refine sk_spec (by decide) rfl (by exact Nat.le_of_ble_eq_true rfl) ?_
  have hN := hw.1
  have hN31 := sl_N31 hw
  have hO31 := sl_O31 hw
  have hO6 := hw.2.2.1
  have hS6 := hw.2.1
  have hS31 : cS T < 2 ^ 31 := sl_lt31 (m := 6) hS6 (by decide)
  have hP : cP T ≤ 78 := sl_P_le hw
  -- frame
  let F : sk_I → Prop := fun I1 => (∀ j, j ≠ 12 → j ≠ 14 → j ≠ 19 → j ≠ 22 → j ≠ 26 → I1 41 j = I 41 j) ∧ I1 41 19 = 0 ∧ I1 41 22 = 0 ∧ I1 41 26 = 0 ∧ (∀ q, q < 41 ∨ (41 < q ∧ q < 50) ∨ 52 < q → I1 q = I q)
  have hF : ∀ (I1 : sk_I) (q j : Nat) (x : Int32), F I1 → (q = 50 ∨ q = 51 ∨ q = 52 ∨ (q = 41 ∧ (j = 12 ∨ j = 14))) → F (sk_pi I1 q j x) := by
    intro I1 q j x ⟨f1, f2, f3, f4, f5⟩ hq
    have g : ∀ j', j' ≠ 12 → j' ≠ 14 → sk_pi I1 q j x 41 j' = I1 41 j' := by
      intro j' a b
      by_cases hq4 : q = 41
      · subst hq4; exact pi_j _ _ _ _ (by omega)
      · rw [pi_q _ _ _ _ (fun e => hq4 e.symm)]
    refine ⟨fun j' a b c d e => by rw [g j' a b]; exact f1 j' a b c d e, by rw [g 19 (by decide) (by decide)]; exact f2, by rw [g 22 (by decide) (by decide)]; exact f3, by rw [g 26 (by decide) (by decide)]; exact f4, fun q' hq' => ?_⟩
    rw [pi_q _ _ _ _ (by omega)]; exact f5 q' hq'
  have gN : ∀ I1, F I1 → I1 41 1 = nI (cN T) := fun I1 f => by rw [f.1 1 (by decide) (by decide) (by decide) (by decide) (by decide)]; exact hb.1.1
  have gS : ∀ I1, F I1 → I1 41 6 = nI (cS T) := fun I1 f => by rw [f.1 6 (by decide) (by decide) (by decide) (by decide) (by decide)]; exact hb.1.2.1
  have gO : ∀ I1, F I1 → I1 41 10 = nI (cO T).length := fun I1 f => by rw [f.1 10 (by decide) (by decide) (by decide) (by decide) (by decide)]; exact hb.1.2.2
  -- the sites of pins
  have loop4 : ∀ d l (I1 : sk_I), l + d = cN T → F I1 → I1 41 12 = nI (sl_ob T).length → sl_pre (I1 50) (sl_ob T) → I1 41 14 = nI (cN T + sl_np (cD T) l) → (∀ l, l < cN T → I1 51 l = nI l ∧ I1 52 l = -1) →
      (∀ l', l' < l → ∀ j, j < sl_p1 (cD T l') → I1 51 (cN T + sl_np (cD T) l' + j) = nI l' ∧ I1 52 (cN T + sl_np (cD T) l' + j) = nI j) →
      sk_W Γ m_M_built 0 0 173 [(0, .ref 41), (1, .int (nI l))] [] sk_gg I1 J 0 0 (sk_Kv K) := by
    intro d
    induction d with
    | zero =>
      intro l I1 hl f o1 o2 s1 s2 s3
      have hl : l = cN T := by omega
      subst hl
      refine s_M_built_173 ⟨fun _ => ⟨rfl, rfl, ?_⟩, fun hcc => absurd ?_ hcc⟩
      · refine h I1 (sl_mb_frame hb (fun j hj => f.1 j (by omega) (by omega) (by omega) (by omega) (by omega)) (fun q a b => f.2.2.2.2 q (by omega))) ⟨o1, o2, s1, s2, s3⟩ f.2.1 f.2.2.1 f.2.2.2.1 (f.1 0 (by decide) (by decide) (by decide) (by decide) (by decide)) (fun q hq => f.2.2.2.2 q (by omega))
      · rw [gN I1 f]; exact (zI_le hN31 hN31).mpr (Nat.le_refl _)
    | succ d ih =>
      intro l I1 hl f o1 o2 s1 s2 s3
      have hlN : l < cN T := by omega
      have hl31 : l < 2 ^ 31 := by omega
      refine s_M_built_173 ⟨fun hcc => ?_, fun _ => ?_⟩
      · rw [gN I1 f, zI_le hN31 hl31] at hcc; omega
      · have hp3 := sl_p1_le hw hlN
        have hnp : sl_np (cD T) l + sl_p1 (cD T l) ≤ cP T := sl_np_mono (cD T) (a := l + 1) (by omega)
        have inner : ∀ e j (I2 : sk_I), j + e = sl_p1 (cD T l) → F I2 → I2 41 12 = nI (sl_ob T).length → sl_pre (I2 50) (sl_ob T) → I2 41 14 = nI (cN T + sl_np (cD T) l + j) → (∀ l, l < cN T → I2 51 l = nI l ∧ I2 52 l = -1) →
            (∀ l', l' < l → ∀ j, j < sl_p1 (cD T l') → I2 51 (cN T + sl_np (cD T) l' + j) = nI l' ∧ I2 52 (cN T + sl_np (cD T) l' + j) = nI j) →
            (∀ j', j' < j → I2 51 (cN T + sl_np (cD T) l + j') = nI l ∧ I2 52 (cN T + sl_np (cD T) l + j') = nI j') →
            sk_W Γ m_M_built 0 0 183 [(0, .ref 41), (1, .int (nI l)), (2, .int (nI j))] [] sk_gg I2 J 0 0 (sk_Kv K) := by
          intro e
          induction e with
          | zero =>
            intro j I2 hj f2 o1 o2 t1 t2 t3 t4
            have hj : j = sl_p1 (cD T l) := by omega
            have h45 : I2 45 l = nI (sl_p1 (cD T l)) := by rw [f2.2.2.2.2 45 (by decide)]; exact sl_mb_pc hb hlN
            refine s_M_built_183 ?_
            rw [zI_cl hl31, h45]
            refine ⟨vp_nat (by omega) (by decide), fun _ => ?_, fun hcc => absurd ((zI_le (by omega) (by omega)).mpr (by omega)) hcc⟩
            rw [show nI l + 1 = nI (l + 1) from (nI_succ l).symm]
            refine ih (l + 1) I2 (by omega) f2 o1 o2 ?_ t2 (fun l' hl' j' hj' => ?_)
            · rw [t1, hj]; simp only [sl_np]; rw [Nat.add_assoc]
            · by_cases hll : l' = l
              · subst hll; exact t4 j' (by omega)
              · exact t3 l' (by omega) j' hj'
          | succ e ihe =>
            intro j I2 hj f2 o1 o2 t1 t2 t3 t4
            have h45 : I2 45 l = nI (sl_p1 (cD T l)) := by rw [f2.2.2.2.2 45 (by decide)]; exact sl_mb_pc hb hlN
            refine s_M_built_183 ?_
            have hx31 : cN T + sl_np (cD T) l + j < 2 ^ 31 := sl_lt31 (m := 104) (by omega) (by decide)
            have hvp : vp_in (nI (cN T + sl_np (cD T) l + j)) 104 := vp_nat (by omega) (by decide)
            rw [zI_cl hl31, h45, t1, zI_cl hx31, show nI j + 1 = nI (j + 1) from (nI_succ j).symm, show nI (cN T + sl_np (cD T) l + j) + 1 = nI (cN T + sl_np (cD T) l + (j + 1)) from (nI_succ _).symm]
            refine ⟨vp_nat (by omega) (by decide), fun hcc => ?_, fun _ => ⟨hvp, hvp, ihe (j + 1) _ (by omega) (hF _ _ _ _ (hF _ _ _ _ (hF _ _ _ _ f2 (by simp)) (by simp)) (by simp)) ?_ ?_ (pi_eq _ _ _ _) ?_ ?_ ?_⟩⟩
            · rw [zI_le (by omega) (by omega)] at hcc; omega
            · rw [pi_j _ _ _ _ (by decide), pi_q _ _ _ _ (by decide), pi_q _ _ _ _ (by decide)]; exact o1
            · rw [pi_q _ _ _ _ (by decide), pi_q _ _ _ _ (by decide), pi_q _ _ _ _ (by decide)]; exact o2
            · intro l' hl'
              rw [pi_q _ 41 _ _ (show (51 : Nat) ≠ 41 by decide), pi_q _ 41 _ _ (show (52 : Nat) ≠ 41 by decide), pi_q _ 52 _ _ (show (51 : Nat) ≠ 52 by decide), pi_j _ 51 _ _ (show l' ≠ _ by omega), pi_j _ 52 _ _ (show l' ≠ _ by omega), pi_q _ 51 _ _ (show (52 : Nat) ≠ 51 by decide)]
              exact t2 l' hl'
            · intro l' hl' j' hj'
              have hlt := sl_np_lt (d := cD T) hl' hj'
              rw [pi_q _ 41 _ _ (show (51 : Nat) ≠ 41 by decide), pi_q _ 41 _ _ (show (52 : Nat) ≠ 41 by decide), pi_q _ 52 _ _ (show (51 : Nat) ≠ 52 by decide), pi_j _ 51 _ _ (show cN T + sl_np (cD T) l' + j' ≠ _ by omega), pi_j _ 52 _ _ (show cN T + sl_np (cD T) l' + j' ≠ _ by omega), pi_q _ 51 _ _ (show (52 : Nat) ≠ 51 by decide)]
              exact t3 l' hl' j' hj'
            · intro j' hj'
              rw [pi_q _ 41 _ _ (show (51 : Nat) ≠ 41 by decide), pi_q _ 41 _ _ (show (52 : Nat) ≠ 41 by decide), pi_q _ 52 _ _ (show (51 : Nat) ≠ 52 by decide), pi_at, pi_at, pi_q _ 51 _ _ (show (52 : Nat) ≠ 51 by decide)]
              by_cases hjj : j' = j
              · subst hjj; rw [if_pos rfl, if_pos rfl]; exact ⟨rfl, rfl⟩
              · rw [if_neg (by omega), if_neg (by omega)]; exact t4 j' (by omega)
        exact inner (sl_p1 (cD T l)) 0 I1 (by omega) f o1 o2 s1 s2 s3 (fun j' hj' => absurd hj' (Nat.not_lt_zero _))
  have loop3 : ∀ d l (I1 : sk_I), l + d = cN T → F I1 → I1 41 12 = nI (sl_ob T).length → sl_pre (I1 50) (sl_ob T) → I1 41 14 = nI l → (∀ l', l' < l → I1 51 l' = nI l' ∧ I1 52 l' = -1) →
      sk_W Γ m_M_built 0 0 127 [(0, .ref 41), (1, .int (nI l))] [] sk_gg I1 J 0 0 (sk_Kv K) := by
    intro d
    induction d with
    | zero =>
      intro l I1 hl f o1 o2 s1 s2
      have hl : l = cN T := by omega
      subst hl
      refine s_M_built_127 ⟨fun _ => ?_, fun hcc => absurd ?_ hcc⟩
      · exact loop4 (cN T) 0 I1 (by omega) f o1 o2 s1 s2 (fun l' hl' => absurd hl' (Nat.not_lt_zero _))
      · rw [gN I1 f]; exact (zI_le hN31 hN31).mpr (Nat.le_refl _)
    | succ d ih =>
      intro l I1 hl f o1 o2 s1 s2
      have hl31 : l < 2 ^ 31 := by omega
      have hvp : vp_in (nI l) 104 := vp_nat (by omega) (by decide)
      refine s_M_built_127 ?_
      rw [gN I1 f, s1, zI_cl hl31, show nI l + 1 = nI (l + 1) from (nI_succ l).symm]
      refine ⟨fun hcc => ?_, fun _ => ⟨hvp, hvp, ih (l + 1) _ (by omega) (hF _ _ _ _ (hF _ _ _ _ (hF _ _ _ _ f (by simp)) (by simp)) (by simp)) ?_ ?_ (pi_eq _ _ _ _) ?_⟩⟩
      · rw [zI_le hN31 hl31] at hcc; omega
      · rw [pi_j _ _ _ _ (by decide), pi_q _ _ _ _ (by decide), pi_q _ _ _ _ (by decide)]; exact o1
      · rw [pi_q _ _ _ _ (by decide), pi_q _ _ _ _ (by decide), pi_q _ _ _ _ (by decide)]; exact o2
      · intro l' hl'
        rw [pi_q _ 41 _ _ (show (51 : Nat) ≠ 41 by decide), pi_q _ 41 _ _ (show (52 : Nat) ≠ 41 by decide), pi_q _ 52 _ _ (show (51 : Nat) ≠ 52 by decide), pi_at, pi_at, pi_q _ 51 _ _ (show (52 : Nat) ≠ 51 by decide)]
        by_cases hll : l' = l
        · subst hll; rw [if_pos rfl, if_pos rfl]; exact ⟨rfl, rfl⟩
        · rw [if_neg hll, if_neg hll]; exact s2 l' (by omega)
  have loop2 : ∀ d i (I1 : sk_I), i + d = cS T → F I1 → I1 41 12 = nI (cO T ++ (List.range i).filterMap (sl_B I)).length → sl_pre (I1 50) (cO T ++ (List.range i).filterMap (sl_B I)) →
      sk_W Γ m_M_built 0 0 63 [(0, .ref 41), (1, .int (nI i))] [] sk_gg I1 J 0 0 (sk_Kv K) := by
    intro d
    induction d with
    | zero =>
      intro i I1 hi f o1 o2
      have hi : i = cS T := by omega
      subst hi
      have eob : cO T ++ (List.range (cS T)).filterMap (sl_B I) = sl_ob T := by
        unfold sl_ob
        rw [sl_B_eq hw hb (cN T) (Nat.le_refl _)]
      rw [eob] at o1 o2
      refine s_M_built_63 ⟨fun _ => ?_, fun hcc => absurd ?_ hcc⟩
      · refine loop3 (cN T) 0 _ (by omega) (hF _ _ _ _ f (by simp)) ?_ ?_ (by rw [pi_eq]; rfl) (fun l' hl' => absurd hl' (Nat.not_lt_zero _))
        · rw [pi_j _ _ _ _ (by decide)]; exact o1
        · rw [pi_q _ _ _ _ (by decide)]; exact o2
      · rw [gS I1 f]; exact (zI_le hS31 hS31).mpr (Nat.le_refl _)
    | succ d ih =>
      intro i I1 hi f o1 o2
      have hi31 : i < 2 ^ 31 := by omega
      have hvp : vp_in (nI i) 6 := vp_nat (by omega) (by decide)
      have e47 : I1 47 = I 47 := f.2.2.2.2 47 (by decide)
      have e48 : I1 48 = I 48 := f.2.2.2.2 48 (by decide)
      have er : cO T ++ (List.range (i + 1)).filterMap (sl_B I) = cO T ++ (List.range i).filterMap (sl_B I) ++ (sl_B I i).toList := by
        rw [List.range_succ, List.filterMap_append, List.append_assoc]
        congr 2
      have hlen : (cO T ++ (List.range i).filterMap (sl_B I)).length < 12 := by
        have := List.length_filterMap_le (sl_B I) (List.range i)
        rw [List.length_range] at this
        rw [List.length_append]; omega
      have skip : sl_B I i = none → sk_W Γ m_M_built 0 0 63 [(0, .ref 41), (1, .int (nI (i + 1)))] [] sk_gg I1 J 0 0 (sk_Kv K) := by
        intro hn
        rw [hn] at er
        rw [show (none : Option Nat).toList = [] from rfl, List.append_nil] at er
        exact ih (i + 1) I1 (by omega) f (by rw [er]; exact o1) (by rw [er]; exact o2)
      refine s_M_built_63 ?_
      rw [gS I1 f, zI_cl hi31, e47, e48, o1, zI_cl (show (cO T ++ (List.range i).filterMap (sl_B I)).length < 2 ^ 31 by omega), show nI i + 1 = nI (i + 1) from (nI_succ i).symm, show nI (cO T ++ (List.range i).filterMap (sl_B I)).length + 1 = nI ((cO T ++ (List.range i).filterMap (sl_B I)).length + 1) from (nI_succ _).symm]
      refine ⟨fun hcc => ?_, fun _ => ⟨hvp, fun h0 => skip (by unfold sl_B; rw [if_pos h0]), fun h1 => ⟨hvp, fun h0 => skip (by unfold sl_B; rw [if_neg h1, if_pos h0]), fun h2 => ⟨hvp, vp_nat hlen (by decide), ?_⟩⟩⟩⟩
      · rw [zI_le hS31 hi31] at hcc; omega
      · obtain ⟨n, hn31, en⟩ := zI_of h2
        have eB : sl_B I i = some n := by unfold sl_B; rw [if_neg h1, if_neg h2, en, zI_cl hn31]
        rw [eB] at er
        have er : cO T ++ (List.range (i + 1)).filterMap (sl_B I) = cO T ++ (List.range i).filterMap (sl_B I) ++ [n] := er
        refine ih (i + 1) _ (by omega) (hF _ _ _ _ (hF _ _ _ _ f (by simp)) (by simp)) ?_ ?_
        · rw [pi_eq, er, List.length_append (bs := [n])]; rfl
        · rw [pi_q _ _ _ _ (by decide), er]
          exact sl_pre_push o2 (fun j hj => pi_j _ _ _ _ (by omega)) (by rw [pi_eq]; exact en)
  have loop1 : ∀ d i (I1 : sk_I), i + d = (cO T).length → F I1 → I1 41 12 = nI i → sl_pre (I1 50) ((cO T).take i) →
      sk_W Γ m_M_built 0 0 22 [(0, .ref 41), (1, .int (nI i))] [] sk_gg I1 J 0 0 (sk_Kv K) := by
    intro d
    induction d with
    | zero =>
      intro i I1 hi f o1 o2
      have hi : i = (cO T).length := by omega
      subst hi
      rw [List.take_length] at o2
      refine s_M_built_22 ⟨fun _ => ?_, fun hcc => absurd ?_ hcc⟩
      · exact loop2 (cS T) 0 I1 (by omega) f (by simpa using o1) (by simpa using o2)
      · rw [gO I1 f]; exact (zI_le hO31 hO31).mpr (Nat.le_refl _)
    | succ d ih =>
      intro i I1 hi f o1 o2
      have hi31 : i < 2 ^ 31 := by omega
      have hiO : i < (cO T).length := by omega
      have e49 : I1 49 i = nI (cO T)[i] := by rw [f.2.2.2.2 49 (by decide)]; exact sl_pre_lt hb.2.2.2 hiO
      have htl : ((cO T).take i).length = i := by rw [List.length_take]; omega
      refine s_M_built_22 ?_
      rw [gO I1 f, zI_cl hi31, e49, o1, zI_cl hi31, show nI i + 1 = nI (i + 1) from (nI_succ i).symm]
      refine ⟨fun hcc => ?_, fun _ => ⟨vp_nat (by omega) (by decide), vp_nat (by omega) (by decide), ih (i + 1) _ (by omega) (hF _ _ _ _ (hF _ _ _ _ f (by simp)) (by simp)) (pi_eq _ _ _ _) ?_⟩⟩
      · rw [zI_le hO31 hi31] at hcc; omega
      · rw [pi_q _ _ _ _ (by decide), List.take_succ, List.getElem?_eq_getElem hiO]
        exact sl_pre_push o2 (fun j hj => pi_j _ _ _ _ (by omega)) (by rw [htl, pi_eq])
  refine s_M_built_0 ?_
  refine loop1 (cO T).length 0 _ (by omega) ⟨fun j a b c d e => ?_, ?_, ?_, ?_, fun q hq => ?_⟩ (by rw [pi_eq]; rfl) (sl_pre_nil _)
  · rw [pi_j _ _ _ _ a, pi_j _ _ _ _ e, pi_j _ _ _ _ d, pi_j _ _ _ _ c]
  · rw [pi_j _ _ _ _ (by decide), pi_j _ _ _ _ (by decide), pi_j _ _ _ _ (by decide), pi_eq]
  · rw [pi_j _ _ _ _ (by decide), pi_j _ _ _ _ (by decide), pi_eq]
  · rw [pi_j _ _ _ _ (by decide), pi_eq]
  · rw [pi_q _ _ _ _ (by omega), pi_q _ _ _ _ (by omega), pi_q _ _ _ _ (by omega), pi_q _ _ _ _ (by omega)]
end MB
