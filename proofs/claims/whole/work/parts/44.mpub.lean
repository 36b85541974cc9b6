/-! the model's own calls: building -/
def sl_ml (lg : List (Nat × Nat)) (I : sk_I) : Prop := I 41 26 = nI lg.length ∧ ∀ i x, lg[i]? = some x → I 59 i = nI x.1 ∧ I 60 i = nI x.2
def sl_ms (T : sl_ct) (lg : List (Nat × Nat)) (I : sk_I) : Prop := sl_mb T I ∧ sl_mo T I ∧ sl_mk T I ∧ sl_mp T I ∧ sl_ml lg I
theorem sl_ms_frame {T : sl_ct} {lg : List (Nat × Nat)} {I I' : sk_I} (h : sl_ms T lg I) (h1 : ∀ j, j ≠ 0 → I' 41 j = I 41 j) (h2 : ∀ q, 41 < q → q ≤ 60 → q ≠ 53 → q ≠ 54 → I' q = I q) : sl_ms T lg I' := by
  obtain ⟨a, b, c, d, e⟩ := h
  refine ⟨sl_mb_frame a (fun j hj => h1 j (by omega)) (fun q x y => h2 q (by omega) (by omega) (by omega) (by omega)), sl_mo_frame b (fun j hj => h1 j (by omega)) (fun q x y => h2 q (by omega) (by omega) (by omega) (by omega)), ?_, ?_, ?_⟩
  · unfold sl_mk sl_kt at c ⊢
    rw [h1 19 (by decide), h2 55 (by decide) (by decide) (by decide) (by decide), h2 56 (by decide) (by decide) (by decide) (by decide)]; exact c
  · unfold sl_mp at d ⊢
    rw [h1 22 (by decide), h1 23 (by decide), h2 57 (by decide) (by decide) (by decide) (by decide), h2 58 (by decide) (by decide) (by decide) (by decide)]; exact d
  · unfold sl_ml at e ⊢
    rw [h1 26 (by decide), h2 59 (by decide) (by decide) (by decide) (by decide), h2 60 (by decide) (by decide) (by decide) (by decide)]; exact e
theorem sl_ms_code {T : sl_ct} {lg : List (Nat × Nat)} {I : sk_I} (h : sl_ms T lg I) (c : Int32) : sl_ms T lg (sk_pi I 41 0 c) :=
  sl_ms_frame h (fun j hj => pi_j _ _ _ _ hj) (fun q x _ _ _ => pi_q _ _ _ _ (by omega))
theorem sl_ms_new {T : sl_ct} {I : sk_I} (hb : sl_mb T I) (ho : sl_mo T I) (h1 : I 41 19 = 0) (h2 : I 41 22 = 0) (h3 : I 41 26 = 0) : sl_ms T [] I :=
  ⟨hb, ho, fun hn => absurd h1 hn, fun hn => absurd h2 hn, h3, fun i x hx => by simp at hx⟩
theorem sl_ns_lt {d : Nat → sl_ln} {l l' : Nat} {b : Bool} (hl : l < l') (hd : d l = .inl b) : sl_ns d l < sl_ns d l' := by
  have h1 : sl_ns d (l + 1) ≤ sl_ns d l' := sl_ns_mono d (by omega)
  simp only [sl_ns] at h1
  rw [hd] at h1
  have h2 : sl_s1 (.inl b) = 1 := rfl
  omega
theorem sl_mb_source {T : sl_ct} {I I' : sk_I} {b : Bool} (hw : sl_wf T) (h : sl_mb T I)
    (h1 : I' 41 1 = nI (cN T + 1) ∧ I' 41 6 = nI (cS T + 1) ∧ I' 41 10 = I 41 10) (h42 : ∀ j, I' 42 j = if j = cN T then nI (cS T) else I 42 j) (h45 : ∀ j, I' 45 j = if j = cN T then 0 else I 45 j)
    (h47 : ∀ j, I' 47 j = if j = cS T then (if b = true then 1 else 0) else I 47 j) (h48 : ∀ j, I' 48 j = if j = cS T then -1 else I 48 j) (hq : ∀ q, q = 43 ∨ q = 44 ∨ q = 49 → I' q = I q) : sl_mb (sl_add T (.inl b)) I' := by
  obtain ⟨⟨a1, a2, a3⟩, c1, c2, c3⟩ := h
  refine ⟨⟨h1.1, ?_, ?_⟩, ?_, ?_, ?_⟩
  · rw [h1.2.1, sl_add_S]; rfl
  · rw [h1.2.2, a3]; rfl
  · intro l hl b' hb
    by_cases hl' : l = cN T
    · subst hl'
      rw [sl_add_D] at hb
      cases hb
      have e : sl_ns (cD (sl_add T (.inl b))) (cN T) = cS T := sl_add_ns (Nat.le_refl _)
      rw [e, h42, h45, h47, h48, if_pos rfl, if_pos rfl, if_pos rfl, if_pos rfl]
      refine ⟨rfl, rfl, rfl, ?_⟩
      show -1 = sl_oi (cA T (cN T))
      rw [sl_wf_A hw]; rfl
    · have h : l < cN T + 1 := hl
      have hl2 : l < cN T := by omega
      rw [sl_add_D' hl2] at hb
      have hlt : sl_ns (cD T) l < cS T := sl_ns_lt hl2 hb
      have hne : ¬ sl_ns (cD T) l = cS T := by omega
      rw [sl_add_ns (by omega), h42, h45, h47, h48, if_neg hl', if_neg hl', if_neg hne, if_neg hne]
      exact c1 l hl2 b' hb
  · intro l hl k ps hk
    by_cases hl' : l = cN T
    · subst hl'
      rw [sl_add_D] at hk
      cases hk
    · have h : l < cN T + 1 := hl
      have hl2 : l < cN T := by omega
      rw [sl_add_D' hl2] at hk
      rw [h42, h45, if_neg hl', if_neg hl', hq 43 (by simp), hq 44 (by simp)]
      exact c2 l hl2 k ps hk
  · rw [hq 49 (by simp)]; exact c3
theorem sl_mb_gate {T : sl_ct} {I I' : sk_I} {k a : Nat} {b c : Option Nat} (hw : sl_wf T) (h : sl_mb T I) (hbc : b = none → c = none)
    (h1 : I' 41 1 = nI (cN T + 1) ∧ I' 41 6 = I 41 6 ∧ I' 41 10 = I 41 10) (h42 : ∀ j, I' 42 j = if j = cN T then -1 else I 42 j) (h43 : ∀ j, I' 43 j = if j = cN T then nI k else I 43 j)
    (h44 : ∀ j, j < 3 * cN T → I' 44 j = I 44 j) (h440 : I' 44 (3 * cN T) = nI a) (h441 : I' 44 (3 * cN T + 1) = sl_oi b) (h442 : I' 44 (3 * cN T + 2) = sl_oi c)
    (h45 : ∀ j, I' 45 j = if j = cN T then nI (1 + b.toList.length + c.toList.length) else I 45 j) (hq : ∀ q, q = 47 ∨ q = 48 ∨ q = 49 → I' q = I q) : sl_mb (sl_add T (.inr (k, a :: (b.toList ++ c.toList)))) I' := by
  obtain ⟨⟨a1, a2, a3⟩, c1, c2, c3⟩ := h
  refine ⟨⟨h1.1, ?_, ?_⟩, ?_, ?_, ?_⟩
  · rw [h1.2.1, a2, sl_add_S]; rfl
  · rw [h1.2.2, a3]; rfl
  · intro l hl b' hb
    by_cases hl' : l = cN T
    · subst hl'
      rw [sl_add_D] at hb
      cases hb
    · have h : l < cN T + 1 := hl
      have hl2 : l < cN T := by omega
      rw [sl_add_D' hl2] at hb
      rw [sl_add_ns (by omega), h42, h45, if_neg hl', if_neg hl', hq 47 (by simp), hq 48 (by simp)]
      exact c1 l hl2 b' hb
  · intro l hl k' ps hk
    by_cases hl' : l = cN T
    · subst hl'
      rw [sl_add_D] at hk
      cases hk
      rw [h42, h43, h45, if_pos rfl, if_pos rfl, if_pos rfl]
      refine ⟨rfl, rfl, ?_, fun j x hx => ?_⟩
      · congr 1; simp [List.length_append]; omega
      · match j, hx with
        | 0, hx =>
          simp at hx
          rw [Nat.add_zero, h440, hx]
        | 1, hx =>
          cases b with
          | none =>
            rw [hbc rfl] at hx
            simp at hx
          | some y =>
            simp at hx
            rw [h441, ← hx]; rfl
        | 2, hx =>
          cases b with
          | none =>
            rw [hbc rfl] at hx
            simp at hx
          | some y =>
            cases c with
            | none => simp at hx
            | some z =>
              simp at hx
              rw [h442, ← hx]; rfl
        | j + 3, hx =>
          have : (a :: (b.toList ++ c.toList))[j + 3]? = none := by
            apply List.getElem?_eq_none
            cases b <;> cases c <;> simp
          rw [this] at hx
          cases hx
    · have h : l < cN T + 1 := hl
      have hl2 : l < cN T := by omega
      rw [sl_add_D' hl2] at hk
      obtain ⟨d1, d2, d3, d4⟩ := c2 l hl2 k' ps hk
      have hp3 := (hw.2.2.2.2.1 l hl2 k' ps hk).2.2.1
      rw [h42, h43, h45, if_neg hl', if_neg hl', if_neg hl']
      refine ⟨d1, d2, d3, fun j x hx => ?_⟩
      have hj : j < ps.length := (List.getElem?_eq_some_iff.mp hx).1
      rw [h44 _ (by omega)]
      exact d4 j x hx
  · rw [hq 49 (by simp)]; exact c3
theorem sl_mb_out {T : sl_ct} {I I' : sk_I} {x : Nat} (h : sl_mb T I) (h1 : I' 41 1 = I 41 1 ∧ I' 41 6 = I 41 6 ∧ I' 41 10 = nI ((cO T).length + 1)) (h49 : ∀ j, I' 49 j = if j = (cO T).length then nI x else I 49 j) (hq : ∀ q, 42 ≤ q → q ≤ 48 → I' q = I q) : sl_mb (cN T, cD T, cO T ++ [x], cA T) I' := by
  obtain ⟨⟨a1, a2, a3⟩, c1, c2, c3⟩ := h
  refine ⟨⟨by rw [h1.1]; exact a1, by rw [h1.2.1]; exact a2, ?_⟩, ?_, ?_, ?_⟩
  · rw [h1.2.2]
    show _ = nI (cO T ++ [x]).length
    rw [List.length_append]; rfl
  · rw [hq 42 (by decide) (by decide), hq 45 (by decide) (by decide), hq 47 (by decide) (by decide), hq 48 (by decide) (by decide)]; exact c1
  · rw [hq 42 (by decide) (by decide), hq 43 (by decide) (by decide), hq 44 (by decide) (by decide), hq 45 (by decide) (by decide)]; exact c2
  · exact sl_pre_push c3 (fun j hj => by rw [h49, if_neg (by omega)]) (by rw [h49, if_pos rfl])
theorem sl_mb_dat {T : sl_ct} {I I' : sk_I} {fl x : Nat} (h : sl_mb T I) (hd : cD T fl = .inl true) (h1 : ∀ j, j = 1 ∨ j = 6 ∨ j = 10 → I' 41 j = I 41 j) (h48 : ∀ j, I' 48 j = if j = sl_ns (cD T) fl then nI x else I 48 j) (hq : ∀ q, 42 ≤ q → q ≤ 49 → q ≠ 48 → I' q = I q) : sl_mb (sl_dat T fl x) I' := by
  obtain ⟨⟨a1, a2, a3⟩, c1, c2, c3⟩ := h
  refine ⟨⟨by rw [h1 1 (by simp)]; exact a1, by rw [h1 6 (by simp)]; exact a2, by rw [h1 10 (by simp)]; exact a3⟩, ?_, ?_, ?_⟩
  · intro l hl b hb
    have hb : cD T l = .inl b := hb
    obtain ⟨d1, d2, d3, d4⟩ := c1 l hl b hb
    show I' 42 l = nI (sl_ns (cD T) l) ∧ I' 45 l = 0 ∧ I' 47 (sl_ns (cD T) l) = _ ∧ I' 48 (sl_ns (cD T) l) = sl_oi (if l = fl then some x else cA T l)
    rw [hq 42 (by decide) (by decide) (by decide), hq 45 (by decide) (by decide) (by decide), hq 47 (by decide) (by decide) (by decide), h48]
    refine ⟨d1, d2, d3, ?_⟩
    by_cases hlf : l = fl
    · subst hlf; rw [if_pos rfl, if_pos rfl]; rfl
    · rw [if_neg hlf, if_neg]
      · exact d4
      · rcases Nat.lt_or_gt_of_ne hlf with hlt | hlt
        · have := sl_ns_lt hlt hb; omega
        · have := sl_ns_lt hlt hd; omega
  · rw [hq 42 (by decide) (by decide) (by decide), hq 43 (by decide) (by decide) (by decide), hq 44 (by decide) (by decide) (by decide), hq 45 (by decide) (by decide) (by decide)]; exact c2
  · rw [hq 49 (by decide) (by decide) (by decide)]; exact c3
section MQ
variable {Γ : sk_T} {I : sk_I} {J : sk_J} {T : sl_ct} {lg : List (Nat × Nat)}
theorem t_M_thrown {K : Int32 → sk_I → sk_J → Prop} (h : K (I 41 0) I J) : sk_S Γ m_M_thrown 0 0 [.ref 41] sk_gg I J (sk_Ki K) := by
  refine sk_spec (by decide) rfl (by exact Nat.le_of_ble_eq_true rfl) ?_
  exact s_M_thrown_0 ⟨_, rfl, rfl, h⟩
theorem t_M_clear {K : sk_I → sk_J → Prop} (h : ∀ I' : sk_I, sl_ms sl_t0 [] I' → (∀ q, q < 41 ∨ 60 < q → I' q = I q) → K I' J) : sk_S Γ m_M_clear 0 0 [.ref 41] sk_gg I J (sk_Kv K) := by
  refine sk_spec (by decide) rfl (by exact Nat.le_of_ble_eq_true rfl) ?_
  refine s_M_clear_0 ?_
  refine t_M_built (T := sl_t0) sl_wf_0 ⟨⟨?_, ?_, ?_⟩, ?_, ?_, ?_⟩ (fun I' b o h1 h2 h3 h0 hq => ?_)
  · rw [pi_j _ _ _ _ (by decide), pi_j _ _ _ _ (by decide), pi_eq]; rfl
  · rw [pi_j _ _ _ _ (by decide), pi_eq]; rfl
  · rw [pi_eq]; rfl
  · intro l hl; exact absurd hl (Nat.not_lt_zero _)
  · intro l hl; exact absurd hl (Nat.not_lt_zero _)
  · exact sl_pre_nil _
  · refine s_M_clear_24 ⟨rfl, rfl, h I' (sl_ms_new b o h1 h2 h3) (fun q hq' => ?_)⟩
    rw [hq q (by omega), pi_q _ _ _ _ (by omega), pi_q _ _ _ _ (by omega), pi_q _ _ _ _ (by omega), pi_q _ _ _ _ (by omega)]
theorem t_M_source {x : Int32} {b : Bool} {K : Int32 → sk_I → sk_J → Prop} (hw : sl_wf T) (hm : sl_ms T lg I) (hx : x = if b = true then 1 else 0)
    (h1 : cS T = 6 ∨ cN T = 26 → K 0 (sk_pi I 41 0 1) J)
    (h0 : ¬ (cS T = 6 ∨ cN T = 26) → ∀ I' : sk_I, sl_ms (sl_add T (.inl b)) [] I' → I' 41 0 = 0 → (∀ q, q < 41 ∨ 60 < q → I' q = I q) → K (nI (cN T)) I' J) : sk_S Γ m_M_source 0 0 [.ref 41, .int x] sk_gg I J (sk_Ki K) := by
  refine sk_spec (by decide) rfl (by exact Nat.le_of_ble_eq_true rfl) ?_
  obtain ⟨hb, -, -, -, -⟩ := hm
  have hN := hw.1
  have hS := hw.2.1
  have hN31 : cN T < 2 ^ 31 := sl_N31 hw
  have hS31 : cS T < 2 ^ 31 := sl_lt31 (m := 6) hS (by decide)
  have e1 := hb.1.1
  have e6 := hb.1.2.1
  have bad : cS T = 6 ∨ cN T = 26 → sk_W Γ m_M_source 0 0 24 [(0, .ref 41), (1, .int x)] [.int 1, .ref 41] sk_gg I J 0 0 (sk_Ki K) := by
    intro hc
    exact s_M_source_24 ⟨fun hn => absurd hn (by decide), fun _ => ⟨_, rfl, rfl, h1 hc⟩⟩
  refine s_M_source_0 ?_
  rw [e1, e6, show (6 : Int32) = nI 6 by decide +kernel, show (26 : Int32) = nI 26 by decide +kernel, zI_inj hS31 (by decide), zI_inj hN31 (by decide)]
  refine ⟨fun hc => bad (Or.inl hc), fun hs => ⟨fun hn => ?_, fun hc => bad (Or.inr hc)⟩⟩
  have hc : ¬ (cS T = 6 ∨ cN T = 26) := by omega
  refine s_M_source_24 ?_
  rw [e1, e6, zI_cl hN31, zI_cl hS31, show nI (cS T) + 1 = nI (cS T + 1) from (nI_succ _).symm, show nI (cN T) + 1 = nI (cN T + 1) from (nI_succ _).symm]
  have v1 : vp_in (nI (cN T)) 26 := vp_nat (by omega) (by decide)
  have v6 : vp_in (nI (cS T)) 6 := vp_nat (by omega) (by decide)
  have hw' : sl_wf (sl_add T (.inl b)) := sl_wf_add hw (by omega) (by show cS T + 1 ≤ 6; omega) (fun k ps hk => by cases hk)
  refine ⟨fun _ => ⟨v1, v1, v6, v6, ?_, v6, ?_⟩, fun hn => absurd (by decide) hn⟩
  · rw [hx]; cases b <;> simp
  · refine t_M_built (T := sl_add T (.inl b)) hw' (sl_mb_source (I := I) hw hb ⟨?_, ?_, ?_⟩ ?_ ?_ ?_ ?_ ?_) (fun I' b' o' k1 k2 k3 k0 hq => ?_)
    · simp [sk_pi, sk_set, upd]
    · simp [sk_pi, sk_set, upd]
    · simp [sk_pi, sk_set, upd]
    · intro j; simp [sk_pi, sk_set, upd]
    · intro j; simp [sk_pi, sk_set, upd]
    · intro j; simp [sk_pi, sk_set, upd, hx]
    · intro j; simp [sk_pi, sk_set, upd]
    · rintro q (rfl | rfl | rfl) <;> simp [sk_pi, sk_set]
    · refine s_M_source_116 ⟨_, rfl, rfl, ?_⟩
      have e : I' 41 1 - 1 = nI (cN T) := by
        rw [b'.1.1]
        show nI (cN T + 1) - 1 = nI (cN T)
        rw [zI_1, zI_sub (by omega)]; rfl
      rw [e]
      refine h0 hc I' (sl_ms_new b' o' k1 k2 k3) ?_ (fun q hq' => ?_)
      · rw [k0]; simp [sk_pi, sk_set, upd]
      · rw [hq q (by omega)]
        have : q ≠ 41 ∧ q ≠ 42 ∧ q ≠ 45 ∧ q ≠ 46 ∧ q ≠ 47 ∧ q ≠ 48 := by omega
        simp [sk_pi, sk_set, this]
/-- no such line -/
abbrev sl_nl (T : sl_ct) (x : Int32) : Prop := x < 0 ∨ nI (cN T) ≤ x
theorem sl_nl_of {x : Int32} (hw : sl_wf T) (h : ¬ sl_nl T x) : ∃ n, n < cN T ∧ x = nI n := by
  have h0 : ¬ x < 0 := fun h1 => h (Or.inl h1)
  obtain ⟨n, hn, rfl⟩ := zI_of h0
  refine ⟨n, Nat.lt_of_not_le fun hle => h (Or.inr ((zI_le (sl_N31 hw) hn).mpr hle)), rfl⟩
theorem sl_nl_nI {n : Nat} (hw : sl_wf T) (hn : n < cN T) : ¬ sl_nl T (nI n) := by
  have hN := sl_N31 hw
  rintro (h | h)
  · exact zI_nn (by omega) h
  · rw [zI_le hN (by omega)] at h; omega
/-- what is wrong with a gate's kind and pins -/
abbrev sl_gA (k a b c : Int32) : Prop := k < 0 ∨ 5 < k ∨ a = -1 ∨ (b = -1 ∧ ¬ c = -1)
abbrev sl_gB (T : sl_ct) (a b c : Int32) : Prop := sl_nl T a ∨ (¬ b = -1 ∧ sl_nl T b) ∨ (¬ c = -1 ∧ sl_nl T c)
theorem sl_oi_of {x : Int32} (hw : sl_wf T) (h : ¬ (¬ x = -1 ∧ sl_nl T x)) : ∃ o : Option Nat, x = sl_oi o ∧ ∀ y, o = some y → y < cN T := by
  by_cases hx : x = -1
  · exact ⟨none, hx, fun y hy => by cases hy⟩
  · obtain ⟨n, hn, e⟩ := sl_nl_of hw (fun h1 => h ⟨hx, h1⟩)
    exact ⟨some n, e, fun y hy => by cases hy; exact hn⟩
theorem sl_oi_m1 {o : Option Nat} (hw : sl_wf T) (ho : ∀ y, o = some y → y < cN T) : sl_oi o = -1 ↔ o = none := by
  cases o with
  | none => exact ⟨fun _ => rfl, fun _ => rfl⟩
  | some y =>
    have := ho y rfl
    have hN := sl_N31 hw
    exact ⟨fun h => absurd h (zI_m1 (by omega)), fun h => by cases h⟩
theorem t_M_gate {k a b c : Int32} {K : Int32 → sk_I → sk_J → Prop} (hw : sl_wf T) (hm : sl_ms T lg I)
    (h1 : sl_gA k a b c → K 0 (sk_pi I 41 0 1) J) (h2 : ¬ sl_gA k a b c → sl_gB T a b c → K 0 (sk_pi I 41 0 2) J) (h3 : ¬ sl_gA k a b c → ¬ sl_gB T a b c → cN T = 26 → K 0 (sk_pi I 41 0 3) J)
    (h0 : ¬ sl_gA k a b c → ¬ sl_gB T a b c → ∀ (kn an : Nat) (bo co : Option Nat), k = nI kn → a = nI an → b = sl_oi bo → c = sl_oi co → kn < 6 → an < cN T → (∀ y, bo = some y → y < cN T) → (∀ y, co = some y → y < cN T) → (bo = none → co = none) → cN T < 26 →
      ∀ I' : sk_I, sl_ms (sl_add T (.inr (kn, an :: (bo.toList ++ co.toList)))) [] I' → I' 41 0 = 0 → (∀ q, q < 41 ∨ 60 < q → I' q = I q) → K (nI (cN T)) I' J) : sk_S Γ m_M_gate 0 0 [.ref 41, .int k, .int a, .int b, .int c] sk_gg I J (sk_Ki K) := by
  refine sk_spec (by decide) rfl (by exact Nat.le_of_ble_eq_true rfl) ?_
  have hm' := hm
  obtain ⟨hb, -, -, -, -⟩ := hm
  have hN := hw.1
  have hN31 : cN T < 2 ^ 31 := sl_N31 hw
  have e1 := hb.1.1
  have bad : ∀ u : Int32, ¬ u ≤ 0 → K 0 (sk_pi I 41 0 u) J → sk_W Γ m_M_gate 0 0 108 [(0, .ref 41), (1, .int k), (2, .int a), (3, .int b), (4, .int c)] [.int u, .ref 41] sk_gg I J 0 0 (sk_Ki K) :=
    fun u hu hk => s_M_gate_108 ⟨fun hn => absurd hn hu, fun _ => ⟨_, rfl, rfl, hk⟩⟩
  have good : ¬ sl_gA k a b c → ¬ sl_gB T a b c → ¬ cN T = 26 → sk_W Γ m_M_gate 0 0 108 [(0, .ref 41), (1, .int k), (2, .int a), (3, .int b), (4, .int c)] [.int 0, .ref 41] sk_gg I J 0 0 (sk_Ki K) := by
    intro hA hB hC
    have k0 : ¬ k < 0 := fun h => hA (Or.inl h)
    obtain ⟨kn, hkn, rfl⟩ := zI_of k0
    have k6 : kn < 6 := by
      have : ¬ 5 < nI kn := fun h => hA (Or.inr (Or.inl h))
      rw [show (5 : Int32) = nI 5 by decide +kernel, zI_lt (by decide) hkn] at this
      omega
    obtain ⟨an, han, rfl⟩ := sl_nl_of hw (fun h => hB (Or.inl h))
    obtain ⟨bo, rfl, hbo⟩ := sl_oi_of hw (fun h => hB (Or.inr (Or.inl h)))
    obtain ⟨co, rfl, hco⟩ := sl_oi_of hw (fun h => hB (Or.inr (Or.inr h)))
    have hbc : bo = none → co = none := by
      intro hbn
      subst hbn
      have hcc : sl_oi co = -1 := Classical.byContradiction fun h => hA (Or.inr (Or.inr (Or.inr ⟨rfl, h⟩)))
      exact (sl_oi_m1 hw hco).mp hcc
    have hps : ∀ y ∈ an :: (bo.toList ++ co.toList), y < cN T := by
      intro y hy
      rcases List.mem_cons.mp hy with rfl | hy
      · exact han
      · rcases List.mem_append.mp hy with hy | hy
        · exact hbo y (by cases bo with | none => cases hy | some z => simp at hy; rw [hy])
        · exact hco y (by cases co with | none => cases hy | some z => simp at hy; rw [hy])
    have hlen : (an :: (bo.toList ++ co.toList)).length ≤ 3 := by cases bo <;> cases co <;> simp
    have hw' : sl_wf (sl_add T (.inr (kn, an :: (bo.toList ++ co.toList)))) := sl_wf_add hw (by omega) (by show cS T + 0 ≤ 6; exact hw.2.1) (fun k ps hk => by
      cases hk
      exact ⟨k6, by simp, hlen, hps⟩)
    have fin : ∀ (cnt : Int32), cnt = nI (1 + bo.toList.length + co.toList.length) → sk_S Γ m_M_built 0 0 [.ref 41] sk_gg (sk_pi (sk_pi (sk_pi (sk_pi (sk_pi (sk_pi (sk_pi (sk_pi I 41 0 0) 42 (cN T) (-1)) 43 (cN T) (nI kn)) 44 (3 * cN T) (nI an)) 44 (3 * cN T + 1) (sl_oi bo)) 44 (3 * cN T + 2) (sl_oi co)) 45 (cN T) cnt) 41 1 (nI (cN T + 1))) J (sk_Kv fun I' J' => sk_W Γ m_M_gate 0 0 224 [(0, .ref 41)] [] sk_gg I' J' 0 0 (sk_Ki K)) := by
      intro cnt hcnt
      refine t_M_built (T := sl_add T (.inr (kn, an :: (bo.toList ++ co.toList)))) hw' (sl_mb_gate (I := I) hw hb hbc ⟨?_, ?_, ?_⟩ ?_ ?_ ?_ ?_ ?_ ?_ ?_ ?_) (fun I' b' o' k1 k2 k3 k0 hq => ?_)
      · simp [sk_pi, sk_set, upd]
      · simp [sk_pi, sk_set, upd]
      · simp [sk_pi, sk_set, upd]
      · intro j; simp [sk_pi, sk_set, upd]
      · intro j; simp [sk_pi, sk_set, upd]
      · intro j hj
        have : j ≠ 3 * cN T ∧ j ≠ 3 * cN T + 1 ∧ j ≠ 3 * cN T + 2 := by omega
        simp [sk_pi, sk_set, upd, this]
      · simp [sk_pi, sk_set, upd]
      · simp [sk_pi, sk_set, upd]
      · simp [sk_pi, sk_set, upd]
      · intro j; simp [sk_pi, sk_set, upd, hcnt]
      · rintro q (rfl | rfl | rfl) <;> simp [sk_pi, sk_set]
      · refine s_M_gate_224 ⟨_, rfl, rfl, ?_⟩
        have e : I' 41 1 - 1 = nI (cN T) := by
          rw [b'.1.1]
          show nI (cN T + 1) - 1 = nI (cN T)
          rw [zI_1, zI_sub (by omega)]; rfl
        rw [e]
        refine h0 hA hB kn an bo co rfl rfl rfl rfl k6 han hbo hco hbc (by omega) I' (sl_ms_new b' o' k1 k2 k3) ?_ (fun q hq' => ?_)
        · rw [k0]; simp [sk_pi, sk_set, upd]
        · rw [hq q (by omega)]
          have : q ≠ 41 ∧ q ≠ 42 ∧ q ≠ 43 ∧ q ≠ 44 ∧ q ≠ 45 := by omega
          simp [sk_pi, sk_set, this]
    refine s_M_gate_108 ?_
    have e3 : 3 * nI (cN T) = nI (3 * cN T) := by rw [show (3 : Int32) = nI 3 by decide +kernel, zI_mul]
    have e31 : nI (3 * cN T) + 1 = nI (3 * cN T + 1) := (nI_succ _).symm
    have e32 : nI (3 * cN T) + 2 = nI (3 * cN T + 2) := by rw [zI_2, zI_add]
    rw [e1, e3, e31, e32, zI_cl hN31, zI_cl (sl_lt31 (m := 100) (by omega) (by decide)), zI_cl (sl_lt31 (m := 100) (by omega) (by decide)), zI_cl (sl_lt31 (m := 100) (by omega) (by decide)), show nI (cN T) + 1 = nI (cN T + 1) from (nI_succ _).symm, sl_oi_m1 hw hbo, sl_oi_m1 hw hco]
    have v1 : vp_in (nI (cN T)) 26 := vp_nat (by omega) (by decide)
    refine ⟨fun _ => ⟨v1, v1, vp_nat (by omega) (by decide), vp_nat (by omega) (by decide), vp_nat (by omega) (by decide), fun hb1 => ⟨fun hc1 => ⟨v1, fin _ ?_⟩, fun hc1 => ⟨v1, fin _ ?_⟩⟩, fun hb1 => ⟨v1, fin _ ?_⟩⟩, fun hn => absurd (by decide) hn⟩
    · cases bo with
      | none => exact absurd rfl hb1
      | some y => cases co with
        | none => exact absurd rfl hc1
        | some z => show (3 : Int32) = nI 3; decide +kernel
    · cases bo with
      | none => exact absurd rfl hb1
      | some y => rw [hc1]; show (2 : Int32) = nI 2; decide +kernel
    · rw [hb1, hbc hb1]; decide +kernel
  -- which code
  have s73 : ∀ x5 u0 : Int32, (x5 = 0 ↔ ¬ sl_gA k a b c) → (x5 = 0 → (u0 = 0 ↔ ¬ sl_gB T a b c)) → sk_W Γ m_M_gate 0 0 73 [(0, .ref 41), (1, .int k), (2, .int a), (3, .int b), (4, .int c), (5, .int x5)] [.int u0] sk_gg I J 0 0 (sk_Ki K) := by
    intro x5 u0 hA hB
    refine s_M_gate_73 ?_
    rw [e1, show (26 : Int32) = nI 26 by decide +kernel, zI_inj hN31 (by decide)]
    refine ⟨fun h5 => ⟨fun hu => ⟨fun hn => good (hA.mp h5) ((hB h5).mp hu) hn, fun hy => bad 3 (by decide) (h3 (hA.mp h5) ((hB h5).mp hu) hy)⟩, fun hu => bad 2 (by decide) (h2 (hA.mp h5) (Classical.byContradiction fun hh => hu ((hB h5).mpr hh)))⟩, fun h5 => bad 1 (by decide) (h1 (Classical.byContradiction fun hh => h5 (hA.mpr hh)))⟩
  have s37 : ∀ x5 : Int32, (x5 = 0 ↔ ¬ sl_gA k a b c) → sk_S Γ m_M_noLine 0 0 [.ref 41, .int a] sk_gg I J (sk_Ki fun v' I' J' => sk_W Γ m_M_gate 0 0 37 [(0, .ref 41), (1, .int k), (2, .int a), (3, .int b), (4, .int c), (5, .int x5)] [.int v'] sk_gg I' J' 0 0 (sk_Ki K)) := by
    intro x5 hA
    refine t_M_noLine hb ?_
    refine s_M_gate_37 ?_
    by_cases ha : sl_nl T a
    · rw [if_pos ha]
      exact ⟨fun _ => s73 x5 1 hA (fun _ => ⟨fun h => absurd h (by decide), fun h => absurd (Or.inl ha) h⟩), fun h => absurd h (by decide)⟩
    · rw [if_neg ha]
      refine ⟨fun h => absurd rfl h, fun _ => ⟨fun hb1 => ⟨fun hc1 => s73 x5 0 hA (fun _ => ⟨fun _ => ?_, fun _ => rfl⟩), fun hc1 => t_M_noLine hb (s_M_gate_65 ?_)⟩, fun hb1 => t_M_noLine hb (s_M_gate_50 ?_)⟩⟩
      · rintro (h | h | h)
        · exact ha h
        · exact h.1 hb1
        · exact h.1 hc1
      · by_cases hc : sl_nl T c
        · rw [if_pos hc]
          exact ⟨fun h => absurd h (by decide), fun _ => s73 x5 1 hA (fun _ => ⟨fun h => absurd h (by decide), fun h => absurd (Or.inr (Or.inr ⟨hc1, hc⟩)) h⟩)⟩
        · rw [if_neg hc]
          refine ⟨fun _ => s73 x5 0 hA (fun _ => ⟨fun _ => ?_, fun _ => rfl⟩), fun h => absurd rfl h⟩
          rintro (h | h | h)
          · exact ha h
          · exact h.1 hb1
          · exact hc h.2
      · by_cases hbb : sl_nl T b
        · rw [if_pos hbb]
          exact ⟨fun _ => s73 x5 1 hA (fun _ => ⟨fun h => absurd h (by decide), fun h => absurd (Or.inr (Or.inl ⟨hb1, hbb⟩)) h⟩), fun h => absurd h (by decide)⟩
        · rw [if_neg hbb]
          refine ⟨fun h => absurd rfl h, fun _ => ⟨fun hc1 => s73 x5 0 hA (fun _ => ⟨fun _ => ?_, fun _ => rfl⟩), fun hc1 => t_M_noLine hb (s_M_gate_65 ?_)⟩⟩
          · rintro (h | h | h)
            · exact ha h
            · exact hbb h.2
            · exact h.1 hc1
          · by_cases hc : sl_nl T c
            · rw [if_pos hc]
              exact ⟨fun h => absurd h (by decide), fun _ => s73 x5 1 hA (fun _ => ⟨fun h => absurd h (by decide), fun h => absurd (Or.inr (Or.inr ⟨hc1, hc⟩)) h⟩)⟩
            · rw [if_neg hc]
              refine ⟨fun _ => s73 x5 0 hA (fun _ => ⟨fun _ => ?_, fun _ => rfl⟩), fun h => absurd rfl h⟩
              rintro (h | h | h)
              · exact ha h
              · exact hbb h.2
              · exact hc h.2
  have w1 : sl_gA k a b c → sk_S Γ m_M_noLine 0 0 [.ref 41, .int a] sk_gg I J (sk_Ki fun v' I' J' => sk_W Γ m_M_gate 0 0 37 [(0, .ref 41), (1, .int k), (2, .int a), (3, .int b), (4, .int c), (5, .int 1)] [.int v'] sk_gg I' J' 0 0 (sk_Ki K)) := fun hA => s37 1 ⟨fun h => absurd h (by decide), fun h => absurd hA h⟩
  have w0 : ¬ sl_gA k a b c → sk_S Γ m_M_noLine 0 0 [.ref 41, .int a] sk_gg I J (sk_Ki fun v' I' J' => sk_W Γ m_M_gate 0 0 37 [(0, .ref 41), (1, .int k), (2, .int a), (3, .int b), (4, .int c), (5, .int 0)] [.int v'] sk_gg I' J' 0 0 (sk_Ki K)) := fun hA => s37 0 ⟨fun _ => hA, fun _ => rfl⟩
  refine s_M_gate_0 ⟨fun c1 => w1 (Or.inl c1), fun c1 => ⟨fun c2 => w1 (Or.inr (Or.inl c2)), fun c2 => ⟨fun c3 => w1 (Or.inr (Or.inr (Or.inl c3))), fun c3 => ⟨fun c4 => w0 ?_, fun c4 => ⟨fun c5 => w0 ?_, fun c5 => w1 (Or.inr (Or.inr (Or.inr ⟨c4, c5⟩)))⟩⟩⟩⟩⟩
  · rintro (h | h | h | h)
    · exact c1 h
    · exact c2 h
    · exact c3 h
    · exact c4 h.1
  · rintro (h | h | h | h)
    · exact c1 h
    · exact c2 h
    · exact c3 h
    · exact h.2 c5
end MQ
