/-! the model's own calls: output, data, and what is asked -/
theorem sl_ms_learn {T : sl_ct} {lg : List (Nat × Nat)} {I I' : sk_I} (h : sl_ms T lg I) (f : ∀ q, q ≠ 41 → q ≠ 53 → q ≠ 55 → q ≠ 56 → I' q = I q) (g : ∀ j, j ≠ 19 → I' 41 j = I 41 j) (t : sl_kt T I') : sl_ms T lg I' := by
  obtain ⟨a, b, c, d, e⟩ := h
  refine ⟨sl_mb_frame a (fun j hj => g j (by omega)) (fun q x y => f q (by omega) (by omega) (by omega) (by omega)), sl_mo_frame b (fun j hj => g j (by omega)) (fun q x y => f q (by omega) (by omega) (by omega) (by omega)), fun _ => t, ?_, ?_⟩
  · unfold sl_mp at d ⊢
    rw [g 22 (by decide), g 23 (by decide), f 57 (by decide) (by decide) (by decide) (by decide), f 58 (by decide) (by decide) (by decide) (by decide)]; exact d
  · unfold sl_ml at e ⊢
    rw [g 26 (by decide), f 59 (by decide) (by decide) (by decide) (by decide), f 60 (by decide) (by decide) (by decide) (by decide)]; exact e
/-- no such vector, no such fault -/
abbrev sl_nv (T : sl_ct) (x : Int32) : Prop := x < 0 ∨ nI (2 ^ cS T) ≤ x
abbrev sl_nf (T : sl_ct) (x : Int32) : Prop := x < 0 ∨ nI (cF T) ≤ x
theorem sl_nv_of {T : sl_ct} {x : Int32} (hw : sl_wf T) (h : ¬ sl_nv T x) : ∃ n, n < 2 ^ cS T ∧ x = nI n := by
  have h0 : ¬ x < 0 := fun h1 => h (Or.inl h1)
  obtain ⟨n, hn, rfl⟩ := zI_of h0
  exact ⟨n, Nat.lt_of_not_le fun hle => h (Or.inr ((zI_le (sl_lt31 (m := 64) (sl_S64 hw) (by decide)) hn).mpr hle)), rfl⟩
theorem sl_nf_of {T : sl_ct} {x : Int32} (hw : sl_wf T) (h : ¬ sl_nf T x) : ∃ n, n < cF T ∧ x = nI n := by
  have h0 : ¬ x < 0 := fun h1 => h (Or.inl h1)
  obtain ⟨n, hn, rfl⟩ := zI_of h0
  have hF : cF T ≤ 208 := sl_F_le hw
  exact ⟨n, Nat.lt_of_not_le fun hle => h (Or.inr ((zI_le (sl_lt31 (m := 208) hF (by decide)) hn).mpr hle)), rfl⟩
theorem sl_fi_of {T : sl_ct} {x : Int32} (hw : sl_wf T) (h : ¬ (¬ x = -1 ∧ sl_nf T x)) : ∃ p, p ≤ cF T ∧ x = sl_fi (sl_pf p) := by
  by_cases hx : x = -1
  · exact ⟨0, Nat.zero_le _, hx⟩
  · obtain ⟨n, hn, e⟩ := sl_nf_of hw (fun h1 => h ⟨hx, h1⟩)
    exact ⟨n + 1, hn, e⟩
abbrev sl_oA (T : sl_ct) (x : Int32) : Prop := (∃ y ∈ cO T, x = nI y) ∨ (cO T).length = 6
section MR
variable {Γ : sk_T} {I : sk_I} {J : sk_J} {T : sl_ct} {lg : List (Nat × Nat)}
theorem t_M_output {x : Int32} {K : Int32 → sk_I → sk_J → Prop} (hw : sl_wf T) (hm : sl_ms T lg I)
    (h1 : sl_nl T x → K 0 (sk_pi I 41 0 1) J) (h2 : ¬ sl_nl T x → sl_oA T x → K 0 (sk_pi I 41 0 2) J)
    (h0 : ¬ sl_nl T x → ¬ sl_oA T x → ∀ n, x = nI n → n < cN T → ∀ I' : sk_I, sl_ms (cN T, cD T, cO T ++ [n], cA T) [] I' → I' 41 0 = 0 → (∀ q, q < 41 ∨ 60 < q → I' q = I q) → K (nI ((cO T).length + 1)) I' J) : sk_S Γ m_M_output 0 0 [.ref 41, .int x] sk_gg I J (sk_Ki K) := by
  refine sk_spec (by decide) rfl (by exact Nat.le_of_ble_eq_true rfl) ?_
  obtain ⟨hb, -, -, -, -⟩ := hm
  have hO6 := hw.2.2.1
  have hO31 := sl_O31 hw
  have e10 := hb.1.2.2
  have bad : ∀ u : Int32, ¬ u ≤ 0 → K 0 (sk_pi I 41 0 u) J → sk_W Γ m_M_output 0 0 69 [(0, .ref 41), (1, .int x)] [.int u, .ref 41] sk_gg I J 0 0 (sk_Ki K) :=
    fun u hu hk => s_M_output_69 ⟨fun hn => absurd hn hu, fun _ => ⟨_, rfl, rfl, hk⟩⟩
  have good : ¬ sl_nl T x → ¬ sl_oA T x → sk_W Γ m_M_output 0 0 69 [(0, .ref 41), (1, .int x)] [.int 0, .ref 41] sk_gg I J 0 0 (sk_Ki K) := by
    intro hl hA
    obtain ⟨n, hn, rfl⟩ := sl_nl_of hw hl
    have hO : (cO T).length < 6 := by
      have : ¬ (cO T).length = 6 := fun h => hA (Or.inr h)
      omega
    refine s_M_output_69 ?_
    rw [e10, zI_cl hO31, show nI (cO T).length + 1 = nI ((cO T).length + 1) from (nI_succ _).symm]
    refine ⟨fun _ => ⟨vp_nat hO (by decide), ?_⟩, fun h => absurd (by decide) h⟩
    refine t_M_built (T := (cN T, cD T, cO T ++ [n], cA T)) (sl_wf_out hw hn hO) (sl_mb_out (I := I) hb ⟨?_, ?_, ?_⟩ ?_ ?_) (fun I' b' o' k1 k2 k3 k0 hq => ?_)
    · simp [sk_pi, sk_set, upd]
    · simp [sk_pi, sk_set, upd]
    · simp [sk_pi, sk_set, upd]
    · intro j; simp [sk_pi, sk_set, upd]
    · intro q a b
      have : q ≠ 41 ∧ q ≠ 49 := by omega
      simp [sk_pi, sk_set, this]
    · refine s_M_output_105 ⟨_, rfl, rfl, ?_⟩
      have e : I' 41 10 = nI ((cO T).length + 1) := by
        rw [b'.1.2.2]
        show nI (cO T ++ [n]).length = _
        rw [List.length_append]; rfl
      rw [e]
      refine h0 hl hA n rfl hn I' (sl_ms_new b' o' k1 k2 k3) ?_ (fun q hq' => ?_)
      · rw [k0]; simp [sk_pi, sk_set, upd]
      · rw [hq q (by omega)]
        have : q ≠ 41 ∧ q ≠ 49 := by omega
        simp [sk_pi, sk_set, this]
  have s44 : ∀ c : Int32, (c = 0 ↔ ¬ ∃ y ∈ cO T, x = nI y) → sk_S Γ m_M_noLine 0 0 [.ref 41, .int x] sk_gg I J (sk_Ki fun v' I' J' => sk_W Γ m_M_output 0 0 44 [(0, .ref 41), (1, .int x), (2, .int c)] [.int v', .ref 41] sk_gg I' J' 0 0 (sk_Ki K)) := by
    intro c hc
    refine t_M_noLine hb ?_
    refine s_M_output_44 ?_
    rw [e10, show (6 : Int32) = nI 6 by decide +kernel, zI_inj hO31 (by decide)]
    by_cases hl : sl_nl T x
    · rw [if_pos hl]
      exact ⟨fun h => absurd h (by decide), fun _ => bad 1 (by decide) (h1 hl)⟩
    · rw [if_neg hl]
      refine ⟨fun _ => ⟨fun hn => bad 2 (by decide) (h2 hl (Or.inl (Classical.byContradiction fun hh => hn (hc.mpr hh)))), fun hz => ⟨fun hn => good hl ?_, fun hy => bad 2 (by decide) (h2 hl (Or.inr hy))⟩⟩, fun h => absurd rfl h⟩
      rintro (h | h)
      · exact hc.mp hz h
      · exact hn h
  refine s_M_output_0 ?_
  have loop : ∀ d i (c : Int32), i + d = (cO T).length → (c = 0 ↔ ¬ ∃ y ∈ (cO T).take i, x = nI y) → sk_W Γ m_M_output 0 0 4 [(0, .ref 41), (1, .int x), (2, .int c), (3, .int (nI i))] [] sk_gg I J 0 0 (sk_Ki K) := by
    intro d
    induction d with
    | zero =>
      intro i c hi hc
      have hi : i = (cO T).length := by omega
      subst hi
      rw [List.take_length] at hc
      refine s_M_output_4 ⟨fun _ => s44 c hc, fun hcc => absurd ?_ hcc⟩
      rw [e10]; exact (zI_le hO31 hO31).mpr (Nat.le_refl _)
    | succ d ih =>
      intro i c hi hc
      have hiO : i < (cO T).length := by omega
      have hi31 : i < 2 ^ 31 := by omega
      have etk : ∀ P : Nat → Prop, (∃ y ∈ (cO T).take (i + 1), P y) ↔ (∃ y ∈ (cO T).take i, P y) ∨ P (cO T)[i] := by
        intro P
        rw [List.take_succ, List.getElem?_eq_getElem hiO]
        constructor
        · rintro ⟨y, hy, hP⟩
          rcases List.mem_append.mp hy with hy | hy
          · exact Or.inl ⟨y, hy, hP⟩
          · simp at hy; subst hy; exact Or.inr hP
        · rintro (⟨y, hy, hP⟩ | hP)
          · exact ⟨y, List.mem_append.mpr (Or.inl hy), hP⟩
          · exact ⟨_, List.mem_append.mpr (Or.inr (by simp)), hP⟩
      refine s_M_output_4 ?_
      rw [e10, zI_cl hi31, sl_pre_lt hb.2.2.2 hiO, show nI i + 1 = nI (i + 1) from (nI_succ i).symm]
      refine ⟨fun hcc => ?_, fun _ => ⟨fun hn => ih (i + 1) 1 (by omega) ?_, fun hz => ⟨vp_nat (by omega) (by decide), fun hne => ih (i + 1) 0 (by omega) ?_, fun he => ih (i + 1) 1 (by omega) ?_⟩⟩⟩
      · rw [zI_le hO31 hi31] at hcc; omega
      · rw [etk]
        have : ∃ y ∈ (cO T).take i, x = nI y := Classical.byContradiction fun hh => hn (hc.mpr hh)
        exact ⟨fun h => absurd h (by decide), fun h => absurd (Or.inl this) h⟩
      · rw [etk]
        refine ⟨fun _ => ?_, fun _ => rfl⟩
        rintro (h | h)
        · exact hc.mp hz h
        · exact hne h.symm
      · rw [etk]
        exact ⟨fun h => absurd h (by decide), fun h => absurd (Or.inr he.symm) h⟩
  exact loop (cO T).length 0 0 (by omega) ⟨fun _ => by simp, fun _ => rfl⟩
theorem t_M_data {x y : Int32} {K : sk_I → sk_J → Prop} (hw : sl_wf T) (hm : sl_ms T lg I)
    (h1 : sl_nl T x ∨ sl_nl T y → K (sk_pi I 41 0 1) J)
    (h2 : ¬ (sl_nl T x ∨ sl_nl T y) → ∀ fl n, x = nI fl → y = nI n → fl < cN T → n < cN T → ¬ cD T fl = .inl true → ∀ I' : sk_I, sl_ms T lg I' → I' 41 0 = 2 → (∀ q, q < 41 ∨ 60 < q → I' q = I q) → K I' J)
    (h0 : ¬ (sl_nl T x ∨ sl_nl T y) → ∀ fl n, x = nI fl → y = nI n → fl < cN T → n < cN T → cD T fl = .inl true → ∀ I' : sk_I, sl_ms (sl_dat T fl n) [] I' → I' 41 0 = 0 → (∀ q, q < 41 ∨ 60 < q → I' q = I q) → K I' J) : sk_S Γ m_M_data 0 0 [.ref 41, .int x, .int y] sk_gg I J (sk_Kv K) := by
  refine sk_spec (by decide) rfl (by exact Nat.le_of_ble_eq_true rfl) ?_
  have hb := hm.1
  have hN := hw.1
  have bad1 : sl_nl T x ∨ sl_nl T y → sk_W Γ m_M_data 0 0 22 [(0, .ref 41), (1, .int x), (2, .int y)] [.int 1, .ref 41] sk_gg I J 0 0 (sk_Kv K) :=
    fun hc => s_M_data_22 ⟨fun hn => absurd hn (by decide), fun _ => ⟨rfl, rfl, h1 hc⟩⟩
  refine s_M_data_0 ?_
  refine t_M_noLine hb ?_
  refine s_M_data_6 ?_
  by_cases hx : sl_nl T x
  · rw [if_pos hx]
    exact ⟨fun _ => bad1 (Or.inl hx), fun h => absurd h (by decide)⟩
  · rw [if_neg hx]
    refine ⟨fun h => absurd rfl h, fun _ => t_M_noLine hb (s_M_data_14 ?_)⟩
    by_cases hy : sl_nl T y
    · rw [if_pos hy]
      exact ⟨fun h => absurd h (by decide), fun _ => bad1 (Or.inr hy)⟩
    · rw [if_neg hy]
      refine ⟨fun _ => ?_, fun h => absurd rfl h⟩
      obtain ⟨fl, hfl, rfl⟩ := sl_nl_of hw hx
      obtain ⟨n, hn, rfl⟩ := sl_nl_of hw hy
      have hf31 : fl < 2 ^ 31 := sl_lt31 (m := 26) (by omega) (by decide)
      have bad2 : ∀ z : Int32, ¬ cD T fl = .inl true → sk_W Γ m_M_data 0 0 62 [(0, .ref 41), (2, .int (nI n)), (3, .int z)] [.ref 41] sk_gg (sk_pi I 41 0 0) J 0 0 (sk_Kv K) := by
        intro z hd
        refine s_M_data_62 ⟨rfl, rfl, h2 (fun h => h.elim hx hy) fl n rfl rfl hfl hn hd _ (sl_ms_code (sl_ms_code hm 0) 2) (pi_eq _ _ _ _) (fun q hq => ?_)⟩
        rw [pi_q _ _ _ _ (by omega), pi_q _ _ _ _ (by omega)]
      refine s_M_data_22 ⟨fun _ => ⟨vp_nat (by omega) (by decide), ?_⟩, fun h => absurd (by decide) h⟩
      rw [zI_cl hf31]
      cases hd : cD T fl with
      | inr kp =>
        obtain ⟨k, ps⟩ := kp
        rw [(hb.2.2.1 fl hfl k ps hd).1]
        exact ⟨fun _ => bad2 _ (by rw [hd]; intro h; cases h), fun h => absurd (by decide) h⟩
      | inl b =>
        obtain ⟨d1, d2, d3, d4⟩ := hb.2.1 fl hfl b hd
        have hns : sl_ns (cD T) fl < 6 := by
          have e2 : sl_ns (cD T) fl < cS T := sl_ns_lt hfl hd
          have e4 := hw.2.1
          omega
        have hns31 : sl_ns (cD T) fl < 2 ^ 31 := sl_lt31 (m := 6) (by omega) (by decide)
        have s58 : sk_W Γ m_M_data 0 0 58 [(0, .ref 41), (2, .int (nI n)), (3, .int (nI (sl_ns (cD T) fl)))] [.int (nI (sl_ns (cD T) fl)), .ref 47, .ref 41] sk_gg (sk_pi I 41 0 0) J 0 0 (sk_Kv K) := by
          refine s_M_data_58 ?_
          rw [zI_cl hns31, pi_q _ _ _ _ (by decide), d3]
          have hv6 : vp_in (nI (sl_ns (cD T) fl)) 6 := vp_nat hns (by decide)
          refine ⟨hv6, fun hb1 => ⟨hv6, ?_⟩, fun hb0 => bad2 _ ?_⟩
          · have hbt : b = true := by cases b with | true => rfl | false => exact absurd rfl hb1
            subst hbt
            refine t_M_built (T := sl_dat T fl n) (sl_wf_dat hw hn hfl hd) (sl_mb_dat (I := I) hb hd ?_ ?_ ?_) (fun I' b' o' k1 k2 k3 k0 hq => ?_)
            · rintro j (rfl | rfl | rfl) <;> simp [sk_pi, sk_set, upd]
            · intro j; simp [sk_pi, sk_set, upd]
            · intro q a b c
              have : q ≠ 41 := by omega
              simp [sk_pi, sk_set, this, c]
            · refine s_M_data_89 ⟨rfl, rfl, h0 (fun h => h.elim hx hy) fl n rfl rfl hfl hn hd I' (sl_ms_new b' o' k1 k2 k3) ?_ (fun q hq' => ?_)⟩
              · rw [k0]; simp [sk_pi, sk_set, upd]
              · rw [hq q (by omega)]
                have : q ≠ 41 ∧ q ≠ 48 := by omega
                simp [sk_pi, sk_set, this]
          · rw [hd]
            cases b with
            | true => exact absurd hb0 (by decide)
            | false => intro h; cases h
        rw [d1]
        refine ⟨fun h => absurd h (zI_nn hns31), fun _ => ⟨fun hle => ?_, fun _ => s58⟩⟩
        rw [show (0 : Int32) = nI 0 by decide +kernel, zI_le hns31 (by decide)] at hle
        have h00 : sl_ns (cD T) fl = 0 := by omega
        rw [h00] at s58 ⊢
        exact s58
def sl_c6 (T : sl_ct) (x : Int32) : Int32 := if x = 0 then nI (cN T) else if x = 1 then nI (cS T) else if x = 2 then nI (sl_ob T).length else if x = 3 then nI (cF T) else if x = 4 then nI (sl_cnt (fun f => (sl_ls T f).isSome) (cF T)) else nI (sl_cnt (fun f => decide (sl_fa T f = f)) (cF T))
theorem t_M_count {x : Int32} {K : Int32 → sk_I → sk_J → Prop} (hw : sl_wf T) (hm : sl_ms T lg I)
    (h1 : x < 0 ∨ 5 < x → K 0 (sk_pi I 41 0 1) J) (h0 : ¬ (x < 0 ∨ 5 < x) → ∀ I' : sk_I, sl_ms T lg I' → I' 41 0 = 0 → (∀ q, q < 41 ∨ 60 < q → I' q = I q) → K (sl_c6 T x) I' J) : sk_S Γ m_M_count 0 0 [.ref 41, .int x] sk_gg I J (sk_Ki K) := by
  refine sk_spec (by decide) rfl (by exact Nat.le_of_ble_eq_true rfl) ?_
  have hF : cF T ≤ 208 := sl_F_le hw
  have hF31 : cF T < 2 ^ 31 := sl_lt31 (m := 208) (by omega) (by decide)
  have bad : x < 0 ∨ 5 < x → sk_W Γ m_M_count 0 0 15 [(0, .ref 41), (1, .int x)] [.int 1, .ref 41] sk_gg I J 0 0 (sk_Ki K) :=
    fun hc => s_M_count_15 ⟨fun hn => absurd hn (by decide), fun _ => ⟨_, rfl, rfl, h1 hc⟩⟩
  refine s_M_count_0 ⟨fun hc => bad (Or.inl hc), fun c0 => ⟨fun c5 => ?_, fun c5 => bad (Or.inr (Int32.not_le.mp c5))⟩⟩
  have hc : ¬ (x < 0 ∨ 5 < x) := by
    rintro (h | h)
    · exact c0 h
    · exact Int32.not_lt.mpr c5 h
  have hm0 := sl_ms_code hm 0
  have hq0 : ∀ q, q < 41 ∨ 60 < q → sk_pi I 41 0 0 q = I q := fun q hq => pi_q _ _ _ _ (by omega)
  have r0 := h0 hc _ hm0 (pi_eq _ _ _ _) hq0
  refine s_M_count_15 ⟨fun _ => ⟨fun x4 => ?_, fun x4 => ⟨fun x0 => ⟨fun x1 => ⟨fun x2 => ⟨_, rfl, rfl, ?_⟩, fun x2 => ⟨_, rfl, rfl, ?_⟩⟩, fun x1 => ⟨_, rfl, rfl, ?_⟩⟩, fun x0 => ⟨_, rfl, rfl, ?_⟩⟩⟩, fun hn => absurd (by decide) hn⟩
  · refine t_M_learn hw hm0.1 hm0.2.1 hm0.2.2.1 (fun I' f g k t => ?_)
    have hm' := sl_ms_learn hm0 f g t
    have e0 : I' 41 0 = 0 := by rw [g 0 (by decide), pi_eq]
    have eq' : ∀ q, q < 41 ∨ 60 < q → I' q = I q := fun q hq => by rw [f q (by omega) (by omega) (by omega) (by omega), hq0 q hq]
    have r := h0 hc I' hm' e0 eq'
    refine s_M_count_78 ?_
    by_cases h4 : x = 4
    · subst h4
      have loop : ∀ d g, g + d = cF T → sk_W Γ m_M_count 0 0 82 [(0, .ref 41), (1, .int 4), (2, .int (nI (sl_cnt (fun f => (sl_ls T f).isSome) g))), (3, .int (nI g))] [] sk_gg I' J 0 0 (sk_Ki K) := by
        intro d
        induction d with
        | zero =>
          intro g hg
          have hg : g = cF T := by omega
          subst hg
          refine s_M_count_82 ?_
          rw [sl_mF hm'.2.1]
          exact ⟨fun _ => ⟨_, rfl, rfl, r⟩, fun hcc => absurd ((zI_le hF31 hF31).mpr (Nat.le_refl _)) hcc⟩
        | succ d ih =>
          intro g hg
          have hg31 : g < 2 ^ 31 := by omega
          have hnx := ih (g + 1) (by omega)
          simp only [sl_cnt] at hnx
          refine s_M_count_82 ?_
          rw [sl_mF hm'.2.1]
          refine ⟨fun hcc => ?_, fun _ => ⟨fun h => absurd rfl h, fun _ => ?_⟩⟩
          · rw [zI_le hF31 hg31] at hcc; omega
          · refine t_M_leastOf hw hm'.1 t (by omega) ?_
            refine s_M_count_102 ?_
            cases hl : sl_ls T g with
            | none =>
              rw [if_neg (by rw [hl]; simp)] at hnx
              refine ⟨fun _ => s_M_count_127 ?_, fun hn => absurd (by decide : (-1 : Int32) < 0) hn⟩
              rw [show nI g + 1 = nI (g + 1) from (nI_succ g).symm]
              exact ⟨fun _ => hnx, fun hn => absurd rfl hn⟩
            | some v =>
              have hv := (sl_ls_lt hl).1
              have hS := sl_S64 hw
              rw [if_pos (by rw [hl]; rfl)] at hnx
              refine ⟨fun hn => absurd hn (zI_nn (a := v) (sl_lt31 (m := 64) (by omega) (by decide))), fun _ => s_M_count_127 ?_⟩
              rw [show nI g + 1 = nI (g + 1) from (nI_succ g).symm]
              refine ⟨fun hn => absurd hn (by decide), fun _ => ?_⟩
              rw [zI_1, zI_add]; exact hnx
      exact loop (cF T) 0 (by omega)
    · have e6 : sl_c6 T x = nI (sl_cnt (fun f => decide (sl_fa T f = f)) (cF T)) := by
        have h4' : (4 : Int32) ≤ x := x4
        have hx0 : ¬ x = 0 := fun e => by subst e; exact absurd x4 (by decide)
        have hx1 : ¬ x = 1 := fun e => by subst e; exact absurd x4 (by decide)
        have hx2 : ¬ x = 2 := fun e => by subst e; exact absurd x4 (by decide)
        have hx3 : ¬ x = 3 := fun e => by subst e; exact absurd x4 (by decide)
        unfold sl_c6
        rw [if_neg hx0, if_neg hx1, if_neg hx2, if_neg hx3, if_neg h4]
      rw [e6] at r
      have loop : ∀ d g, g + d = cF T → sk_W Γ m_M_count 0 0 82 [(0, .ref 41), (1, .int x), (2, .int (nI (sl_cnt (fun f => decide (sl_fa T f = f)) g))), (3, .int (nI g))] [] sk_gg I' J 0 0 (sk_Ki K) := by
        intro d
        induction d with
        | zero =>
          intro g hg
          have hg : g = cF T := by omega
          subst hg
          refine s_M_count_82 ?_
          rw [sl_mF hm'.2.1]
          exact ⟨fun _ => ⟨_, rfl, rfl, r⟩, fun hcc => absurd ((zI_le hF31 hF31).mpr (Nat.le_refl _)) hcc⟩
        | succ d ih =>
          intro g hg
          have hg31 : g < 2 ^ 31 := by omega
          have hnx := ih (g + 1) (by omega)
          simp only [sl_cnt, decide_eq_true_eq] at hnx
          have hfa : sl_fa T g ≤ g := by
            unfold sl_fa
            cases hx : sl_find (fun g' => sl_al T g' g) 0 g with
            | none => exact Nat.le_refl _
            | some r => have := (sl_find_lt hx).2.1; show r ≤ g; omega
          refine s_M_count_82 ?_
          rw [sl_mF hm'.2.1]
          refine ⟨fun hcc => ?_, fun _ => ⟨fun _ => ?_, fun h => absurd h h4⟩⟩
          · rw [zI_le hF31 hg31] at hcc; omega
          · refine t_M_firstAlike hw hm'.1 t (by omega) ?_
            refine s_M_count_118 ?_
            rw [zI_inj (by omega) hg31]
            refine ⟨fun hn => s_M_count_127 ?_, fun hy => s_M_count_127 ?_⟩
            · rw [if_neg hn] at hnx
              rw [show nI g + 1 = nI (g + 1) from (nI_succ g).symm]
              exact ⟨fun _ => hnx, fun hn => absurd rfl hn⟩
            · rw [if_pos hy] at hnx
              rw [show nI g + 1 = nI (g + 1) from (nI_succ g).symm]
              refine ⟨fun hn => absurd hn (by decide), fun _ => ?_⟩
              rw [zI_1, zI_add]; exact hnx
      exact loop (cF T) 0 (by omega)
  · have hx3 : x = 3 := by
      have a := Int32.not_le.mp x4
      have b := Int32.not_lt.mp c0
      rw [Int32.lt_iff_toInt_lt] at a
      rw [Int32.le_iff_toInt_le] at b
      have n0 : ¬ x.toInt = 0 := fun e => x0 (Int32.toInt_inj.mp (by rw [e]; rfl))
      have n1 : ¬ x.toInt = 1 := fun e => x1 (Int32.toInt_inj.mp (by rw [e]; rfl))
      have n2 : ¬ x.toInt = 2 := fun e => x2 (Int32.toInt_inj.mp (by rw [e]; rfl))
      have e4 : (4 : Int32).toInt = 4 := by decide +kernel
      have e0 : (0 : Int32).toInt = 0 := by decide +kernel
      refine Int32.toInt_inj.mp ?_
      have e3 : (3 : Int32).toInt = 3 := by decide +kernel
      omega
    rw [sl_mF hm.2.1]
    subst hx3
    exact r0
  · subst x2
    rw [hm.2.1.1]; exact r0
  · subst x1
    rw [hm.1.1.2.1]; exact r0
  · subst x0
    rw [hm.1.1.1]; exact r0
end MR
